section AP
variable {n k : Nat}
def App (z z' : SS) (w t H m : Nat) (D : Nat → Int32) : Prop := z'.2 7 = bw (z.2 7) (w * 200 + t) m D ∧ z'.2 8 = upd (z.2 8) w (nI (t + m)) ∧ z'.2 9 = bw (z.2 9) H m (fun i => nI (w * 200 + t + i)) ∧ z'.1 24 = nI (H + m) ∧ (∀ x, x ≠ 24 → z'.1 x = z.1 x) ∧ (∀ x, x < 7 ∨ 9 < x → z'.2 x = z.2 x)
theorem App_0 {z : SS} {w t H : Nat} {D : Nat → Int32} (ht : z.2 8 w = nI t) (hH : z.1 24 = nI H) : App z z w t H 0 D :=
  ⟨bw_0.symm, (upd_id ht).symm, bw_0.symm, hH, fun x _ => rfl, fun x _ => rfl⟩
theorem App_s (hn : n ≤ 12) {z z' : SS} {w t H m : Nat} {D : Nat → Int32} (hA : App z z' w t H m D) (hw : w < n) (h25 : z.1 25 = nI w) (ht : t + m < 200) (hH : H + m < n * 200) {x : Int32} (hx : x = D m) : ∃ z'', sg_append n k z' x = some z'' ∧ App z z'' w t H (m + 1) D := by
  obtain ⟨h1, h2, h3, h4, h5, h6⟩ := hA
  subst hx
  have g25 : z'.1 25 = nI w := by rw [h5 25 (by omega), h25]
  have g8 : z'.2 8 w = nI (t + m) := by rw [h2, pk_us]
  have hr : sg_roomInWritten n k z' = some (nI (200 - (t + m))) := by
    unfold sg_roomInWritten
    simp (disch := omega) only [g25, m1_ne, if_false, ck_n, tn_n, if_true, g8]
    rw [show (200 : Int32) = nI 200 from rfl, pk_sub (by omega)]
  have he : sg_endOf n k z' (nI w) = some (nI (w * 200 + (t + m))) := by
    unfold sg_endOf
    simp (disch := omega) only [ck_n, tn_n, if_true, g8, nm_200, nI_add]
  have c1 : ¬ 200 - (t + m) = 0 := by omega
  have c2 : ¬ H + m = n * 200 := by omega
  unfold sg_append
  simp (disch := omega) only [hr, bo_some, n_eq_0, c1, if_false, h4, eq_n, c2, g25, he, ck_n, tn_n, if_true, g8, na_1]
  refine ⟨_, rfl, ?_, ?_, ?_, ?_, ?_, ?_⟩
  · simp (disch := omega) only [sa_o, sa_s, si_a]
    rw [h1, bw_s, Nat.add_assoc]
  · rw [sa_s, si_a]
    simp (disch := omega) only [sa_o]
    rw [h2, upd_upd, Nat.add_assoc]
  · simp (disch := omega) only [sa_o, sa_s, si_a]
    rw [h3, bw_s, Nat.add_assoc]
  · rw [sa_i, si_s, Nat.add_assoc]
  · intro x hx
    rw [sa_i, si_o hx, sa_i, sa_i, h5 x hx]
  · intro x hx
    rw [sa_o (by omega), si_a, sa_o (by omega), sa_o (by omega), h6 x hx]
def MApp (z z' : SS) (w t H m : Nat) (D : Nat → Int32) : Prop := z'.2 1 = bw (z.2 1) (w * 200 + t) m D ∧ z'.2 2 = upd (z.2 2) w (nI (t + m)) ∧ z'.2 4 = bw (z.2 4) H m (fun i => nI (w * 200 + t + i)) ∧ z'.1 8 = nI (H + m) ∧ z'.1 22 = z.1 22 + nI m ∧ (∀ x, x ≠ 8 → x ≠ 22 → z'.1 x = z.1 x) ∧ (∀ x, x ≠ 1 → x ≠ 2 → x ≠ 4 → z'.2 x = z.2 x)
theorem MApp_0 {z : SS} {w t H : Nat} {D : Nat → Int32} (ht : z.2 2 w = nI t) (hH : z.1 8 = nI H) : MApp z z w t H 0 D :=
  ⟨bw_0.symm, (upd_id ht).symm, bw_0.symm, hH, by rw [nI_0, Int32.add_zero], fun x _ _ => rfl, fun x _ _ _ => rfl⟩
theorem MApp_s (hn : n ≤ 12) {z z' : SS} {w t H m M0 : Nat} {D : Nat → Int32} {rc : SS → Int32 → Int32 → Int32 → Option SS} (hA : MApp z z' w t H m D) (hw : w < n) (h4 : z.1 4 = nI w) (ht : t + m < 200) (hm : m < 36) (hH : H + m < n * 200) (hx : z.2 12 m = D m) : ∃ z'', rm_writeRow_b57 k rc z' (nI M0) (nI (w * 200 + t)) (nI m) = rc z'' (nI M0) (nI (w * 200 + t)) (nI (m + 1)) ∧ MApp z z'' w t H (m + 1) D := by
  obtain ⟨h1, h2, h3, h4', h5, h6, h7⟩ := hA
  have g4 : z'.1 4 = nI w := by rw [h6 4 (by omega) (by omega), h4]
  have g2 : z'.2 2 w = nI (t + m) := by rw [h2, pk_us]
  have g12 : z'.2 12 m = D m := by rw [h7 12 (by omega) (by omega) (by omega), hx]
  unfold rm_writeRow_b57
  simp (disch := omega) only [g4, ck_n, tn_n, if_true, nI_add, h4', g2, g12, na_1]
  refine ⟨_, rfl, ?_, ?_, ?_, ?_, ?_, ?_, ?_⟩
  · simp (disch := omega) only [sa_o, sa_s, si_a]
    rw [h1, bw_s]
  · simp (disch := omega) only [sa_o, sa_s, si_a]
    rw [h2, upd_upd, Nat.add_assoc]
  · simp (disch := omega) only [sa_o, sa_s, si_a]
    rw [h3, bw_s]
  · rw [si_s, Nat.add_assoc]
  · simp (disch := omega) only [si_o, sa_i, si_s]
    rw [h5, Int32.add_assoc, ← nI_succ]
  · intro x h8 h22
    rw [si_o h8, sa_i, sa_i, sa_i, si_o h22, h6 x h8 h22]
  · intro x hx1 hx2 hx4
    rw [si_a, sa_o hx4, sa_o hx1, sa_o hx2, si_a, h7 x hx1 hx2 hx4]
def Bud (z : SS) (m h : Nat) : Prop := (z.1 23 < 0 ∧ h = m) ∨ ∃ M c, M < 2147483648 ∧ z.1 23 = nI M ∧ z.1 22 = nI c ∧ c ≤ M ∧ h = min m (M - c)
theorem m_write21 (hn : n ≤ 12) {z : SS} {w t H m h : Nat} {D : Nat → Int32} (hw : w < n) (h4 : z.1 4 = nI w) (ht : t + m ≤ 200) (hm : m ≤ 36) (hH : H + m ≤ n * 200) (hD : ∀ i, i < m → z.2 12 i = D i) (h24 : z.1 24 = 0) (hb : Bud z m h) : ∀ (d fu i : Nat) (z' : SS), i + d = m → d < fu → i ≤ h → MApp z z' w t H i D → ∃ z'', rm_writeRow_b21 k fu z' (nI m) (nI (w * 200 + t)) (nI i) = some z'' ∧ (∃ y, MApp z y w t H h D ∧ z'' = if h < m then si y 24 1 else y) := by
  have hhm : h ≤ m := by
    rcases hb with ⟨_, q⟩ | ⟨M, c, _, _, _, _, q⟩
    · omega
    · omega
  intro d
  induction d with
  | zero =>
    intro fu i z' hi hf hih hA
    cases fu with
    | zero => omega
    | succ fu =>
      have h1 : m ≤ i := by omega
      simp (disch := omega) only [rm_writeRow_b21, le_n, h1, if_true]
      have : i = h := by omega
      subst this
      exact ⟨z', rfl, z', hA, by rw [if_neg (by omega)]⟩
  | succ d ih =>
    intro fu i z' hi hf hih hA
    cases fu with
    | zero => omega
    | succ fu =>
      have h1 : ¬ m ≤ i := by omega
      simp (disch := omega) only [rm_writeRow_b21, le_n, h1, if_false]
      have g24 : z'.1 24 = 0 := by rw [hA.2.2.2.2.2.1 24 (by omega) (by omega), h24]
      have g23 : z'.1 23 = z.1 23 := hA.2.2.2.2.2.1 23 (by omega) (by omega)
      have g22 : z'.1 22 = z.1 22 + nI i := hA.2.2.2.2.1
      rw [if_pos g24, g23, g22]
      have go : i < h → ∃ z'', rm_writeRow_b57 k (rm_writeRow_b21 k fu) z' (nI m) (nI (w * 200 + t)) (nI i) = some z'' ∧ (∃ y, MApp z y w t H h D ∧ z'' = if h < m then si y 24 1 else y) := by
        intro hlt
        obtain ⟨z'', e1, e2⟩ := MApp_s (k := k) (rc := rm_writeRow_b21 k fu) (M0 := m) hn hA hw h4 (by omega) (by omega) (by omega) (hD i (by omega))
        rw [e1]
        exact ih fu (i + 1) z'' (by omega) (by omega) (by omega) e2
      rcases hb with ⟨q1, q2⟩ | ⟨M, c, q0, q1, q2, q3, q4⟩
      · rw [if_pos q1]
        exact go (by omega)
      · rw [q1, if_neg (nI_pos q0), q2, nI_add]
        by_cases hc : c + i = M
        · rw [if_pos (by rw [hc])]
          unfold rm_writeRow_b51
          have : i = h := by omega
          subst this
          exact ⟨_, rfl, z', hA, by rw [if_pos (by omega)]⟩
        · rw [if_neg (fun q => by
            rw [eq_n (by omega) q0] at q
            exact hc q)]
          exact go (by omega)
theorem m_writeRow (hn : n ≤ 12) (hk : 3000 ≤ k) {z : SS} {w t H m h : Nat} {D : Nat → Int32} (hw : w < n) (h4 : z.1 4 = nI w) (h2 : z.2 2 w = nI t) (h8 : z.1 8 = nI H) (ht : t + m ≤ 200) (hm : m ≤ 36) (hH : H + m ≤ n * 200) (hD : ∀ i, i < m → z.2 12 i = D i) (h24 : z.1 24 = 0) (hb : Bud z m h) : ∃ y, MApp z y w t H h D ∧ rm_writeRow k z (nI m) = some (if h < m then si y 24 1 else y) := by
  unfold rm_writeRow
  simp (disch := omega) only [h4, ck_n, tn_n, if_true, h2, mn_200, nI_add]
  obtain ⟨z'', e1, y, e2, e3⟩ := m_write21 (k := k) hn hw h4 ht hm hH hD h24 hb m k 0 z (by omega) (by omega) (by omega) (MApp_0 h2 h8)
  have e1 : rm_writeRow_b21 k k z (nI m) (nI (w * 200 + t)) 0 = some z'' := e1
  rw [Nat.mul_comm 200 w, e1, e3]
  exact ⟨y, e2, rfl⟩
theorem a_least (hn : n ≤ 12) : ∀ (d fu s : Nat) (zc zm : SS), zc.1 20 = nI n → zm.1 0 = nI n → zm.2 1 = zc.2 7 → s + d = n → d < fu → (sg_leastFree_b2 n k zc fu (nI s) = some (-1) ∧ rm_leastFree_b2 k zm fu (nI s) = some (-1) ∧ ∀ t, s ≤ t → t < n → zc.2 7 (t * 200) ≠ 0) ∨ ∃ w, s ≤ w ∧ w < n ∧ zc.2 7 (w * 200) = 0 ∧ (∀ t, s ≤ t → t < w → zc.2 7 (t * 200) ≠ 0) ∧ sg_leastFree_b2 n k zc fu (nI s) = some (nI w) ∧ rm_leastFree_b2 k zm fu (nI s) = some (nI w) := by
  intro d
  induction d with
  | zero =>
    intro fu s zc zm h20 h0 h1 hs hf
    cases fu with
    | zero => omega
    | succ fu =>
      have h1 : n ≤ s := by omega
      simp (disch := omega) only [sg_leastFree_b2, rm_leastFree_b2, h20, h0, le_n, h1, if_true]
      exact Or.inl ⟨trivial, trivial, fun t h2 h3 => by omega⟩
  | succ d ih =>
    intro fu s zc zm h20 h0 hB hs hf
    cases fu with
    | zero => omega
    | succ fu =>
      have h1 : ¬ n ≤ s := by omega
      simp (disch := omega) only [sg_leastFree_b2, rm_leastFree_b2, h20, h0, le_n, h1, if_false, p_isFree (z := zc) hn (show s < n by omega), m_isFree (z := zm) hn (show s < n by omega), bo_some, na_1, hB]
      by_cases h : zc.2 7 (s * 200) = 0
      · simp only [h, if_true]
        rw [ifz1, ifz1]
        exact Or.inr ⟨s, Nat.le_refl _, by omega, h, fun t h2 h3 => by omega, rfl, rfl⟩
      · simp only [h, if_false, if_true]
        rcases ih fu (s + 1) zc zm h20 h0 hB (by omega) (by omega) with ⟨g1, g2, g3⟩ | ⟨w, g0, g1, g2, g3, g4, g5⟩
        · refine Or.inl ⟨g1, g2, fun t h2 h3 => ?_⟩
          by_cases hts : t = s
          · subst hts; exact h
          · exact g3 t (by omega) h3
        · refine Or.inr ⟨w, by omega, g1, g2, fun t h2 h3 => ?_, g4, g5⟩
          by_cases hts : t = s
          · subst hts; exact h
          · exact g3 t (by omega) h3
theorem a_room (hn : n ≤ 12) (hk : 3000 ≤ k) {zc zm : SS} {T : Nat → Nat} (h20 : zc.1 20 = nI n) (h0 : zm.1 0 = nI n) (hB : zm.2 1 = zc.2 7) (h2 : zm.2 2 = zc.2 8) (h4 : zm.1 4 = zc.1 25) (hT : ∀ s, s < n → zc.2 8 s = nI (T s) ∧ T s ≤ 200) (hw0 : zc.1 25 = -1 ∨ ∃ w, w < n ∧ zc.1 25 = nI w) (hF : ∀ s, s < n → zc.2 7 (s * 200) = 0 → T s = 0) {m : Nat} (hm0 : 0 < m) (hm : m ≤ 200) :
    (sg_segmentFor n k zc (nI m) = some (-1) ∧ rm_makeRoom k zm (nI m) = some (0, zm)) ∨ ∃ w zm1, w < n ∧ T w + m ≤ 200 ∧ (zc.1 25 = nI w ∨ zc.2 7 (w * 200) = 0) ∧ sg_segmentFor n k zc (nI m) = some (nI w) ∧ rm_makeRoom k zm (nI m) = some (1, zm1) ∧ zm1.1 4 = nI w ∧ zm1.2 = zm.2 ∧ (∀ x, x ≠ 4 → zm1.1 x = zm.1 x) := by
  unfold sg_segmentFor sg_roomInWritten rm_makeRoom sg_leastFree
  have lf := a_least (k := k) hn n k 0 zc zm h20 h0 hB (by omega) (by omega)
  have rest : (sg_leastFree_b2 n k zc k 0 = some (-1) ∧ rm_makeRoom_b26 k zm = some (0, zm)) ∨ ∃ w zm1, w < n ∧ T w = 0 ∧ zc.2 7 (w * 200) = 0 ∧ sg_leastFree_b2 n k zc k 0 = some (nI w) ∧ rm_makeRoom_b26 k zm = some (1, zm1) ∧ zm1.1 4 = nI w ∧ zm1.2 = zm.2 ∧ (∀ x, x ≠ 4 → zm1.1 x = zm.1 x) := by
    unfold rm_makeRoom_b26 rm_leastFree
    rcases lf with ⟨g1, g2, g3⟩ | ⟨w, g0, g1, g2, g3, g4, g5⟩
    · have g1 : sg_leastFree_b2 n k zc k 0 = some (-1) := g1
      have g2 : rm_leastFree_b2 k zm k 0 = some (-1) := g2
      rw [g1, g2, bo_some, if_neg (by decide)]
      exact Or.inl ⟨rfl, rfl⟩
    · have g4 : sg_leastFree_b2 n k zc k 0 = some (nI w) := g4
      have g5 : rm_leastFree_b2 k zm k 0 = some (nI w) := g5
      rw [g4, g5, bo_some]
      simp (disch := omega) only [c_le_0, Nat.zero_le, if_true, ck_n, tn_n]
      have hT0 := hF w g1 g2
      refine Or.inr ⟨w, _, g1, hT0, g2, rfl, rfl, by rw [sa_i, si_s], ?_, fun x hx => by rw [sa_i, si_o hx]⟩
      funext x
      by_cases hx : x = 2
      · subst hx
        rw [sa_s, si_a]
        exact upd_id (by rw [h2, (hT w g1).1, hT0]; rfl)
      · rw [sa_o hx, si_a]
  rw [h4]
  rcases hw0 with hw | ⟨w, hw, hwe⟩
  · rw [hw, if_pos rfl, bo_some, if_pos (show (-1 : Int32) < 0 by decide), if_pos (by rw [c_lt_0 (by omega)]; exact hm0)]
    rcases rest with ⟨r1, r2⟩ | ⟨w, zm1, r1, r2, r3, r4, r5, r6, r7, r8⟩
    · rw [r1, r2, bo_some]
      exact Or.inl ⟨rfl, rfl⟩
    · rw [r4, r5, bo_some]
      exact Or.inr ⟨w, zm1, r1, by omega, Or.inr r3, rfl, rfl, r6, r7, r8⟩
  · obtain ⟨t1, t2⟩ := hT w hw
    simp (disch := omega) only [hwe, m1_ne, if_false, ck_n, tn_n, if_true, neg_n, h2, t1, nI_add, c_lt_200]
    rw [show (200 : Int32) = nI 200 from rfl, pk_sub t2, bo_some]
    simp (disch := omega) only [lt_n]
    by_cases hr : 200 - T w < m
    · rw [if_pos hr, if_pos (show 200 < T w + m by omega)]
      rcases rest with ⟨r1, r2⟩ | ⟨w', zm1, r1, r2, r3, r4, r5, r6, r7, r8⟩
      · rw [r1, r2, bo_some]
        exact Or.inl ⟨rfl, rfl⟩
      · rw [r4, r5, bo_some]
        exact Or.inr ⟨w', zm1, r1, by omega, Or.inr r3, rfl, rfl, r6, r7, r8⟩
    · rw [if_neg hr, if_neg (show ¬ 200 < T w + m by omega)]
      exact Or.inr ⟨w, zm, hw, by omega, Or.inl rfl, rfl, rfl, by rw [h4, hwe], rfl, fun x _ => rfl⟩
def updL (R : Nat → List Nat) (w : Nat) (l : List Nat) : Nat → List Nat := fun s => if s = w then l else R s
theorem Lf_same {B B' : Nat → Int32} {T : Nat → Nat} {R : Nat → List Nat} {s : Nat} (hW : Ws n B T R) (hs : s < n) (hx : ∀ x, s * 200 ≤ x → x < s * 200 + T s → B' x = B x) : Wk B' (s * 200 + 200) (s * 200) (R s) (s * 200 + T s) ∧ Lf B' R s = Lf B R s := by
  have := hW s hs
  exact ⟨Wk_congr (by omega) hx this, gl_congr (by omega) hx this⟩
theorem row_same {B B' : Nat → Int32} {e a : Nat} (h0 : gsz B a e ≠ 0) (hx : ∀ x, a ≤ x → x < a + gsz B a e → B' x = B x) : gkey B' a = gkey B a ∧ gnum B' a = gnum B a ∧ gln B' a = gln B a ∧ B' a = B a := by
  have g := gsz_le h0
  have := g_shift (B' := B') (a' := a) (e' := e) h0 (fun i hi => hx _ (by omega) (by omega)) (by omega)
  exact ⟨this.2.2.1, this.2.2.2.1, this.2.2.2.2.1, this.2.2.2.2.2.1⟩
theorem op_add (hn : n ≤ 12) {zc zc1 : SS} {T : Nat → Nat} {R : Nat → List Nat} {w t H m : Nat} {D : Nat → Int32} (hT : ∀ s, s < n → T s ≤ 200) (hBo : BOK (zc1.2 7) (n * 200)) (hW : Ws n (zc.2 7) T R) (hF : ∀ s, s < n → zc.2 7 (s * 200) = 0 → T s = 0) (hI : Ix n zc (Lf (zc.2 7) R)) (hw : w < n) (ht : T w = t) (htm : t + m ≤ 200) (hA : App zc zc1 w t H m D) (hg : gsz (zc1.2 7) (w * 200 + t) (w * 200 + 200) = m) (hgd : ggood (zc1.2 7) (w * 200 + t) (w * 200 + 200)) :
    ∃ zc2, ix_add_7 n k zc1 (nI w) (nI (w * 200 + t)) = some zc2 ∧ zc2.1 = zc1.1 ∧ (∀ x, x < 10 ∨ 15 < x → zc2.2 x = zc1.2 x) ∧ Ws n (zc1.2 7) (updN T w (t + m)) (updL R w (R w ++ [w * 200 + t])) ∧ (∀ s, s < n → zc1.2 7 (s * 200) = 0 → updN T w (t + m) s = 0) ∧ Ix n zc2 (Lf (zc1.2 7) (updL R w (R w ++ [w * 200 + t]))) ∧ (∀ s, s < n → s ≠ w → Lf (zc1.2 7) (updL R w (R w ++ [w * 200 + t])) s = Lf (zc.2 7) R s) ∧ (∀ last : Int32, NL n (zc.2 7) (Lf (zc.2 7) R) last → (gnum (zc1.2 7) (w * 200 + t)).toInt ≤ last.toInt → NL n (zc1.2 7) (Lf (zc1.2 7) (updL R w (R w ++ [w * 200 + t]))) last) := by
  obtain ⟨h1, h2, h3, h4, h5, h6⟩ := hA
  have hout : ∀ x, x < w * 200 + t ∨ w * 200 + t + m ≤ x → zc1.2 7 x = zc.2 7 x := fun x hx => by rw [h1]; exact bw_out hx
  have hsame : ∀ s, s < n → ∀ x, s * 200 ≤ x → x < s * 200 + T s → zc1.2 7 x = zc.2 7 x := fun s hs x hx1 hx2 => by
    have := hT s hs
    by_cases hsw : s = w
    · subst hsw; exact hout x (by omega)
    · exact hout x (by omega)
  have hm0 : gsz (zc1.2 7) (w * 200 + t) (w * 200 + 200) ≠ 0 := hgd.1
  have hsz := gsz_le hm0
  rw [hg] at hsz
  have hGL := GL_of hW hT
  have hgm : ∀ s, s < n → ∀ a, a ∈ Lf (zc.2 7) R s → gkey (zc1.2 7) a = gkey (zc.2 7) a ∧ gnum (zc1.2 7) a = gnum (zc.2 7) a ∧ gln (zc1.2 7) a = gln (zc.2 7) a ∧ zc1.2 7 a = zc.2 7 a := fun s hs a ha => by
    obtain ⟨q1, q2⟩ := gl_mem ha
    have q3 := Wk_mem (hW s hs) q1
    exact row_same q3.2.1 (fun x hx1 hx2 => hsame s hs x (by omega) (by omega))
  have hWw := (Lf_same (B' := zc1.2 7) hW hw (hsame w hw)).1
  have hRo : ∀ s, s ≠ w → updL R w (R w ++ [w * 200 + t]) s = R s := fun s hs => if_neg hs
  have hRw : updL R w (R w ++ [w * 200 + t]) w = R w ++ [w * 200 + t] := if_pos rfl
  have hLo : ∀ s, s < n → s ≠ w → Lf (zc1.2 7) (updL R w (R w ++ [w * 200 + t])) s = Lf (zc.2 7) R s := fun s hs hsw => by
    unfold Lf
    rw [hRo s hsw]
    exact (Lf_same hW hs (hsame s hs)).2
  have hLw : Lf (zc1.2 7) (updL R w (R w ++ [w * 200 + t])) w = Lf (zc.2 7) R w ++ [w * 200 + t] := by
    have q : Lf (zc1.2 7) R w = Lf (zc.2 7) R w := (Lf_same hW hw (hsame w hw)).2
    unfold Lf at q ⊢
    rw [hRw, gl_app hgd, q]
  have hlen : (Lf (zc.2 7) R w).length + 1 ≤ 12 := by
    have q1 := Wk_len (hW w hw)
    have q2 : (Lf (zc.2 7) R w).length ≤ (R w).length := gl_len
    omega
  obtain ⟨i1, i2, i3⟩ := hI w hw
  obtain ⟨zc2, e1, e2, e3, e4, e5, e6⟩ := p_add (k := k) (z := zc1) (s := w) (m := (Lf (zc.2 7) R w).length) (a := w * 200 + t) hn hw (by rw [h6 10 (by omega)]; exact i1) (by omega) hBo (by omega)
  refine ⟨zc2, e1, e2, e6, ?_, ?_, ?_, hLo, ?_⟩
  · intro s hs
    by_cases hsw : s = w
    · subst hsw
      rw [hRw, updN_s]
      rw [ht] at hWw
      have := Wk_app hWw hm0
      rw [hg, Nat.add_assoc] at this
      exact this
    · rw [hRo s hsw, updN_o hsw]
      exact (Lf_same hW hs (hsame s hs)).1
  · intro s hs h0
    by_cases hsw : s = w
    · subst hsw
      exfalso
      by_cases ht0 : t = 0
      · subst ht0
        rw [Nat.add_zero] at hsz
        rcases hsz.2.2.2.2.2.2 with q | q
        · rw [h0] at q; exact absurd q (by decide)
        · rw [h0] at q; exact absurd q (by decide)
      · rw [hout _ (by omega)] at h0
        have := hF s hs h0
        omega
    · rw [updN_o hsw]
      rw [hout _ (by omega)] at h0
      exact hF s hs h0
  · have hz7 : zc2.2 7 = zc1.2 7 := e6 7 (by omega)
    have old : ∀ s, s < n → ∀ i a, i < 12 → (Lf (zc.2 7) R s)[i]? = some a → s * 12 + i ≠ w * 12 + (Lf (zc.2 7) R w).length → Sl zc2 (s * 12 + i) a := fun s hs i a hi ha hne => by
      obtain ⟨q1, q2, q3, q4, q5⟩ := ((hI s hs).2.2 i hi).1 a ha
      obtain ⟨g1, g2, g3, g4⟩ := hgm s hs a (List.mem_of_getElem? ha)
      unfold Sl
      rw [hz7, e5 11 _ hne (by omega), e5 12 _ hne (by omega), e5 13 _ hne (by omega), e5 14 _ hne (by omega), e5 15 _ hne (by omega), h6 11 (by omega), h6 12 (by omega), h6 13 (by omega), h6 14 (by omega), h6 15 (by omega), g1, g2, g3]
      refine ⟨q1, q2, q3, q4, ?_⟩
      rw [q5]
      unfold gG
      rw [g4]
    intro s hs
    by_cases hsw : s = w
    · subst hsw
      rw [hLw, List.length_append, List.length_cons, List.length_nil]
      refine ⟨by rw [e3, pk_us], by omega, fun i hi => ⟨fun a ha => ?_, fun ha => ?_⟩⟩
      · by_cases hil : i < (Lf (zc.2 7) R s).length
        · rw [List.getElem?_append_left hil] at ha
          exact old s hs i a hi ha (by omega)
        · have hie : i = (Lf (zc.2 7) R s).length := by
            rcases Nat.lt_or_ge i ((Lf (zc.2 7) R s).length + 1) with q | q
            · omega
            · rw [List.getElem?_eq_none (by rw [List.length_append, List.length_cons, List.length_nil]; omega)] at ha
              cases ha
          subst hie
          rw [List.getElem?_append_right (Nat.le_refl _), Nat.sub_self] at ha
          have ha : s * 200 + t = a := by simpa using ha
          subst ha
          unfold Sl at e4 ⊢
          exact e4
      · have hil : (Lf (zc.2 7) R s).length + 1 ≤ i := by
          rcases Nat.lt_or_ge i ((Lf (zc.2 7) R s).length + 1) with q | q
          · rw [List.getElem?_eq_getElem (by rw [List.length_append, List.length_cons, List.length_nil]; omega)] at ha
            cases ha
          · exact q
        rw [e5 12 _ (by omega) (by omega), h6 12 (by omega)]
        exact ((hI s hs).2.2 i hi).2 (List.getElem?_eq_none (by omega))
    · rw [hLo s hs hsw]
      refine ⟨by rw [e3, pk_un hsw, h6 10 (by omega)]; exact (hI s hs).1, (hI s hs).2.1, fun i hi => ⟨fun a ha => old s hs i a hi ha (by omega), fun ha => ?_⟩⟩
      rw [e5 12 _ (by omega) (by omega), h6 12 (by omega)]
      exact ((hI s hs).2.2 i hi).2 ha
  · intro last hN hl s hs a ha
    by_cases hsw : s = w
    · subst hsw
      rw [hLw] at ha
      rcases List.mem_append.mp ha with q | q
      · rw [(hgm s hs a q).2.1]
        exact hN s hs a q
      · have : a = s * 200 + t := by simpa using q
        subst this
        exact hl
    · rw [hLo s hs hsw] at ha
      rw [(hgm s hs a ha).2.1]
      exact hN s hs a ha
end AP
