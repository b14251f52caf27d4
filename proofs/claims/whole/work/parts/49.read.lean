theorem upd_id {f : Nat → Int32} {s : Nat} {v : Int32} (h : f s = v) : upd f s v = f := by
  funext j
  unfold upd
  by_cases hj : j = s
  · subst hj; rw [if_pos rfl, h]
  · rw [if_neg hj]
theorem upd_upd {f : Nat → Int32} {s : Nat} {v w : Int32} : upd (upd f s v) s w = upd f s w := by
  funext j
  unfold upd
  by_cases hj : j = s
  · rw [if_pos hj, if_pos hj]
  · rw [if_neg hj, if_neg hj, if_neg hj]
section RD
variable {n k : Nat} {B : Nat → Int32}
theorem p_note (hn : n ≤ 12) {z : SS} {a e : Nat} (hB : z.2 7 = B) (ha : a < e) (he : e ≤ n * 200) : ∃ z', gs_noteBad n k z (nI a) (nI e) = some z' ∧ z'.2 = z.2 ∧ z'.1 10 = bd1 (z.1 10) ∧ z'.1 11 = bd2 B e (z.1 10) (z.1 11) a ∧ (∀ x, x ≠ 10 → x ≠ 11 → z'.1 x = z.1 x) := by
  unfold gs_noteBad gs_noteBad_b37 bd1 bd2
  by_cases h0 : z.1 10 = 0
  · rw [if_pos h0, if_pos h0, if_pos h0]
    simp (disch := omega) only [na_7, lt_n]
    have fin : ∀ v : Int32, ∃ z', some (si (si z 10 1) 11 v) = some z' ∧ z'.2 = z.2 ∧ z'.1 10 = 1 ∧ z'.1 11 = v ∧ (∀ x, x ≠ 10 → x ≠ 11 → z'.1 x = z.1 x) := fun v => ⟨_, rfl, rfl, by rw [si_o (by omega), si_s], si_s, fun x h1 h2 => by rw [si_o h2, si_o h1]⟩
    by_cases h7 : a + 7 ≤ e
    · rw [if_neg (by omega), if_pos h7, p_numAt hn (by omega), bo_some, si_a, hB]
      exact fin _
    · rw [if_pos (by omega), if_neg h7]
      exact fin _
  · rw [if_neg h0, if_neg h0, if_neg h0]
    exact ⟨z, rfl, rfl, rfl, rfl, fun x _ _ => rfl⟩
theorem p_read15 (hn : n ≤ 12) (hk : 3000 ≤ k) {s : Nat} (hs : s < n) (hBo : BOK B (n * 200)) {q : Nat} (hstop : q = s * 200 + 200 ∨ B q = 0 ∨ gsz B q (s * 200 + 200) = 0) : ∀ (R : List Nat) (p fu m : Nat) (z : SS), z.2 7 = B → Wk B (s * 200 + 200) p R q → s * 200 ≤ p → p ≤ s * 200 + 200 → z.2 10 s = nI m → m + (gl B (s * 200 + 200) R).length ≤ 12 → R.length < fu →
    ∃ z', gs_readSegment_b15 n k fu z (nI s) (nI (s * 200)) (nI (s * 200 + 200)) (nI p) = some z' ∧
      z'.2 10 = upd (z.2 10) s (nI (m + (gl B (s * 200 + 200) R).length)) ∧
      (∀ i a, (gl B (s * 200 + 200) R)[i]? = some a → Sl z' (s * 12 + m + i) a) ∧
      (∀ x j, (j < s * 12 + m ∨ s * 12 + m + (gl B (s * 200 + 200) R).length ≤ j) → x ≠ 8 → x ≠ 10 → z'.2 x j = z.2 x j) ∧
      (∀ x, (x < 10 ∨ 15 < x) → x ≠ 8 → z'.2 x = z.2 x) ∧
      z'.2 8 = upd (z.2 8) s (nI (q - s * 200)) ∧
      z'.1 8 = mxF B (gl B (s * 200 + 200) R) (z.1 8) ∧
      z'.1 10 = (bdX B (s * 200 + 200) (s * 200 + 200) q (bdF B (s * 200 + 200) R (z.1 10, z.1 11))).1 ∧
      z'.1 11 = (bdX B (s * 200 + 200) (s * 200 + 200) q (bdF B (s * 200 + 200) R (z.1 10, z.1 11))).2 ∧
      (∀ x, x ≠ 8 → x ≠ 10 → x ≠ 11 → z'.1 x = z.1 x) := by
  intro R
  induction R with
  | nil =>
    intro p fu m z hB hW hp1 hp2 hm hl hf
    have hpq : p = q := hW
    subst hpq
    have h132 : ∀ w : SS, gs_readSegment_b132 n k w (nI s) (nI (s * 200)) (nI p) = some (sa w 8 s (nI (p - s * 200))) := by
      intro w
      unfold gs_readSegment_b132
      rw [ck_n hs (by omega), if_pos rfl, tn_n (by omega), pk_sub hp1]
    cases fu with
    | zero => exact absurd hf (Nat.not_lt_zero _)
    | succ fu =>
      have fin : ∀ w : SS, w.2 = z.2 → w.1 10 = (bdX B (s * 200 + 200) (s * 200 + 200) p (z.1 10, z.1 11)).1 → w.1 11 = (bdX B (s * 200 + 200) (s * 200 + 200) p (z.1 10, z.1 11)).2 → (∀ x, x ≠ 10 → x ≠ 11 → w.1 x = z.1 x) → ∃ z', some (sa w 8 s (nI (p - s * 200))) = some z' ∧
          z'.2 10 = upd (z.2 10) s (nI (m + (gl B (s * 200 + 200) []).length)) ∧
          (∀ i a, (gl B (s * 200 + 200) [])[i]? = some a → Sl z' (s * 12 + m + i) a) ∧
          (∀ x j, (j < s * 12 + m ∨ s * 12 + m + (gl B (s * 200 + 200) []).length ≤ j) → x ≠ 8 → x ≠ 10 → z'.2 x j = z.2 x j) ∧
          (∀ x, (x < 10 ∨ 15 < x) → x ≠ 8 → z'.2 x = z.2 x) ∧
          z'.2 8 = upd (z.2 8) s (nI (p - s * 200)) ∧
          z'.1 8 = mxF B (gl B (s * 200 + 200) []) (z.1 8) ∧
          z'.1 10 = (bdX B (s * 200 + 200) (s * 200 + 200) p (bdF B (s * 200 + 200) [] (z.1 10, z.1 11))).1 ∧
          z'.1 11 = (bdX B (s * 200 + 200) (s * 200 + 200) p (bdF B (s * 200 + 200) [] (z.1 10, z.1 11))).2 ∧
          (∀ x, x ≠ 8 → x ≠ 10 → x ≠ 11 → z'.1 x = z.1 x) := by
        intro w hw h10 h11 h1
        rw [gl_nil]
        refine ⟨_, rfl, ?_, ?_, ?_, ?_, ?_, ?_, h10, h11, ?_⟩
        · rw [sa_o (by omega), hw]
          exact (upd_id hm).symm
        · intro i a h; cases h
        · intro x j _ h8 _
          rw [sa_o h8, hw]
        · intro x _ h8
          rw [sa_o h8, hw]
        · rw [sa_s, hw]
        · rw [sa_i]; exact h1 8 (by omega) (by omega)
        · intro x _ h10' h11'
          rw [sa_i]; exact h1 x h10' h11'
      by_cases hq : s * 200 + 200 ≤ p
      · simp (disch := omega) only [gs_readSegment_b15, le_n, hq, if_true, h132]
        have hX : bdX B (s * 200 + 200) (s * 200 + 200) p (z.1 10, z.1 11) = (z.1 10, z.1 11) := by unfold bdX; rw [if_neg (fun h => by omega)]
        exact fin z rfl (by rw [hX]) (by rw [hX]) (fun x _ _ => rfl)
      · simp (disch := omega) only [gs_readSegment_b15, le_n, hq, if_false, ck_n, tn_n, if_true, hB]
        by_cases h0 : B p = 0
        · rw [if_pos h0, h132]
          have hX : bdX B (s * 200 + 200) (s * 200 + 200) p (z.1 10, z.1 11) = (z.1 10, z.1 11) := by unfold bdX; rw [if_neg (fun h => h.2 h0)]
          exact fin z rfl (by rw [hX]) (by rw [hX]) (fun x _ _ => rfl)
        · have hg0 : gsz B p (s * 200 + 200) = 0 := by
            rcases hstop with h | h | h
            · omega
            · exact absurd h h0
            · exact h
          rw [if_neg h0, p_isGood (z := z) (by rw [hB]; exact hBo) hn hk (by omega) (by omega), bo_some, hB, gT_f (fun h => h.1 hg0), if_pos rfl]
          obtain ⟨z1, e1, e2, e3, e4, e5⟩ := p_note (k := k) (z := z) (B := B) hn hB (a := p) (e := s * 200 + 200) (by omega) (by omega)
          rw [e1, bo_some]
          unfold gs_readSegment_b100
          rw [p_behind (z := z1) (by rw [e2, hB]; exact hBo) hn (by omega) (by omega), bo_some, e2, hB, if_pos hg0, if_neg (by
            rw [i_lt, m1_ti, nI_toInt (by omega)]; omega), h132]
          have hX : bdX B (s * 200 + 200) (s * 200 + 200) p (z.1 10, z.1 11) = (bd1 (z.1 10), bd2 B (s * 200 + 200) (z.1 10) (z.1 11) p) := by unfold bdX; rw [if_pos ⟨by omega, h0⟩]
          exact fin z1 e2 (by rw [hX]; exact e3) (by rw [hX]; exact e4) e5
  | cons a R ih =>
    intro p fu m z hB hW hp1 hp2 hm hl hf
    obtain ⟨hap, hg0, hW2⟩ := hW
    subst hap
    obtain ⟨g1, g2, g3, g4, g5, g6, g7⟩ := gsz_le hg0
    cases fu with
    | zero => exact absurd hf (Nat.not_lt_zero _)
    | succ fu =>
      have hq : ¬ s * 200 + 200 ≤ a := by omega
      have hBa : B a ≠ 0 := by
        rcases g7 with h | h <;> rw [h] <;> decide
      simp (disch := omega) only [gs_readSegment_b15, le_n, hq, if_false, ck_n, tn_n, if_true, hB]
      rw [if_neg hBa, p_isGood (z := z) (by rw [hB]; exact hBo) hn hk (by omega) (by omega), bo_some, hB]
      by_cases hgd : ggood B a (s * 200 + 200)
      · rw [gT_t hgd, if_neg (by decide)]
        rw [gl_good hgd, List.length_cons] at hl
        obtain ⟨z1, e1, e2, e3, e4, e5, e6⟩ := p_add (k := k) (z := z) (s := s) (m := m) (a := a) hn hs hm (by omega) (by rw [hB]; exact hBo) (by omega)
        have h7 : z1.2 7 = B := by rw [e6 7 (by omega), hB]
        rw [e1, bo_some, p_numAt (z := z1) hn (by omega), bo_some, h7]
        unfold gs_readSegment_b100
        rw [p_behind (z := si z1 8 _) (by rw [si_a, h7]; exact hBo) hn (by omega) (by omega), bo_some, si_a, h7, if_neg hg0, if_pos (nI_lt (by omega) (by omega))]
        have hz8 : z1.1 8 = z.1 8 := by rw [e2]
        obtain ⟨z', f1, f2, f3, f4, f5, f6, f7, f8, f9, f10⟩ := ih (a + gsz B a (s * 200 + 200)) fu (m + 1) (si z1 8 (if z1.1 8 < gnum B a then gnum B a else z1.1 8)) (by rw [si_a]; exact h7) hW2 (by omega) (by omega) (by rw [si_a, e3, pk_us]) (by omega) (by simp only [List.length_cons] at hf; omega)
        rw [gl_good hgd, bdF_good hgd, List.length_cons]
        refine ⟨z', f1, ?_, ?_, ?_, ?_, ?_, ?_, ?_, ?_, ?_⟩
        · rw [f2, si_a, e3, upd_upd]
          congr 2
          omega
        · intro i b h
          cases i with
          | zero =>
            have h0 : a = b := by simpa using h
            subst h0
            obtain ⟨q1, q2, q3, q4, q5⟩ := e4
            rw [h7] at q2 q3 q4 q5
            have hz7 : z'.2 7 = B := by rw [f5 7 (by omega) (by omega), si_a, h7]
            unfold Sl
            rw [hz7, Nat.add_zero]
            have ff : ∀ x, x ≠ 8 → x ≠ 10 → z'.2 x (s * 12 + m) = z1.2 x (s * 12 + m) := fun x h8 h10 => by rw [f4 x (s * 12 + m) (by omega) h8 h10, si_a]
            rw [ff 11 (by omega) (by omega), ff 12 (by omega) (by omega), ff 13 (by omega) (by omega), ff 14 (by omega) (by omega), ff 15 (by omega) (by omega)]
            exact ⟨q1, q2, q3, q4, q5⟩
          | succ i =>
            have := f3 i b (by simpa using h)
            rw [show s * 12 + m + (i + 1) = s * 12 + (m + 1) + i by omega]
            exact this
        · intro x j hj h8 h10
          rw [f4 x j (by omega) h8 h10, si_a]
          exact e5 x j (by omega) h10
        · intro x hx h8
          rw [f5 x hx h8, si_a]
          exact e6 x hx
        · rw [f6, si_a, e6 8 (by omega)]
        · rw [f7, si_s, hz8]
          rfl
        · rw [f8, si_o (by omega), si_o (by omega), e2]
        · rw [f9, si_o (by omega), si_o (by omega), e2]
        · intro x h8 h10 h11
          rw [f10 x h8 h10 h11, si_o h8, e2]
      · rw [gT_f hgd, if_pos rfl]
        rw [gl_bad hgd] at hl
        obtain ⟨z1, e1, e2, e3, e4, e5⟩ := p_note (k := k) (z := z) (B := B) hn hB (a := a) (e := s * 200 + 200) (by omega) (by omega)
        have h7 : z1.2 7 = B := by rw [e2, hB]
        rw [e1, bo_some]
        unfold gs_readSegment_b100
        rw [p_behind (z := z1) (by rw [h7]; exact hBo) hn (by omega) (by omega), bo_some, h7, if_neg hg0, if_pos (nI_lt (by omega) (by omega))]
        obtain ⟨z', f1, f2, f3, f4, f5, f6, f7, f8, f9, f10⟩ := ih (a + gsz B a (s * 200 + 200)) fu m z1 h7 hW2 (by omega) (by omega) (by rw [e2]; exact hm) hl (by simp only [List.length_cons] at hf; omega)
        rw [gl_bad hgd, bdF_bad hgd]
        rw [e2] at f2 f4 f5 f6
        rw [e3, e4] at f8 f9
        exact ⟨z', f1, f2, f3, f4, f5, f6, by rw [f7, e5 8 (by omega) (by omega)], f8, f9, fun x h8 h10 h11 => by rw [f10 x h8 h10 h11, e5 x h10 h11]⟩
theorem m_look2 (hn : n ≤ 12) (hk : 3000 ≤ k) {s : Nat} (hs : s < n) (hBo : BOK B (n * 200)) {q le : Nat} (hle : le ≤ 200) (hql : q ≤ s * 200 + le) (hstop : q = s * 200 + le ∨ B q = 0 ∨ gsz B q (s * 200 + 200) = 0) : ∀ (R : List Nat) (p fu r0 : Nat) (z : SS), z.2 1 = B → z.1 25 = 0 ∨ z.1 25 = 1 → Wk B (s * 200 + 200) (s * 200 + p) R q → p ≤ 200 → z.1 15 = nI r0 → r0 + (gl B (s * 200 + 200) R).length ≤ 160 → R.length < fu →
    ∃ z', rm_lookAt_b2 k fu z (nI s) (nI le) (nI p) = some (nI (q - s * 200), z') ∧
      z'.1 15 = nI (r0 + (gl B (s * 200 + 200) R).length) ∧
      (∀ i a, (gl B (s * 200 + 200) R)[i]? = some a → Rw z' (r0 + i) a) ∧
      (∀ x i, i < r0 → z'.2 x i = z.2 x i) ∧
      (∀ x, x < 7 ∨ 11 < x → z'.2 x = z.2 x) ∧
      z'.1 25 = (bdX B (s * 200 + 200) (s * 200 + le) q (bdF B (s * 200 + 200) R (z.1 25, z.1 13))).1 ∧
      z'.1 13 = (bdX B (s * 200 + 200) (s * 200 + le) q (bdF B (s * 200 + 200) R (z.1 25, z.1 13))).2 ∧
      (∀ x, x ≠ 13 → x ≠ 15 → x ≠ 25 → z'.1 x = z.1 x) := by
  have bad : ∀ (z : SS) (p : Nat) (rc : SS → Int32 → Int32 → Int32 → Option (Int32 × SS)) (sz : Int32), z.2 1 = B → z.1 25 = 0 ∨ z.1 25 = 1 → p < 200 →
      (if z.1 25 = 0 then (if nI (p + 7) ≤ 200 then (bo (rm_number k z (nI (200 * s + p + 3)) 4) fun r_3 => rm_lookAt_b182 k rc z (nI s) (nI le) (nI p) sz r_3) else rm_lookAt_b182 k rc z (nI s) (nI le) (nI p) sz 0) else rm_lookAt_b182 k rc z (nI s) (nI le) (nI p) sz (z.1 13)) = rm_lookAt_b190 k rc (si (si z 13 (bd2 B (s * 200 + 200) (z.1 25) (z.1 13) (s * 200 + p))) 25 (bd1 (z.1 25))) (nI s) (nI le) (nI p) sz := by
    intro z p rc sz hB h25 hp
    unfold bd1 bd2
    by_cases h0 : z.1 25 = 0
    · rw [if_pos h0, if_pos h0, if_pos h0]
      simp (disch := omega) only [n_le_200]
      by_cases h7 : p + 7 ≤ 200
      · rw [if_pos h7, m_num4 hn hk (by omega), bo_some, hB, if_pos (show s * 200 + p + 7 ≤ s * 200 + 200 by omega), Nat.mul_comm 200 s]
        rfl
      · rw [if_neg h7, if_neg (show ¬ s * 200 + p + 7 ≤ s * 200 + 200 by omega)]
        rfl
    · rw [if_neg h0, if_neg h0, if_neg h0]
      have h1 : z.1 25 = 1 := h25.elim (fun h => absurd h h0) (fun h => h)
      rw [h1]
      rfl
  intro R
  induction R with
  | nil =>
    intro p fu r0 z hB h25 hW hp hr hl hf
    have hpq : s * 200 + p = q := hW
    subst hpq
    cases fu with
    | zero => exact absurd hf (Nat.not_lt_zero _)
    | succ fu =>
      rw [gl_nil]
      have hqq : s * 200 + p - s * 200 = p := by omega
      rw [hqq]
      by_cases hq : le ≤ p
      · have hX : bdX B (s * 200 + 200) (s * 200 + le) (s * 200 + p) (z.1 25, z.1 13) = (z.1 25, z.1 13) := by unfold bdX; rw [if_neg (fun h => by omega)]
        simp (disch := omega) only [rm_lookAt_b2, le_n, hq, if_true]
        refine ⟨z, rfl, hr, ?_, fun x i _ => rfl, fun x _ => rfl, ?_, ?_, fun x _ _ _ => rfl⟩
        · intro i a h; cases h
        · show _ = (bdX B (s * 200 + 200) (s * 200 + le) (s * 200 + p) (z.1 25, z.1 13)).1
          rw [hX]
        · show _ = (bdX B (s * 200 + 200) (s * 200 + le) (s * 200 + p) (z.1 25, z.1 13)).2
          rw [hX]
      · simp (disch := omega) only [rm_lookAt_b2, le_n, hq, if_false, mn_200, nI_add, ck_n, tn_n, if_true, hB]
        by_cases h0 : B (s * 200 + p) = 0
        · have hX : bdX B (s * 200 + 200) (s * 200 + le) (s * 200 + p) (z.1 25, z.1 13) = (z.1 25, z.1 13) := by unfold bdX; rw [if_neg (fun h => h.2 h0)]
          rw [if_pos (by rw [Nat.mul_comm 200 s]; exact h0)]
          refine ⟨z, rfl, hr, ?_, fun x i _ => rfl, fun x _ => rfl, ?_, ?_, fun x _ _ _ => rfl⟩
          · intro i a h; cases h
          · show _ = (bdX B (s * 200 + 200) (s * 200 + le) (s * 200 + p) (z.1 25, z.1 13)).1
            rw [hX]
          · show _ = (bdX B (s * 200 + 200) (s * 200 + le) (s * 200 + p) (z.1 25, z.1 13)).2
            rw [hX]
        · have hg0 : gsz B (s * 200 + p) (s * 200 + 200) = 0 := by
            rcases hstop with h | h | h
            · omega
            · exact absurd h h0
            · exact h
          have hX : bdX B (s * 200 + 200) (s * 200 + le) (s * 200 + p) (z.1 25, z.1 13) = (bd1 (z.1 25), bd2 B (s * 200 + 200) (z.1 25) (z.1 13) (s * 200 + p)) := by unfold bdX; rw [if_pos ⟨by omega, h0⟩]
          rw [if_neg (by rw [Nat.mul_comm 200 s]; exact h0), m_sizeAt (z := z) (by rw [hB]; exact hBo) hn hs (by omega), bo_some, m_isGood (z := z) (by rw [hB]; exact hBo) hn hk hs (by omega), bo_some, hB, Nat.mul_comm 200 s, gT_f (fun h => h.1 hg0), if_pos rfl, hg0, na_3, na_7]
          have hb := bad z p (rm_lookAt_b2 k fu) (nI 0) hB h25 (by omega)
          rw [Nat.mul_comm 200 s] at hb
          rw [hb]
          unfold rm_lookAt_b190
          rw [if_pos nI_0]
          refine ⟨_, rfl, ?_, ?_, fun x i _ => rfl, fun x _ => rfl, ?_, ?_, ?_⟩
          · rw [si_o (by omega), si_o (by omega)]; exact hr
          · intro i a h; cases h
          · show _ = (bdX B (s * 200 + 200) (s * 200 + le) (s * 200 + p) (z.1 25, z.1 13)).1
            rw [hX, si_s]
          · show _ = (bdX B (s * 200 + 200) (s * 200 + le) (s * 200 + p) (z.1 25, z.1 13)).2
            rw [hX, si_o (by omega), si_s]
          · intro x h13 h15 h25
            rw [si_o h25, si_o h13]
  | cons a R ih =>
    intro p fu r0 z hB h25 hW hp hr hl hf
    obtain ⟨hap, hg0, hW2⟩ := hW
    subst hap
    obtain ⟨g1, g2, g3, g4, g5, g6, g7⟩ := gsz_le hg0
    have hqe := Wk_le hW2
    cases fu with
    | zero => exact absurd hf (Nat.not_lt_zero _)
    | succ fu =>
      have hq : ¬ le ≤ p := by omega
      have hBa : B (s * 200 + p) ≠ 0 := by
        rcases g7 with h | h <;> rw [h] <;> decide
      simp (disch := omega) only [rm_lookAt_b2, le_n, hq, if_false, mn_200, nI_add, ck_n, tn_n, if_true, hB, na_1, na_3, na_7]
      rw [Nat.mul_comm 200 s, if_neg hBa, m_sizeAt (z := z) (by rw [hB]; exact hBo) hn hs (by omega), bo_some, m_isGood (z := z) (by rw [hB]; exact hBo) hn hk hs (by omega), bo_some, hB, Nat.mul_comm 200 s]
      by_cases hgd : ggood B (s * 200 + p) (s * 200 + 200)
      · rw [gT_t hgd, if_neg (by decide)]
        rw [gl_good hgd, List.length_cons] at hl
        rw [hr, m_num2 hn hk (by omega), bo_some]
        simp (disch := omega) only [ck_n, tn_n, if_true]
        rw [m_num4 hn hk (by omega), bo_some]
        simp (disch := omega) only [sa_o, hB]
        have fin : ∀ v : Int32, vp_nar .boolean v = gG B (s * 200 + p) → ∃ z', rm_lookAt_b119 k (rm_lookAt_b2 k fu) (sa (sa (sa z 7 r0 (nI (s * 200 + p))) 8 r0 (gkey B (s * 200 + p))) 9 r0 (gnum B (s * 200 + p))) (nI s) (nI le) (nI p) (nI (gsz B (s * 200 + p) (s * 200 + 200))) v (nI r0) = some (nI (q - s * 200), z') ∧
            z'.1 15 = nI (r0 + (gl B (s * 200 + 200) ((s * 200 + p) :: R)).length) ∧
            (∀ i a, (gl B (s * 200 + 200) ((s * 200 + p) :: R))[i]? = some a → Rw z' (r0 + i) a) ∧
            (∀ x i, i < r0 → z'.2 x i = z.2 x i) ∧
            (∀ x, x < 7 ∨ 11 < x → z'.2 x = z.2 x) ∧
            z'.1 25 = (bdX B (s * 200 + 200) (s * 200 + le) q (bdF B (s * 200 + 200) ((s * 200 + p) :: R) (z.1 25, z.1 13))).1 ∧
            z'.1 13 = (bdX B (s * 200 + 200) (s * 200 + le) q (bdF B (s * 200 + 200) ((s * 200 + p) :: R) (z.1 25, z.1 13))).2 ∧
            (∀ x, x ≠ 13 → x ≠ 15 → x ≠ 25 → z'.1 x = z.1 x) := by
          intro v hv
          unfold rm_lookAt_b119 rm_lookAt_b190
          simp (disch := omega) only [sa_i, hr, ck_n, tn_n, if_true, na_1, nI_add]
          rw [if_neg (nI_ne0 (by omega) (by omega)), hv]
          obtain ⟨z', f1, f2, f3, f4, f5, f6, f7, f8⟩ := ih (p + gsz B (s * 200 + p) (s * 200 + 200)) fu (r0 + 1) (si (sa (sa (sa (sa (sa z 7 r0 (nI (s * 200 + p))) 8 r0 (gkey B (s * 200 + p))) 9 r0 (gnum B (s * 200 + p))) 10 r0 (gG B (s * 200 + p))) 11 r0 (nI (gsz B (s * 200 + p) (s * 200 + 200)))) 15 (nI (r0 + 1))) (by rw [si_a]; simp (disch := omega) only [sa_o]; exact hB) (by rw [si_o (by omega)]; simp only [sa_i]; exact h25) (by rw [← Nat.add_assoc]; exact hW2) (by omega) si_s (by omega) (by simp only [List.length_cons] at hf; omega)
          rw [gl_good hgd, bdF_good hgd, List.length_cons]
          refine ⟨z', f1, ?_, ?_, ?_, ?_, ?_, ?_, ?_⟩
          · rw [f2]; congr 1; omega
          · intro i b h
            cases i with
            | zero =>
              have h0 : s * 200 + p = b := by simpa using h
              subst h0
              have hz1 : z'.2 1 = B := by rw [f5 1 (by omega), si_a]; simp (disch := omega) only [sa_o]; exact hB
              unfold Rw
              rw [hz1, Nat.add_zero, f4 7 r0 (by omega), f4 8 r0 (by omega), f4 9 r0 (by omega), f4 10 r0 (by omega), f4 11 r0 (by omega), si_a, si_a, si_a, si_a, si_a]
              simp (disch := omega) only [sa_o, sa_s, pk_us]
              rw [g5]
              exact ⟨trivial, trivial, trivial, trivial, rfl⟩
            | succ i =>
              have := f3 i b (by simpa using h)
              rw [show r0 + (i + 1) = r0 + 1 + i by omega]
              exact this
          · intro x i hi
            have st : ∀ (w : SS) (y : Nat) (u : Int32), (sa w y r0 u).2 x i = w.2 x i := by
              intro w y u
              by_cases hxy : x = y
              · subst hxy
                rw [sa_s, pk_un (by omega)]
              · rw [sa_o hxy]
            rw [f4 x i (by omega), si_a, st, st, st, st, st]
          · intro x hx
            rw [f5 x hx, si_a]
            simp (disch := omega) only [sa_o]
          · rw [f6, si_o (by omega), si_o (by omega)]
            simp only [sa_i]
          · rw [f7, si_o (by omega), si_o (by omega)]
            simp only [sa_i]
          · intro x h13 h15 h25
            rw [f8 x h13 h15 h25, si_o h15]
            simp only [sa_i]
        by_cases h2 : B (s * 200 + p) = 2
        · rw [if_pos h2]
          exact fin 1 (by unfold gG; rw [if_pos h2]; decide)
        · rw [if_neg h2]
          exact fin 0 (by unfold gG; rw [if_neg h2]; decide)
      · rw [gT_f hgd, if_pos rfl]
        rw [gl_bad hgd] at hl
        have hb := bad z p (rm_lookAt_b2 k fu) (nI (gsz B (s * 200 + p) (s * 200 + 200))) hB h25 (by omega)
        rw [Nat.mul_comm 200 s] at hb
        rw [hb]
        unfold rm_lookAt_b190
        rw [if_neg (nI_ne0 (by omega) (by omega)), nI_add]
        obtain ⟨z', f1, f2, f3, f4, f5, f6, f7, f8⟩ := ih (p + gsz B (s * 200 + p) (s * 200 + 200)) fu r0 (si (si z 13 (bd2 B (s * 200 + 200) (z.1 25) (z.1 13) (s * 200 + p))) 25 (bd1 (z.1 25))) hB (Or.inr (by
            rw [si_s]
            unfold bd1
            rcases h25 with h | h
            · rw [if_pos h]
            · rw [h]; rfl)) (by rw [← Nat.add_assoc]; exact hW2) (by omega) (by rw [si_o (by omega), si_o (by omega)]; exact hr) hl (by simp only [List.length_cons] at hf; omega)
        rw [gl_bad hgd, bdF_bad hgd]
        rw [si_s, si_o (by omega), si_s] at f6 f7
        exact ⟨z', f1, f2, f3, f4, f5, f6, f7, fun x h13 h15 h25 => by rw [f8 x h13 h15 h25, si_o h25, si_o h13]⟩
end RD
