theorem bw_head {f : Nat → Int32} {p d : Nat} {v : Int32} : bw (upd f p v) (p + 1) d (fun _ => v) = bw f p (d + 1) (fun _ => v) := by
  funext j
  by_cases hj : j = p
  · subst hj
    rw [bw_out (by omega), pk_us]
    have := bw_in (B := f) (D := fun _ => v) (p := j) (m := d + 1) (i := 0) (by omega)
    rw [Nat.add_zero] at this
    exact this.symm
  · by_cases hj2 : p + 1 ≤ j ∧ j < p + 1 + d
    · have e1 := bw_in (B := upd f p v) (D := fun _ => v) (p := p + 1) (m := d) (i := j - (p + 1)) (by omega)
      have e2 := bw_in (B := f) (D := fun _ => v) (p := p) (m := d + 1) (i := j - p) (by omega)
      rw [show p + 1 + (j - (p + 1)) = j by omega] at e1
      rw [show p + (j - p) = j by omega] at e2
      rw [e1, e2]
    · rw [bw_out (by omega), bw_out (by omega), pk_un hj]
section CL
variable {n k : Nat}
theorem p_forget9 (hn : n ≤ 12) {s : Nat} (hs : s < n) : ∀ (d fu i : Nat) (z : SS), i + d = 12 → d < fu → ∃ z', ix_forget_b9 n k fu z (nI s) (nI i) = some z' ∧ z'.1 = z.1 ∧ z'.2 12 = bw (z.2 12) (s * 12 + i) d (fun _ => -1) ∧ (∀ x, x ≠ 12 → z'.2 x = z.2 x) := by
  intro d
  induction d with
  | zero =>
    intro fu i z hi hf
    cases fu with
    | zero => omega
    | succ fu =>
      have h1 : 12 ≤ i := by omega
      simp (disch := omega) only [ix_forget_b9, c_le_12, h1, if_true]
      exact ⟨z, rfl, rfl, bw_0.symm, fun x _ => rfl⟩
  | succ d ih =>
    intro fu i z hi hf
    cases fu with
    | zero => omega
    | succ fu =>
      have h1 : ¬ 12 ≤ i := by omega
      simp (disch := omega) only [ix_forget_b9, c_le_12, h1, if_false, nm_12, nI_add, ck_n, tn_n, if_true, na_1]
      obtain ⟨z', e1, e2, e3, e4⟩ := ih fu (i + 1) (sa z 12 (s * 12 + i) (-1)) (by omega) (by omega)
      refine ⟨z', e1, by rw [e2]; rfl, ?_, fun x hx => by rw [e4 x hx, sa_o hx]⟩
      rw [e3, sa_s]
      exact bw_head
theorem p_forget (hn : n ≤ 12) (hk : 3000 ≤ k) {s : Nat} (hs : s < n) (z : SS) : ∃ z', ix_forget n k z (nI s) = some z' ∧ z'.1 = z.1 ∧ z'.2 10 = upd (z.2 10) s 0 ∧ z'.2 12 = bw (z.2 12) (s * 12) 12 (fun _ => -1) ∧ (∀ x, x ≠ 10 → x ≠ 12 → z'.2 x = z.2 x) := by
  unfold ix_forget
  rw [ck_n hs (by omega), if_pos rfl, tn_n (by omega)]
  obtain ⟨z', e1, e2, e3, e4⟩ := p_forget9 (k := k) hn hs 12 k 0 (sa z 10 s 0) (by omega) (by omega)
  refine ⟨z', e1, by rw [e2]; rfl, by rw [e4 10 (by omega), sa_s], by rw [e3, sa_o (by omega), Nat.add_zero], fun x h1 h2 => by rw [e4 x h2, sa_o h1]⟩
theorem p_forgetAll (hn : n ≤ 12) (hk : 3000 ≤ k) : ∀ (d fu s : Nat) (z : SS), s + d = n → d < fu → (∀ t, t < s → z.2 10 t = 0) → (∀ j, j < s * 12 → z.2 12 j = -1) → ∃ z', ix_forgetAll_b2 n k fu z (nI s) = some z' ∧ z'.1 = z.1 ∧ (∀ t, t < n → z'.2 10 t = 0) ∧ (∀ j, j < n * 12 → z'.2 12 j = -1) ∧ (∀ x, x ≠ 10 → x ≠ 12 → z'.2 x = z.2 x) := by
  intro d
  induction d with
  | zero =>
    intro fu s z hs hf h1 h2
    cases fu with
    | zero => omega
    | succ fu =>
      have h0 : n ≤ s := by omega
      simp (disch := omega) only [ix_forgetAll_b2, le_n, h0, if_true]
      have : s = n := by omega
      subst this
      exact ⟨z, rfl, rfl, h1, h2, fun x _ _ => rfl⟩
  | succ d ih =>
    intro fu s z hs hf h1 h2
    cases fu with
    | zero => omega
    | succ fu =>
      have h0 : ¬ n ≤ s := by omega
      simp (disch := omega) only [ix_forgetAll_b2, le_n, h0, if_false, na_1]
      obtain ⟨z1, e1, e2, e3, e4, e5⟩ := p_forget (k := k) hn hk (show s < n by omega) z
      rw [e1, bo_some]
      obtain ⟨z', f1, f2, f3, f4, f5⟩ := ih fu (s + 1) z1 (by omega) (by omega) (fun t ht => by
        rw [e3]
        by_cases hts : t = s
        · subst hts; exact pk_us
        · rw [pk_un hts]; exact h1 t (by omega)) (fun j hj => by
        rw [e4]
        by_cases hjs : j < s * 12
        · rw [bw_out (by omega)]; exact h2 j hjs
        · have : j = s * 12 + (j - s * 12) := by omega
          rw [this, bw_in (by omega)])
      exact ⟨z', f1, by rw [f2, e2], f3, f4, fun x x1 x2 => by rw [f5 x x1 x2, e5 x x1 x2]⟩
theorem Ix_nil {z : SS} (h1 : ∀ t, t < n → z.2 10 t = 0) (h2 : ∀ j, j < n * 12 → z.2 12 j = -1) : Ix n z (fun _ => []) := by
  intro s hs
  exact ⟨h1 s hs, by simp, fun i hi => ⟨fun a ha => by simp at ha, fun _ => h2 _ (by omega)⟩⟩
theorem p_closeAll : ∀ (d fu i : Nat) (z : SS), i + d = 4 → d < fu → ∃ z', sn_closeAll_b2 n k fu z (nI i) = some z' ∧ z'.1 = z.1 ∧ z'.2 16 = bw (z.2 16) i d (fun _ => 0) ∧ (∀ x, x ≠ 16 → z'.2 x = z.2 x) := by
  intro d
  induction d with
  | zero =>
    intro fu i z hi hf
    cases fu with
    | zero => omega
    | succ fu =>
      have h1 : 4 ≤ i := by omega
      simp (disch := omega) only [sn_closeAll_b2, c_le_4, h1, if_true]
      exact ⟨z, rfl, rfl, bw_0.symm, fun x _ => rfl⟩
  | succ d ih =>
    intro fu i z hi hf
    cases fu with
    | zero => omega
    | succ fu =>
      have h1 : ¬ 4 ≤ i := by omega
      simp (disch := omega) only [sn_closeAll_b2, sn_close, c_le_4, h1, if_false, ck_n, tn_n, if_true, na_1, bo_some]
      obtain ⟨z', e1, e2, e3, e4⟩ := ih fu (i + 1) (sa z 16 i (vp_nar .boolean 0)) (by omega) (by omega)
      refine ⟨z', e1, by rw [e2]; rfl, ?_, fun x hx => by rw [e4 x hx, sa_o hx]⟩
      rw [e3, sa_s]
      exact bw_head
theorem m_close22 : ∀ (d fu i : Nat) (z : SS), i + d = 4 → d < fu → ∃ z', rm_close_b22 k fu z (nI i) = some z' ∧ z'.1 = z.1 ∧ z'.2 5 = bw (z.2 5) i d (fun _ => 0) ∧ (∀ x, x ≠ 5 → z'.2 x = z.2 x) := by
  intro d
  induction d with
  | zero =>
    intro fu i z hi hf
    cases fu with
    | zero => omega
    | succ fu =>
      have h1 : 4 ≤ i := by omega
      simp (disch := omega) only [rm_close_b22, c_le_4, h1, if_true]
      exact ⟨z, rfl, rfl, bw_0.symm, fun x _ => rfl⟩
  | succ d ih =>
    intro fu i z hi hf
    cases fu with
    | zero => omega
    | succ fu =>
      have h1 : ¬ 4 ≤ i := by omega
      simp (disch := omega) only [rm_close_b22, c_le_4, h1, if_false, ck_n, tn_n, if_true, na_1]
      obtain ⟨z', e1, e2, e3, e4⟩ := ih fu (i + 1) (sa z 5 i (vp_nar .boolean 0)) (by omega) (by omega)
      refine ⟨z', e1, by rw [e2]; rfl, ?_, fun x hx => by rw [e4 x hx, sa_o hx]⟩
      rw [e3, sa_s]
      exact bw_head
theorem a_shut (hn : n ≤ 12) (hk : 3000 ≤ k) {zc zm : SS} {T : Nat → Nat} (hb : Base n zc T) (he : Eqv zc zm) : ∃ zc' zm', gs_shut n k zc = some zc' ∧ rm_close k zm = some zm' ∧ RelN n zc' zm' := by
  obtain ⟨b1, b2, b3, b4, b5, b6, b7, b8, b9, b10, b11⟩ := hb
  obtain ⟨e1, e2, e3, e4, e5, e6, e7, e8, e9, e10, e11, e12, e13, e14, e15⟩ := he
  unfold gs_shut sg_settle rm_close ix_forgetAll sn_closeAll
  rw [bi_some]
  obtain ⟨z2, f1, f2, f3, f4, f5⟩ := p_forgetAll (k := k) hn hk n k 0 (si (si (si zc 9 1) 24 0) 25 (-1)) (by omega) (by omega) (fun t ht => by omega) (fun j hj => by omega)
  have f1 : ix_forgetAll_b2 n k k (si (si (si zc 9 1) 24 0) 25 (-1)) 0 = some z2 := f1
  rw [f1, bo_some]
  obtain ⟨z3, g1, g2, g3, g4⟩ := p_closeAll (n := n) (k := k) 4 k 0 z2 (by omega) (by omega)
  have g1 : sn_closeAll_b2 n k k z2 0 = some z3 := g1
  rw [g1, bo_some]
  obtain ⟨m3, h1, h2, h3, h4⟩ := m_close22 (k := k) 4 k 0 (si (si (si (si zm 12 1) 8 0) 4 (-1)) 14 0) (by omega) (by omega)
  have h1 : rm_close_b22 k k (si (si (si (si zm 12 1) 8 0) 4 (-1)) 14 0) 0 = some m3 := h1
  rw [h1]
  have c1 : ∀ x, x ≠ 9 → x ≠ 24 → x ≠ 25 → z3.1 x = zc.1 x := fun x x1 x2 x3 => by rw [g2, f2, si_o x3, si_o x2, si_o x1]
  have c2 : ∀ x, x ≠ 10 → x ≠ 12 → x ≠ 16 → z3.2 x = zc.2 x := fun x x1 x2 x3 => by rw [g4 x x3, f5 x x1 x2]; rfl
  have c9 : z3.1 9 = 1 := by rw [g2, f2, si_o (by omega), si_o (by omega), si_s]
  have c24 : z3.1 24 = 0 := by rw [g2, f2, si_o (by omega), si_s]
  have c25 : z3.1 25 = -1 := by rw [g2, f2, si_s]
  have c16 : z3.2 16 = bw (zc.2 16) 0 4 (fun _ => 0) := by rw [g3, f5 16 (by omega) (by omega)]; rfl
  have c16z : ∀ i, i < 4 → z3.2 16 i = 0 := fun i hi => by
    rw [c16]
    have := bw_in (B := zc.2 16) (D := fun _ => 0) (p := 0) hi
    rw [Nat.zero_add] at this
    exact this
  have n1 : ∀ x, x ≠ 4 → x ≠ 8 → x ≠ 12 → x ≠ 14 → m3.1 x = zm.1 x := fun x x1 x2 x3 x4 => by rw [h2, si_o x4, si_o x1, si_o x2, si_o x3]
  have n2 : ∀ x, x ≠ 5 → m3.2 x = zm.2 x := fun x x1 => by rw [h4 x x1]; rfl
  refine ⟨_, _, rfl, rfl, T, fun _ => [], ?_, ?_, Or.inr ⟨c9, ⟨c24, c25, ?_, c16z⟩, ?_⟩⟩
  · unfold Base
    rw [c1 20 (by omega) (by omega) (by omega), c2 7 (by omega) (by omega) (by omega), c2 8 (by omega) (by omega) (by omega), c1 5 (by omega) (by omega) (by omega), c2 5 (by omega) (by omega) (by omega), c1 8 (by omega) (by omega) (by omega), c2 17 (by omega) (by omega) (by omega), c1 10 (by omega) (by omega) (by omega), c24, c25]
    exact ⟨b1, b2, b3, ⟨0, rfl, by omega, fun i hi => by omega⟩, b5, b6, b7, Or.inl rfl, fun i hi => Or.inl (c16z i hi), b10, b11⟩
  · unfold Eqv
    rw [c1 20 (by omega) (by omega) (by omega), c2 7 (by omega) (by omega) (by omega), c2 8 (by omega) (by omega) (by omega), c1 5 (by omega) (by omega) (by omega), c2 5 (by omega) (by omega) (by omega), c2 9 (by omega) (by omega) (by omega), c1 8 (by omega) (by omega) (by omega), c2 17 (by omega) (by omega) (by omega), c1 10 (by omega) (by omega) (by omega), c1 11 (by omega) (by omega) (by omega), c24, c25, c9, c16]
    rw [n1 0 (by omega) (by omega) (by omega) (by omega), n1 5 (by omega) (by omega) (by omega) (by omega), n1 6 (by omega) (by omega) (by omega) (by omega), n1 13 (by omega) (by omega) (by omega) (by omega), n1 24 (by omega) (by omega) (by omega) (by omega), n1 25 (by omega) (by omega) (by omega) (by omega), n2 1 (by omega), n2 2 (by omega), n2 3 (by omega), n2 4 (by omega), n2 6 (by omega)]
    refine ⟨e1, e2, e3, e4, e5, ?_, e7, ?_, e9, e10, ?_, ?_, e13, e14, e15⟩
    · rw [h3]
      show bw (zm.2 5) 0 4 _ = _
      rw [e6]
    · rw [h2, si_o (by omega), si_s]
    · rw [h2, si_o (by omega), si_o (by omega), si_s]
    · rw [h2, si_o (by omega), si_o (by omega), si_o (by omega), si_s]
  · refine Ix_nil (fun t ht => ?_) (fun j hj => ?_)
    · rw [g4 10 (by omega)]; exact f3 t ht
    · rw [g4 12 (by omega)]; exact f4 j hj
  · rw [h2, si_s]
theorem a_lose (hn : n ≤ 12) {H : Nat} (hH : H ≤ n * 200) : ∀ (d fu i c : Nat) (zc zm : SS), i < 2147483648 → d = H - i → d < fu → zc.1 24 = nI H → zm.1 8 = nI H → zm.2 4 = zc.2 9 → zm.2 1 = zc.2 7 → (∀ i, i < H → ∃ c, c < n * 200 ∧ zc.2 9 i = nI c) → BOK (zc.2 7) (n * 200) →
    ∃ zc' zm', sg_loseBehind_b4 n k fu zc (nI c) (nI i) = some (nI (c + d), zc') ∧ rm_crash_b26 k fu zm (nI c) (nI i) = (bo (rm_close k zm') fun z_1 => some (nI (c + d), z_1)) ∧ zm'.2 1 = zc'.2 7 ∧ BOK (zc'.2 7) (n * 200) ∧ zc'.1 = zc.1 ∧ zm'.1 = zm.1 ∧ (∀ x, x ≠ 7 → zc'.2 x = zc.2 x) ∧ (∀ x, x ≠ 1 → zm'.2 x = zm.2 x) := by
  intro d
  induction d with
  | zero =>
    intro fu i c zc zm hi hd hf h24 h8 h4 h1 hc hB
    cases fu with
    | zero => omega
    | succ fu =>
      have h0 : H ≤ i := by omega
      simp (disch := omega) only [sg_loseBehind_b4, rm_crash_b26, h24, h8, le_n, h0, if_true]
      exact ⟨zc, zm, rfl, rfl, h1, hB, rfl, rfl, fun x _ => rfl, fun x _ => rfl⟩
  | succ d ih =>
    intro fu i c zc zm hi hd hf h24 h8 h4 h1 hc hB
    cases fu with
    | zero => omega
    | succ fu =>
      have h0 : ¬ H ≤ i := by omega
      obtain ⟨a, ha, ea⟩ := hc i (by omega)
      simp (disch := omega) only [sg_loseBehind_b4, rm_crash_b26, h24, h8, le_n, h0, if_false, ck_n, tn_n, if_true, na_1, h4, ea]
      obtain ⟨zc', zm', f1, f2, f3, f4, f5, f6, f7, f8⟩ := ih fu (i + 1) (c + 1) (sa zc 7 a 0) (sa zm 1 a 0) (by omega) (by omega) (by omega) h24 h8 (by rw [sa_o (by omega), sa_o (by omega), h4]) (by rw [sa_s, sa_s, h1]) (fun i hi => by rw [sa_o (by omega)]; exact hc i hi) (fun q hq => by
        rw [sa_s]
        by_cases hqa : q = a
        · subst hqa; rw [pk_us]; exact ⟨0, by omega, rfl⟩
        · rw [pk_un hqa]; exact hB q hq)
      rw [show c + 1 + d = c + (d + 1) by omega] at f1 f2
      exact ⟨zc', zm', f1, f2, f3, f4, by rw [f5]; rfl, by rw [f6]; rfl, fun x hx => by rw [f7 x hx, sa_o hx], fun x hx => by rw [f8 x hx, sa_o hx]⟩
theorem si_crash (hn : n ≤ 12) (hk : 3000 ≤ k) : Sim_crash n k (RelN n) := by
  intro zc zm a1 h
  have hR0 := Rel_f (v := 0) h
  obtain ⟨T, R, hb, he, hm⟩ := h
  obtain ⟨b1, b2, b3, ⟨H, b4, b4', b4''⟩, b5, b6, b7, b8, b9, b10, b11⟩ := hb
  obtain ⟨e1, e2, e3, e4, e5, e6, e7, e8, e9, e10, e11, e12, e13, e14, e15⟩ := he
  unfold gs_crash rm_crash sg_loseBehind
  rw [e12]
  rcases hm with ⟨h9, ho, h14⟩ | ⟨h9, hc, h14⟩
  · rw [if_pos h9, if_pos h9]
    by_cases h1 : 0 ≤ a1
    · rw [if_pos h1, if_pos h1]
      obtain ⟨i, hi, rfl⟩ := nI_of (Int32.not_lt.mpr h1)
      have hH : H ≤ n * 200 := by
        have := sumT_le (T := T) (c := 200) (n := n) (fun s hs => (b3 s hs).2)
        omega
      obtain ⟨zc', zm', f1, f2, f3, f4, f5, f6, f7, f8⟩ := a_lose (k := k) hn hH (H - i) k i 0 zc (si zm 1 0) hi rfl (by omega) b4 (by rw [si_o (by omega), e11, b4]) (by rw [si_a, e5]) (by rw [si_a, e2]) b4'' b2
      have f1 : sg_loseBehind_b4 n k k zc 0 (nI i) = some (nI (0 + (H - i)), zc') := f1
      have f2 : rm_crash_b26 k k (si zm 1 0) 0 (nI i) = _ := f2
      rw [f1, f2, bi_some]
      have hb2 : Base n zc' T := by
        unfold Base
        rw [f5, f7 8 (by omega), f7 9 (by omega), f7 5 (by omega), f7 16 (by omega), f7 17 (by omega)]
        exact ⟨b1, f4, b3, ⟨H, b4, b4', b4''⟩, b5, b6, b7, b8, b9, b10, b11⟩
      have he2 : Eqv zc' zm' := by
        unfold Eqv
        rw [f5, f6, f3, f7 8 (by omega), f7 9 (by omega), f7 5 (by omega), f7 16 (by omega), f7 17 (by omega), f8 2 (by omega), f8 3 (by omega), f8 4 (by omega), f8 5 (by omega), f8 6 (by omega)]
        simp (disch := omega) only [si_o, si_a]
        exact ⟨e1, trivial, e3, e4, e5, e6, e7, e8, e9, e10, e11, e12, e13, e14, e15⟩
      obtain ⟨zc2, zm2, g1, g2, g3⟩ := a_shut (k := k) hn hk hb2 he2
      rw [g1, g2, bo_some, bo_some]
      exact ⟨_, _, _, rfl, rfl, g3⟩
    · rw [if_neg h1, if_neg h1]
      exact ⟨_, _, _, rfl, rfl, hR0⟩
  · rw [h9, ifz1, ifz1]
    exact ⟨_, _, _, rfl, rfl, hR0⟩
end CL
