section PL
variable {n k : Nat} {z : SS}
theorem m_lives92 {N x : Nat} (hN : N ≤ 160) (hx : x < N) (hr : z.1 15 = nI N) : ∀ (d fu j : Nat) (x2 x3 : Int32) (P Q : Prop), x2 = gT P → x3 = gT Q → j + d = N → d < fu → rm_lives_b92 k fu z (nI x) x2 x3 (nI j) = some (gT (P ∧ (Q ∨ ∃ i, j ≤ i ∧ i < N ∧ z.2 8 i = z.2 8 x ∧ (z.2 9 i).toInt < (z.2 9 x).toInt)), z) := by
  intro d
  induction d with
  | zero =>
    intro fu j x2 x3 P Q h2 h3 hj hf
    cases fu with
    | zero => omega
    | succ fu =>
      have h1 : N ≤ j := by omega
      simp (disch := omega) only [rm_lives_b92, hr, le_n, h1, if_true]
      by_cases hP : P
      · rw [if_neg (fun h => by rw [h2, gT_0] at h; exact h hP)]
        by_cases hQ : Q
        · rw [if_neg (fun h => by rw [h3, gT_0] at h; exact h hQ), gT_t ⟨hP, Or.inl hQ⟩]
        · rw [if_pos (by rw [h3, gT_0]; exact hQ), gT_f (fun h => h.2.elim hQ (fun ⟨i, q, _⟩ => by omega))]
      · rw [if_pos (by rw [h2, gT_0]; exact hP), gT_f (fun h => hP h.1)]
  | succ d ih =>
    intro fu j x2 x3 P Q h2 h3 hj hf
    cases fu with
    | zero => omega
    | succ fu =>
      have h1 : ¬ N ≤ j := by omega
      simp (disch := omega) only [rm_lives_b92, hr, le_n, h1, if_false, ck_n, tn_n, if_true, na_1]
      simp only [i_le]
      have exS : ∀ (R : Nat → Prop), (∃ i, j ≤ i ∧ R i) ↔ ((∃ i, j + 1 ≤ i ∧ R i) ∨ R j) := fun R => ⟨fun ⟨i, q1, q2⟩ => by
        rcases Nat.lt_or_ge j i with q | q
        · exact Or.inl ⟨i, q, q2⟩
        · have : i = j := by omega
          subst this
          exact Or.inr q2, fun h => by
        rcases h with ⟨i, q1, q2⟩ | q
        · exact ⟨i, by omega, q2⟩
        · exact ⟨j, by omega, q⟩⟩
      by_cases hQ : Q
      · rw [if_neg (fun h => by rw [h3, gT_0] at h; exact h hQ), ih fu (j + 1) x2 1 P True h2 (gT_t trivial).symm (by omega) (by omega)]
        congr 3
        exact propext ⟨fun h => ⟨h.1, Or.inl hQ⟩, fun h => ⟨h.1, Or.inl trivial⟩⟩
      · rw [if_pos (by rw [h3, gT_0]; exact hQ)]
        by_cases hK : z.2 8 j = z.2 8 x
        · rw [if_pos hK]
          by_cases hv : (z.2 9 x).toInt ≤ (z.2 9 j).toInt
          · rw [if_pos hv, ih fu (j + 1) x2 0 P False h2 (gT_f (fun h => h)).symm (by omega) (by omega)]
            congr 3
            rw [exS]
            exact propext ⟨fun h => ⟨h.1, h.2.elim False.elim (fun q => Or.inr (Or.inl q))⟩, fun h => ⟨h.1, Or.inr (h.2.elim (fun q => absurd q hQ) (fun q => q.elim (fun w => w) (fun w => by omega)))⟩⟩
          · rw [if_neg hv, ih fu (j + 1) x2 1 P True h2 (gT_t trivial).symm (by omega) (by omega)]
            congr 3
            exact propext ⟨fun h => ⟨h.1, Or.inr ⟨j, Nat.le_refl _, by omega, hK, by omega⟩⟩, fun h => ⟨h.1, Or.inl trivial⟩⟩
        · rw [if_neg hK, ih fu (j + 1) x2 0 P False h2 (gT_f (fun h => h)).symm (by omega) (by omega)]
          congr 3
          rw [exS]
          exact propext ⟨fun h => ⟨h.1, h.2.elim False.elim (fun q => Or.inr (Or.inl q))⟩, fun h => ⟨h.1, Or.inr (h.2.elim (fun q => absurd q hQ) (fun q => q.elim (fun w => w) (fun w => absurd w.2.1 hK)))⟩⟩
theorem m_lives24 {N x : Nat} (hN : N ≤ 160) (hk : 3000 ≤ k) (hkn : z.1 14 = 1) (hx : x < N) (hr : z.1 15 = nI N) : ∀ (d fu i : Nat) (x2 : Int32) (P : Prop), x2 = gT P → i + d = 4 → d < fu → rm_lives_b24 k fu z (nI x) x2 (nI i) = some (gT ((P ∨ ∃ j, i ≤ j ∧ j < 4 ∧ z.2 5 j ≠ 0 ∧ Best (z.2 8) (z.2 9) N (z.2 8 x) (z.2 6 j) (nI x)) ∧ (z.2 10 x = 0 ∨ ∃ i, i < N ∧ z.2 8 i = z.2 8 x ∧ (z.2 9 i).toInt < (z.2 9 x).toInt)), z) := by
  intro d
  induction d with
  | zero =>
    intro fu i x2 P h2 hj hf
    cases fu with
    | zero => omega
    | succ fu =>
      have h1 : 4 ≤ i := by omega
      simp (disch := omega) only [rm_lives_b24, c_le_4, h1, if_true, ck_n, tn_n, rm_lives_b88]
      have e0 : (P ∨ ∃ j, i ≤ j ∧ j < 4 ∧ z.2 5 j ≠ 0 ∧ Best (z.2 8) (z.2 9) N (z.2 8 x) (z.2 6 j) (nI x)) = P := propext ⟨fun h => h.elim (fun q => q) (fun ⟨j, q1, q2, _⟩ => by omega), Or.inl⟩
      have go : ∀ (y : Int32) (Q : Prop), y = gT Q → rm_lives_b92 k k z (nI x) x2 y 0 = some (gT (P ∧ (Q ∨ ∃ i, 0 ≤ i ∧ i < N ∧ z.2 8 i = z.2 8 x ∧ (z.2 9 i).toInt < (z.2 9 x).toInt)), z) := fun y Q hy => m_lives92 hN hx hr N k 0 x2 y P Q h2 hy (by omega) (by omega)
      rw [e0]
      by_cases hg : z.2 10 x = 0
      · rw [if_pos hg, go 1 True (gT_t trivial).symm]
        congr 3
        exact propext ⟨fun h => ⟨h.1, Or.inl hg⟩, fun h => ⟨h.1, Or.inl trivial⟩⟩
      · rw [if_neg hg, go 0 False (gT_f (fun h => h)).symm]
        congr 3
        exact propext ⟨fun h => ⟨h.1, h.2.elim False.elim (fun ⟨i, _, q⟩ => Or.inr ⟨i, q⟩)⟩, fun h => ⟨h.1, h.2.elim (fun q => absurd q hg) (fun ⟨i, q⟩ => Or.inr ⟨i, Nat.zero_le _, q⟩)⟩⟩
  | succ d ih =>
    intro fu i x2 P h2 hj hf
    cases fu with
    | zero => omega
    | succ fu =>
      have h1 : ¬ 4 ≤ i := by omega
      simp (disch := omega) only [rm_lives_b24, c_le_4, h1, if_false, ck_n, tn_n, if_true, na_1]
      have exS : ∀ (R : Nat → Prop), (∃ j, i ≤ j ∧ R j) ↔ ((∃ j, i + 1 ≤ j ∧ R j) ∨ R i) := fun R => ⟨fun ⟨j, q1, q2⟩ => by
        rcases Nat.lt_or_ge i j with q | q
        · exact Or.inl ⟨j, q, q2⟩
        · have : i = j := by omega
          subst this
          exact Or.inr q2, fun h => by
        rcases h with ⟨j, q1, q2⟩ | q
        · exact ⟨j, by omega, q2⟩
        · exact ⟨i, by omega, q⟩⟩
      by_cases hP : P
      · rw [if_neg (fun h => by rw [h2, gT_0] at h; exact h hP), ih fu (i + 1) 1 True (gT_t trivial).symm (by omega) (by omega)]
        congr 3
        exact propext ⟨fun h => ⟨Or.inl hP, h.2⟩, fun h => ⟨Or.inl trivial, h.2⟩⟩
      · rw [if_pos (by rw [h2, gT_0]; exact hP)]
        have skip : ¬ (i < 4 ∧ z.2 5 i ≠ 0 ∧ Best (z.2 8) (z.2 9) N (z.2 8 x) (z.2 6 i) (nI x)) → rm_lives_b24 k fu z (nI x) 0 (nI (i + 1)) = some (gT ((P ∨ ∃ j, i ≤ j ∧ j < 4 ∧ z.2 5 j ≠ 0 ∧ Best (z.2 8) (z.2 9) N (z.2 8 x) (z.2 6 j) (nI x)) ∧ (z.2 10 x = 0 ∨ ∃ i, i < N ∧ z.2 8 i = z.2 8 x ∧ (z.2 9 i).toInt < (z.2 9 x).toInt)), z) := by
          intro hs
          rw [ih fu (i + 1) 0 False (gT_f (fun h => h)).symm (by omega) (by omega), exS]
          congr 3
          exact propext ⟨fun h => ⟨h.1.elim False.elim (fun q => Or.inr (Or.inl q)), h.2⟩, fun h => ⟨Or.inr (h.1.elim (fun q => absurd q hP) (fun q => q.elim (fun w => w) (fun w => absurd w hs))), h.2⟩⟩
        by_cases ho : z.2 5 i = 0
        · rw [if_pos ho]
          exact skip (fun h => h.2.1 ho)
        · rw [if_neg ho]
          obtain ⟨r, e1, b1⟩ := m_rowOf (k := k) (z := z) hN hk hkn hr (z.2 8 x) (z.2 6 i)
          rw [e1, bi_some]
          by_cases hrx : r = nI x
          · subst hrx
            rw [if_pos rfl, ih fu (i + 1) 1 True (gT_t trivial).symm (by omega) (by omega)]
            congr 3
            exact propext ⟨fun h => ⟨Or.inr ⟨i, Nat.le_refl _, by omega, ho, b1⟩, h.2⟩, fun h => ⟨Or.inl trivial, h.2⟩⟩
          · rw [if_neg hrx]
            exact skip (fun h => hrx (Best_uniq b1 h.2.2))
theorem last_ti : (2147483647 : Int32).toInt = 2147483647 := by decide
theorem i_le_last (x : Int32) : x.toInt ≤ 2147483647 := by
  have := Int32.toInt_lt x
  omega
theorem Lv_iff {key num gr op mom : Nat → Int32} {N x : Nat} (hN : N ≤ 160) (hx : x < N) : ((Best key num N (key x) 2147483647 (nI x) ∨ ∃ j, j < 4 ∧ op j ≠ 0 ∧ Best key num N (key x) (mom j) (nI x)) ∧ (gr x = 0 ∨ ∃ i, i < N ∧ key i = key x ∧ (num i).toInt < (num x).toInt)) ↔ Lv key num gr op mom N x := by
  unfold Lv
  rw [Best_at hx (by omega), last_ti]
  have hM : ∀ j, Best key num N (key x) (mom j) (nI x) ↔ _ := fun j => Best_at hx (by omega)
  constructor
  · rintro ⟨h1, h2⟩
    refine ⟨?_, h2, ?_⟩
    · intro j hj hk
      rcases h1 with ⟨_, h3, h4⟩ | ⟨i, h3, h4, h5⟩
      · have := (h4 j (by omega) hk (i_le_last _)).2 hj
        omega
      · obtain ⟨_, h6, h7⟩ := (hM i).mp h5
        intro h8
        have := (h7 j (by omega) hk (by omega)).2 hj
        omega
    · rcases h1 with ⟨_, h3, h4⟩ | ⟨i, h3, h4, h5⟩
      · exact Or.inl (fun j hj hk => (h4 j hj hk (i_le_last _)).1)
      · obtain ⟨_, h6, h7⟩ := (hM i).mp h5
        refine Or.inr ⟨i, h3, h4, h6, fun j hj hk hg => ?_⟩
        rcases Int.lt_or_le (mom i).toInt (num j).toInt with q | q
        · exact q
        · have := (h7 j hj hk q).1
          omega
  · rintro ⟨h1, h2, h3⟩
    refine ⟨?_, h2⟩
    rcases h3 with h3 | ⟨i, h3, h4, h5, h6⟩
    · refine Or.inl ⟨rfl, i_le_last _, fun j hj hk _ => ⟨h3 j hj hk, fun hlt => ?_⟩⟩
      have := h3 j hj hk
      have := h1 j hlt hk
      omega
    · refine Or.inr ⟨i, h3, h4, (hM i).mpr ⟨rfl, h5, fun j hj hk hm => ?_⟩⟩
      have h7 : (num j).toInt ≤ (num x).toInt := by
        rcases Int.lt_or_le (num x).toInt (num j).toInt with q | q
        · have := h6 j hj hk q
          omega
        · exact q
      refine ⟨h7, fun hlt => ?_⟩
      have := h1 j hlt hk
      omega
theorem m_lives {N x : Nat} (hN : N ≤ 160) (hk : 3000 ≤ k) (hkn : z.1 14 = 1) (hx : x < N) (hr : z.1 15 = nI N) : rm_lives k z (nI x) = some (gT (Lv (z.2 8) (z.2 9) (z.2 10) (z.2 5) (z.2 6) N x), z) := by
  unfold rm_lives
  obtain ⟨r, e1, b1⟩ := m_rowOf (k := k) (z := z) hN hk hkn hr (z.2 8 x) 2147483647
  simp (disch := omega) only [ck_n, tn_n, if_true]
  rw [e1, bi_some]
  have go : ∀ (y : Int32) (P : Prop), y = gT P → rm_lives_b21 k z (nI x) y = some (gT ((P ∨ ∃ j, 0 ≤ j ∧ j < 4 ∧ z.2 5 j ≠ 0 ∧ Best (z.2 8) (z.2 9) N (z.2 8 x) (z.2 6 j) (nI x)) ∧ (z.2 10 x = 0 ∨ ∃ i, i < N ∧ z.2 8 i = z.2 8 x ∧ (z.2 9 i).toInt < (z.2 9 x).toInt)), z) := fun y P hy => m_lives24 hN hk hkn hx hr 4 k 0 y P hy (by omega) (by omega)
  rw [← Lv_iff (gr := z.2 10) (op := z.2 5) (mom := z.2 6) hN hx]
  by_cases hrx : r = nI x
  · subst hrx
    rw [if_pos rfl, go 1 True (gT_t trivial).symm]
    congr 3
    exact propext ⟨fun h => ⟨Or.inl b1, h.2⟩, fun h => ⟨Or.inl trivial, h.2⟩⟩
  · rw [if_neg hrx, go 0 False (gT_f (fun h => h)).symm]
    congr 3
    exact propext ⟨fun h => ⟨h.1.elim False.elim (fun ⟨j, _, q⟩ => Or.inr ⟨j, q⟩), h.2⟩, fun h => ⟨h.1.elim (fun q => absurd (Best_uniq b1 q) hrx) (fun ⟨j, q⟩ => Or.inr ⟨j, Nat.zero_le _, q⟩), h.2⟩⟩
end PL
def sumR (f : Nat → Nat) : Nat → Nat → Nat
  | _, 0 => 0
  | lo, d + 1 => f lo + sumR f (lo + 1) d
noncomputable def cw (P : Nat → Prop) (w : Nat → Nat) (j : Nat) : Nat := @ite _ (P j) (Classical.propDecidable _) (w j) 0
theorem cw_t {P : Nat → Prop} {w : Nat → Nat} {j : Nat} (h : P j) : cw P w j = w j := by unfold cw; rw [if_pos h]
theorem cw_f {P : Nat → Prop} {w : Nat → Nat} {j : Nat} (h : ¬ P j) : cw P w j = 0 := by unfold cw; rw [if_neg h]
theorem sumR_congr {f g : Nat → Nat} : ∀ {d lo lo' : Nat}, (∀ i, i < d → f (lo + i) = g (lo' + i)) → sumR f lo d = sumR g lo' d := by
  intro d
  induction d with
  | zero => intro lo lo' _; rfl
  | succ d ih =>
    intro lo lo' h
    show f lo + sumR f (lo + 1) d = g lo' + sumR g (lo' + 1) d
    have h0 : f lo = g lo' := h 0 (by omega)
    rw [h0, ih (lo' := lo' + 1) (fun i hi => by
      have := h (i + 1) (by omega)
      rw [show lo + 1 + i = lo + (i + 1) by omega, show lo' + 1 + i = lo' + (i + 1) by omega]
      exact this)]
theorem sumR_zero {f : Nat → Nat} : ∀ {d lo : Nat}, (∀ i, i < d → f (lo + i) = 0) → sumR f lo d = 0 := by
  intro d
  induction d with
  | zero => intro lo _; rfl
  | succ d ih =>
    intro lo h
    show f lo + sumR f (lo + 1) d = 0
    have h0 : f lo = 0 := h 0 (by omega)
    rw [h0, ih (fun i hi => by
      have := h (i + 1) (by omega)
      rw [show lo + 1 + i = lo + (i + 1) by omega]
      exact this)]
theorem sumR_split {f : Nat → Nat} : ∀ {d d' lo : Nat}, sumR f lo (d + d') = sumR f lo d + sumR f (lo + d) d' := by
  intro d
  induction d with
  | zero => intro d' lo; show _ = 0 + _; rw [Nat.zero_add, Nat.zero_add, Nat.add_zero]
  | succ d ih =>
    intro d' lo
    rw [show d + 1 + d' = d + d' + 1 by omega]
    show f lo + sumR f (lo + 1) (d + d') = f lo + sumR f (lo + 1) d + _
    rw [ih, show lo + 1 + d = lo + (d + 1) by omega]
    omega
theorem sumR_le {f : Nat → Nat} {c : Nat} : ∀ {d lo : Nat}, (∀ i, i < d → f (lo + i) ≤ c) → sumR f lo d ≤ d * c := by
  intro d
  induction d with
  | zero => intro lo _; show 0 ≤ _; omega
  | succ d ih =>
    intro lo h
    show f lo + sumR f (lo + 1) d ≤ _
    have h0 : f lo ≤ c := h 0 (by omega)
    have := ih (lo := lo + 1) (fun i hi => by
      have := h (i + 1) (by omega)
      rw [show lo + 1 + i = lo + (i + 1) by omega]
      exact this)
    rw [Nat.succ_mul]
    omega
noncomputable def fl (P : Nat → Prop) : Nat → Nat → List Nat
  | _, 0 => []
  | lo, d + 1 => @ite _ (P lo) (Classical.propDecidable _) (lo :: fl P (lo + 1) d) (fl P (lo + 1) d)
theorem fl_t {P : Nat → Prop} {lo d : Nat} (h : P lo) : fl P lo (d + 1) = lo :: fl P (lo + 1) d := by
  show @ite _ (P lo) (Classical.propDecidable _) _ _ = _
  rw [if_pos h]
theorem fl_f {P : Nat → Prop} {lo d : Nat} (h : ¬ P lo) : fl P lo (d + 1) = fl P (lo + 1) d := by
  show @ite _ (P lo) (Classical.propDecidable _) _ _ = _
  rw [if_neg h]
theorem fl_zero {P : Nat → Prop} : ∀ {d lo : Nat}, (∀ i, i < d → ¬ P (lo + i)) → fl P lo d = [] := by
  intro d
  induction d with
  | zero => intro lo _; rfl
  | succ d ih =>
    intro lo h
    have h0 : ¬ P lo := h 0 (by omega)
    rw [fl_f h0, ih (fun i hi => by
      have := h (i + 1) (by omega)
      rw [show lo + 1 + i = lo + (i + 1) by omega]
      exact this)]
theorem fl_split {P : Nat → Prop} : ∀ {d d' lo : Nat}, fl P lo (d + d') = fl P lo d ++ fl P (lo + d) d' := by
  intro d
  induction d with
  | zero => intro d' lo; show _ = [] ++ _; rw [Nat.zero_add, Nat.add_zero]; rfl
  | succ d ih =>
    intro d' lo
    rw [show d + 1 + d' = d + d' + 1 by omega, show lo + (d + 1) = lo + 1 + d by omega]
    by_cases h : P lo
    · rw [fl_t h, fl_t h, ih]; rfl
    · rw [fl_f h, fl_f h, ih]
theorem fl_shift {P Q : Nat → Prop} {b b' : Nat} : ∀ {d lo : Nat}, (∀ i, i < d → (P (b + (lo + i)) ↔ Q (lo + i))) → fl P (b + lo) d = (fl Q lo d).map (fun i => b + i) := by
  intro d
  induction d with
  | zero => intro lo _; rfl
  | succ d ih =>
    intro lo h
    have h0 : P (b + lo) ↔ Q lo := h 0 (by omega)
    have h1 := ih (lo := lo + 1) (fun i hi => by
      have := h (i + 1) (by omega)
      rw [show lo + 1 + i = lo + (i + 1) by omega]
      exact this)
    rw [show b + (lo + 1) = b + lo + 1 by omega] at h1
    by_cases hp : Q lo
    · rw [fl_t (h0.mpr hp), fl_t hp, h1]; rfl
    · rw [fl_f (fun q => hp (h0.mp q)), fl_f hp, h1]
theorem fl_mem {P : Nat → Prop} {a : Nat} : ∀ {d lo : Nat}, a ∈ fl P lo d → lo ≤ a ∧ a < lo + d ∧ P a := by
  intro d
  induction d with
  | zero => intro lo h; cases h
  | succ d ih =>
    intro lo h
    by_cases hp : P lo
    · rw [fl_t hp] at h
      rcases List.mem_cons.mp h with q | q
      · subst q; exact ⟨Nat.le_refl _, by omega, hp⟩
      · have := ih q
        exact ⟨by omega, by omega, this.2.2⟩
    · rw [fl_f hp] at h
      have := ih h
      exact ⟨by omega, by omega, this.2.2⟩
theorem fl_len {P : Nat → Prop} : ∀ {d lo : Nat}, (fl P lo d).length ≤ d := by
  intro d
  induction d with
  | zero => intro lo; exact Nat.le_refl _
  | succ d ih =>
    intro lo
    have := ih (lo := lo + 1)
    by_cases hp : P lo
    · rw [fl_t hp]; simp only [List.length_cons]; omega
    · rw [fl_f hp]; omega
theorem fl_sum {P : Nat → Prop} {w : Nat → Nat} : ∀ {d lo : Nat}, ((fl P lo d).map w).sum = sumR (cw P w) lo d := by
  intro d
  induction d with
  | zero => intro lo; rfl
  | succ d ih =>
    intro lo
    show _ = cw P w lo + sumR (cw P w) (lo + 1) d
    by_cases hp : P lo
    · rw [fl_t hp, cw_t hp, ← ih]; rfl
    · rw [fl_f hp, cw_f hp, ← ih]; omega
