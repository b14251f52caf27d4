theorem nI_xor {a b : Nat} (ha : a < 256) (hb : b < 256) : ∃ c, c < 256 ∧ nI a ^^^ nI b = nI c := by
  refine ⟨a ^^^ b, Nat.xor_lt_two_pow (n := 8) ha hb, ?_⟩
  apply Int32.toBitVec_inj.mp
  apply BitVec.eq_of_toNat_eq
  rw [Int32.toBitVec_xor, BitVec.toNat_xor, pk_tn (by omega), pk_tn (by omega), pk_tn]
  have := Nat.xor_lt_two_pow (n := 8) ha hb
  omega
theorem if00 {α : Type} {a b : α} : (if (0 : Int32) ≤ 0 then a else b) = a := if_pos (by decide)
section RDS
variable {n k : Nat}
theorem has_in {zc : SS} (h1n : 1 ≤ n) (hn : n ≤ 12) (h20 : zc.1 20 = nI n) {zm : SS} (x : Int32) : ((x < 0 ∨ zc.1 20 ≤ x) ∧ sg_has n k zc x = some 0 ∧ rm_in k zm x 0 (nI n - 1) = some 0) ∨ (∃ s, s < n ∧ x = nI s ∧ sg_has n k zc x = some 1 ∧ rm_in k zm x 0 (nI n - 1) = some 1) := by
  unfold sg_has rm_in
  have e : nI n - 1 = nI (n - 1) := pk_sub (b := 1) h1n
  rw [e]
  by_cases h : x < 0
  · rw [if_pos h, if_pos h]
    exact Or.inl ⟨Or.inl h, rfl, rfl⟩
  · obtain ⟨j, hj, rfl⟩ := nI_of h
    rw [if_neg h, if_neg h]
    simp (disch := omega) only [h20, le_n, lt_n]
    by_cases h2 : n ≤ j
    · rw [if_pos h2, if_pos (show n - 1 < j by omega)]
      exact Or.inl ⟨Or.inr h2, rfl, rfl⟩
    · rw [if_neg h2, if_neg (show ¬ n - 1 < j by omega)]
      exact Or.inr ⟨j, by omega, rfl, rfl, rfl⟩
theorem cell_is {zc zm : SS} (h1n : 1 ≤ n) (hn : n ≤ 12) (h20 : zc.1 20 = nI n) (h0 : zm.1 0 = nI n) (x y : Int32) : (noByte zc x y ∧ rm_isByte k zm x y = some 0) ∨ (∃ s i, s < n ∧ i < 200 ∧ x = nI s ∧ y = nI i ∧ gs_cellOf n k zc x y = some (nI (s * 200 + i)) ∧ rm_isByte k zm x y = some 1) := by
  unfold noByte gs_cellOf rm_isByte
  rw [h0]
  rcases has_in (n := n) (k := k) (zm := zm) h1n hn h20 x with ⟨g1, g2, g3⟩ | ⟨s, hs, rfl, g2, g3⟩
  · rw [g3, bo_some, ifz0]
    exact Or.inl ⟨g1.elim Or.inl (fun q => Or.inr (Or.inl q)), rfl⟩
  · rw [g2, g3, bo_some, bo_some, ifz1, ifz1]
    unfold rm_in
    by_cases h : y < 0
    · rw [if_pos h, bo_some, ifz0]
      exact Or.inl ⟨Or.inr (Or.inr (Or.inl h)), rfl⟩
    · obtain ⟨j, hj, rfl⟩ := nI_of h
      have e199 : ((199 : Int32) < nI j) = (199 < j) := lt_n (a := 199) (by omega) (by omega)
      simp (disch := omega) only [neg_n, if_false, n_lt_200, c_le_200, e199]
      by_cases h2 : 199 < j
      · rw [if_pos h2, bo_some, ifz0]
        exact Or.inl ⟨Or.inr (Or.inr (Or.inr (by omega))), rfl⟩
      · rw [if_neg h2, bo_some, ifz1, if_pos (show j < 200 by omega)]
        refine Or.inr ⟨s, j, hs, by omega, rfl, rfl, ?_, rfl⟩
        rw [nm_200, nI_add]
theorem si_byteAt (h1n : 1 ≤ n) (hn : n ≤ 12) (hk : 3000 ≤ k) : Sim_byteAt n k (RelN n) := by
  intro zc zm a1 a2 h
  have hR1 := fun v => Rel_f (v := v) h
  obtain ⟨T, R, hb, he, hm⟩ := h
  obtain ⟨b1, b2, b3, b4, b5, b6, b7, b8, b9, b10, b11⟩ := hb
  obtain ⟨e1, e2, e3, e4, e5, e6, e7, e8, e9, e10, e11, e12, e13, e14, e15⟩ := he
  unfold gs_byteAt rm_byteAt rm_thrown
  rcases cell_is (k := k) (zm := zm) h1n hn b1 (by rw [e1, b1]) a1 a2 with ⟨g1, g2⟩ | ⟨s, i, hs, hi, rfl, rfl, g1, g2⟩
  · rw [g2, bo_some, ifz0]
    unfold rm_byteAt_b15
    rw [if_neg (by decide)]
    exact Or.inr ⟨g1, _, _, rfl, by rw [si_s], hR1 1⟩
  · rw [g1, g2, bo_some, bo_some, ifz1]
    unfold rm_byteAt_b15
    rw [if00]
    simp (disch := omega) only [mn_200, nI_add, ck_n, tn_n, if_true, e2, Nat.mul_comm 200 s]
    exact Or.inl ⟨_, _, rfl, rfl, by rw [si_s], hR1 0⟩
theorem si_poke (h1n : 1 ≤ n) (hn : n ≤ 12) (hk : 3000 ≤ k) : Sim_poke n k (RelN n) := by
  intro zc zm a1 a2 a3 h
  have hR1 := fun v => Rel_f (v := v) h
  obtain ⟨T, R, hb, he, hm⟩ := h
  obtain ⟨b1, b2, b3, b4, b5, b6, b7, b8, b9, b10, b11⟩ := hb
  obtain ⟨e1, e2, e3, e4, e5, e6, e7, e8, e9, e10, e11, e12, e13, e14, e15⟩ := he
  unfold gs_poke rm_poke rm_thrown
  rcases cell_is (k := k) (zm := zm) h1n hn b1 (by rw [e1, b1]) a1 a2 with ⟨g1, g2⟩ | ⟨s, i, hs, hi, rfl, rfl, g1, g2⟩
  · rw [g2, bo_some, ifz0]
    unfold rm_poke_b15
    rw [if_neg (by decide)]
    exact Or.inr ⟨g1, _, _, rfl, by rw [si_s], hR1 1⟩
  · rw [g1, g2, bo_some, bo_some, ifz1]
    unfold rm_poke_b15 rm_in
    rw [if00, e12]
    refine Or.inl ?_
    rcases hm with ⟨h9, ho, h14⟩ | ⟨h9, hc, h14⟩
    · rw [if_pos h9, if_pos h9]
      exact ⟨_, _, _, rfl, rfl, by rw [si_s], hR1 0⟩
    · rw [h9, ifz1, ifz1]
      by_cases h3 : a3 < 0
      · rw [if_pos h3, if_pos h3, bo_some, ifz0]
        exact ⟨_, _, _, rfl, rfl, by rw [si_s], hR1 0⟩
      · obtain ⟨m, hm2, rfl⟩ := nI_of h3
        rw [if_neg h3, if_neg h3]
        simp (disch := omega) only [n_le_255, c_lt_255]
        by_cases h4 : m ≤ 255
        · rw [if_pos h4, if_neg (show ¬ 255 < m by omega), bo_some, ifz1]
          simp (disch := omega) only [mn_200, nI_add, ck_n, tn_n, if_true, e2, Nat.mul_comm 200 s]
          refine ⟨_, _, _, rfl, rfl, ?_, T, R, ?_, ?_, Or.inr ⟨?_, ⟨?_, ?_, ?_, ?_⟩, ?_⟩⟩
          · rw [sa_i, si_s]
          · unfold Base
            simp (disch := omega) only [sa_o, sa_i, sa_s]
            refine ⟨b1, fun q hq => ?_, b3, b4, b5, b6, b7, b8, b9, b10, b11⟩
            by_cases hqi : q = s * 200 + i
            · subst hqi
              rw [pk_us]
              obtain ⟨b, hb, eb⟩ := b2 (s * 200 + i) hq
              rw [eb]
              exact nI_xor hb (by omega)
            · rw [pk_un hqi]; exact b2 q hq
          · unfold Eqv
            simp (disch := omega) only [sa_o, sa_i, sa_s, si_o, si_a]
            exact ⟨e1, by rw [e2], e3, e4, e5, e6, e7, e8, e9, e10, e11, e12, e13, e14, e15⟩
          · rw [sa_i]; exact h9
          · rw [sa_i]; exact hc.1
          · rw [sa_i]; exact hc.2.1
          · exact Ix0_fr (by rw [sa_o (by omega)]) (by rw [sa_o (by omega)]) hc.2.2.1
          · rw [sa_o (by omega)]; exact hc.2.2.2
          · rw [sa_i, si_o (by omega)]; exact h14
        · rw [if_neg h4, if_pos (show 255 < m by omega), bo_some, ifz0]
          exact ⟨_, _, _, rfl, rfl, by rw [si_s], hR1 0⟩
theorem si_used (h1n : 1 ≤ n) (hn : n ≤ 12) (hk : 3000 ≤ k) : Sim_used n k (RelN n) := by
  intro zc zm a1 h
  have hR0 := Rel_f (v := 0) h
  obtain ⟨T, R, hb, he, hm⟩ := h
  obtain ⟨b1, b2, b3, b4, b5, b6, b7, b8, b9, b10, b11⟩ := hb
  obtain ⟨e1, e2, e3, e4, e5, e6, e7, e8, e9, e10, e11, e12, e13, e14, e15⟩ := he
  unfold gs_used rm_used
  rw [e1, b1]
  rcases has_in (n := n) (k := k) (zm := si zm 1 0) h1n hn b1 a1 with ⟨g1, g2, g3⟩ | ⟨s, hs, rfl, g2, g3⟩
  · rw [g2, g3, bo_some, bo_some, ifz0, ifz0]
    exact ⟨_, _, rfl, rfl, hR0⟩
  · rw [g2, g3, bo_some, bo_some, ifz1, ifz1]
    simp (disch := omega) only [ck_n, tn_n, if_true, e3]
    exact ⟨_, _, rfl, rfl, hR0⟩
theorem si_living (h1n : 1 ≤ n) (hn : n ≤ 12) (hk : 3000 ≤ k) : Sim_living n k (RelN n) := by
  intro zc zm a1 h
  have hR0 := Rel_f (v := 0) h
  obtain ⟨T, R, hb, he, hm⟩ := h
  have b1 := hb.1
  have e1 := he.1
  have e12 := he.2.2.2.2.2.2.2.2.2.2.2.1
  unfold gs_living rm_living
  rw [e12, e1, b1]
  rcases hm with ⟨h9, ho, h14⟩ | ⟨h9, hc, h14⟩
  · rw [if_pos h9, if_pos h9]
    rcases has_in (n := n) (k := k) (zm := si zm 1 0) h1n hn b1 a1 with ⟨g1, g2, g3⟩ | ⟨s, hs, rfl, g2, g3⟩
    · rw [g2, g3, bo_some, bo_some, ifz0, ifz0]
      exact ⟨_, _, rfl, rfl, hR0⟩
    · rw [g2, g3, bo_some, bo_some, ifz1, ifz1]
      obtain ⟨z1, f1, f2, f3, f4, f5, f6, f7⟩ := Rel_know (k := k) (zm := si zm 1 0) hn hk hb (Eqv_f he) ho h9 (by
        rw [si_o (by omega)]
        exact h14.elim Or.inl (fun q => Or.inr ⟨q.1, Kn_f q.2⟩))
      obtain ⟨v, _, l1, l2⟩ := a_living (k := k) f3 hk hs
      rw [l1, kn_living f1 f2, l2, bo_some, bi_some]
      exact ⟨_, _, rfl, rfl, T, R, hb, f4, Or.inl ⟨h9, ho, Or.inr ⟨f2, f5⟩⟩⟩
  · rw [h9, ifz1, ifz1]
    exact ⟨_, _, rfl, rfl, hR0⟩
theorem p_isFree {z : SS} (hn : n ≤ 12) {s : Nat} (hs : s < n) : sg_isFree n k z (nI s) = some (if z.2 7 (s * 200) = 0 then 1 else 0) := by
  unfold sg_isFree
  simp (disch := omega) only [nm_200, ck_n, tn_n, if_true]
  by_cases h : z.2 7 (s * 200) = 0
  · rw [if_pos h, if_pos h]
  · rw [if_neg h, if_neg h]
theorem m_isFree {z : SS} (hn : n ≤ 12) {s : Nat} (hs : s < n) : rm_isFree k z (nI s) = some (if z.2 1 (s * 200) = 0 then 1 else 0) := by
  unfold rm_isFree
  simp (disch := omega) only [mn_200, ck_n, tn_n, if_true, Nat.mul_comm 200 s]
  by_cases h : z.2 1 (s * 200) = 0
  · rw [if_pos h, if_pos h]
  · rw [if_neg h, if_neg h]
theorem p_inUse {z : SS} (hn : n ≤ 12) (h20 : z.1 20 = nI n) : ∀ (d fu s acc : Nat), s + d = n → d < fu → sg_inUseCount_b4 n k z fu (nI acc) (nI s) = some (nI (acc + sumR (cw (fun s => z.2 7 (s * 200) ≠ 0) (fun _ => 1)) s d)) := by
  intro d
  induction d with
  | zero =>
    intro fu s acc hj hf
    cases fu with
    | zero => omega
    | succ fu =>
      have h1 : n ≤ s := by omega
      simp (disch := omega) only [sg_inUseCount_b4, h20, le_n, h1, if_true]
      rfl
  | succ d ih =>
    intro fu s acc hj hf
    cases fu with
    | zero => omega
    | succ fu =>
      have h1 : ¬ n ≤ s := by omega
      simp (disch := omega) only [sg_inUseCount_b4, h20, le_n, h1, if_false, p_isFree (z := z) hn (show s < n by omega), bo_some, na_1]
      show _ = some (nI (acc + (cw (fun s => z.2 7 (s * 200) ≠ 0) (fun _ => 1) s + sumR (cw (fun s => z.2 7 (s * 200) ≠ 0) (fun _ => 1)) (s + 1) d)))
      by_cases h : z.2 7 (s * 200) = 0
      · rw [if_pos h, ifz1, ih fu (s + 1) _ (by omega) (by omega), cw_f (fun q => q h), Nat.zero_add]
      · rw [if_neg h, ifz0, ih fu (s + 1) _ (by omega) (by omega), cw_t h, Nat.add_assoc]
theorem m_inUse {z : SS} (hn : n ≤ 12) (h0 : z.1 0 = nI n) : ∀ (d fu s acc : Nat), s + d = n → d < fu → rm_count_b23 k fu z 1 (nI acc) (nI s) = rm_count_b58 k z 1 (nI (acc + sumR (cw (fun s => z.2 1 (s * 200) ≠ 0) (fun _ => 1)) s d)) := by
  intro d
  induction d with
  | zero =>
    intro fu s acc hj hf
    cases fu with
    | zero => omega
    | succ fu =>
      have h1 : n ≤ s := by omega
      simp (disch := omega) only [rm_count_b23, h0, le_n, h1, if_true]
      rfl
  | succ d ih =>
    intro fu s acc hj hf
    cases fu with
    | zero => omega
    | succ fu =>
      have h1 : ¬ n ≤ s := by omega
      simp (disch := omega) only [rm_count_b23, h0, le_n, h1, if_false, m_isFree (z := z) hn (show s < n by omega), bo_some, na_1, if_true]
      show _ = rm_count_b58 k z 1 (nI (acc + (cw (fun s => z.2 1 (s * 200) ≠ 0) (fun _ => 1) s + sumR (cw (fun s => z.2 1 (s * 200) ≠ 0) (fun _ => 1)) (s + 1) d)))
      by_cases h : z.2 1 (s * 200) = 0
      · rw [if_pos h, ifz1, ih fu (s + 1) _ (by omega) (by omega), cw_f (fun q => q h), Nat.zero_add]
      · rw [if_neg h, ifz0, ih fu (s + 1) _ (by omega) (by omega), cw_t h, Nat.add_assoc]
theorem p_open {z : SS} : ∀ (d fu s acc : Nat), s + d = 4 → d < fu → sn_openCount_b4 n k z fu (nI acc) (nI s) = some (nI (acc + sumR (cw (fun s => z.2 16 s ≠ 0) (fun _ => 1)) s d)) := by
  intro d
  induction d with
  | zero =>
    intro fu s acc hj hf
    cases fu with
    | zero => omega
    | succ fu =>
      have h1 : 4 ≤ s := by omega
      simp (disch := omega) only [sn_openCount_b4, c_le_4, h1, if_true]
      rfl
  | succ d ih =>
    intro fu s acc hj hf
    cases fu with
    | zero => omega
    | succ fu =>
      have h1 : ¬ 4 ≤ s := by omega
      simp (disch := omega) only [sn_openCount_b4, c_le_4, h1, if_false, ck_n, tn_n, if_true, na_1]
      show _ = some (nI (acc + (cw (fun s => z.2 16 s ≠ 0) (fun _ => 1) s + sumR (cw (fun s => z.2 16 s ≠ 0) (fun _ => 1)) (s + 1) d)))
      by_cases h : z.2 16 s = 0
      · rw [if_pos h, ih fu (s + 1) _ (by omega) (by omega), cw_f (fun q => q h), Nat.zero_add]
      · rw [if_neg h, ih fu (s + 1) _ (by omega) (by omega), cw_t h, Nat.add_assoc]
theorem m_open {z : SS} : ∀ (d fu s acc : Nat), s + d = 4 → d < fu → rm_count_b60 k fu z 5 (nI acc) (nI s) = rm_count_b93 k z 5 (nI (acc + sumR (cw (fun s => z.2 5 s ≠ 0) (fun _ => 1)) s d)) := by
  intro d
  induction d with
  | zero =>
    intro fu s acc hj hf
    cases fu with
    | zero => omega
    | succ fu =>
      have h1 : 4 ≤ s := by omega
      simp (disch := omega) only [rm_count_b60, c_le_4, h1, if_true]
      rfl
  | succ d ih =>
    intro fu s acc hj hf
    cases fu with
    | zero => omega
    | succ fu =>
      have h1 : ¬ 4 ≤ s := by omega
      simp (disch := omega) only [rm_count_b60, c_le_4, h1, if_false, ck_n, tn_n, if_true, na_1]
      show _ = rm_count_b93 k z 5 (nI (acc + (cw (fun s => z.2 5 s ≠ 0) (fun _ => 1) s + sumR (cw (fun s => z.2 5 s ≠ 0) (fun _ => 1)) (s + 1) d)))
      by_cases h : z.2 5 s = 0
      · rw [if_pos h, ih fu (s + 1) _ (by omega) (by omega), cw_f (fun q => q h), Nat.zero_add]
      · rw [if_neg h, ih fu (s + 1) _ (by omega) (by omega), cw_t h, Nat.add_assoc]
theorem m_count_o {z : SS} (h1n : 1 ≤ n) (hn : n ≤ 12) (hk : 3000 ≤ k) (h0 : z.1 0 = nI n) {x v : Int32} (h1 : x ≠ 1) : rm_count_b16 k z x v = rm_count_b60 k k (si z 1 v) x 0 0 := by
  unfold rm_count_b16
  obtain ⟨j, rfl⟩ : ∃ j, k = j + 1 := ⟨k - 1, by omega⟩
  have e : ¬ nI n ≤ 0 := nI_nle (by omega) (by omega)
  simp only [rm_count_b23, si_o (show 0 ≠ 1 by omega), h0, e, if_false, h1, rm_count_b58]
theorem m_count_p {z : SS} (hk : 3000 ≤ k) {x y : Int32} (h5 : x ≠ 5) : rm_count_b60 k k z x y 0 = rm_count_b93 k z x y := by
  obtain ⟨j, rfl⟩ : ∃ j, k = j + 1 := ⟨k - 1, by omega⟩
  have e : ¬ (4 : Int32) ≤ 0 := by decide
  simp only [rm_count_b60, e, if_false, h5]
theorem Best_empty {key num : Nat → Int32} {N : Nat} {K M : Int32} (h : ∀ j, j < N → key j = -1) (hK : K ≠ -1) {b : Nat} (hb : b < N) (hN : N < 2147483648) : ¬ Best key num N K M (nI b) := by
  intro q
  have := ((Best_at hb hN).mp q).1
  rw [h b hb] at this
  exact hK this.symm
theorem si_count (h1n : 1 ≤ n) (hn : n ≤ 12) (hk : 3000 ≤ k) : Sim_count n k (RelN n) := by
  intro zc zm a1 h
  have hR1 := fun v => Rel_f (v := v) h
  obtain ⟨T, R, hb, he, hm⟩ := h
  have hb' := hb
  have he' := he
  obtain ⟨b1, b2, b3, b4, b5, b6, b7, b8, b9, b10, b11⟩ := hb
  obtain ⟨e1, e2, e3, e4, e5, e6, e7, e8, e9, e10, e11, e12, e13, e14, e15⟩ := he
  have e0 : zm.1 0 = nI n := by rw [e1, b1]
  unfold rm_thrown
  by_cases hin : a1 < 0 ∨ 7 < a1
  · refine Or.inr ⟨?_, 0, si zm 1 1, ?_, by rw [si_s], hR1 1⟩
    · rw [i_lt, i_lt] at hin
      have q0 : (0 : Int32).toInt = 0 := by decide
      have q7 : (7 : Int32).toInt = 7 := by decide
      rw [q0, q7] at hin
      exact hin
    · have hi : rm_in k zm a1 0 7 = some 0 := by
        unfold rm_in
        by_cases q : a1 < 0
        · rw [if_pos q]
        · rw [if_neg q, if_pos (hin.elim (fun w => absurd w q) (fun w => w))]
      have ne : ∀ c : Int32, 0 ≤ c → c ≤ 7 → a1 ≠ c := fun c h1 h2 h3 => by
        rw [h3] at hin
        rcases hin with q | q
        · exact absurd q (Int32.not_lt.mpr h1)
        · exact absurd q (Int32.not_lt.mpr h2)
      unfold rm_count
      rw [hi, bo_some, ifz0, m_count_o h1n hn hk e0 (ne 1 (by decide) (by decide)), m_count_p hk (ne 5 (by decide) (by decide))]
      unfold rm_count_b93
      rw [if_neg (ne 0 (by decide) (by decide))]
      unfold rm_count_b113
      rw [si_s, if_neg (by decide)]
  · refine Or.inl ?_
    have hi : rm_in k zm a1 0 7 = some 1 := by
      unfold rm_in
      rw [if_neg (fun q => hin (Or.inl q)), if_neg (fun q => hin (Or.inr q))]
    unfold rm_count
    rw [hi, bo_some, ifz1]
    obtain ⟨j, hj, rfl⟩ := nI_of (fun q => hin (Or.inl q))
    have hj7 : j ≤ 7 := by
      rw [c_lt_7 hj] at hin
      omega
    have hz : ∀ q, q ≠ 1 → (si zm 1 0).1 q = zm.1 q := fun q hq => si_o hq
    rcases j with _ | _ | _ | _ | _ | _ | _ | _ | j
    · rw [m_count_o h1n hn hk e0 (by decide), m_count_p hk (by decide)]
      unfold gs_count rm_count_b93
      rw [if_pos nI_0, if_pos nI_0, hz 12 (by omega), e12]
      rcases hm with ⟨h9, ho, h14⟩ | ⟨h9, hc, h14⟩
      · obtain ⟨z1, f1, f2, f3, f4, f5, f6, f7⟩ := Rel_know (k := k) (zm := si zm 1 0) hn hk hb' (Eqv_f he') ho h9 (by
          rw [si_o (by omega)]
          exact h14.elim Or.inl (fun q => Or.inr ⟨q.1, Kn_f q.2⟩))
        obtain ⟨v, l1, l2⟩ := a_count (k := k) f3 hk ho.2.2.2
        rw [if_pos h9, l1, kn_keys hk f1 f2, l2, bo_some, bi_some]
        have g1 : z1.1 1 = 0 := by rw [f7 1 (by omega) (by omega), si_s]
        unfold rm_count_b112 rm_count_b113
        rw [g1, if_pos (by decide), if_neg (by decide), if_neg (by decide), if_neg (by decide), if_neg (by decide), if_neg (by decide)]
        exact ⟨_, _, rfl, rfl, by rw [g1], T, R, hb', f4, Or.inl ⟨h9, ho, Or.inr ⟨f2, f5⟩⟩⟩
      · rw [h9, ifz1, p_kws hn hk, bo_some]
        have hno : ∀ j, j < n * 12 → zc.2 12 j = -1 := fun j hj => by
          have := ((hc.2.2.1 (j / 12) (by omega)).2.2 (j % 12) (by omega)).2 rfl
          rw [show j / 12 * 12 + j % 12 = j by omega] at this
          exact this
        rw [sumR_zero (fun i hi => cw_f (fun q => q.1 (by rw [Nat.zero_add]; exact hno i hi)))]
        unfold rm_count_b112 rm_count_b113
        rw [si_s, if_pos (by decide), if_neg (by decide), if_neg (by decide), if_neg (by decide), if_neg (by decide), if_neg (by decide)]
        exact ⟨_, _, rfl, rfl, by rw [si_s], hR1 0⟩
    · unfold gs_count rm_count_b16 sg_inUseCount
      rw [if_neg (show ¬ nI 1 = 0 by decide), if_pos (show nI 1 = 1 from rfl)]
      have g1 := p_inUse (k := k) (z := zc) hn b1 n k 0 0 (by omega) (by omega)
      have g1 : sg_inUseCount_b4 n k zc k 0 0 = _ := g1
      have g2 := m_inUse (k := k) (z := si zm 1 0) hn (by rw [hz 0 (by omega)]; exact e0) n k 0 0 (by omega) (by omega)
      have g2 : rm_count_b23 k k (si zm 1 0) (nI (0 + 1)) 0 0 = _ := g2
      rw [g1, g2, bo_some, si_a, e2]
      unfold rm_count_b58
      rw [m_count_p hk (by decide)]
      unfold rm_count_b93
      rw [if_neg (by decide)]
      unfold rm_count_b113
      rw [si_s, if_pos (by decide), if_neg (by decide), if_neg (by decide), if_neg (by decide), if_neg (by decide), if_neg (by decide)]
      exact ⟨_, _, rfl, rfl, by rw [si_s], hR1 0⟩
    · rw [m_count_o h1n hn hk e0 (by decide), m_count_p hk (by decide)]
      unfold gs_count rm_count_b93 rm_count_b113
      rw [if_neg (show ¬ nI 2 = 0 by decide), if_neg (show ¬ nI 2 = 1 by decide), if_pos (show nI 2 = 2 from rfl), if_neg (by decide), si_s, if_pos (by decide), if_pos (show nI (0 + 1 + 1) = 2 from rfl), hz 5 (by omega), e9]
      exact ⟨_, _, rfl, rfl, by rw [si_s], hR1 0⟩
    · rw [m_count_o h1n hn hk e0 (by decide), m_count_p hk (by decide)]
      unfold gs_count rm_count_b93 rm_count_b113
      rw [if_neg (show ¬ nI 3 = 0 by decide), if_neg (show ¬ nI 3 = 1 by decide), if_neg (show ¬ nI 3 = 2 by decide), if_pos (show nI 3 = 3 from rfl), if_neg (by decide), si_s, if_pos (by decide), if_neg (by decide), if_pos (show nI (0 + 1 + 1 + 1) = 3 from rfl), hz 8 (by omega), e11]
      exact ⟨_, _, rfl, rfl, by rw [si_s], hR1 0⟩
    · rw [m_count_o h1n hn hk e0 (by decide), m_count_p hk (by decide)]
      have hcl : gs_count n k zc (nI (0 + 1 + 1 + 1 + 1)) = (if zc.1 9 = 0 then some 0 else some 1) := by
        unfold gs_count
        rw [if_neg (show ¬ nI 4 = 0 by decide), if_neg (show ¬ nI 4 = 1 by decide), if_neg (show ¬ nI 4 = 2 by decide), if_neg (show ¬ nI 4 = 3 by decide), if_pos (show nI 4 = 4 from rfl)]
      have hml : rm_count_b93 k (si zm 1 0) (nI (0 + 1 + 1 + 1 + 1)) 0 = (if zm.1 12 = 0 then some (0, si zm 1 0) else some (1, si zm 1 0)) := by
        unfold rm_count_b93 rm_count_b113
        rw [if_neg (show ¬ nI (0 + 1 + 1 + 1 + 1) = 0 by decide), si_s, if00, if_neg (show ¬ nI (0 + 1 + 1 + 1 + 1) = 2 by decide), if_neg (show ¬ nI (0 + 1 + 1 + 1 + 1) = 3 by decide), if_pos (show nI (0 + 1 + 1 + 1 + 1) = 4 from rfl), hz 12 (by omega)]
      rw [hcl, hml, e12]
      by_cases h9 : zc.1 9 = 0
      · rw [if_pos h9, if_pos h9]
        exact ⟨_, _, rfl, rfl, by rw [si_s], hR1 0⟩
      · rw [if_neg h9, if_neg h9]
        exact ⟨_, _, rfl, rfl, by rw [si_s], hR1 0⟩
    · rw [m_count_o h1n hn hk e0 (by decide)]
      unfold gs_count sn_openCount
      rw [if_neg (show ¬ nI 5 = 0 by decide), if_neg (show ¬ nI 5 = 1 by decide), if_neg (show ¬ nI 5 = 2 by decide), if_neg (show ¬ nI 5 = 3 by decide), if_neg (show ¬ nI 5 = 4 by decide), if_pos (show nI 5 = 5 from rfl)]
      have g1 := p_open (n := n) (k := k) (z := zc) 4 k 0 0 (by omega) (by omega)
      have g1 : sn_openCount_b4 n k zc k 0 0 = _ := g1
      have g2 := m_open (k := k) (z := si zm 1 0) 4 k 0 0 (by omega) (by omega)
      have g2 : rm_count_b60 k k (si zm 1 0) (nI (0 + 1 + 1 + 1 + 1 + 1)) 0 0 = _ := g2
      rw [g1, g2, bo_some, si_a, e6]
      unfold rm_count_b93
      rw [if_neg (by decide)]
      unfold rm_count_b113
      rw [si_s, if_pos (by decide), if_neg (by decide), if_neg (by decide), if_neg (by decide), if_neg (by decide), if_neg (by decide)]
      exact ⟨_, _, rfl, rfl, by rw [si_s], hR1 0⟩
    · rw [m_count_o h1n hn hk e0 (by decide), m_count_p hk (by decide)]
      unfold gs_count rm_count_b93 rm_count_b113
      rw [if_neg (show ¬ nI 6 = 0 by decide), if_neg (show ¬ nI 6 = 1 by decide), if_neg (show ¬ nI 6 = 2 by decide), if_neg (show ¬ nI 6 = 3 by decide), if_neg (show ¬ nI 6 = 4 by decide), if_neg (show ¬ nI 6 = 5 by decide), if_pos (show nI 6 = 6 from rfl), if_neg (by decide), si_s, if_pos (by decide), if_neg (by decide), if_neg (by decide), if_neg (by decide), if_pos (show nI (0 + 1 + 1 + 1 + 1 + 1 + 1) = 6 from rfl), hz 6 (by omega), e10]
      exact ⟨_, _, rfl, rfl, by rw [si_s], hR1 0⟩
    · rw [m_count_o h1n hn hk e0 (by decide), m_count_p hk (by decide)]
      unfold gs_count rm_count_b93 rm_count_b113
      rw [if_neg (show ¬ nI 7 = 0 by decide), if_neg (show ¬ nI 7 = 1 by decide), if_neg (show ¬ nI 7 = 2 by decide), if_neg (show ¬ nI 7 = 3 by decide), if_neg (show ¬ nI 7 = 4 by decide), if_neg (show ¬ nI 7 = 5 by decide), if_neg (show ¬ nI 7 = 6 by decide), if_pos (show nI 7 = 7 from rfl), if_neg (by decide), si_s, if_pos (by decide), if_neg (by decide), if_neg (by decide), if_neg (by decide), if_neg (by decide), if_pos (show nI (0 + 1 + 1 + 1 + 1 + 1 + 1 + 1) = 7 from rfl), hz 4 (by omega), e8]
      exact ⟨_, _, rfl, rfl, by rw [si_s], hR1 0⟩
    · omega
end RDS
