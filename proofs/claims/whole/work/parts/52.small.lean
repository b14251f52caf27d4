theorem Ix0_fr {n : Nat} {zc zc' : SS} (h10 : zc'.2 10 = zc.2 10) (h12 : zc'.2 12 = zc.2 12) (hI : Ix n zc (fun _ => [])) : Ix n zc' (fun _ => []) := by
  intro s hs
  obtain ⟨h1, h2, h3⟩ := hI s hs
  refine ⟨by rw [h10]; exact h1, h2, fun i hi => ⟨fun a ha => by simp at ha, fun hn => by rw [h12]; exact (h3 i hi).2 hn⟩⟩
theorem fd_byte (b : Int32) : ∀ i : Nat, i < 4 → (jushr b (8 * nI i)) &&& 255 = (b >>> ((8 * nI i) &&& 31)) &&& 255 := by
  have key : ∀ (c : Int32) (d : Int32) (m : Nat), m = 0 ∨ m = 8 ∨ m = 16 ∨ m = 24 → ((c.toUInt32 &&& Int32.toUInt32 31).toBitVec % 32).toNat = m → (d.toBitVec.smod 32).toNat = m → (jushr b c) &&& 255 = (b >>> d) &&& 255 := by
    intro c d m hm h1 h2
    have e1 := pk_ushr b c m h1
    have e2 := pk_shr b d m h2
    rw [pk_and _ 8 (by decide), pk_and _ 8 (by decide)]
    have e1' : (jushr b c).toBitVec.toNat = b.toBitVec.toNat / 2 ^ m := e1
    rw [e1']
    congr 1
    have e3 : b.toInt = b.toBitVec.toInt := rfl
    have e4 : (b >>> d).toInt = (b >>> d).toBitVec.toInt := rfl
    rw [e3, e4, Int.shiftRight_eq_div_pow, BitVec.toInt_eq_toNat_cond, BitVec.toInt_eq_toNat_cond] at e2
    have l1 := b.toBitVec.isLt
    have l2 := (b >>> d).toBitVec.isLt
    generalize b.toBitVec.toNat = N at *
    generalize (b >>> d).toBitVec.toNat = C at *
    rcases hm with rfl | rfl | rfl | rfl <;> split at e2 <;> split at e2 <;> omega
  intro i hi
  rcases i with _ | _ | _ | _ | i
  · exact key _ _ 0 (by omega) (by decide) (by decide)
  · exact key _ _ 8 (by omega) (by decide) (by decide)
  · exact key _ _ 16 (by omega) (by decide) (by decide)
  · exact key _ _ 24 (by omega) (by decide) (by decide)
  · omega
theorem ifz1 {α : Type} {a b : α} : (if (1 : Int32) = 0 then a else b) = b := if_neg (by decide)
theorem ifz0 {α : Type} {a b : α} : (if (0 : Int32) = 0 then a else b) = a := if_pos rfl
theorem and_255 (x : Int32) : ∃ b, b < 256 ∧ x &&& 255 = nI b := pk_andE x 8 (by decide)
section SM
variable {n k : Nat}
theorem f_loop (b : Int32) : ∀ (d fu c : Nat) (zc zm : SS), d ≤ 4 → d < fu → c + d ≤ 20 → zc.1 5 = nI c → zm.1 6 = nI c → zm.2 3 = zc.2 5 → (∀ i, i < 20 → ∃ b, b < 256 ∧ zc.2 5 i = nI b) →
    ∃ zc' zm', gs_feed_b30 n k fu zc b (nI d - 1) = some (nI (c + d), zc') ∧ rm_feed_b35 k fu zm b (nI d - 1) = some (nI (c + d), zm') ∧ zc'.1 5 = nI (c + d) ∧ zm'.1 6 = nI (c + d) ∧ zm'.2 3 = zc'.2 5 ∧ (∀ i, i < 20 → ∃ b, b < 256 ∧ zc'.2 5 i = nI b) ∧ (∀ x, x ≠ 5 → zc'.1 x = zc.1 x) ∧ (∀ x, x ≠ 5 → zc'.2 x = zc.2 x) ∧ (∀ x, x ≠ 6 → zm'.1 x = zm.1 x) ∧ (∀ x, x ≠ 3 → zm'.2 x = zm.2 x) := by
  intro d
  induction d with
  | zero =>
    intro fu c zc zm hd4 hf hc h1 h2 h3 h4
    cases fu with
    | zero => omega
    | succ fu =>
      have e : (nI 0 - 1 < 0) = True := eq_true (by decide)
      simp only [gs_feed_b30, rm_feed_b35, e, if_true]
      exact ⟨zc, zm, by rw [h1]; rfl, by rw [h2]; rfl, h1, h2, h3, h4, fun x _ => rfl, fun x _ => rfl, fun x _ => rfl, fun x _ => rfl⟩
  | succ d ih =>
    intro fu c zc zm hd4 hf hc h1 h2 h3 h4
    cases fu with
    | zero => omega
    | succ fu =>
      rw [nI_pred]
      simp (disch := omega) only [gs_feed_b30, rm_feed_b35, neg_n, if_false, h1, h2, ck_n, tn_n, if_true, na_1, ← fd_byte b d (by omega)]
      have e : nI d + (-1) = nI d - 1 := by
        rw [Int32.sub_eq_add_neg]
      rw [e]
      obtain ⟨zc', zm', f1, f2, f3, f4, f5, f6, f7, f8, f9, f10⟩ := ih fu (c + 1) (si (sa zc 5 c ((jushr b (8 * nI d)) &&& 255)) 5 (nI (c + 1))) (si (sa zm 3 c ((jushr b (8 * nI d)) &&& 255)) 6 (nI (c + 1))) (by omega) (by omega) (by omega) si_s si_s (by rw [si_a, si_a, sa_s, sa_s, h3]) (fun i hi => by
        rw [si_a, sa_s]
        by_cases hic : i = c
        · subst hic; rw [pk_us]; exact and_255 _
        · rw [pk_un hic]; exact h4 i hi)
      rw [show c + 1 + d = c + (d + 1) by omega] at f1 f2 f3 f4
      exact ⟨zc', zm', f1, f2, f3, f4, f5, f6, fun x hx => by rw [f7 x hx, si_o hx, sa_i], fun x hx => by rw [f8 x hx, si_a, sa_o hx], fun x hx => by rw [f9 x hx, si_o hx, sa_i], fun x hx => by rw [f10 x hx, si_a, sa_o hx]⟩
theorem si_feed (hn : n ≤ 12) (hk : 3000 ≤ k) : Sim_feed n k (RelN n) := by
  intro zc zm a1 a2 h
  have hR0 := Rel_f (v := 0) h
  unfold gs_feed rm_feed rm_in
  by_cases h1 : a2 < 0
  · rw [if_pos h1, if_pos h1, bo_some, if_pos rfl]
    exact ⟨_, _, _, rfl, rfl, hR0⟩
  · rw [if_neg h1, if_neg h1]
    obtain ⟨d, hd, rfl⟩ := nI_of h1
    simp (disch := omega) only [n_le_4, c_lt_4]
    by_cases h2 : d ≤ 4
    · rw [if_pos h2, if_neg (show ¬ 4 < d by omega), bo_some, ifz1]
      obtain ⟨T, R, hb, he, hm⟩ := h
      obtain ⟨b1, b2, b3, b4, ⟨c, b5, b5'⟩, b6, b7, b8, b9, b10, b11⟩ := hb
      obtain ⟨e1, e2, e3, e4, e5, e6, e7, e8, e9, e10, e11, e12, e13, e14, e15⟩ := he
      simp (disch := omega) only [e10, b5', nI_add, n_le_20]
      by_cases h3 : c + d ≤ 20
      · rw [if_pos h3, if_pos h3]
        obtain ⟨zc', zm', f1, f2, f3, f4, f5, f6, f7, f8, f9, f10⟩ := f_loop (n := n) (k := k) a1 d k c zc (si zm 1 0) h2 (by omega) h3 b5' (by rw [si_o (by omega), e10, b5']) e4 b6
        refine ⟨_, zc', zm', f1, f2, T, R, ?_, ?_, ?_⟩
        · unfold Base
          simp (disch := omega) only [f7, f8]
          exact ⟨b1, b2, b3, b4, ⟨c + d, h3, f3⟩, f6, b7, b8, b9, b10, b11⟩
        · unfold Eqv
          simp (disch := omega) only [f7, f8, f9, f10, si_o, si_a]
          exact ⟨e1, e2, e3, f5, e5, e6, e7, e8, e9, by rw [f4, f3], e11, e12, e13, e14, e15⟩
        · refine Md_fr (fun x hx => f8 x (by omega)) (f7 8 (by omega)) (f7 9 (by omega)) (f7 24 (by omega)) (f7 25 (by omega)) (fun x hx => by rw [f10 x (by omega), si_a]) (by rw [f9 14 (by omega), si_o (by omega)]) (by rw [f9 15 (by omega), si_o (by omega)]) hm
      · rw [if_neg h3, if_neg h3]
        exact ⟨_, _, _, rfl, rfl, hR0⟩
    · rw [if_neg h2, if_pos (show 4 < d by omega), bo_some, if_pos rfl]
      exact ⟨_, _, _, rfl, rfl, hR0⟩
theorem si_sync (hn : n ≤ 12) (hk : 3000 ≤ k) : Sim_sync n k (RelN n) := by
  intro zc zm h
  have hR0 := Rel_f (v := 0) h
  obtain ⟨T, R, hb, he, hm⟩ := h
  obtain ⟨b1, b2, b3, b4, b5, b6, b7, b8, b9, b10, b11⟩ := hb
  obtain ⟨e1, e2, e3, e4, e5, e6, e7, e8, e9, e10, e11, e12, e13, e14, e15⟩ := he
  unfold gs_sync rm_sync sg_settle
  rw [e12]
  rcases hm with ⟨h9, ho, h14⟩ | ⟨h9, hc, h14⟩
  · rw [if_pos h9, if_pos h9, bi_some, e11]
    refine ⟨_, _, _, rfl, rfl, T, R, ?_, ?_, Or.inl ⟨?_, Op_fr (fun x _ => by rw [si_a]) (by rw [si_o (by omega)]) ho, ?_⟩⟩
    · unfold Base
      simp (disch := omega) only [si_o, si_a]
      exact ⟨b1, b2, b3, ⟨0, si_s, by omega, fun i hi => by omega⟩, b5, b6, b7, b8, b9, b10, b11⟩
    · unfold Eqv
      simp (disch := omega) only [si_o, si_a, si_s]
      exact ⟨e1, e2, e3, e4, e5, e6, e7, e8, e9, e10, trivial, e12, e13, e14, e15⟩
    · rw [si_o (by omega)]; exact h9
    · rw [si_o (by omega), si_o (by omega)]
      exact h14.elim Or.inl (fun q => Or.inr ⟨q.1, Kn_fr (fun x _ => by rw [si_a, si_a]) (by rw [si_o (by omega), si_o (by omega)]) q.2⟩)
  · rw [h9, if_neg (by decide), if_neg (by decide)]
    exact ⟨_, _, _, rfl, rfl, hR0⟩
theorem sn_least : ∀ (d fu i : Nat) (zc zm : SS), i + d = 4 → d < fu → zm.2 5 = zc.2 16 → (sn_leastNotOpen_b2 n k zc fu (nI i) = some (-1) ∧ rm_snapshot_b17 k fu zm (nI i) = some (-4, zm)) ∨ ∃ j, j < 4 ∧ sn_leastNotOpen_b2 n k zc fu (nI i) = some (nI j) ∧ rm_snapshot_b17 k fu zm (nI i) = some (nI j, sa (sa zm 5 j 1) 6 j (zm.1 5)) := by
  intro d
  induction d with
  | zero =>
    intro fu i zc zm hi hf h5
    cases fu with
    | zero => omega
    | succ fu =>
      have h1 : 4 ≤ i := by omega
      simp (disch := omega) only [sn_leastNotOpen_b2, rm_snapshot_b17, c_le_4, h1, if_true]
      exact Or.inl ⟨trivial, trivial⟩
  | succ d ih =>
    intro fu i zc zm hi hf h5
    cases fu with
    | zero => omega
    | succ fu =>
      have h1 : ¬ 4 ≤ i := by omega
      simp (disch := omega) only [sn_leastNotOpen_b2, rm_snapshot_b17, c_le_4, h1, if_false, ck_n, tn_n, if_true, na_1, h5]
      by_cases h2 : zc.2 16 i = 0
      · rw [if_pos h2, if_pos h2]
        exact Or.inr ⟨i, by omega, rfl, rfl⟩
      · rw [if_neg h2, if_neg h2]
        exact ih fu (i + 1) zc zm (by omega) (by omega) h5
theorem si_snapshot (hn : n ≤ 12) (hk : 3000 ≤ k) : Sim_snapshot n k (RelN n) := by
  intro zc zm h
  have hR0 := Rel_f (v := 0) h
  obtain ⟨T, R, hb, he, hm⟩ := h
  obtain ⟨b1, b2, b3, b4, b5, b6, b7, b8, b9, b10, b11⟩ := hb
  obtain ⟨e1, e2, e3, e4, e5, e6, e7, e8, e9, e10, e11, e12, e13, e14, e15⟩ := he
  unfold gs_snapshot rm_snapshot sn_leastNotOpen
  rw [e12]
  rcases hm with ⟨h9, ho, h14⟩ | ⟨h9, hc, h14⟩
  · rw [if_pos h9, if_pos h9]
    rcases sn_least (n := n) (k := k) 4 k 0 zc (si zm 1 0) (by omega) (by omega) (by rw [si_a]; exact e6) with ⟨c1, c2⟩ | ⟨j, hj, c1, c2⟩
    · have c1 : sn_leastNotOpen_b2 n k zc k 0 = some (-1) := c1
      have c2 : rm_snapshot_b17 k k (si zm 1 0) 0 = some (-4, si zm 1 0) := c2
      rw [c1, c2, bo_some, if_pos rfl]
      exact ⟨_, _, _, rfl, rfl, hR0⟩
    · have c1 : sn_leastNotOpen_b2 n k zc k 0 = some (nI j) := c1
      have c2 : rm_snapshot_b17 k k (si zm 1 0) 0 = some (nI j, sa (sa (si zm 1 0) 5 j 1) 6 j ((si zm 1 0).1 5)) := c2
      rw [c1, c2, bo_some]
      unfold sn_open
      simp (disch := omega) only [m1_ne, if_false, ck_n, tn_n, if_true, bo_some]
      rw [show vp_nar .boolean 1 = 1 by decide]
      refine ⟨_, _, _, rfl, rfl, T, R, ?_, ?_, Or.inl ⟨?_, Op_fr (fun x _ => by rw [sa_o (by omega), sa_o (by omega)]) (by rw [sa_i, sa_i]) ho, ?_⟩⟩
      · unfold Base
        simp (disch := omega) only [sa_o, sa_i, sa_s]
        refine ⟨b1, b2, b3, b4, b5, b6, b7, b8, fun i hi => ?_, fun i hi => ?_, b11⟩
        · by_cases hij : i = j
          · subst hij; rw [pk_us]; exact Or.inr rfl
          · rw [pk_un hij]; exact b9 i hi
        · by_cases hij : i = j
          · subst hij; rw [pk_us]; exact b7
          · rw [pk_un hij]; exact b10 i hi
      · unfold Eqv
        simp (disch := omega) only [sa_o, sa_i, sa_s, si_o, si_a]
        exact ⟨e1, e2, e3, e4, e5, by rw [e6], by rw [e7, e9], e8, e9, e10, e11, e12, e13, e14, e15⟩
      · rw [sa_i, sa_i]; exact h9
      · simp (disch := omega) only [sa_o, sa_i, si_o]
        exact h14.elim Or.inl (fun q => Or.inr ⟨q.1, Kn_fr (fun x _ => by rw [sa_o (by omega), sa_o (by omega), si_a]) (by rw [sa_i, sa_i, si_o (by omega)]) q.2⟩)
  · rw [h9, if_neg (by decide), if_neg (by decide)]
    exact ⟨_, _, _, rfl, rfl, hR0⟩
theorem si_release (hn : n ≤ 12) (hk : 3000 ≤ k) : Sim_release n k (RelN n) := by
  intro zc zm a1 h
  have hR0 := Rel_f (v := 0) h
  obtain ⟨T, R, hb, he, hm⟩ := h
  obtain ⟨b1, b2, b3, b4, b5, b6, b7, b8, b9, b10, b11⟩ := hb
  obtain ⟨e1, e2, e3, e4, e5, e6, e7, e8, e9, e10, e11, e12, e13, e14, e15⟩ := he
  unfold gs_release rm_release sn_isOpen rm_in
  rw [e12]
  rcases hm with ⟨h9, ho, h14⟩ | ⟨h9, hc, h14⟩
  · rw [if_pos h9, if_pos h9]
    by_cases h1 : a1 < 0
    · rw [if_pos h1, if_pos h1, bo_some, bo_some, if_pos rfl, if_pos rfl]
      exact ⟨_, _, _, rfl, rfl, hR0⟩
    · rw [if_neg h1, if_neg h1]
      obtain ⟨j, hj, rfl⟩ := nI_of h1
      simp (disch := omega) only [c_lt_3, c_le_4]
      by_cases hj3 : 3 < j
      · rw [if_pos hj3, if_pos (show 4 ≤ j by omega), bo_some, bo_some, if_pos rfl, if_pos rfl]
        exact ⟨_, _, _, rfl, rfl, hR0⟩
      · rw [if_neg hj3, if_neg (show ¬ 4 ≤ j by omega)]
        unfold sn_close
        simp (disch := omega) only [ck_n, tn_n, if_true, e6, bo_some]
        rw [if_neg (show ¬ (1 : Int32) = 0 by decide)]
        by_cases h2 : zc.2 16 j = 0
        · rw [if_pos h2, if_pos h2, bo_some, if_pos rfl]
          exact ⟨_, _, _, rfl, rfl, hR0⟩
        · rw [if_neg h2, if_neg h2, bo_some, if_neg (by decide)]
          rw [show vp_nar .boolean 0 = 0 by decide]
          refine ⟨_, _, _, rfl, rfl, T, R, ?_, ?_, Or.inl ⟨?_, Op_fr (fun x _ => by rw [sa_o (by omega)]) (by rw [sa_i]) ho, ?_⟩⟩
          · unfold Base
            simp (disch := omega) only [sa_o, sa_i, sa_s]
            refine ⟨b1, b2, b3, b4, b5, b6, b7, b8, fun i hi => ?_, b10, b11⟩
            by_cases hij : i = j
            · subst hij; rw [pk_us]; exact Or.inl rfl
            · rw [pk_un hij]; exact b9 i hi
          · unfold Eqv
            simp (disch := omega) only [sa_o, sa_i, sa_s, si_o, si_a]
            exact ⟨e1, e2, e3, e4, e5, by rw [e6], e7, e8, e9, e10, e11, e12, e13, e14, e15⟩
          · rw [sa_i]; exact h9
          · simp (disch := omega) only [sa_o, sa_i, si_o]
            exact h14.elim Or.inl (fun q => Or.inr ⟨q.1, Kn_fr (fun x _ => by rw [sa_o (by omega), si_a]) (by rw [sa_i, si_o (by omega)]) q.2⟩)
  · rw [h9, if_neg (by decide), if_neg (by decide)]
    exact ⟨_, _, _, rfl, rfl, hR0⟩
theorem si_badAt (hn : n ≤ 12) (hk : 3000 ≤ k) : Sim_badAt n k (RelN n) := by
  intro zc zm h
  have hR0 := Rel_f (v := 0) h
  obtain ⟨T, R, hb, he, hm⟩ := h
  obtain ⟨e1, e2, e3, e4, e5, e6, e7, e8, e9, e10, e11, e12, e13, e14, e15⟩ := he
  unfold gs_badAt rm_badAt
  rw [e13]
  by_cases h0 : zc.1 10 = 0
  · rw [if_pos h0, if_pos h0]
    exact ⟨_, _, rfl, rfl, hR0⟩
  · rw [if_neg h0, if_neg h0]
    exact ⟨_, _, rfl, rfl, hR0⟩
end SM
