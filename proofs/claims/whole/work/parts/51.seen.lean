theorem Sl_fr {zc zc' : SS} {j a : Nat} (h : ∀ x, x = 7 ∨ (10 ≤ x ∧ x ≤ 15) → zc'.2 x = zc.2 x) (hs : Sl zc j a) : Sl zc' j a := by
  unfold Sl at hs ⊢
  rw [h 7 (by omega), h 11 (by omega), h 12 (by omega), h 13 (by omega), h 14 (by omega), h 15 (by omega)]
  exact hs
theorem Ix_fr {n : Nat} {zc zc' : SS} {L : Nat → List Nat} (h : ∀ x, x = 7 ∨ (10 ≤ x ∧ x ≤ 15) → zc'.2 x = zc.2 x) (hI : Ix n zc L) : Ix n zc' L := by
  intro s hs
  obtain ⟨h1, h2, h3⟩ := hI s hs
  refine ⟨by rw [h 10 (by omega)]; exact h1, h2, fun i hi => ⟨fun a ha => Sl_fr h ((h3 i hi).1 a ha), fun hn => by rw [h 12 (by omega)]; exact (h3 i hi).2 hn⟩⟩
theorem Op_fr {n : Nat} {zc zc' : SS} {T : Nat → Nat} {R : Nat → List Nat} (h : ∀ x, x = 7 ∨ (10 ≤ x ∧ x ≤ 15) → zc'.2 x = zc.2 x) (h8 : zc'.1 8 = zc.1 8) (ho : Op n zc T R) : Op n zc' T R := by
  obtain ⟨o1, o2, o3, o4⟩ := ho
  unfold Op
  rw [h 7 (by omega), h8]
  exact ⟨o1, o2, Ix_fr h o3, o4⟩
theorem Kn_fr {n : Nat} {zm zm' : SS} {L : Nat → List Nat} (h : ∀ x, x = 1 ∨ (7 ≤ x ∧ x ≤ 11) → zm'.2 x = zm.2 x) (h15 : zm'.1 15 = zm.1 15) (hK : Kn n zm L) : Kn n zm' L := by
  refine ⟨by rw [h15]; exact hK.1, fun s hs i a ha => ?_⟩
  have := hK.2 s hs i a ha
  unfold Rw at this ⊢
  rw [h 1 (by omega), h 7 (by omega), h 8 (by omega), h 9 (by omega), h 10 (by omega), h 11 (by omega)]
  exact this
theorem Md_fr {n : Nat} {zc zc' zm zm' : SS} {T : Nat → Nat} {R : Nat → List Nat} (hc : ∀ x, x = 7 ∨ (10 ≤ x ∧ x ≤ 16) → zc'.2 x = zc.2 x) (h8 : zc'.1 8 = zc.1 8) (h9 : zc'.1 9 = zc.1 9) (h24 : zc'.1 24 = zc.1 24) (h25 : zc'.1 25 = zc.1 25) (hm : ∀ x, x = 1 ∨ (7 ≤ x ∧ x ≤ 11) → zm'.2 x = zm.2 x) (h14 : zm'.1 14 = zm.1 14) (h15 : zm'.1 15 = zm.1 15) (h : Md n zc zm T R) : Md n zc' zm' T R := by
  have hc' : ∀ x, x = 7 ∨ (10 ≤ x ∧ x ≤ 15) → zc'.2 x = zc.2 x := fun x hx => hc x (by omega)
  unfold Md at h ⊢
  rw [h9, h14, hc 7 (by omega)]
  rcases h with ⟨g1, g2, g3⟩ | ⟨g1, ⟨g2, g3, g4, g5⟩, g6⟩
  · exact Or.inl ⟨g1, Op_fr hc' h8 g2, g3.elim Or.inl (fun q => Or.inr ⟨q.1, Kn_fr hm h15 q.2⟩)⟩
  · refine Or.inr ⟨g1, ⟨by rw [h24]; exact g2, by rw [h25]; exact g3, Ix_fr hc' g4, ?_⟩, g6⟩
    rw [hc 16 (by omega)]
    exact g5
section SEEN
variable {n k : Nat} {zc zm : SS} {L : Nat → List Nat}
theorem slotAt_last (h : KK n zc zm L) (hk : 3000 ≤ k) {last K : Int32} (hN : NL n (zc.2 7) L last) (hK1 : K ≠ -1) : ix_slotAt n k zc K last = ix_slotAt n k zc K 2147483647 := by
  obtain ⟨r, e1, b1⟩ := p_slotAt (k := k) (z := zc) h.1 hk K last
  obtain ⟨r', e2, b2⟩ := p_slotAt (k := k) (z := zc) h.1 hk K 2147483647
  rw [Best_cut (M' := 2147483647) (fun j hj hk => NL_slot h hN hj (by rw [hk]; exact hK1)) (by rw [last_ti]; exact i_le_last _)] at b1
  rw [e1, e2, Best_uniq b1 b2]
theorem a_55 (h : KK n zc zm L) (hk : 3000 ≤ k) {last : Int32} (hN : NL n (zc.2 7) L last) {K : Int32} (hK1 : K ≠ -1) {Mc Mm : Int32} (hM : Mc = Mm ∨ (Mc = last ∧ Mm = 2147483647)) :
    (gs_slotSeen_b55 n k zc K Mc = some (-1) ∧ rm_has k zm K Mm = some (-1, zm)) ∨ ∃ s i a, s < n ∧ i < 12 ∧ (L s)[i]? = some a ∧ gs_slotSeen_b55 n k zc K Mc = some (nI (s * 12 + i)) ∧ rm_has k zm K Mm = some (nI (off L s + i), zm) := by
  have hn := h.1
  have hL := h.2.2.2.2.1
  have hI := h.2.2.2.2.2.1
  have hoff := off_le hn hL
  obtain ⟨r, r', e1, e2, hr⟩ := a_has (k := k) h hk K hK1 Mm
  have e3 : ix_slotAt n k zc K Mc = some r := by
    rcases hM with rfl | ⟨rfl, rfl⟩
    · exact e1
    · rw [slotAt_last h hk hN hK1]; exact e1
  unfold gs_slotSeen_b55 rm_has
  rw [e3, e2, bo_some, bi_some]
  rcases hr with ⟨rfl, rfl⟩ | ⟨s, i, a, h1, h2, h3, rfl, rfl⟩
  · exact Or.inl ⟨if_pos rfl, if_pos (by decide)⟩
  · obtain ⟨q1, q2, q3, q4, q5⟩ := ((hI s h1).2.2 i h2).1 a h3
    obtain ⟨w1, w2, w3, w4, w5⟩ := h.2.2.2.2.2.2.1.2 s h1 i a h3
    have hlt : off L s + i < off L n := by
      have := sumT_at (T := fun t => (L t).length) h1
      have hi : i < (L s).length := by
        rcases Nat.lt_or_ge i (L s).length with q | q
        · exact q
        · rw [List.getElem?_eq_none q] at h3; cases h3
      show sumT (fun t => (L t).length) s + i < sumT (fun t => (L t).length) n
      omega
    rw [h.2.1] at w4
    simp (disch := omega) only [m1_ne, neg_n, if_false, ck_n, tn_n, if_true, q5, w4]
    by_cases hg : gG (zc.2 7) a = 0
    · rw [if_pos hg, if_pos hg]
      exact Or.inr ⟨s, i, a, h1, h2, h3, rfl, rfl⟩
    · rw [if_neg hg, if_neg hg]
      exact Or.inl ⟨rfl, rfl⟩
theorem a_bad (h : KK n zc zm L) (hk : 3000 ≤ k) {K : Int32} (hK : K < 0 ∨ 1000 ≤ K) (M : Int32) : rm_has k zm K M = some (-1, zm) := by
  have hn := h.1
  have hL := h.2.2.2.2.1
  have hoff := off_le hn hL
  rcases m_has (k := k) (z := zm) (N := off L n) (by omega) hk h.2.2.2.2.2.2.2 h.2.2.2.2.2.2.1.1 K M with ⟨e, _⟩ | ⟨b, ⟨h1, h2, h3⟩, e⟩
  · exact e
  · exfalso
    have h4 := ((Best_at h1 (by omega)).mp h2).1
    obtain ⟨s, i, a, g1, g2, g3, g4, g5⟩ := off_row h1
    obtain ⟨w1, w2, w3, w4, w5⟩ := h.2.2.2.2.2.2.1.2 s g1 i a g3
    rw [g4, w2, h.2.1] at h4
    obtain ⟨_, _, _, _, k1, k2, _⟩ := GL_row hL g1 g5
    rw [h4] at k1 k2
    exact hK.elim k1 k2
end SEEN
section SEEN2
variable {n k : Nat}
theorem a_seen (hn : n ≤ 12) (hk : 3000 ≤ k) {zc zm : SS} (h : RelN n zc zm) (sn K : Int32) : ∃ zm', RelN n zc zm' ∧ ((gs_slotSeen n k zc sn K = some (-1) ∧ rm_rowFor k zm sn K = some (-1, zm')) ∨ ∃ s i a L, KK n zc zm' L ∧ s < n ∧ i < 12 ∧ (L s)[i]? = some a ∧ gs_slotSeen n k zc sn K = some (nI (s * 12 + i)) ∧ rm_rowFor k zm sn K = some (nI (off L s + i), zm')) := by
  obtain ⟨T, R, hb, he, hm⟩ := h
  have hb' := hb
  have he' := he
  obtain ⟨b1, b2, b3, b4, b5, b6, b7, b8, b9, b10, b11⟩ := hb
  obtain ⟨e1, e2, e3, e4, e5, e6, e7, e8, e9, e10, e11, e12, e13, e14, e15⟩ := he
  rcases hm with ⟨h9, ho, h14⟩ | ⟨h9, hc, h14⟩
  · obtain ⟨z1, f1, f2, f3, f4, f5, f6, f7⟩ := Rel_know (k := k) hn hk hb' he' ho h9 h14
    have hR1 : RelN n zc z1 := ⟨T, R, hb', f4, Or.inl ⟨h9, ho, Or.inr ⟨f2, f5⟩⟩⟩
    have hR0 : RelN n zc zm := ⟨T, R, hb', he', Or.inl ⟨h9, ho, h14⟩⟩
    have hN := ho.2.2.2
    unfold gs_slotSeen rm_rowFor rm_momentOf rf_isKey
    rw [e12, if_pos h9, if_pos h9]
    by_cases hKv : K < 0 ∨ 1000 ≤ K
    · have hcl : (if K < 0 then some (0 : Int32) else if 1000 ≤ K then some 0 else some 1) = some 0 := by
        by_cases q : K < 0
        · rw [if_pos q]
        · rw [if_neg q, if_pos (hKv.elim (fun w => absurd w q) (fun w => w))]
      rw [hcl, bo_some, if_pos rfl]
      have hh : ∀ M, rm_has k zm K M = some (-1, z1) := fun M => by rw [kn_has f1 f2, a_bad f3 hk hKv]
      by_cases hs1 : sn = -1
      · rw [if_pos hs1, bo_some, if_pos (by decide), hh, bi_some]
        exact ⟨z1, hR1, Or.inl ⟨by trivial, by trivial⟩⟩
      · rw [if_neg hs1]
        unfold rm_in
        by_cases hs2 : sn < 0
        · rw [if_pos hs2, bo_some, if_pos rfl, bo_some, if_neg (by decide)]
          exact ⟨zm, hR0, Or.inl ⟨by trivial, by trivial⟩⟩
        · rw [if_neg hs2]
          obtain ⟨j, hj, rfl⟩ := nI_of hs2
          simp (disch := omega) only [c_lt_3]
          by_cases hj3 : 3 < j
          · rw [if_pos hj3, bo_some, if_pos rfl, bo_some, if_neg (by decide)]
            exact ⟨zm, hR0, Or.inl ⟨by trivial, by trivial⟩⟩
          · rw [if_neg hj3, bo_some, if_neg (by decide)]
            simp (disch := omega) only [ck_n, tn_n, if_true]
            by_cases ho2 : zm.2 5 j = 0
            · rw [if_pos ho2, bo_some, if_neg (by decide)]
              exact ⟨zm, hR0, Or.inl ⟨by trivial, by trivial⟩⟩
            · have hmom : 0 ≤ zm.2 6 j := by rw [e7]; exact Int32.not_lt.mp (b10 j (by omega))
              rw [if_neg ho2, bo_some, if_pos hmom, hh, bi_some]
              exact ⟨z1, hR1, Or.inl ⟨by trivial, by trivial⟩⟩
    · have hcl : (if K < 0 then some (0 : Int32) else if 1000 ≤ K then some 0 else some 1) = some 1 := by
        rw [if_neg (fun q => hKv (Or.inl q)), if_neg (fun q => hKv (Or.inr q))]
      have hK1 : K ≠ -1 := fun q => hKv (Or.inl (by rw [q]; decide))
      rw [hcl, bo_some, if_neg (by decide)]
      have fin : ∀ Mc Mm : Int32, (Mc = Mm ∨ (Mc = zc.1 8 ∧ Mm = 2147483647)) → ∃ zm', RelN n zc zm' ∧ ((gs_slotSeen_b55 n k zc K Mc = some (-1) ∧ (bi (rm_has k zm K Mm) fun r_2 z_2 => some (r_2, z_2)) = some (-1, zm')) ∨ ∃ s i a L, KK n zc zm' L ∧ s < n ∧ i < 12 ∧ (L s)[i]? = some a ∧ gs_slotSeen_b55 n k zc K Mc = some (nI (s * 12 + i)) ∧ (bi (rm_has k zm K Mm) fun r_2 z_2 => some (r_2, z_2)) = some (nI (off L s + i), zm')) := by
        intro Mc Mm hM
        refine ⟨z1, hR1, ?_⟩
        rw [kn_has f1 f2]
        rcases a_55 (k := k) f3 hk hN hK1 hM with ⟨g1, g2⟩ | ⟨s, i, a, g1, g2, g3, g4, g5⟩
        · rw [g2]
          exact Or.inl ⟨g1, rfl⟩
        · rw [g5]
          exact Or.inr ⟨s, i, a, _, f3, g1, g2, g3, g4, rfl⟩
      by_cases hs1 : sn = -1
      · rw [if_pos hs1, if_pos hs1, bo_some, if_pos (by decide)]
        unfold gs_slotSeen_b34
        rw [if_pos hs1]
        exact fin _ _ (Or.inr ⟨rfl, rfl⟩)
      · rw [if_neg hs1, if_neg hs1]
        unfold rm_in sn_isOpen
        by_cases hs2 : sn < 0
        · rw [if_pos hs2, if_pos hs2, bo_some, bo_some, if_pos rfl, if_pos rfl, bo_some, if_neg (by decide)]
          exact ⟨zm, hR0, Or.inl ⟨by trivial, by trivial⟩⟩
        · rw [if_neg hs2, if_neg hs2]
          obtain ⟨j, hj, rfl⟩ := nI_of hs2
          simp (disch := omega) only [c_lt_3, c_le_4]
          by_cases hj3 : 3 < j
          · rw [if_pos hj3, if_pos (show 4 ≤ j by omega), bo_some, bo_some, if_pos rfl, if_pos rfl, bo_some, if_neg (by decide)]
            exact ⟨zm, hR0, Or.inl ⟨by trivial, by trivial⟩⟩
          · rw [if_neg hj3, if_neg (show ¬ 4 ≤ j by omega)]
            simp (disch := omega) only [ck_n, tn_n, if_true, e6, e7, bo_some]
            rw [if_neg (show ¬ (1 : Int32) = 0 by decide)]
            by_cases ho2 : zc.2 16 j = 0
            · rw [if_pos ho2, if_pos ho2, bo_some, bo_some, if_pos rfl, if_neg (by decide)]
              exact ⟨zm, hR0, Or.inl ⟨by trivial, by trivial⟩⟩
            · have hmom : 0 ≤ zc.2 17 j := Int32.not_lt.mp (b10 j (by omega))
              rw [if_neg ho2, if_neg ho2, bo_some, bo_some, if_neg (by decide), if_pos hmom]
              unfold gs_slotSeen_b34
              rw [if_neg hs1]
              simp (disch := omega) only [ck_n, tn_n, if_true]
              exact fin _ _ (Or.inl rfl)
  · refine ⟨zm, ⟨T, R, hb', he', Or.inr ⟨h9, hc, h14⟩⟩, Or.inl ⟨?_, ?_⟩⟩
    · unfold gs_slotSeen
      rw [h9, if_neg (by decide)]
    · unfold rm_rowFor rm_momentOf
      rw [e12, h9, if_neg (by decide), bo_some, if_neg (by decide)]
theorem si_length (hn : n ≤ 12) (hk : 3000 ≤ k) : Sim_length n k (RelN n) := by
  intro zc zm a1 a2 h
  obtain ⟨zm', hR, hc⟩ := a_seen (k := k) hn hk (Rel_f (v := 0) h) a1 a2
  unfold gs_length rm_length
  rcases hc with ⟨c1, c2⟩ | ⟨s, i, a, L, hKK, g1, g2, g3, c1, c2⟩
  · rw [c1, c2, bo_some, bi_some, if_pos rfl, if_neg (by decide)]
    exact ⟨_, _, rfl, rfl, hR⟩
  · have hb2 := hR
    obtain ⟨T, R, hb, he, hm⟩ := hb2
    have hm2 : a ∈ L s := List.mem_of_getElem? g3
    have hL := hKK.2.2.2.2.1
    obtain ⟨k1, k2, k3, k4, _⟩ := GL_row hL g1 hm2
    obtain ⟨q1, q2, q3, q4, q5⟩ := ((hKK.2.2.2.2.2.1 s g1).2.2 i g2).1 a g3
    obtain ⟨w0, w1, w2, w3, w4, w5, w6, w7⟩ := rA_at hKK g1 g3
    have hoff := off_le hn hL
    have hlt : off L s + i < 160 := by
      have := sumT_at (T := fun t => (L t).length) g1
      have hi : i < (L s).length := by
        rcases Nat.lt_or_ge i (L s).length with q | q
        · exact q
        · rw [List.getElem?_eq_none q] at g3; cases g3
      have : off L s + i < off L n := by
        show sumT (fun t => (L t).length) s + i < sumT (fun t => (L t).length) n
        omega
      omega
    obtain ⟨u1, u2⟩ := gln_of (a := a) hb.2.1 (by omega)
    rw [c1, c2, bo_some, bi_some]
    simp (disch := omega) only [m1_ne, if_false, ck_n, tn_n, if_true, c_le_0, Nat.zero_le, w1, na_7, hKK.2.1, q4, u2]
    exact ⟨_, _, rfl, rfl, hR⟩
theorem si_find (hn : n ≤ 12) (hk : 3000 ≤ k) : Sim_find n k (RelN n) := by
  intro zc zm a1 a2 a3 h
  obtain ⟨zm', hR, hc⟩ := a_seen (k := k) hn hk (Rel_f (v := 0) h) a1 a2
  unfold gs_find rm_find
  rcases hc with ⟨c1, c2⟩ | ⟨s, i, a, L, hKK, g1, g2, g3, c1, c2⟩
  · rw [c1, c2, bo_some, bi_some, if_pos rfl, if_pos (by decide)]
    exact ⟨_, _, rfl, rfl, hR⟩
  · have hb2 := hR
    obtain ⟨T, R, hb, he, hm⟩ := hb2
    have hm2 : a ∈ L s := List.mem_of_getElem? g3
    have hL := hKK.2.2.2.2.1
    obtain ⟨k1, k2, k3, k4, _⟩ := GL_row hL g1 hm2
    obtain ⟨q1, q2, q3, q4, q5⟩ := ((hKK.2.2.2.2.2.1 s g1).2.2 i g2).1 a g3
    obtain ⟨w0, w1, w2, w3, w4, w5, w6, w7⟩ := rA_at hKK g1 g3
    have hoff := off_le hn hL
    have hlt : off L s + i < 160 := by
      have := sumT_at (T := fun t => (L t).length) g1
      have hi : i < (L s).length := by
        rcases Nat.lt_or_ge i (L s).length with q | q
        · exact q
        · rw [List.getElem?_eq_none q] at g3; cases g3
      have : off L s + i < off L n := by
        show sumT (fun t => (L t).length) s + i < sumT (fun t => (L t).length) n
        omega
      omega
    obtain ⟨u1, u2⟩ := gln_of (a := a) hb.2.1 (by omega)
    rw [c1, c2, bo_some, bi_some]
    simp (disch := omega) only [m1_ne, if_false, ck_n, tn_n, if_true, neg_n, w1, na_7, na_8, hKK.2.1, q4, q1, u2]
    by_cases h3 : a3 < 0
    · rw [if_pos h3, if_pos h3]
      exact ⟨_, _, rfl, rfl, hR⟩
    · obtain ⟨j, hj, rfl⟩ := nI_of h3
      rw [if_neg h3, if_neg h3]
      simp (disch := omega) only [lt_n]
      by_cases h4 : j < gln (zc.2 7) a
      · simp (disch := omega) only [h4, if_true, nI_add, ck_n, tn_n]
        exact ⟨_, _, rfl, rfl, hR⟩
      · rw [if_neg h4, if_neg h4]
        exact ⟨_, _, rfl, rfl, hR⟩
end SEEN2
