theorem cnt_one {Q : Nat → Prop} {a M : Nat} (ha : a < M) (hq : ¬ Q a) : sumR (cw (fun K => Q K ∨ K = a) (fun _ => 1)) 0 M = sumR (cw Q (fun _ => 1)) 0 M + 1 := by
  have hM : M = a + (1 + (M - a - 1)) := by omega
  rw [hM, sumR_split, sumR_split, sumR_split (f := cw Q _), sumR_split (f := cw Q _) (d := 1)]
  have h1 : sumR (cw (fun K => Q K ∨ K = a) (fun _ => 1)) 0 a = sumR (cw Q (fun _ => 1)) 0 a := sumR_congr (fun i hi => by
    by_cases h : Q (0 + i)
    · rw [cw_t h, cw_t (Or.inl h)]
    · rw [cw_f h, cw_f (fun q => q.elim h (fun w => by omega))])
  have h2 : sumR (cw (fun K => Q K ∨ K = a) (fun _ => 1)) (0 + a + 1) (M - a - 1) = sumR (cw Q (fun _ => 1)) (0 + a + 1) (M - a - 1) := sumR_congr (fun i hi => by
    by_cases h : Q (0 + a + 1 + i)
    · rw [cw_t h, cw_t (Or.inl h)]
    · rw [cw_f h, cw_f (fun q => q.elim h (fun w => by omega))])
  rw [h1, h2]
  have h3 : sumR (cw (fun K => Q K ∨ K = a) (fun _ => 1)) (0 + a) 1 = 1 := by
    show cw _ _ (0 + a) + 0 = 1
    rw [cw_t (Or.inr (by omega))]
  have h4 : sumR (cw Q (fun _ => 1)) (0 + a) 1 = 0 := by
    show cw _ _ (0 + a) + 0 = 0
    rw [cw_f (by rw [Nat.zero_add]; exact hq)]
  rw [h3, h4]
  omega
theorem cnt_inj {P : Nat → Prop} {f : Nat → Nat} {M : Nat} : ∀ {N : Nat}, (∀ j, j < N → P j → f j < M) → (∀ i j, i < N → j < N → P i → P j → f i = f j → i = j) → sumR (cw P (fun _ => 1)) 0 N = sumR (cw (fun K => ∃ j, j < N ∧ P j ∧ f j = K) (fun _ => 1)) 0 M := by
  intro N
  induction N with
  | zero =>
    intro _ _
    rw [sumR_zero (f := cw (fun K => ∃ j, j < 0 ∧ P j ∧ f j = K) (fun _ => 1)) (fun i _ => cw_f (fun ⟨j, h, _⟩ => by omega))]
    rfl
  | succ N ih =>
    intro h1 h2
    rw [sumR_split (d := N) (d' := 1), ih (fun j hj => h1 j (by omega)) (fun i j hi hj => h2 i j (by omega) (by omega))]
    show _ + (cw _ _ (0 + N) + 0) = _
    rw [Nat.zero_add]
    by_cases hp : P N
    · rw [cw_t hp, Nat.add_zero, ← cnt_one (Q := fun K => ∃ j, j < N ∧ P j ∧ f j = K) (h1 N (by omega) hp) (fun ⟨j, g1, g2, g3⟩ => by
        have := h2 j N (by omega) (by omega) g2 hp g3
        omega)]
      refine sumR_congr (fun i _ => ?_)
      have e : (fun K => (∃ j, j < N ∧ P j ∧ f j = K) ∨ K = f N) = (fun K => ∃ j, j < N + 1 ∧ P j ∧ f j = K) := by
        funext K
        refine propext ⟨fun h => ?_, fun ⟨j, g1, g2, g3⟩ => ?_⟩
        · rcases h with ⟨j, g1, g2, g3⟩ | g
          · exact ⟨j, by omega, g2, g3⟩
          · exact ⟨N, by omega, hp, g.symm⟩
        · by_cases hj : j = N
          · subst hj; exact Or.inr g3.symm
          · exact Or.inl ⟨j, by omega, g2, g3⟩
      rw [e]
    · rw [cw_f hp, Nat.add_zero]
      refine sumR_congr (fun i _ => ?_)
      have e : (fun K => (∃ j, j < N ∧ P j ∧ f j = K)) = (fun K => ∃ j, j < N + 1 ∧ P j ∧ f j = K) := by
        funext K
        refine propext ⟨fun ⟨j, g1, g2, g3⟩ => ⟨j, by omega, g2, g3⟩, fun ⟨j, g1, g2, g3⟩ => ?_⟩
        by_cases hj : j = N
        · subst hj; exact absurd g2 hp
        · exact ⟨j, by omega, g2, g3⟩
      rw [e]
def KK (n : Nat) (zc zm : SS) (L : Nat → List Nat) : Prop := n ≤ 12 ∧ zm.2 1 = zc.2 7 ∧ zm.2 5 = zc.2 16 ∧ zm.2 6 = zc.2 17 ∧ GL n (zc.2 7) L ∧ Ix n zc L ∧ Kn n zm L ∧ zm.1 14 = 1
theorem off_le {n : Nat} {B : Nat → Int32} {L : Nat → List Nat} (hn : n ≤ 12) (hL : GL n B L) : off L n ≤ 144 := by
  have : off L n ≤ n * 12 := sumT_le (fun s hs => (hL s hs).1)
  omega
section AG
variable {n k : Nat} {zc zm : SS} {L : Nat → List Nat}
def rA (zm : SS) (r : Nat) : Nat := (zm.2 7 r).toNatClampNeg
def rC (zm : SS) (r : Nat) : Nat := gln (zm.2 1) (rA zm r)
def cC (zc : SS) (j : Nat) : Nat := gln (zc.2 7) (zc.2 11 j).toNatClampNeg
theorem rA_at (h : KK n zc zm L) {s i a : Nat} (hs : s < n) (ha : (L s)[i]? = some a) : rA zm (off L s + i) = a ∧ zm.2 7 (off L s + i) = nI a ∧ zm.2 11 (off L s + i) = nI (16 + gln (zc.2 7) a) ∧ a ∈ L s ∧ a < 2400 ∧ a / 200 = s ∧ rC zm (off L s + i) = gln (zc.2 7) a ∧ gln (zc.2 7) a ≤ 20 := by
  obtain ⟨hn, hB, _, _, hL, hI, hK, _⟩ := h
  have hm : a ∈ L s := List.mem_of_getElem? ha
  obtain ⟨g1, g2, g3, _⟩ := GL_row hL hs hm
  obtain ⟨w1, w2, w3, w4, w5⟩ := hK.2 s hs i a ha
  have e : rA zm (off L s + i) = a := by unfold rA; rw [w1, tn_n (by omega)]
  refine ⟨e, w1, by rw [← hB]; exact w5, hm, by omega, by omega, ?_, g3⟩
  unfold rC
  rw [e, hB]
theorem r_hw (h : KK n zc zm L) : ∀ r, r < off L n → zm.2 7 r = nI (rA zm r) ∧ rA zm r < 2400 ∧ zm.2 11 r = nI (16 + rC zm r) := by
  intro r hr
  obtain ⟨s, i, a, h1, h2, h3, h4, h5⟩ := off_row hr
  obtain ⟨e1, e2, e3, e4, e5, e6, e7, e8⟩ := rA_at h h1 h3
  rw [h4, e1, e2, e3, e7]
  exact ⟨rfl, e5, rfl⟩
theorem c_hw (h : KK n zc zm L) : ∀ j, j < n * 12 → zc.2 12 j ≠ -1 → zc.2 14 j = nI (cC zc j) ∧ cC zc j ≤ 20 := by
  obtain ⟨hn, hB, _, _, hL, hI, hK, _⟩ := h
  intro j hj hk
  obtain ⟨s, i, a, h1, h2, h3, h4, q1, q2, q3, q4, q5⟩ := Ix_slot hI hj hk
  have hm : a ∈ L s := List.mem_of_getElem? h3
  obtain ⟨g1, g2, g3, _⟩ := GL_row hL h1 hm
  unfold cC
  rw [q1, tn_n (by omega)]
  exact ⟨q4, g3⟩
theorem lvc_at (h : KK n zc zm L) {s i : Nat} (hs : s < n) (hi : i < (L s).length) : LvS n zc (s * 12 + i) ↔ LvR (off L n) zm (off L s + i) := by
  obtain ⟨hn, hB, h5, h6, hL, hI, hK, hkn⟩ := h
  have E := emb_of hB hL hI hK
  have hr : off L s + i < off L n := by
    have := sumT_at (T := fun t => (L t).length) hs
    show sumT (fun t => (L t).length) s + i < sumT (fun t => (L t).length) n
    omega
  have e : phi (fun t => (L t).length) n (off L s + i) = s * 12 + i := phi_at hs hi
  have h1 := Emb_lv (op := zc.2 16) (mom := zc.2 17) E hr
  rw [e] at h1
  unfold LvS LvR
  rw [h5, h6, ← h1]
  have h2 := (E.1 _ hr)
  rw [e] at h2
  exact ⟨fun q => q.2, fun q => ⟨by rw [h2.2.1]; exact h2.2.2.2.2, q⟩⟩
theorem off_s {s : Nat} (hs : s < n) : off L n = off L s + ((L s).length + (off L n - off L (s + 1))) := by
  have h1 := sumT_mono (l := fun t => (L t).length) (s := s + 1) (n := n) (by omega)
  show sumT (fun t => (L t).length) n = sumT (fun t => (L t).length) s + ((L s).length + (sumT (fun t => (L t).length) n - sumT (fun t => (L t).length) (s + 1)))
  have h2 : sumT (fun t => (L t).length) (s + 1) = sumT (fun t => (L t).length) s + (L s).length := rfl
  omega
theorem seg_out (h : KK n zc zm L) {s r : Nat} (hs : s < n) (hr : r < off L n) (ho : r < off L s ∨ off L s + (L s).length ≤ r) : rA zm r / 200 ≠ s := by
  obtain ⟨t, i, a, h1, h2, h3, h4, h5⟩ := off_row hr
  obtain ⟨e1, e2, e3, e4, e5, e6, e7, e8⟩ := rA_at h h1 h3
  rw [h4, e1, e6]
  intro q
  subst q
  omega
theorem sum_seg (h : KK n zc zm L) {s : Nat} (hs : s < n) {g : Nat → Nat} (hg : ∀ r, r < off L n → rA zm r / 200 ≠ s → g r = 0) : sumR g 0 (off L n) = sumR g (off L s) (L s).length := by
  rw [off_s hs, sumR_split, sumR_split]
  have h0 := off_s (L := L) hs
  rw [sumR_zero (d := off L s) (lo := 0) (fun i hi => hg _ (by omega) (seg_out h hs (by omega) (by omega))), sumR_zero (d := off L n - off L (s + 1)) (fun i hi => hg _ (by omega) (seg_out h hs (by omega) (by omega))), Nat.zero_add, Nat.zero_add, Nat.add_zero]
theorem fl_seg (h : KK n zc zm L) {s : Nat} (hs : s < n) {P : Nat → Prop} (hg : ∀ r, r < off L n → rA zm r / 200 ≠ s → ¬ P r) : fl P 0 (off L n) = fl P (off L s) (L s).length := by
  rw [off_s hs, fl_split, fl_split]
  have h0 := off_s (L := L) hs
  rw [fl_zero (d := off L s) (lo := 0) (fun i hi => hg _ (by omega) (seg_out h hs (by omega) (by omega))), fl_zero (d := off L n - off L (s + 1)) (fun i hi => hg _ (by omega) (seg_out h hs (by omega) (by omega))), List.nil_append, List.append_nil, Nat.zero_add]
theorem slot_none (h : KK n zc zm L) {s i : Nat} (hs : s < n) (hi : (L s).length ≤ i) (h12 : i < 12) : ¬ LvS n zc (s * 12 + i) := by
  obtain ⟨hn, hB, h5, h6, hL, hI, hK, hkn⟩ := h
  intro q
  exact q.1 (((hI s hs).2.2 i h12).2 (List.getElem?_eq_none hi))
theorem a_living (h : KK n zc zm L) (hk : 3000 ≤ k) {s : Nat} (hs : s < n) : ∃ v : Nat, v ≤ 432 ∧ ix_livingBytes_3 n k zc (nI s) = some (nI v) ∧ rm_livingIn k zm (nI s) = some (nI v, zm) := by
  have hn := h.1
  have hL := h.2.2.2.2.1
  have hI := h.2.2.2.2.2.1
  have hK := h.2.2.2.2.2.2.1
  refine ⟨sumR (cw (LvS n zc) (fun j => 16 + cC zc j)) (s * 12) 12, ?_, p_living hn hk hs (c_hw h), ?_⟩
  · have := sumR_le (f := cw (LvS n zc) (fun j => 16 + cC zc j)) (c := 36) (d := 12) (lo := s * 12) (fun i hi => by
      by_cases hl : LvS n zc (s * 12 + i)
      · rw [cw_t hl]
        have := (c_hw h (s * 12 + i) (by omega) hl.1).2
        omega
      · rw [cw_f hl]; omega)
    omega
  · have hl := (hL s hs).1
    rw [m_livingIn (z := zm) (N := off L n) (by have := off_le hn hL; omega) hk h.2.2.2.2.2.2.2 hK.1 (by omega) (r_hw h), sum_seg h hs (fun r hr hq => cw_f (fun q => hq q.1))]
    congr 3
    rw [show 12 = (L s).length + (12 - (L s).length) by omega, sumR_split (lo := s * ((L s).length + (12 - (L s).length)))]
    rw [show (L s).length + (12 - (L s).length) = 12 by omega]
    rw [sumR_zero (d := 12 - (L s).length) (fun i hi => cw_f (by rw [Nat.add_assoc]; exact slot_none h hs (by omega) (by omega))), Nat.add_zero]
    refine sumR_congr (fun i hi => ?_)
    have h3 : (L s)[i]? = some (L s)[i] := List.getElem?_eq_getElem hi
    obtain ⟨e1, e2, e3, e4, e5, e6, e7, e8⟩ := rA_at h hs h3
    have h4 := lvc_at h hs hi
    by_cases hl : LvS n zc (s * 12 + i)
    · rw [cw_t hl, cw_t ⟨by rw [e1]; exact e6, h4.mp hl⟩, e7]
      obtain ⟨q1, q2, q3, q4, q5⟩ := ((hI s hs).2.2 i (by omega)).1 _ h3
      unfold cC
      rw [q1, tn_n (by omega)]
    · rw [cw_f hl, cw_f (fun q => hl (h4.mpr q.2))]
noncomputable def surv (n : Nat) (zc : SS) (L : Nat → List Nat) (s : Nat) : List (Nat × Nat) := (fl (fun i => LvS n zc (s * 12 + i)) 0 (L s).length).map (fun i => (s * 12 + i, (L s).getD i 0))
theorem surv_mem {v : Nat × Nat} {s : Nat} (h : v ∈ surv n zc L s) : ∃ i, i < (L s).length ∧ v.1 = s * 12 + i ∧ (L s)[i]? = some v.2 := by
  unfold surv at h
  obtain ⟨i, h1, h2⟩ := List.mem_map.mp h
  have h3 := fl_mem h1
  have h4 : i < (L s).length := by omega
  refine ⟨i, h4, by rw [← h2], ?_⟩
  rw [← h2, List.getD_eq_getElem?_getD, List.getElem?_eq_getElem h4]
  rfl
theorem a_gather (h : KK n zc zm L) (hk : 3000 ≤ k) {s : Nat} (hs : s < n) : ∃ zc' zm', gs_gatherSurvivors n k zc (nI s) = some zc' ∧ rm_choose k zm (nI s) = some zm' ∧
    zc'.1 7 = nI (surv n zc L s).length ∧ zm'.1 26 = nI (surv n zc L s).length ∧ (surv n zc L s).length ≤ 12 ∧ (∀ q, q ≠ 6 → zc'.2 q = zc.2 q) ∧ (∀ q, q ≠ 7 → zc'.1 q = zc.1 q) ∧ (∀ q, q ≠ 13 → q ≠ 14 → zm'.2 q = zm.2 q) ∧ (∀ q, q ≠ 26 → zm'.1 q = zm.1 q) ∧
    (∀ i v, (surv n zc L s)[i]? = some v → zc'.2 6 i = nI v.1 ∧ zm'.2 13 i = nI v.2 ∧ zm'.2 14 i = nI (16 + gln (zc.2 7) v.2)) := by
  have hn := h.1
  have hL := h.2.2.2.2.1
  have hI := h.2.2.2.2.2.1
  have hK := h.2.2.2.2.2.2.1
  have hl := (hL s hs).1
  have hc1 : fl (LvS n zc) (s * 12) 12 = (fl (fun i => LvS n zc (s * 12 + i)) 0 (L s).length).map (fun i => s * 12 + i) := by
    have e0 : fl (LvS n zc) (s * 12) ((L s).length + (12 - (L s).length)) = fl (LvS n zc) (s * 12) (L s).length := by
      rw [fl_split, fl_zero (d := 12 - (L s).length) (fun i hi => by rw [Nat.add_assoc]; exact slot_none h hs (by omega) (by omega)), List.append_nil]
    rw [show (L s).length + (12 - (L s).length) = 12 by omega] at e0
    rw [e0]
    exact fl_shift (b := s * 12) (b' := 0) (lo := 0) (Q := fun i => LvS n zc (s * 12 + i)) (fun i hi => Iff.rfl)
  have hm1 : fl (fun r => rA zm r / 200 = s ∧ LvR (off L n) zm r) 0 (off L n) = (fl (fun i => LvS n zc (s * 12 + i)) 0 (L s).length).map (fun i => off L s + i) := by
    rw [fl_seg h hs (fun r hr hq q => hq q.1)]
    refine fl_shift (b := off L s) (b' := 0) (lo := 0) (Q := fun i => LvS n zc (s * 12 + i)) (fun i hi => ?_)
    have h3 : (L s)[i]? = some (L s)[i] := List.getElem?_eq_getElem hi
    obtain ⟨e1, e2, e3, e4, e5, e6, e7, e8⟩ := rA_at h hs h3
    have h4 := lvc_at h hs hi
    rw [Nat.zero_add]
    exact ⟨fun q => h4.mpr q.2, fun q => ⟨by rw [e1]; exact e6, h4.mp q⟩⟩
  have hlen : (fl (fun i => LvS n zc (s * 12 + i)) 0 (L s).length).length ≤ 12 := Nat.le_trans fl_len hl
  obtain ⟨zc', c1, c2, c3, c4, c5⟩ := p_gather (k := k) (z := zc) hn hk hs
  obtain ⟨zm', m1, m2, m3, m4, m5⟩ := m_choose (k := k) (z := zm) (N := off L n) (s := s) (by have := off_le hn hL; omega) hk h.2.2.2.2.2.2.2 hK.1 (by omega) (r_hw h) (by rw [hm1, List.length_map]; omega)
  rw [hc1] at c2 c5
  rw [hm1] at m2 m5
  rw [List.length_map] at c2 m2
  have hsl : (surv n zc L s).length = (fl (fun i => LvS n zc (s * 12 + i)) 0 (L s).length).length := by unfold surv; rw [List.length_map]
  refine ⟨zc', zm', c1, m1, by rw [hsl]; exact c2, by rw [hsl]; exact m2, by omega, c3, c4, m3, m4, fun q v hv => ?_⟩
  unfold surv at hv
  rw [List.getElem?_map] at hv
  cases hi : (fl (fun i => LvS n zc (s * 12 + i)) 0 (L s).length)[q]? with
  | none => rw [hi] at hv; cases hv
  | some i =>
    rw [hi] at hv
    have hv : (s * 12 + i, (L s).getD i 0) = v := by simpa using hv
    have h3 := fl_mem (List.mem_of_getElem? hi)
    have h4 : i < (L s).length := by omega
    have h5 : (L s)[i]? = some ((L s).getD i 0) := by
      rw [List.getD_eq_getElem?_getD, List.getElem?_eq_getElem h4]
      rfl
    obtain ⟨e1, e2, e3, e4, e5, e6, e7, e8⟩ := rA_at h hs h5
    subst hv
    refine ⟨c5 q _ (by rw [List.getElem?_map, hi]; rfl), ?_⟩
    have := m5 q (off L s + i) (by rw [List.getElem?_map, hi]; rfl)
    rw [e1, e7] at this
    exact this
theorem Best_cut {key num : Nat → Int32} {N : Nat} {K M M' r : Int32} (hl : ∀ j, j < N → key j = K → (num j).toInt ≤ M.toInt) (hm : M.toInt ≤ M'.toInt) : Best key num N K M r ↔ Best key num N K M' r := by
  have e : ∀ j, j < N → key j = K → ((num j).toInt ≤ M.toInt ↔ (num j).toInt ≤ M'.toInt) := fun j hj hk => by
    have := hl j hj hk
    omega
  unfold Best
  refine or_congr (and_congr Iff.rfl ?_) (exists_congr (fun b => ?_))
  · refine forall_congr' (fun j => forall_congr' (fun hj => forall_congr' (fun hk => ?_)))
    have := hl j hj hk
    omega
  · constructor
    · rintro ⟨h1, h2, h3, h4, h5⟩
      exact ⟨h1, h2, h3, by omega, fun j hj hk hq => h5 j hj hk ((e j hj hk).mpr hq)⟩
    · rintro ⟨h1, h2, h3, h4, h5⟩
      exact ⟨h1, h2, h3, hl b h1 h3, fun j hj hk hq => h5 j hj hk ((e j hj hk).mp hq)⟩
def NL (n : Nat) (B : Nat → Int32) (L : Nat → List Nat) (last : Int32) : Prop := ∀ s, s < n → ∀ a, a ∈ L s → (gnum B a).toInt ≤ last.toInt
theorem NL_slot (h : KK n zc zm L) {last : Int32} (hN : NL n (zc.2 7) L last) {j : Nat} (hj : j < n * 12) (hk : zc.2 12 j ≠ -1) : (zc.2 13 j).toInt ≤ last.toInt := by
  obtain ⟨s, i, a, h1, h2, h3, h4, q1, q2, q3, q4, q5⟩ := Ix_slot h.2.2.2.2.2.1 hj hk
  rw [q3]
  exact hN s h1 a (List.mem_of_getElem? h3)
theorem a_count (h : KK n zc zm L) (hk : 3000 ≤ k) {last : Int32} (hN : NL n (zc.2 7) L last) : ∃ v : Nat, ix_keysWithSomething n k zc last = some (nI v) ∧ rm_keysNow k zm = some (nI v, zm) := by
  have hn := h.1
  have hL := h.2.2.2.2.1
  have hI := h.2.2.2.2.2.1
  have hK := h.2.2.2.2.2.2.1
  have hoff := off_le hn hL
  have E := emb_of h.2.1 hL hI hK
  refine ⟨_, p_kws hn hk last, ?_⟩
  rw [m_keysNow (z := zm) (N := off L n) (by omega) hk h.2.2.2.2.2.2.2 hK.1]
  suffices hsuf : sumR (cw (fun K => ∃ b, HasB (off L n) zm (nI K) 2147483647 b) (fun _ => 1)) 0 1000 = sumR (cw (KS n zc last) (fun _ => 1)) 0 (n * 12) by rw [hsuf]
  have hkey : ∀ j, j < n * 12 → zc.2 12 j ≠ -1 → ∃ K, K < 1000 ∧ zc.2 12 j = nI K := fun j hj hk => by
    obtain ⟨s, i, a, h1, h2, h3, h4, q1, q2, q3, q4, q5⟩ := Ix_slot hI hj hk
    obtain ⟨_, _, _, _, g1, g2, _⟩ := GL_row hL h1 (List.mem_of_getElem? h3)
    rw [q2]
    obtain ⟨K, k1, k2⟩ := nI_of g1
    rw [k2] at g2 ⊢
    rw [c_le_1000 k1] at g2
    exact ⟨K, by omega, rfl⟩
  rw [cnt_inj (P := KS n zc last) (f := fun j => (zc.2 12 j).toNatClampNeg) (M := 1000) (N := n * 12) (fun j hj hp => by
    obtain ⟨K, k1, k2⟩ := hkey j hj hp.1
    show (zc.2 12 j).toNatClampNeg < 1000
    rw [k2, tn_n (by omega)]
    exact k1) (fun i j hi hj pi pj hf => by
    obtain ⟨K, k1, k2⟩ := hkey i hi pi.1
    obtain ⟨K', k1', k2'⟩ := hkey j hj pj.1
    have hf : (zc.2 12 i).toNatClampNeg = (zc.2 12 j).toNatClampNeg := hf
    rw [k2, k2', tn_n (by omega), tn_n (by omega)] at hf
    subst hf
    have b1 := pi.2.2
    have b2 := pj.2.2
    rw [k2] at b1
    rw [k2'] at b2
    have := Best_uniq b1 b2
    rw [eq_n (by omega) (by omega)] at this
    exact this)]
  refine sumR_congr (fun K hK2 => ?_)
  rw [Nat.zero_add]
  have e : (∃ b, HasB (off L n) zm (nI K) 2147483647 b) ↔ (∃ j, j < n * 12 ∧ KS n zc last j ∧ (zc.2 12 j).toNatClampNeg = K) := by
    have hK1 : nI K ≠ -1 := by rw [ne_eq, m1_ne (by omega)]; exact fun q => q
    have hcut : ∀ r, Best (zc.2 12) (zc.2 13) (n * 12) (nI K) last r ↔ Best (zc.2 12) (zc.2 13) (n * 12) (nI K) 2147483647 r := fun r => Best_cut (fun j hj hk => NL_slot h hN hj (by rw [hk]; exact hK1)) (by rw [last_ti]; exact i_le_last _)
    constructor
    · rintro ⟨b, h1, h2, h3⟩
      have e1 := E.1 b h1
      have e2 := (Emb_best (M := 2147483647) E (by omega) (by omega) hK1 h1).mpr h2
      have e3 := (Best_at e1.1 (by omega)).mp e2
      refine ⟨phi (fun t => (L t).length) n b, e1.1, ⟨by rw [e3.1]; exact hK1, by rw [e1.2.2.2.1]; exact h3, ?_⟩, by rw [e3.1, tn_n (by omega)]⟩
      rw [e3.1, hcut]
      exact e2
    · rintro ⟨j, h1, ⟨h2, h3, h4⟩, h5⟩
      obtain ⟨r, h6, h7⟩ := E.2.2 j h1 h2
      obtain ⟨K', k1, k2⟩ := hkey j h1 h2
      rw [k2, tn_n (by omega)] at h5
      subst h5
      subst h7
      have e1 := E.1 r h6
      rw [k2, hcut, Emb_best E (by omega) (by omega) hK1 h6] at h4
      exact ⟨r, h6, h4, by rw [← e1.2.2.2.1]; exact h3⟩
  by_cases hq : ∃ b, HasB (off L n) zm (nI K) 2147483647 b
  · rw [cw_t hq, cw_t (e.mp hq)]
  · rw [cw_f hq, cw_f (fun q => hq (e.mpr q))]
theorem a_has (h : KK n zc zm L) (hk : 3000 ≤ k) (K : Int32) (hK1 : K ≠ -1) (M : Int32) : ∃ r r', ix_slotAt n k zc K M = some r ∧ rm_rowOf k zm K M = some (r', zm) ∧ ((r = -1 ∧ r' = -1) ∨ ∃ s i a, s < n ∧ i < 12 ∧ (L s)[i]? = some a ∧ r = nI (s * 12 + i) ∧ r' = nI (off L s + i)) := by
  have hn := h.1
  have hL := h.2.2.2.2.1
  have hI := h.2.2.2.2.2.1
  have hKn := h.2.2.2.2.2.2.1
  have hoff := off_le hn hL
  have E := emb_of h.2.1 hL hI hKn
  obtain ⟨r, e1, b1⟩ := p_slotAt (k := k) (z := zc) hn hk K M
  obtain ⟨r', e2, b2⟩ := m_rowOf (k := k) (z := zm) (N := off L n) (by omega) hk h.2.2.2.2.2.2.2 hKn.1 K M
  refine ⟨r, r', e1, e2, ?_⟩
  rcases Best_cases b2 with rfl | ⟨b, h1, rfl⟩
  · have := (Emb_none E (by omega) (by omega) hK1).mpr b2
    exact Or.inl ⟨Best_uniq b1 this, rfl⟩
  · have b3 := (Emb_best E (by omega) (by omega) hK1 h1).mpr b2
    obtain ⟨s, i, a, g1, g2, g3, g4, g5⟩ := off_row h1
    have e : phi (fun t => (L t).length) n b = s * 12 + i := by rw [g4]; exact phi_at g1 g2
    rw [e] at b3
    have := (hL s g1).1
    exact Or.inr ⟨s, i, a, g1, by omega, g3, Best_uniq b1 b3, by rw [g4]⟩
end AG
