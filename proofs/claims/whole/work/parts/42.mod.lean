theorem i_or_shl (x y : Int32) : (x ||| y) <<< (8 &&& 31 : Int32) = (x <<< (8 &&& 31 : Int32)) ||| (y <<< (8 &&& 31 : Int32)) := by
  apply Int32.toBitVec_inj.mp
  simp only [Int32.toBitVec_shiftLeft, Int32.toBitVec_or]
  rw [show ((8 &&& 31 : Int32).toBitVec.smod 32) = 8#32 from by decide]
  simp only [BitVec.shiftLeft_eq', BitVec.shiftLeft_or_distrib]
theorem i_shl_16 (x : Int32) : (x <<< (8 &&& 31 : Int32)) <<< (8 &&& 31 : Int32) = x <<< (16 &&& 31 : Int32) := by
  apply Int32.toBitVec_inj.mp
  simp only [Int32.toBitVec_shiftLeft]
  rw [show ((8 &&& 31 : Int32).toBitVec.smod 32) = 8#32 from by decide, show ((16 &&& 31 : Int32).toBitVec.smod 32) = 16#32 from by decide]
  simp only [BitVec.shiftLeft_eq']
  rw [← BitVec.shiftLeft_add]
  rfl
theorem i_shl_24 (x : Int32) : (x <<< (16 &&& 31 : Int32)) <<< (8 &&& 31 : Int32) = x <<< (24 &&& 31 : Int32) := by
  apply Int32.toBitVec_inj.mp
  simp only [Int32.toBitVec_shiftLeft]
  rw [show ((8 &&& 31 : Int32).toBitVec.smod 32) = 8#32 from by decide, show ((16 &&& 31 : Int32).toBitVec.smod 32) = 16#32 from by decide, show ((24 &&& 31 : Int32).toBitVec.smod 32) = 24#32 from by decide]
  simp only [BitVec.shiftLeft_eq']
  rw [← BitVec.shiftLeft_add]
  rfl
theorem i_shl_0 : (0 : Int32) <<< (8 &&& 31 : Int32) = 0 := by decide
theorem i_0_or (x : Int32) : (0 : Int32) ||| x = x := by
  apply Int32.toBitVec_inj.mp
  simp
theorem i_or_nn {x y : Int32} (hx : ¬ x < 0) (hy : ¬ y < 0) : ¬ (x ||| y) < 0 := by
  rw [Int32.lt_iff_toInt_lt] at *
  intro h
  have h1 : (x ||| y).toBitVec.msb = true := by
    rw [BitVec.msb_eq_toInt]
    exact decide_eq_true h
  have h2 : x.toBitVec.msb = false := by
    rw [BitVec.msb_eq_toInt]
    exact decide_eq_false hx
  have h3 : y.toBitVec.msb = false := by
    rw [BitVec.msb_eq_toInt]
    exact decide_eq_false hy
  rw [Int32.toBitVec_or, BitVec.msb_or, h2, h3] at h1
  cases h1
theorem gkey_nn {B : Nat → Int32} {N a : Nat} (hB : BOK B N) (ha : a + 2 < N) : ¬ gkey B a < 0 := by
  unfold gkey
  obtain ⟨b1, h1, e1⟩ := hB (a + 1) (by omega)
  obtain ⟨b2, h2, e2⟩ := hB (a + 2) ha
  rw [e1, e2]
  refine i_or_nn ?_ (nI_pos (by omega))
  rw [pk_shlN (8 &&& 31) 8 (by decide) (by omega)]
  exact nI_pos (by omega)
section PM
variable {n k a e : Nat} {z : SS}
theorem m_num2 (hn : n ≤ 12) (hk : 3000 ≤ k) (ha : a + 2 < n * 200) : rm_number k z (nI (a + 1)) 2 = some (gkey (z.2 1) a) := by
  unfold rm_number
  obtain ⟨k, rfl⟩ : ∃ k', k = k' + 3 := ⟨k - 3, by omega⟩
  have h1 : ¬ a + 1 + 2 ≤ a + 1 := by omega
  have h2 : ¬ a + 1 + 2 ≤ a + 1 + 1 := by omega
  have h3 : a + 1 + 2 ≤ a + 1 + 1 + 1 := by omega
  simp (disch := omega) only [rm_number_b5, na_2, na_1, le_n, h1, h2, h3, if_false, if_true, ck_n, tn_n]
  rw [i_shl_0, i_0_or]
  rfl
theorem m_num4 (hn : n ≤ 12) (hk : 3000 ≤ k) (ha : a + 6 < n * 200) : rm_number k z (nI (a + 3)) 4 = some (gnum (z.2 1) a) := by
  unfold rm_number
  obtain ⟨k, rfl⟩ : ∃ k', k = k' + 5 := ⟨k - 5, by omega⟩
  have h1 : ¬ a + 3 + 4 ≤ a + 3 := by omega
  have h2 : ¬ a + 3 + 4 ≤ a + 3 + 1 := by omega
  have h3 : ¬ a + 3 + 4 ≤ a + 3 + 1 + 1 := by omega
  have h4 : ¬ a + 3 + 4 ≤ a + 3 + 1 + 1 + 1 := by omega
  have h5 : a + 3 + 4 ≤ a + 3 + 1 + 1 + 1 + 1 := by omega
  simp (disch := omega) only [rm_number_b5, na_4, na_1, le_n, h1, h2, h3, h4, h5, if_false, if_true, ck_n, tn_n]
  rw [i_shl_0, i_0_or, i_or_shl, i_or_shl, i_shl_16, i_or_shl, i_shl_16, i_shl_24]
  rfl
theorem m_sumB : ∀ (i : Nat), i < 8 → ∀ s : Int64, Int64.toInt32 ((jlushr s (56 - (8 * nI i))) &&& 255) = gsb s i := by
  intro i hi s
  unfold gsb
  rw [show (56 - (8 * nI i) : Int32) = 8 * (7 - nI i) from by
    rcases i with _ | _ | _ | _ | _ | _ | _ | _ | i
    all_goals first | decide | omega]
  rw [Int64.toInt32_and]
  rfl
theorem m_hs37 (hn : n ≤ 12) {x m : Nat} (hx : x + m + 8 ≤ n * 200) (s : Int64) : ∀ (d fu i : Nat) (P : Prop), i + d = 8 → d < fu → rm_hasSum_b37 k z fu (nI x) (nI m) s (gT P) (nI i) = some (gT (P ∧ ∀ j, i ≤ j → j < 8 → z.2 1 (x + m + j) = gsb s j)) := by
  intro d
  induction d with
  | zero =>
    intro fu i P hi hf
    cases fu with
    | zero => omega
    | succ fu =>
      have h1 : 8 ≤ i := by omega
      simp (disch := omega) only [rm_hasSum_b37, l_8, le_n, h1, if_true, gT_bk]
      congr 2
      exact propext ⟨fun h => ⟨h, fun j h2 h3 => by omega⟩, fun h => h.1⟩
  | succ d ih =>
    intro fu i P hi hf
    cases fu with
    | zero => omega
    | succ fu =>
      have h1 : ¬ 8 ≤ i := by omega
      simp (disch := omega) only [rm_hasSum_b37, nI_add, ck_n, tn_n, na_1, if_true, c_le_8, h1, if_false]
      by_cases hP : P
      · rw [gT_t hP, if_neg (by decide), m_sumB i (by omega)]
        by_cases h2 : z.2 1 (x + m + i) = gsb s i
        · rw [if_pos h2, ← gT_t (P := True) trivial, ih fu (i + 1) True (by omega) (by omega)]
          congr 2
          refine propext ⟨fun h => ⟨hP, fun j h3 h4 => ?_⟩, fun h => ⟨trivial, fun j h3 h4 => h.2 j (by omega) h4⟩⟩
          rcases Nat.lt_or_ge i j with h5 | h5
          · exact h.2 j (by omega) h4
          · have : j = i := by omega
            subst this
            exact h2
        · rw [if_neg h2, ← gT_f (P := False) (fun h => h), ih fu (i + 1) False (by omega) (by omega)]
          congr 2
          exact propext ⟨fun h => h.1.elim, fun h => absurd (h.2 i (Nat.le_refl _) (by omega)) h2⟩
      · rw [gT_f hP, if_pos rfl, ← gT_f (P := False) (fun h => h), ih fu (i + 1) False (by omega) (by omega)]
        congr 2
        exact propext ⟨fun h => h.1.elim, fun h => absurd h.1 hP⟩
theorem m_hs5 (hn : n ≤ 12) (hk : 3000 ≤ k) {x0 m : Nat} (hx : x0 + m + 8 ≤ n * 200) : ∀ (d fu x : Nat) (s : Int64), x + d = x0 + m → d < fu → rm_hasSum_b5 k z fu (nI x0) (nI m) s (nI x) = some (gT (∀ j, j < 8 → z.2 1 (x0 + m + j) = gsb (gfold (z.2 1) d s x) j)) := by
  intro d
  induction d with
  | zero =>
    intro fu x s hf hy
    cases fu with
    | zero => omega
    | succ fu =>
      have h1 : x0 + m ≤ x := by omega
      simp (disch := omega) only [rm_hasSum_b5, nI_add, le_n, h1, if_true, gfold]
      have h2 := m_hs37 (k := k) (z := z) hn hx s 8 k 0 True (by omega) (by omega)
      rw [gT_t trivial] at h2
      refine h2.trans ?_
      congr 2
      exact propext ⟨fun h j hj => h.2 j (by omega) hj, fun h => ⟨trivial, fun j _ hj => h j hj⟩⟩
  | succ d ih =>
    intro fu x s hf hy
    cases fu with
    | zero => omega
    | succ fu =>
      have h1 : ¬ x0 + m ≤ x := by omega
      simp (disch := omega) only [rm_hasSum_b5, nI_add, le_n, h1, if_false, ck_n, tn_n, if_true, na_1, gfold, rm_step, bo_some]
      exact ih fu (x + 1) (gstp s (z.2 1 x)) (by omega) (by omega)
theorem m_hasSum (hn : n ≤ 12) (hk : 3000 ≤ k) {m : Nat} (hm : m < 2000) (hx : a + m + 8 ≤ n * 200) : rm_hasSum k z (nI a) (nI m) = some (gT (gsm (z.2 1) a m)) := by
  unfold rm_hasSum
  exact m_hs5 hn hk hx m k a 0 rfl (by omega)
theorem byte_12 {b : Nat} (h : b < 256) : (if nI b < 1 then some (0 : Int32) else if 2 < nI b then some 0 else some 1) = some (if nI b = 1 ∨ nI b = 2 then 1 else 0) := by
  simp (disch := omega) only [n_lt_1, c_lt_2, n_eq_1, n_eq_2]
  by_cases h1 : b < 1
  · rw [if_pos h1, if_neg (by omega)]
  · rw [if_neg h1]
    by_cases h2 : 2 < b
    · rw [if_pos h2, if_neg (by omega)]
    · rw [if_neg h2, if_pos (by omega)]
theorem m_sizeAt (hB : BOK (z.2 1) (n * 200)) (hn : n ≤ 12) {s p : Nat} (hs : s < n) (hp : p < 200) : rm_sizeAt k z (nI s) (nI p) = some (nI (gsz (z.2 1) (200 * s + p) (200 * s + 200))) := by
  unfold rm_sizeAt rm_in
  obtain ⟨b, hb, eb⟩ := hB (200 * s + p) (by omega)
  simp (disch := omega) only [mn_200, nI_add, ck_n, tn_n, if_true, eb, byte_12 hb, bo_some, na_8, na_7]
  unfold gsz
  rw [eb]
  by_cases h1 : nI b = 1 ∨ nI b = 2
  · simp only [h1, if_true, true_and]
    rw [if_neg (by decide)]
    simp (disch := omega) only [c_lt_200]
    by_cases h2 : 200 < p + 8
    · rw [if_pos h2, if_neg (by omega)]
      rfl
    · obtain ⟨g1, g2⟩ := gln_of (a := 200 * s + p) hB (by omega)
      rw [if_neg h2]
      simp (disch := omega) only [ck_n, tn_n, g2, if_true, an_8, na_8, nI_add, l_20, l_200, le_n]
      by_cases h3 : gln (z.2 1) (200 * s + p) ≤ 20
      · rw [if_pos h3]
        by_cases h4 : p + (8 + gln (z.2 1) (200 * s + p) + 8) ≤ 200
        · rw [if_pos h4, if_pos (by omega)]
          congr 2
          omega
        · rw [if_neg h4, if_neg (by omega)]
          rfl
      · rw [if_neg h3, if_neg (by omega)]
        rfl
  · simp only [h1, if_false, false_and, if_true]
    rfl
theorem m_isGood (hB : BOK (z.2 1) (n * 200)) (hn : n ≤ 12) (hk : 3000 ≤ k) {s p : Nat} (hs : s < n) (hp : p < 200) : rm_isGood k z (nI s) (nI p) = some (gT (ggood (z.2 1) (200 * s + p) (200 * s + 200))) := by
  unfold rm_isGood
  rw [m_sizeAt hB hn hs hp, bo_some]
  by_cases h0 : gsz (z.2 1) (200 * s + p) (200 * s + 200) = 0
  · rw [h0, if_pos nI_0, gT_f (fun h => h.1 h0)]
  · obtain ⟨g1, g2, g3, g4, g5, g6, g7⟩ := gsz_le h0
    rw [if_neg (nI_ne0 (by omega) (by omega))]
    simp (disch := omega) only [mn_200, nI_add, na_1, na_3, na_7]
    rw [m_num2 hn hk (by omega), bo_some, m_num4 hn hk (by omega), bo_some]
    have hkn := gkey_nn (a := 200 * s + p) hB (by omega)
    have h77 : rm_isGood_b77 k z (nI (gsz (z.2 1) (200 * s + p) (200 * s + 200))) (nI (200 * s + p)) = some 0 := by
      unfold rm_isGood_b77 rm_isGood_b78
      rw [if_pos rfl]
    have h73 : rm_isGood_b73 k z (nI (gsz (z.2 1) (200 * s + p) (200 * s + 200))) (nI (200 * s + p)) = some (gT (gsm (z.2 1) (200 * s + p) (gsz (z.2 1) (200 * s + p) (200 * s + 200) - 8))) := by
      unfold rm_isGood_b73 rm_isGood_b78
      rw [if_neg (by decide), show (8 : Int32) = nI 8 from rfl, pk_sub (by omega), m_hasSum hn hk (by omega) (by omega), bo_some]
      by_cases hq : gsm (z.2 1) (200 * s + p) (gsz (z.2 1) (200 * s + p) (200 * s + 200) - 8)
      · rw [gT_t hq, if_neg (by decide)]
      · rw [gT_f hq, if_pos rfl]
    simp (disch := omega) only [h77, h73, ck_n, tn_n, if_true]
    by_cases hk2 : 1000 ≤ gkey (z.2 1) (200 * s + p)
    · rw [if_pos hk2, gT_f (fun h => h.2.1.2 hk2)]
    · rw [if_neg hk2]
      by_cases hn1 : 0 < gnum (z.2 1) (200 * s + p)
      · rw [if_neg (fun h => Int32.lt_irrefl (Int32.lt_of_lt_of_le hn1 h))]
        by_cases h1 : z.2 1 (200 * s + p) = 1
        · rw [if_pos h1]
          congr 2
          refine propext ⟨fun h => ⟨h0, ⟨hkn, hk2⟩, hn1, fun h2 => ?_, h⟩, fun h => h.2.2.2.2⟩
          rw [h1] at h2
          exact absurd h2 (by decide)
        · rw [if_neg h1]
          have h2 : z.2 1 (200 * s + p) = 2 := by
            rcases g7 with h | h
            · exact absurd h h1
            · exact h
          by_cases h7 : z.2 1 (200 * s + p + 7) = 0
          · rw [if_pos h7]
            congr 2
            exact propext ⟨fun h => ⟨h0, ⟨hkn, hk2⟩, hn1, fun _ => h7, h⟩, fun h => h.2.2.2.2⟩
          · rw [if_neg h7, gT_f (fun h => h7 (h.2.2.2.1 h2))]
      · rw [if_pos (Int32.not_lt.mp hn1), gT_f (fun h => hn1 h.2.2.1)]
end PM
