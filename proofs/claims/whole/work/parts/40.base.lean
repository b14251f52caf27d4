theorem ck_n {i N : Nat} (h : i < N) (hN : N < 2147483648) : ck (nI i) N = true := ck_of (vp_in_nI h hN)
theorem tn_n {i : Nat} (h : i < 2147483648) : (nI i).toNatClampNeg = i := nI_clamp h
theorem bo_some {α γ : Type} (x : α) (f : α → Option γ) : bo (some x) f = f x := rfl
theorem bi_some {α β γ : Type} (x : α) (y : β) (f : α → β → Option γ) : bi (some (x, y)) f = f x y := rfl
theorem m1_ti : (-1 : Int32).toInt = -1 := by decide
theorem m1_ne {a : Nat} (h : a < 2147483648) : (nI a = -1) = False := by
  refine eq_false (fun e => ?_)
  have h2 := congrArg Int32.toInt e
  rw [nI_toInt h, m1_ti] at h2
  omega
theorem le_n {a b : Nat} (ha : a < 2147483648) (hb : b < 2147483648) : (nI a ≤ nI b) = (a ≤ b) := propext (nI_leI ha hb)
theorem lt_n {a b : Nat} (ha : a < 2147483648) (hb : b < 2147483648) : (nI a < nI b) = (a < b) := propext (nI_ltI ha hb)
theorem eq_n {a b : Nat} (ha : a < 2147483648) (hb : b < 2147483648) : (nI a = nI b) = (a = b) := propext (nI_eq ha hb)
theorem neg_n {a : Nat} (ha : a < 2147483648) : (nI a < 0) = False := eq_false (nI_pos ha)
theorem na_1 (a : Nat) : nI a + 1 = nI (a + 1) := nI_add a 1
theorem na_2 (a : Nat) : nI a + 2 = nI (a + 2) := nI_add a 2
theorem na_3 (a : Nat) : nI a + 3 = nI (a + 3) := nI_add a 3
theorem na_4 (a : Nat) : nI a + 4 = nI (a + 4) := nI_add a 4
theorem na_5 (a : Nat) : nI a + 5 = nI (a + 5) := nI_add a 5
theorem na_6 (a : Nat) : nI a + 6 = nI (a + 6) := nI_add a 6
theorem na_7 (a : Nat) : nI a + 7 = nI (a + 7) := nI_add a 7
theorem na_8 (a : Nat) : nI a + 8 = nI (a + 8) := nI_add a 8
theorem na_12 (a : Nat) : nI a + 12 = nI (a + 12) := nI_add a 12
theorem an_8 (a : Nat) : 8 + nI a = nI (8 + a) := nI_add 8 a
theorem an_3 (a : Nat) : 3 + nI a = nI (3 + a) := nI_add 3 a
theorem nm_200 (a : Nat) : nI a * 200 = nI (a * 200) := pk_mul a 200
theorem mn_200 (a : Nat) : 200 * nI a = nI (200 * a) := pk_mul 200 a
theorem nm_12 (a : Nat) : nI a * 12 = nI (a * 12) := pk_mul a 12
theorem l_0 : (0 : Int32) = nI 0 := rfl
theorem l_1 : (1 : Int32) = nI 1 := rfl
theorem l_2 : (2 : Int32) = nI 2 := rfl
theorem l_4 : (4 : Int32) = nI 4 := rfl
theorem l_8 : (8 : Int32) = nI 8 := rfl
theorem l_12 : (12 : Int32) = nI 12 := rfl
theorem l_20 : (20 : Int32) = nI 20 := rfl
theorem l_200 : (200 : Int32) = nI 200 := rfl
theorem l_1000 : (1000 : Int32) = nI 1000 := rfl
theorem c_le_0 {i : Nat} (h : i < 2147483648) : (((0 : Int32)) ≤ nI i) = (0 ≤ i) := le_n (a := 0) (by omega) h
theorem n_le_0 {i : Nat} (h : i < 2147483648) : (nI i ≤ (0 : Int32)) = (i ≤ 0) := le_n (b := 0) h (by omega)
theorem c_lt_0 {i : Nat} (h : i < 2147483648) : (((0 : Int32)) < nI i) = (0 < i) := lt_n (a := 0) (by omega) h
theorem n_lt_0 {i : Nat} (h : i < 2147483648) : (nI i < (0 : Int32)) = (i < 0) := lt_n (b := 0) h (by omega)
theorem n_eq_0 {i : Nat} (h : i < 2147483648) : (nI i = (0 : Int32)) = (i = 0) := eq_n (b := 0) h (by omega)
theorem c_le_1 {i : Nat} (h : i < 2147483648) : (((1 : Int32)) ≤ nI i) = (1 ≤ i) := le_n (a := 1) (by omega) h
theorem n_le_1 {i : Nat} (h : i < 2147483648) : (nI i ≤ (1 : Int32)) = (i ≤ 1) := le_n (b := 1) h (by omega)
theorem c_lt_1 {i : Nat} (h : i < 2147483648) : (((1 : Int32)) < nI i) = (1 < i) := lt_n (a := 1) (by omega) h
theorem n_lt_1 {i : Nat} (h : i < 2147483648) : (nI i < (1 : Int32)) = (i < 1) := lt_n (b := 1) h (by omega)
theorem n_eq_1 {i : Nat} (h : i < 2147483648) : (nI i = (1 : Int32)) = (i = 1) := eq_n (b := 1) h (by omega)
theorem c_le_2 {i : Nat} (h : i < 2147483648) : (((2 : Int32)) ≤ nI i) = (2 ≤ i) := le_n (a := 2) (by omega) h
theorem n_le_2 {i : Nat} (h : i < 2147483648) : (nI i ≤ (2 : Int32)) = (i ≤ 2) := le_n (b := 2) h (by omega)
theorem c_lt_2 {i : Nat} (h : i < 2147483648) : (((2 : Int32)) < nI i) = (2 < i) := lt_n (a := 2) (by omega) h
theorem n_lt_2 {i : Nat} (h : i < 2147483648) : (nI i < (2 : Int32)) = (i < 2) := lt_n (b := 2) h (by omega)
theorem n_eq_2 {i : Nat} (h : i < 2147483648) : (nI i = (2 : Int32)) = (i = 2) := eq_n (b := 2) h (by omega)
theorem c_le_3 {i : Nat} (h : i < 2147483648) : (((3 : Int32)) ≤ nI i) = (3 ≤ i) := le_n (a := 3) (by omega) h
theorem n_le_3 {i : Nat} (h : i < 2147483648) : (nI i ≤ (3 : Int32)) = (i ≤ 3) := le_n (b := 3) h (by omega)
theorem c_lt_3 {i : Nat} (h : i < 2147483648) : (((3 : Int32)) < nI i) = (3 < i) := lt_n (a := 3) (by omega) h
theorem n_lt_3 {i : Nat} (h : i < 2147483648) : (nI i < (3 : Int32)) = (i < 3) := lt_n (b := 3) h (by omega)
theorem n_eq_3 {i : Nat} (h : i < 2147483648) : (nI i = (3 : Int32)) = (i = 3) := eq_n (b := 3) h (by omega)
theorem c_le_4 {i : Nat} (h : i < 2147483648) : (((4 : Int32)) ≤ nI i) = (4 ≤ i) := le_n (a := 4) (by omega) h
theorem n_le_4 {i : Nat} (h : i < 2147483648) : (nI i ≤ (4 : Int32)) = (i ≤ 4) := le_n (b := 4) h (by omega)
theorem c_lt_4 {i : Nat} (h : i < 2147483648) : (((4 : Int32)) < nI i) = (4 < i) := lt_n (a := 4) (by omega) h
theorem n_lt_4 {i : Nat} (h : i < 2147483648) : (nI i < (4 : Int32)) = (i < 4) := lt_n (b := 4) h (by omega)
theorem n_eq_4 {i : Nat} (h : i < 2147483648) : (nI i = (4 : Int32)) = (i = 4) := eq_n (b := 4) h (by omega)
theorem c_le_7 {i : Nat} (h : i < 2147483648) : (((7 : Int32)) ≤ nI i) = (7 ≤ i) := le_n (a := 7) (by omega) h
theorem n_le_7 {i : Nat} (h : i < 2147483648) : (nI i ≤ (7 : Int32)) = (i ≤ 7) := le_n (b := 7) h (by omega)
theorem c_lt_7 {i : Nat} (h : i < 2147483648) : (((7 : Int32)) < nI i) = (7 < i) := lt_n (a := 7) (by omega) h
theorem n_lt_7 {i : Nat} (h : i < 2147483648) : (nI i < (7 : Int32)) = (i < 7) := lt_n (b := 7) h (by omega)
theorem n_eq_7 {i : Nat} (h : i < 2147483648) : (nI i = (7 : Int32)) = (i = 7) := eq_n (b := 7) h (by omega)
theorem c_le_8 {i : Nat} (h : i < 2147483648) : (((8 : Int32)) ≤ nI i) = (8 ≤ i) := le_n (a := 8) (by omega) h
theorem n_le_8 {i : Nat} (h : i < 2147483648) : (nI i ≤ (8 : Int32)) = (i ≤ 8) := le_n (b := 8) h (by omega)
theorem c_lt_8 {i : Nat} (h : i < 2147483648) : (((8 : Int32)) < nI i) = (8 < i) := lt_n (a := 8) (by omega) h
theorem n_lt_8 {i : Nat} (h : i < 2147483648) : (nI i < (8 : Int32)) = (i < 8) := lt_n (b := 8) h (by omega)
theorem n_eq_8 {i : Nat} (h : i < 2147483648) : (nI i = (8 : Int32)) = (i = 8) := eq_n (b := 8) h (by omega)
theorem c_le_12 {i : Nat} (h : i < 2147483648) : (((12 : Int32)) ≤ nI i) = (12 ≤ i) := le_n (a := 12) (by omega) h
theorem n_le_12 {i : Nat} (h : i < 2147483648) : (nI i ≤ (12 : Int32)) = (i ≤ 12) := le_n (b := 12) h (by omega)
theorem c_lt_12 {i : Nat} (h : i < 2147483648) : (((12 : Int32)) < nI i) = (12 < i) := lt_n (a := 12) (by omega) h
theorem n_lt_12 {i : Nat} (h : i < 2147483648) : (nI i < (12 : Int32)) = (i < 12) := lt_n (b := 12) h (by omega)
theorem n_eq_12 {i : Nat} (h : i < 2147483648) : (nI i = (12 : Int32)) = (i = 12) := eq_n (b := 12) h (by omega)
theorem c_le_20 {i : Nat} (h : i < 2147483648) : (((20 : Int32)) ≤ nI i) = (20 ≤ i) := le_n (a := 20) (by omega) h
theorem n_le_20 {i : Nat} (h : i < 2147483648) : (nI i ≤ (20 : Int32)) = (i ≤ 20) := le_n (b := 20) h (by omega)
theorem c_lt_20 {i : Nat} (h : i < 2147483648) : (((20 : Int32)) < nI i) = (20 < i) := lt_n (a := 20) (by omega) h
theorem n_lt_20 {i : Nat} (h : i < 2147483648) : (nI i < (20 : Int32)) = (i < 20) := lt_n (b := 20) h (by omega)
theorem n_eq_20 {i : Nat} (h : i < 2147483648) : (nI i = (20 : Int32)) = (i = 20) := eq_n (b := 20) h (by omega)
theorem c_le_200 {i : Nat} (h : i < 2147483648) : (((200 : Int32)) ≤ nI i) = (200 ≤ i) := le_n (a := 200) (by omega) h
theorem n_le_200 {i : Nat} (h : i < 2147483648) : (nI i ≤ (200 : Int32)) = (i ≤ 200) := le_n (b := 200) h (by omega)
theorem c_lt_200 {i : Nat} (h : i < 2147483648) : (((200 : Int32)) < nI i) = (200 < i) := lt_n (a := 200) (by omega) h
theorem n_lt_200 {i : Nat} (h : i < 2147483648) : (nI i < (200 : Int32)) = (i < 200) := lt_n (b := 200) h (by omega)
theorem n_eq_200 {i : Nat} (h : i < 2147483648) : (nI i = (200 : Int32)) = (i = 200) := eq_n (b := 200) h (by omega)
theorem c_le_255 {i : Nat} (h : i < 2147483648) : (((255 : Int32)) ≤ nI i) = (255 ≤ i) := le_n (a := 255) (by omega) h
theorem n_le_255 {i : Nat} (h : i < 2147483648) : (nI i ≤ (255 : Int32)) = (i ≤ 255) := le_n (b := 255) h (by omega)
theorem c_lt_255 {i : Nat} (h : i < 2147483648) : (((255 : Int32)) < nI i) = (255 < i) := lt_n (a := 255) (by omega) h
theorem n_lt_255 {i : Nat} (h : i < 2147483648) : (nI i < (255 : Int32)) = (i < 255) := lt_n (b := 255) h (by omega)
theorem n_eq_255 {i : Nat} (h : i < 2147483648) : (nI i = (255 : Int32)) = (i = 255) := eq_n (b := 255) h (by omega)
theorem c_le_1000 {i : Nat} (h : i < 2147483648) : (((1000 : Int32)) ≤ nI i) = (1000 ≤ i) := le_n (a := 1000) (by omega) h
theorem n_le_1000 {i : Nat} (h : i < 2147483648) : (nI i ≤ (1000 : Int32)) = (i ≤ 1000) := le_n (b := 1000) h (by omega)
theorem c_lt_1000 {i : Nat} (h : i < 2147483648) : (((1000 : Int32)) < nI i) = (1000 < i) := lt_n (a := 1000) (by omega) h
theorem n_lt_1000 {i : Nat} (h : i < 2147483648) : (nI i < (1000 : Int32)) = (i < 1000) := lt_n (b := 1000) h (by omega)
theorem n_eq_1000 {i : Nat} (h : i < 2147483648) : (nI i = (1000 : Int32)) = (i = 1000) := eq_n (b := 1000) h (by omega)
def BOK (B : Nat → Int32) (N : Nat) : Prop := ∀ i, i < N → ∃ b, b < 256 ∧ B i = nI b
def gln (B : Nat → Int32) (a : Nat) : Nat := (B (a + 7)).toNatClampNeg
def gsz (B : Nat → Int32) (a e : Nat) : Nat := if (B a = 1 ∨ B a = 2) ∧ a + 8 ≤ e ∧ gln B a ≤ 20 ∧ a + 16 + gln B a ≤ e then 16 + gln B a else 0
theorem gln_of {B : Nat → Int32} {N a : Nat} (h : BOK B N) (ha : a + 7 < N) : gln B a < 256 ∧ B (a + 7) = nI (gln B a) := by
  obtain ⟨b, h1, h2⟩ := h _ ha
  unfold gln
  rw [h2, tn_n (by omega)]
  exact ⟨h1, rfl⟩
theorem gsz_le {B : Nat → Int32} {a e : Nat} : gsz B a e ≠ 0 → a + gsz B a e ≤ e ∧ 16 ≤ gsz B a e ∧ gsz B a e ≤ 36 ∧ a + 8 ≤ e ∧ gsz B a e = 16 + gln B a ∧ gln B a ≤ 20 ∧ (B a = 1 ∨ B a = 2) := by
  intro h
  unfold gsz at h ⊢
  split at h
  · next h1 => rw [if_pos h1]; obtain ⟨h2, h3, h4, h5⟩ := h1; exact ⟨by omega, by omega, by omega, h3, rfl, h4, h2⟩
  · exact absurd rfl h
def gkey (B : Nat → Int32) (a : Nat) : Int32 := (B (a + 1) <<< (8 &&& 31)) ||| B (a + 2)
def gnum (B : Nat → Int32) (a : Nat) : Int32 := (((B (a + 3) <<< (24 &&& 31)) ||| (B (a + 4) <<< (16 &&& 31))) ||| (B (a + 5) <<< (8 &&& 31))) ||| B (a + 6)
def gstp (s : Int64) (b : Int32) : Int64 := ((jlshl (s ^^^ (Int32.toInt64 b)) 45) ||| (jlushr (s ^^^ (Int32.toInt64 b)) 19)) * (-7046029254386353131)
def gfold (B : Nat → Int32) : Nat → Int64 → Nat → Int64
  | 0, s, _ => s
  | d + 1, s, x => gfold B d (gstp s (B x)) (x + 1)
def gsb (s : Int64) (i : Nat) : Int32 := (Int64.toInt32 (jlushr s (8 * (7 - nI i)))) &&& 255
def gsm (B : Nat → Int32) (a m : Nat) : Prop := ∀ i, i < 8 → B (a + m + i) = gsb (gfold B m 0 a) i
def ggood (B : Nat → Int32) (a e : Nat) : Prop := gsz B a e ≠ 0 ∧ (¬ gkey B a < 0 ∧ ¬ 1000 ≤ gkey B a) ∧ 0 < gnum B a ∧ (B a = 2 → B (a + 7) = 0) ∧ gsm B a (gsz B a e - 8)
noncomputable def gT (P : Prop) : Int32 := @ite _ P (Classical.propDecidable P) 1 0
theorem gT_t {P : Prop} (h : P) : gT P = 1 := by unfold gT; rw [if_pos h]
theorem gT_f {P : Prop} (h : ¬ P) : gT P = 0 := by unfold gT; rw [if_neg h]
theorem gT_0 {P : Prop} : (gT P = 0) = ¬ P := by
  refine propext ⟨fun h hp => ?_, gT_f⟩
  rw [gT_t hp] at h
  exact absurd h (by decide)
theorem gT_bk {P : Prop} : bk (gT P) = true := by
  by_cases h : P
  · rw [gT_t h]; decide
  · rw [gT_f h]; decide
section PC
variable {n k a e : Nat} {z : SS}
theorem p_behind14 (hB : BOK (z.2 7) (n * 200)) (hn : n ≤ 12) (ha : a < e) (he : e ≤ n * 200) :
    rf_behind_7_b14 n k z (nI a) (nI e) = some (if a + 8 ≤ e ∧ gln (z.2 7) a ≤ 20 ∧ a + 16 + gln (z.2 7) a ≤ e then nI (a + (16 + gln (z.2 7) a)) else -1) := by
  unfold rf_behind_7_b14 rf_contentsCountAt_7 rf_bytesWith
  by_cases h8 : a + 8 ≤ e
  · obtain ⟨g1, g2⟩ := gln_of (a := a) hB (by omega)
    simp (disch := omega) only [na_8, na_7, le_n, ck_n, tn_n, h8, if_true, bo_some, g2, l_20, lt_n, an_8]
    by_cases h20 : 20 < gln (z.2 7) a
    · have h9 : ¬ gln (z.2 7) a ≤ 20 := by omega
      simp only [h20, h9, if_true, false_and, and_false, if_false]
    · have h9 : gln (z.2 7) a ≤ 20 := by omega
      simp (disch := omega) only [h20, h9, if_false, true_and, nI_add, le_n]
      by_cases h16 : a + 16 + gln (z.2 7) a ≤ e
      · have h17 : a + (8 + gln (z.2 7) a + 8) ≤ e := by omega
        simp only [h16, h17, if_true]
        congr 2
        omega
      · have h17 : ¬ a + (8 + gln (z.2 7) a + 8) ≤ e := by omega
        simp only [h16, h17, if_false]
  · simp (disch := omega) only [na_8, le_n, h8, if_false, false_and]
theorem p_behind (hB : BOK (z.2 7) (n * 200)) (hn : n ≤ 12) (ha : a < e) (he : e ≤ n * 200) :
    rf_behind_7 n k z (nI a) (nI e) = some (if gsz (z.2 7) a e = 0 then -1 else nI (a + gsz (z.2 7) a e)) := by
  unfold rf_behind_7
  simp (disch := omega) only [ck_n, tn_n, if_true, p_behind14 hB hn ha he]
  unfold gsz
  by_cases hh : a + 8 ≤ e ∧ gln (z.2 7) a ≤ 20 ∧ a + 16 + gln (z.2 7) a ≤ e
  · have h0 : ¬ 16 + gln (z.2 7) a = 0 := by omega
    by_cases h1 : z.2 7 a = 1
    · simp only [h1, hh, h0, if_true, true_or, true_and, if_false, and_self]
    · by_cases h2 : z.2 7 a = 2
      · have hC : (z.2 7 a = 1 ∨ z.2 7 a = 2) ∧ a + 8 ≤ e ∧ gln (z.2 7) a ≤ 20 ∧ a + 16 + gln (z.2 7) a ≤ e := ⟨Or.inr h2, hh⟩
        rw [if_neg h1, if_pos h2, if_pos hh]
        rw [if_pos hC, if_neg h0]
      · simp only [h1, h2, if_false, or_false, false_and, if_true]
  · by_cases h1 : z.2 7 a = 1
    · simp only [h1, hh, if_true, if_false, and_false]
    · by_cases h2 : z.2 7 a = 2
      · have hC : ¬ ((z.2 7 a = 1 ∨ z.2 7 a = 2) ∧ a + 8 ≤ e ∧ gln (z.2 7) a ≤ 20 ∧ a + 16 + gln (z.2 7) a ≤ e) := fun h => hh h.2
        rw [if_neg h1, if_pos h2, if_neg hh]
        rw [if_neg hC, if_pos rfl]
      · simp only [h1, h2, if_false, or_false, false_and, if_true]
theorem p_keyAt (hn : n ≤ 12) (ha : a + 2 < n * 200) : rf_keyAt_7 n k z (nI a) = some (gkey (z.2 7) a) := by
  unfold rf_keyAt_7 gkey
  simp (disch := omega) only [na_1, na_2, ck_n, tn_n, if_true]
theorem p_numAt (hn : n ≤ 12) (ha : a + 6 < n * 200) : rf_numberAt_7 n k z (nI a) = some (gnum (z.2 7) a) := by
  unfold rf_numberAt_7 gnum
  simp (disch := omega) only [na_3, na_4, na_5, na_6, ck_n, tn_n, if_true]
theorem p_ccAt (hn : n ≤ 12) (ha : a + 7 < n * 200) : rf_contentsCountAt_7 n k z (nI a) = some (z.2 7 (a + 7)) := by
  unfold rf_contentsCountAt_7
  simp (disch := omega) only [na_7, ck_n, tn_n, if_true]
theorem p_sumOf5 (hn : n ≤ 12) : ∀ (d fu x : Nat) (s : Int64), d < fu → x + d ≤ n * 200 → rf_sumOf_7_b5 n k z fu (nI (x + d)) s (nI x) = some (gfold (z.2 7) d s x) := by
  intro d
  induction d with
  | zero =>
    intro fu x s hf hx
    cases fu with
    | zero => omega
    | succ fu =>
      simp (disch := omega) only [rf_sumOf_7_b5, le_n, Nat.add_zero, Nat.le_refl, if_true, gfold]
  | succ d ih =>
    intro fu x s hf hx
    cases fu with
    | zero => omega
    | succ fu =>
      have h1 : ¬ x + (d + 1) ≤ x := by omega
      simp (disch := omega) only [rf_sumOf_7_b5, le_n, h1, if_false, ck_n, tn_n, if_true, na_1, gfold]
      have h2 := ih fu (x + 1) (gstp s (z.2 7 x)) (by omega) (by omega)
      rw [show x + 1 + d = x + (d + 1) by omega] at h2
      exact h2
theorem p_sumOf (hn : n ≤ 12) (hk : 3000 ≤ k) (d : Nat) (hd : a + d ≤ n * 200) : rf_sumOf_7 n k z (nI a) (nI (a + d)) = some (gfold (z.2 7) d 0 a) := by
  unfold rf_sumOf_7
  exact p_sumOf5 hn d k a 0 (by omega) hd
theorem p_hasSum10 (hn : n ≤ 12) {x : Nat} (hx : x + 8 ≤ n * 200) (s : Int64) : ∀ (d fu i : Nat), i + d = 8 → d < fu → rf_hasSum_7_b10 n k z fu (nI x) s (nI i) = some (gT (∀ j, i ≤ j → j < 8 → z.2 7 (x + j) = gsb s j)) := by
  intro d
  induction d with
  | zero =>
    intro fu i hi hf
    cases fu with
    | zero => omega
    | succ fu =>
      have h1 : 8 ≤ i := by omega
      simp (disch := omega) only [rf_hasSum_7_b10, l_8, le_n, h1, if_true]
      rw [gT_t (fun j h2 h3 => by omega)]
  | succ d ih =>
    intro fu i hi hf
    cases fu with
    | zero => omega
    | succ fu =>
      have h1 : ¬ 8 ≤ i := by omega
      simp (disch := omega) only [rf_hasSum_7_b10, rf_sumByte, l_8, le_n, h1, if_false, nI_add, ck_n, tn_n, if_true, bo_some, na_1]
      by_cases h2 : z.2 7 (x + i) = gsb s i
      · have h3 : z.2 7 (x + i) = (Int64.toInt32 (jlushr s (nI 8 * (7 - nI i)))) &&& 255 := h2
        rw [if_pos h3, ih fu (i + 1) (by omega) (by omega)]
        congr 1
        by_cases h4 : ∀ j, i ≤ j → j < 8 → z.2 7 (x + j) = gsb s j
        · rw [gT_t h4, gT_t (fun j h5 h6 => h4 j (by omega) h6)]
        · rw [gT_f h4, gT_f (fun h5 => h4 (fun j h6 h7 => by
            rcases Nat.lt_or_ge i j with h8 | h8
            · exact h5 j (by omega) h7
            · have : j = i := by omega
              subst this
              exact h2))]
      · have h3 : ¬ z.2 7 (x + i) = (Int64.toInt32 (jlushr s (nI 8 * (7 - nI i)))) &&& 255 := h2
        rw [if_neg h3, gT_f (fun h4 => h2 (h4 i (Nat.le_refl _) (by omega)))]
theorem p_hasSum (hn : n ≤ 12) (hk : 3000 ≤ k) (d : Nat) (hd : a + d + 8 ≤ n * 200) : rf_hasSum_7 n k z (nI a) (nI (a + d)) = some (gT (gsm (z.2 7) a d)) := by
  unfold rf_hasSum_7
  rw [p_sumOf hn hk d (by omega), bo_some]
  have h := p_hasSum10 (n := n) (k := k) (z := z) hn (x := a + d) hd (gfold (z.2 7) d 0 a) 8 k 0 (by omega) (by omega)
  rw [show (0 : Int32) = nI 0 from rfl, h]
  congr 1
  have e1 : (∀ j, 0 ≤ j → j < 8 → z.2 7 (a + d + j) = gsb (gfold (z.2 7) d 0 a) j) = gsm (z.2 7) a d := propext ⟨fun h j hj => h j (Nat.zero_le _) hj, fun h j _ hj => h j hj⟩
  rw [e1]
theorem p_isGood (hB : BOK (z.2 7) (n * 200)) (hn : n ≤ 12) (hk : 3000 ≤ k) (ha : a < e) (he : e ≤ n * 200) : rf_isGood_7 n k z (nI a) (nI e) = some (gT (ggood (z.2 7) a e)) := by
  unfold rf_isGood_7
  rw [p_behind hB hn ha he, bo_some]
  by_cases h0 : gsz (z.2 7) a e = 0
  · rw [if_pos h0, if_pos rfl, gT_f (fun h => h.1 h0)]
  · obtain ⟨g1, g2, g3, g4, g5, g6, g7⟩ := gsz_le h0
    rw [if_neg h0]
    simp (disch := omega) only [m1_ne, if_false, p_keyAt hn (show a + 2 < n * 200 by omega), p_numAt hn (show a + 6 < n * 200 by omega), p_ccAt hn (show a + 7 < n * 200 by omega), bo_some, rf_isKey, ck_n, tn_n, if_true]
    have hb50 : rf_isGood_7_b50 n k z (nI a) (nI (a + gsz (z.2 7) a e)) = some (gT (gsm (z.2 7) a (gsz (z.2 7) a e - 8))) := by
      unfold rf_isGood_7_b50
      rw [show (nI (a + gsz (z.2 7) a e) - 8 : Int32) = nI (a + (gsz (z.2 7) a e - 8)) by
        rw [show (8 : Int32) = nI 8 from rfl, pk_sub (by omega)]
        congr 1
        omega, p_hasSum hn hk _ (by omega), bo_some, if_pos gT_bk]
    rw [hb50]
    by_cases hk1 : gkey (z.2 7) a < 0
    · rw [if_pos hk1, bo_some, if_pos rfl, gT_f (fun h => h.2.1.1 hk1)]
    · rw [if_neg hk1]
      by_cases hk2 : 1000 ≤ gkey (z.2 7) a
      · rw [if_pos hk2, bo_some, if_pos rfl, gT_f (fun h => h.2.1.2 hk2)]
      · rw [if_neg hk2, bo_some, if_neg (by decide)]
        by_cases hn1 : 0 < gnum (z.2 7) a
        · rw [if_pos hn1]
          by_cases h2 : z.2 7 a = 2
          · rw [if_pos h2]
            by_cases h7 : z.2 7 (a + 7) = 0
            · rw [if_pos h7]
              congr 1
              by_cases hs : gsm (z.2 7) a (gsz (z.2 7) a e - 8)
              · rw [gT_t hs, gT_t ⟨h0, ⟨hk1, hk2⟩, hn1, fun _ => h7, hs⟩]
              · rw [gT_f hs, gT_f (fun h => hs h.2.2.2.2)]
            · rw [if_neg h7, gT_f (fun h => h7 (h.2.2.2.1 h2))]
          · rw [if_neg h2]
            congr 1
            by_cases hs : gsm (z.2 7) a (gsz (z.2 7) a e - 8)
            · rw [gT_t hs, gT_t ⟨h0, ⟨hk1, hk2⟩, hn1, fun h => absurd h h2, hs⟩]
            · rw [gT_f hs, gT_f (fun h => hs h.2.2.2.2)]
        · rw [if_neg hn1, gT_f (fun h => hn1 h.2.2.1)]
end PC
