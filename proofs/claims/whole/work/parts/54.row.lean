def hd (kd K N cnt : Nat) (c : Nat → Int32) : Nat → Int32
  | 0 => nI kd
  | 1 => nI (K / 256)
  | 2 => nI (K % 256)
  | 3 => nI (N / 16777216 % 256)
  | 4 => nI (N / 65536 % 256)
  | 5 => nI (N / 256 % 256)
  | 6 => nI (N % 256)
  | 7 => nI cnt
  | i + 8 => c i
def rowD (kd K N cnt : Nat) (c : Nat → Int32) (i : Nat) : Int32 := if i < 8 + cnt then hd kd K N cnt c i else gsb (gfold (hd kd K N cnt c) (8 + cnt) 0 0) (i - (8 + cnt))
theorem nI_or {x y : Nat} (hx : x < 2 ^ 32) (hy : y < 2 ^ 32) : nI x ||| nI y = nI (x ||| y) := by
  apply Int32.toBitVec_inj.mp
  apply BitVec.eq_of_toNat_eq
  rw [Int32.toBitVec_or, BitVec.toNat_or, pk_tn hx, pk_tn hy, pk_tn (Nat.or_lt_two_pow hx hy)]
theorem nI_orA {a b i : Nat} (hb : b < 2 ^ i) (ha : a * 2 ^ i + b < 2 ^ 32) : nI (a * 2 ^ i) ||| nI b = nI (a * 2 ^ i + b) := by
  rw [nI_or (by omega) (by omega)]
  have := Nat.shiftLeft_add_eq_or_of_lt hb a
  rw [Nat.shiftLeft_eq] at this
  rw [← this]
theorem gsb_byte (s : Int64) (i : Nat) : ∃ b, b < 256 ∧ gsb s i = nI b := and_255 _
theorem gsb_and (s : Int64) (i : Nat) : gsb s i &&& 255 = gsb s i := by
  obtain ⟨b, hb, e⟩ := gsb_byte s i
  rw [e, pk_andN (by omega) 8 (by decide), Nat.mod_eq_of_lt hb]
theorem rowD_byte {kd K N cnt : Nat} {c : Nat → Int32} (hkd : kd < 256) (hK : K < 1000) (hc : ∀ i, i < cnt → ∃ b, b < 256 ∧ c i = nI b) (hcnt : cnt ≤ 20) (i : Nat) : ∃ b, b < 256 ∧ rowD kd K N cnt c i = nI b := by
  unfold rowD
  by_cases h : i < 8 + cnt
  · rw [if_pos h]
    rcases i with _ | _ | _ | _ | _ | _ | _ | _ | i
    · exact ⟨kd, hkd, rfl⟩
    · exact ⟨K / 256, by omega, rfl⟩
    · exact ⟨K % 256, by omega, rfl⟩
    · exact ⟨_, Nat.mod_lt _ (by omega), rfl⟩
    · exact ⟨_, Nat.mod_lt _ (by omega), rfl⟩
    · exact ⟨_, Nat.mod_lt _ (by omega), rfl⟩
    · exact ⟨_, Nat.mod_lt _ (by omega), rfl⟩
    · exact ⟨cnt, by omega, rfl⟩
    · exact hc i (by omega)
  · rw [if_neg h]
    exact gsb_byte _ _
theorem row_good {kd K N cnt a e : Nat} {c B : Nat → Int32} (hkd : kd = 1 ∨ (kd = 2 ∧ cnt = 0)) (hK : K < 1000) (hN0 : 0 < N) (hN : N < 2147483648) (hcnt : cnt ≤ 20) (hB : ∀ i, i < 16 + cnt → B (a + i) = rowD kd K N cnt c i) (he : a + (16 + cnt) ≤ e) : gsz B a e = 16 + cnt ∧ ggood B a e ∧ gkey B a = nI K ∧ gnum B a = nI N := by
  have hh : ∀ i, i < 8 + cnt → B (a + i) = hd kd K N cnt c i := fun i hi => by
    rw [hB i (by omega)]
    unfold rowD
    rw [if_pos hi]
  have h0 : B a = nI kd := hh 0 (by omega)
  have h1 : B (a + 1) = nI (K / 256) := hh 1 (by omega)
  have h2 : B (a + 2) = nI (K % 256) := hh 2 (by omega)
  have h3 : B (a + 3) = nI (N / 16777216 % 256) := hh 3 (by omega)
  have h4 : B (a + 4) = nI (N / 65536 % 256) := hh 4 (by omega)
  have h5 : B (a + 5) = nI (N / 256 % 256) := hh 5 (by omega)
  have h6 : B (a + 6) = nI (N % 256) := hh 6 (by omega)
  have h7 : B (a + 7) = nI cnt := hh 7 (by omega)
  have hl : gln B a = cnt := by unfold gln; rw [h7, tn_n (by omega)]
  have hs : gsz B a e = 16 + cnt := by
    unfold gsz
    rw [hl, h0, if_pos]
    refine ⟨?_, by omega, hcnt, by omega⟩
    rcases hkd with rfl | ⟨rfl, _⟩
    · exact Or.inl rfl
    · exact Or.inr rfl
  have hk : gkey B a = nI K := by
    unfold gkey
    rw [h1, h2, pk_shlN (8 &&& 31) 8 (by decide) (by omega), nI_orA (i := 8) (by omega) (by omega)]
    congr 1
    omega
  have hn : gnum B a = nI N := by
    unfold gnum
    rw [h3, h4, h5, h6, pk_shlN (24 &&& 31) 24 (by decide) (by omega), pk_shlN (16 &&& 31) 16 (by decide) (by omega), pk_shlN (8 &&& 31) 8 (by decide) (by omega)]
    rw [nI_orA (a := N / 16777216 % 256) (i := 24) (by omega) (by omega)]
    rw [show N / 16777216 % 256 * 2 ^ 24 + N / 65536 % 256 * 2 ^ 16 = (N / 16777216 % 256 * 256 + N / 65536 % 256) * 2 ^ 16 by omega]
    rw [nI_orA (i := 16) (by omega) (by omega)]
    rw [show (N / 16777216 % 256 * 256 + N / 65536 % 256) * 2 ^ 16 + N / 256 % 256 * 2 ^ 8 = ((N / 16777216 % 256 * 256 + N / 65536 % 256) * 256 + N / 256 % 256) * 2 ^ 8 by omega]
    rw [nI_orA (i := 8) (by omega) (by omega)]
    congr 1
    omega
  refine ⟨hs, ⟨by omega, ?_, ?_, ?_, ?_⟩, hk, hn⟩
  · rw [hk]
    refine ⟨nI_pos (by omega), ?_⟩
    rw [c_le_1000 (by omega)]
    omega
  · rw [hn, c_lt_0 hN]
    exact hN0
  · rw [h0, h7]
    intro q
    rcases hkd with rfl | ⟨rfl, rfl⟩
    · exact absurd q (by decide)
    · rfl
  · rw [hs]
    intro i hi
    have e1 : gfold B (16 + cnt - 8) 0 a = gfold (hd kd K N cnt c) (8 + cnt) 0 0 := by
      rw [show 16 + cnt - 8 = 8 + cnt by omega]
      exact gfold_shift (fun i hi => by rw [Nat.zero_add]; exact hh i hi)
    rw [e1, show a + (16 + cnt - 8) + i = a + (8 + cnt + i) by omega, hB _ (by omega)]
    unfold rowD
    rw [if_neg (by omega), show 8 + cnt + i - (8 + cnt) = i by omega]
section MK
variable {n k : Nat}
def Dr (z0 z : SS) (m : Nat) (D : Nat → Int32) : Prop := z.1 41 = nI m ∧ z.2 18 = bw (z0.2 18) 0 m D ∧ (∀ x, x ≠ 41 → z.1 x = z0.1 x) ∧ (∀ x, x ≠ 18 → z.2 x = z0.2 x)
theorem p_dradd {z0 z : SS} {m : Nat} {D : Nat → Int32} (h : Dr z0 z m D) (hm : m < 36) {x : Int32} (hx : x &&& 255 = D m) : ∃ z', dr_add n k z x = some z' ∧ Dr z0 z' (m + 1) D := by
  obtain ⟨h1, h2, h3, h4⟩ := h
  unfold dr_add
  simp (disch := omega) only [h1, ck_n, tn_n, if_true, na_1, hx]
  refine ⟨_, rfl, si_s, ?_, fun x hx => by rw [si_o hx, sa_i, h3 x hx], fun x hx => by rw [si_a, sa_o hx, h4 x hx]⟩
  rw [si_a, sa_s, h2, bw_s, Nat.zero_add]
theorem p_sum18 {z : SS} : ∀ (d fu x : Nat) (s : Int64), d < fu → x + d ≤ 36 → rf_sumOf_18_b5 n k z fu (nI (x + d)) s (nI x) = some (gfold (z.2 18) d s x) := by
  intro d
  induction d with
  | zero =>
    intro fu x s hf hx
    cases fu with
    | zero => omega
    | succ fu =>
      simp (disch := omega) only [rf_sumOf_18_b5, le_n, Nat.add_zero, Nat.le_refl, if_true, gfold]
  | succ d ih =>
    intro fu x s hf hx
    cases fu with
    | zero => omega
    | succ fu =>
      have h1 : ¬ x + (d + 1) ≤ x := by omega
      simp (disch := omega) only [rf_sumOf_18_b5, le_n, h1, if_false, ck_n, tn_n, if_true, na_1, gfold]
      have h2 := ih fu (x + 1) (gstp s (z.2 18 x)) (by omega) (by omega)
      rw [show x + 1 + d = x + (d + 1) by omega] at h2
      exact h2
theorem p_mk100 {z0 : SS} {m0 : Nat} {D : Nat → Int32} {s : Int64} (hm0 : m0 + 8 ≤ 36) (hD : ∀ i, i < 8 → D (m0 + i) = gsb s i) : ∀ (d fu i : Nat) (z : SS), i + d = 8 → d < fu → Dr z0 z (m0 + i) D → ∃ z', dr_make_5_b100 n k fu z s (nI i) = some z' ∧ Dr z0 z' (m0 + 8) D := by
  intro d
  induction d with
  | zero =>
    intro fu i z hi hf h
    cases fu with
    | zero => omega
    | succ fu =>
      have h1 : 8 ≤ i := by omega
      simp (disch := omega) only [dr_make_5_b100, c_le_8, h1, if_true]
      have : i = 8 := by omega
      subst this
      exact ⟨z, rfl, h⟩
  | succ d ih =>
    intro fu i z hi hf h
    cases fu with
    | zero => omega
    | succ fu =>
      have h1 : ¬ 8 ≤ i := by omega
      simp (disch := omega) only [dr_make_5_b100, c_le_8, h1, if_false, rf_sumByte, bo_some, na_1]
      obtain ⟨z', e1, e2⟩ := p_dradd (n := n) (k := k) (x := gsb s i) h (by omega) (by rw [gsb_and, hD i (by omega)])
      have e1 : dr_add n k z ((Int64.toInt32 (jlushr s (8 * (7 - nI i)))) &&& 255) = some z' := e1
      rw [e1, bo_some]
      exact ih fu (i + 1) z' (by omega) (by omega) e2
theorem p_mk61 (hk : 3000 ≤ k) {z0 : SS} {cnt : Nat} {D : Nat → Int32} (hcnt : cnt ≤ 20) (hD : ∀ i, i < cnt → z0.2 5 i &&& 255 = D (8 + i)) (hD2 : ∀ i, i < 8 → D (8 + cnt + i) = gsb (gfold D (8 + cnt) 0 0) i) : ∀ (d fu i : Nat) (z : SS), i + d = cnt → d < fu → Dr z0 z (8 + i) D → ∃ z', dr_make_5_b61 n k fu z (nI cnt) (nI i) = some z' ∧ Dr z0 z' (16 + cnt) D := by
  intro d
  induction d with
  | zero =>
    intro fu i z hi hf h
    cases fu with
    | zero => omega
    | succ fu =>
      have h1 : cnt ≤ i := by omega
      simp (disch := omega) only [dr_make_5_b61, le_n, h1, if_true]
      have : i = cnt := by omega
      subst this
      have hs := p_sum18 (n := n) (k := k) (z := z) (8 + i) k 0 0 (by omega) (by omega)
      rw [Nat.zero_add] at hs
      have hs2 : rf_sumOf_18 n k z 0 (z.1 41) = some (gfold (z.2 18) (8 + i) 0 0) := by
        unfold rf_sumOf_18
        rw [h.1]
        exact hs
      rw [hs2, bo_some, h.2.1]
      have e : gfold (bw (z0.2 18) 0 (8 + i) D) (8 + i) 0 0 = gfold D (8 + i) 0 0 := gfold_shift (fun j hj => by
        have := bw_in (B := z0.2 18) (D := D) (p := 0) (m := 8 + i) hj
        rw [this, Nat.zero_add])
      rw [e]
      have := p_mk100 (n := n) (k := k) (z0 := z0) (m0 := 8 + i) (D := D) (s := gfold D (8 + i) 0 0) (by omega) hD2 8 k 0 z (by omega) (by omega) h
      rw [show 8 + i + 8 = 16 + i by omega] at this
      exact this
  | succ d ih =>
    intro fu i z hi hf h
    cases fu with
    | zero => omega
    | succ fu =>
      have h1 : ¬ cnt ≤ i := by omega
      simp (disch := omega) only [dr_make_5_b61, le_n, h1, if_false, ck_n, tn_n, if_true, na_1]
      rw [h.2.2.2 5 (by omega)]
      obtain ⟨z', e1, e2⟩ := p_dradd (n := n) (k := k) (x := z0.2 5 i) h (by omega) (hD i (by omega))
      rw [e1, bo_some]
      exact ih fu (i + 1) z' (by omega) (by omega) e2
theorem nI_and {x : Nat} (h : x < 2 ^ 32) : nI x &&& 255 = nI (x % 256) := pk_andN h 8 (by decide)
theorem p_make (hk : 3000 ≤ k) {z : SS} {kd K N cnt : Nat} (hkd : kd < 256) (hK : K < 1000) (hN : N < 2147483648) (hcnt : cnt ≤ 20) (hc : ∀ i, i < 20 → ∃ b, b < 256 ∧ z.2 5 i = nI b) : ∃ z', dr_make_5 n k z (nI kd) (nI K) (nI N) (nI cnt) = some z' ∧ Dr z z' (16 + cnt) (rowD kd K N cnt (z.2 5)) := by
  have hD : ∀ i, i < 8 + cnt → rowD kd K N cnt (z.2 5) i = hd kd K N cnt (z.2 5) i := fun i hi => by unfold rowD; rw [if_pos hi]
  have u8 : jushr (nI K) 8 = nI (K / 256) := pk_ushrN (by omega) 8 8 (by decide)
  have n24 : jushr (nI N) 24 = nI (N / 16777216) := pk_ushrN (by omega) 24 24 (by decide)
  have n16 : jushr (nI N) 16 = nI (N / 65536) := pk_ushrN (by omega) 16 16 (by decide)
  have n8 : jushr (nI N) 8 = nI (N / 256) := pk_ushrN (by omega) 8 8 (by decide)
  have d0 : Dr z (si z 41 0) 0 (rowD kd K N cnt (z.2 5)) := ⟨si_s, by rw [si_a, bw_0], fun x hx => si_o hx, fun x _ => si_a⟩
  unfold dr_make_5
  rw [u8, n24, n16, n8]
  obtain ⟨z1, e1, d1⟩ := p_dradd (n := n) (k := k) (x := nI kd) d0 (by omega) (by rw [nI_and (by omega), Nat.mod_eq_of_lt hkd, hD 0 (by omega)]; rfl)
  obtain ⟨z2, e2, d2⟩ := p_dradd (n := n) (k := k) (x := nI (K / 256)) d1 (by omega) (by rw [nI_and (by omega), Nat.mod_eq_of_lt (by omega), hD 1 (by omega)]; rfl)
  obtain ⟨z3, e3, d3⟩ := p_dradd (n := n) (k := k) (x := nI K) d2 (by omega) (by rw [nI_and (by omega), hD 2 (by omega)]; rfl)
  obtain ⟨z4, e4, d4⟩ := p_dradd (n := n) (k := k) (x := nI (N / 16777216)) d3 (by omega) (by rw [nI_and (by omega), hD 3 (by omega)]; rfl)
  obtain ⟨z5, e5, d5⟩ := p_dradd (n := n) (k := k) (x := nI (N / 65536)) d4 (by omega) (by rw [nI_and (by omega), hD 4 (by omega)]; rfl)
  obtain ⟨z6, e6, d6⟩ := p_dradd (n := n) (k := k) (x := nI (N / 256)) d5 (by omega) (by rw [nI_and (by omega), hD 5 (by omega)]; rfl)
  obtain ⟨z7, e7, d7⟩ := p_dradd (n := n) (k := k) (x := nI N) d6 (by omega) (by rw [nI_and (by omega), hD 6 (by omega)]; rfl)
  obtain ⟨z8, e8, d8⟩ := p_dradd (n := n) (k := k) (x := nI cnt) d7 (by omega) (by rw [nI_and (by omega), Nat.mod_eq_of_lt (by omega), hD 7 (by omega)]; rfl)
  rw [e1, bo_some, e2, bo_some, e3, bo_some, e4, bo_some, e5, bo_some, e6, bo_some, e7, bo_some, e8, bo_some]
  refine p_mk61 (n := n) hk (z0 := z) hcnt (fun i hi => ?_) (fun i hi => ?_) cnt k 0 z8 (by omega) (by omega) d8
  · rw [hD _ (by omega)]
    obtain ⟨b, hb, eb⟩ := hc i (by omega)
    rw [eb, nI_and (by omega), Nat.mod_eq_of_lt hb, ← eb, show 8 + i = i + 8 by omega]
    rfl
  · have e : gfold (rowD kd K N cnt (z.2 5)) (8 + cnt) 0 0 = gfold (hd kd K N cnt (z.2 5)) (8 + cnt) 0 0 := gfold_shift (fun j hj => by rw [Nat.zero_add]; exact hD j hj)
    rw [e]
    unfold rowD
    rw [if_neg (by omega), show 8 + cnt + i - (8 + cnt) = i by omega]
def Fr (z0 z : SS) (m : Nat) (D : Nat → Int32) : Prop := z.2 12 = bw (z0.2 12) 0 m D ∧ z.1 = z0.1 ∧ (∀ x, x ≠ 12 → z.2 x = z0.2 x)
theorem Fr_s {z0 z : SS} {m : Nat} {D : Nat → Int32} (h : Fr z0 z m D) {x : Int32} (hx : x = D m) : Fr z0 (sa z 12 m x) (m + 1) D := by
  obtain ⟨h1, h2, h3⟩ := h
  subst hx
  refine ⟨?_, by rw [← h2]; rfl, fun x hx => by rw [sa_o hx, h3 x hx]⟩
  rw [sa_s, h1, bw_s, Nat.zero_add]
theorem m_mk149 {z0 : SS} {cnt : Nat} {D : Nat → Int32} {s : Int64} (hm0 : cnt ≤ 20) (hD : ∀ i, i < 8 → D (8 + cnt + i) = gsb s i) : ∀ (d fu i : Nat) (z : SS), i + d = 8 → d < fu → Fr z0 z (8 + cnt + i) D → ∃ z', rm_makeRow_b149 k fu z (nI cnt) s (nI i) = some z' ∧ Fr z0 z' (16 + cnt) D := by
  intro d
  induction d with
  | zero =>
    intro fu i z hi hf h
    cases fu with
    | zero => omega
    | succ fu =>
      have h1 : 8 ≤ i := by omega
      simp (disch := omega) only [rm_makeRow_b149, c_le_8, h1, if_true]
      have : i = 8 := by omega
      subst this
      rw [show 8 + cnt + 8 = 16 + cnt by omega] at h
      exact ⟨z, rfl, h⟩
  | succ d ih =>
    intro fu i z hi hf h
    cases fu with
    | zero => omega
    | succ fu =>
      have h1 : ¬ 8 ≤ i := by omega
      simp (disch := omega) only [rm_makeRow_b149, c_le_8, h1, if_false, an_8, nI_add, ck_n, tn_n, if_true, na_1, m_sumB i (show i < 8 by omega)]
      exact ih fu (i + 1) _ (by omega) (by omega) (Fr_s h (hD i (by omega)).symm)
theorem m_mk117 (hk : 3000 ≤ k) {z0 z : SS} {cnt : Nat} {D : Nat → Int32} (hm0 : cnt ≤ 20) (hD : ∀ i, i < 8 → D (8 + cnt + i) = gsb (gfold D (8 + cnt) 0 0) i) (h : Fr z0 z (8 + cnt) D) : ∀ (d fu i : Nat) (s : Int64), i + d = 8 + cnt → d < fu → gfold D d s i = gfold D (8 + cnt) 0 0 → ∃ z', rm_makeRow_b117 k fu z (nI cnt) s (nI i) = some z' ∧ Fr z0 z' (16 + cnt) D := by
  intro d
  induction d with
  | zero =>
    intro fu i s hi hf hs
    cases fu with
    | zero => omega
    | succ fu =>
      have h1 : 8 + cnt ≤ i := by omega
      simp (disch := omega) only [rm_makeRow_b117, an_8, le_n, h1, if_true]
      have hs : s = gfold D (8 + cnt) 0 0 := hs
      subst hs
      exact m_mk149 hm0 hD 8 k 0 z (by omega) (by omega) h
  | succ d ih =>
    intro fu i s hi hf hs
    cases fu with
    | zero => omega
    | succ fu =>
      have h1 : ¬ 8 + cnt ≤ i := by omega
      simp (disch := omega) only [rm_makeRow_b117, an_8, le_n, h1, if_false, ck_n, tn_n, if_true, na_1, rm_step, bo_some]
      have e : z.2 12 i = D i := by
        rw [h.1]
        have := bw_in (B := z0.2 12) (D := D) (p := 0) (m := 8 + cnt) (i := i) (by omega)
        rw [Nat.zero_add] at this
        exact this
      rw [e]
      exact ih fu (i + 1) _ (by omega) (by omega) hs
theorem m_mk82 (hk : 3000 ≤ k) {z0 : SS} {cnt : Nat} {D : Nat → Int32} (hm0 : cnt ≤ 20) (hD1 : ∀ i, i < cnt → z0.2 3 i = D (8 + i)) (hD : ∀ i, i < 8 → D (8 + cnt + i) = gsb (gfold D (8 + cnt) 0 0) i) : ∀ (d fu i : Nat) (z : SS), i + d = cnt → d < fu → Fr z0 z (8 + i) D → ∃ z', rm_makeRow_b82 k fu z (nI cnt) (nI i) = some z' ∧ Fr z0 z' (16 + cnt) D := by
  intro d
  induction d with
  | zero =>
    intro fu i z hi hf h
    cases fu with
    | zero => omega
    | succ fu =>
      have h1 : cnt ≤ i := by omega
      simp (disch := omega) only [rm_makeRow_b82, le_n, h1, if_true]
      have : i = cnt := by omega
      subst this
      exact m_mk117 hk hm0 hD h (8 + i) k 0 0 (by omega) (by omega) rfl
  | succ d ih =>
    intro fu i z hi hf h
    cases fu with
    | zero => omega
    | succ fu =>
      have h1 : ¬ cnt ≤ i := by omega
      simp (disch := omega) only [rm_makeRow_b82, le_n, h1, if_false, an_8, ck_n, tn_n, if_true, na_1]
      refine ih fu (i + 1) _ (by omega) (by omega) (Fr_s h ?_)
      rw [h.2.2 3 (by omega)]
      exact hD1 i (by omega)
theorem m_make (hk : 3000 ≤ k) {z : SS} {kd K N cnt : Nat} (hK : K < 1000) (hN : N < 2147483648) (hl : z.1 5 + 1 = nI N) (hcnt : cnt ≤ 20) : ∃ z', rm_makeRow k z (nI kd) (nI K) (nI cnt) = some z' ∧ Fr z z' (16 + cnt) (rowD kd K N cnt (z.2 3)) := by
  have hD : ∀ i, i < 8 + cnt → rowD kd K N cnt (z.2 3) i = hd kd K N cnt (z.2 3) i := fun i hi => by unfold rowD; rw [if_pos hi]
  have u8 : nI K >>> (8 &&& 31 : Int32) = nI (K / 256) := pk_shrN (by omega) (8 &&& 31) 8 (by decide)
  have n24 : jushr (nI N) (24 - 8 * nI 0) = nI (N / 16777216) := pk_ushrN (by omega) _ 24 (by decide)
  have n16 : jushr (nI N) (24 - 8 * nI 1) = nI (N / 65536) := pk_ushrN (by omega) _ 16 (by decide)
  have n8 : jushr (nI N) (24 - 8 * nI 2) = nI (N / 256) := pk_ushrN (by omega) _ 8 (by decide)
  have n0 : jushr (nI N) (24 - 8 * nI 3) = nI (N / 1) := pk_ushrN (by omega) _ 0 (by decide)
  unfold rm_makeRow
  rw [u8, if_pos (by decide), if_pos (by decide), if_pos (by decide), nI_and (by omega), show Int32.toNatClampNeg 0 = 0 by decide, show Int32.toNatClampNeg 1 = 1 by decide, show Int32.toNatClampNeg 2 = 2 by decide]
  have f0 : Fr z z 0 (rowD kd K N cnt (z.2 3)) := ⟨by rw [bw_0], rfl, fun x _ => rfl⟩
  have f1 := Fr_s f0 (x := nI kd) (by rw [hD 0 (by omega)]; rfl)
  have f2 := Fr_s f1 (x := nI (K / 256)) (by rw [hD 1 (by omega)]; rfl)
  have f3 := Fr_s f2 (x := nI (K % 256)) (by rw [hD 2 (by omega)]; rfl)
  obtain ⟨j, hj⟩ : ∃ j, k = j + 5 := ⟨k - 5, by omega⟩
  have st : ∀ (z3 : SS), Fr z z3 3 (rowD kd K N cnt (z.2 3)) → ∃ z', rm_makeRow_b31 k (j + 5) z3 (nI cnt) (nI 0) = some z' ∧ Fr z z' (16 + cnt) (rowD kd K N cnt (z.2 3)) := by
    intro z3 f3
    have l5 : ∀ w m, Fr z w m (rowD kd K N cnt (z.2 3)) → w.1 5 + 1 = nI N := fun w m h => by rw [h.2.1]; exact hl
    have f4 := Fr_s f3 (x := nI (N / 16777216 % 256)) (by rw [hD 3 (by omega)]; rfl)
    have f5 := Fr_s f4 (x := nI (N / 65536 % 256)) (by rw [hD 4 (by omega)]; rfl)
    have f6 := Fr_s f5 (x := nI (N / 256 % 256)) (by rw [hD 5 (by omega)]; rfl)
    have f7 := Fr_s f6 (x := nI (N % 256)) (by rw [hD 6 (by omega)]; rfl)
    have f8 := Fr_s f7 (x := nI cnt) (by rw [hD 7 (by omega)]; rfl)
    have c0 : ¬ (4 : Int32) ≤ nI 0 := by decide
    have c1 : ¬ (4 : Int32) ≤ nI 1 := by decide
    have c2 : ¬ (4 : Int32) ≤ nI 2 := by decide
    have c3 : ¬ (4 : Int32) ≤ nI 3 := by decide
    have c4 : (4 : Int32) ≤ nI 4 := by decide
    have s0 : rm_makeRow_b31 k (j + 5) z3 (nI cnt) (nI 0) = rm_makeRow_b31 k (j + 4) (sa z3 12 3 (nI (N / 16777216 % 256))) (nI cnt) (nI 1) := by
      simp only [rm_makeRow_b31]
      rw [if_neg c0, l5 z3 3 f3, n24, nI_and (by omega), an_3, if_pos (ck_n (by omega) (by omega)), tn_n (by omega), na_1]
    have s1 : rm_makeRow_b31 k (j + 4) (sa z3 12 3 (nI (N / 16777216 % 256))) (nI cnt) (nI 1) = rm_makeRow_b31 k (j + 3) (sa (sa z3 12 3 (nI (N / 16777216 % 256))) 12 4 (nI (N / 65536 % 256))) (nI cnt) (nI 2) := by
      simp only [rm_makeRow_b31]
      rw [if_neg c1, l5 _ _ f4, n16, nI_and (by omega), an_3, if_pos (ck_n (by omega) (by omega)), tn_n (by omega), na_1]
    have s2 : rm_makeRow_b31 k (j + 3) (sa (sa z3 12 3 (nI (N / 16777216 % 256))) 12 4 (nI (N / 65536 % 256))) (nI cnt) (nI 2) = rm_makeRow_b31 k (j + 2) (sa (sa (sa z3 12 3 (nI (N / 16777216 % 256))) 12 4 (nI (N / 65536 % 256))) 12 5 (nI (N / 256 % 256))) (nI cnt) (nI 3) := by
      simp only [rm_makeRow_b31]
      rw [if_neg c2, l5 _ _ f5, n8, nI_and (by omega), an_3, if_pos (ck_n (by omega) (by omega)), tn_n (by omega), na_1]
    have s3 : rm_makeRow_b31 k (j + 2) (sa (sa (sa z3 12 3 (nI (N / 16777216 % 256))) 12 4 (nI (N / 65536 % 256))) 12 5 (nI (N / 256 % 256))) (nI cnt) (nI 3) = rm_makeRow_b31 k (j + 1) (sa (sa (sa (sa z3 12 3 (nI (N / 16777216 % 256))) 12 4 (nI (N / 65536 % 256))) 12 5 (nI (N / 256 % 256))) 12 6 (nI (N % 256))) (nI cnt) (nI 4) := by
      simp only [rm_makeRow_b31]
      rw [if_neg c3, l5 _ _ f6, n0, Nat.div_one, nI_and (by omega), an_3, if_pos (ck_n (by omega) (by omega)), tn_n (by omega), na_1]
    rw [s0, s1, s2, s3]
    simp only [rm_makeRow_b31]
    rw [if_pos c4, if_pos (by decide), show Int32.toNatClampNeg 7 = 7 by decide]
    refine m_mk82 hk (z0 := z) hcnt (fun i hi => ?_) (fun i hi => ?_) cnt k 0 _ (by omega) (by omega) f8
    · rw [hD _ (by omega), show 8 + i = i + 8 by omega]
      rfl
    · have e : gfold (rowD kd K N cnt (z.2 3)) (8 + cnt) 0 0 = gfold (hd kd K N cnt (z.2 3)) (8 + cnt) 0 0 := gfold_shift (fun j hj => by rw [Nat.zero_add]; exact hD j hj)
      rw [e]
      unfold rowD
      rw [if_neg (by omega), show 8 + cnt + i - (8 + cnt) = i by omega]
  have := st _ f3
  rw [← hj] at this
  exact this
end MK
