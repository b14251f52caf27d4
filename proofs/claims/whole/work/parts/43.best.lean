theorem i_lt {a b : Int32} : (a < b) = (a.toInt < b.toInt) := propext Int32.lt_iff_toInt_lt
theorem i_le {a b : Int32} : (a ≤ b) = (a.toInt ≤ b.toInt) := propext Int32.le_iff_toInt_le
def Best (key num : Nat → Int32) (N : Nat) (K M : Int32) (r : Int32) : Prop :=
  (r = -1 ∧ ∀ j, j < N → key j = K → M.toInt < (num j).toInt) ∨
  (∃ b, b < N ∧ r = nI b ∧ key b = K ∧ (num b).toInt ≤ M.toInt ∧ ∀ j, j < N → key j = K → (num j).toInt ≤ M.toInt → (num j).toInt ≤ (num b).toInt ∧ (j < b → (num j).toInt < (num b).toInt))
theorem Best_0 {key num : Nat → Int32} {K M : Int32} : Best key num 0 K M (-1) := Or.inl ⟨rfl, fun j hj => by omega⟩
theorem Best_skip {key num : Nat → Int32} {N : Nat} {K M r : Int32} (h : Best key num N K M r) (hs : key N = K → M.toInt < (num N).toInt) : Best key num (N + 1) K M r := by
  rcases h with ⟨h1, h2⟩ | ⟨b, h1, h2, h3, h4, h5⟩
  · refine Or.inl ⟨h1, fun j hj hk => ?_⟩
    by_cases hjN : j = N
    · subst hjN; exact hs hk
    · exact h2 j (by omega) hk
  · refine Or.inr ⟨b, by omega, h2, h3, h4, fun j hj hk hm => ?_⟩
    by_cases hjN : j = N
    · subst hjN
      have := hs hk
      omega
    · exact h5 j (by omega) hk hm
theorem Best_first {key num : Nat → Int32} {N : Nat} {K M : Int32} (h : Best key num N K M (-1)) (hN : N < 2147483648) (hk : key N = K) (hm : (num N).toInt ≤ M.toInt) : Best key num (N + 1) K M (nI N) := by
  rcases h with ⟨h1, h2⟩ | ⟨b, h1, h2, h3, h4, h5⟩
  · refine Or.inr ⟨N, by omega, rfl, hk, hm, fun j hj hk2 hm2 => ?_⟩
    by_cases hjN : j = N
    · subst hjN; exact ⟨by omega, fun h => by omega⟩
    · have := h2 j (by omega) hk2
      omega
  · exact absurd h2.symm (by rw [m1_ne (by omega)]; exact fun h => h)
theorem Best_b {key num : Nat → Int32} {N b : Nat} {K M : Int32} (h : Best key num N K M (nI b)) (hN : N < 2147483648) (hb : b < N) : key b = K ∧ (num b).toInt ≤ M.toInt ∧ ∀ j, j < N → key j = K → (num j).toInt ≤ M.toInt → (num j).toInt ≤ (num b).toInt ∧ (j < b → (num j).toInt < (num b).toInt) := by
  rcases h with ⟨h1, h2⟩ | ⟨c, h1, h2, h3, h4, h5⟩
  · rw [m1_ne (by omega)] at h1; exact h1.elim
  · rw [eq_n (by omega) (by omega)] at h2
    subst h2
    exact ⟨h3, h4, h5⟩
theorem Best_keep {key num : Nat → Int32} {N b : Nat} {K M : Int32} (h : Best key num N K M (nI b)) (hN : N < 2147483648) (hb : b < N) (hm : (num N).toInt ≤ (num b).toInt) : Best key num (N + 1) K M (nI b) := by
  obtain ⟨h3, h4, h5⟩ := Best_b h hN hb
  refine Or.inr ⟨b, by omega, rfl, h3, h4, fun j hj hk2 hm2 => ?_⟩
  by_cases hjN : j = N
  · subst hjN; exact ⟨by omega, fun h => by omega⟩
  · exact h5 j (by omega) hk2 hm2
theorem Best_new {key num : Nat → Int32} {N b : Nat} {K M : Int32} (h : Best key num N K M (nI b)) (hN : N < 2147483648) (hb : b < N) (hk : key N = K) (hM : (num N).toInt ≤ M.toInt) (hm : (num b).toInt < (num N).toInt) : Best key num (N + 1) K M (nI N) := by
  obtain ⟨h3, h4, h5⟩ := Best_b h hN hb
  refine Or.inr ⟨N, by omega, rfl, hk, hM, fun j hj hk2 hm2 => ?_⟩
  by_cases hjN : j = N
  · subst hjN; exact ⟨by omega, fun h => by omega⟩
  · have := h5 j (by omega) hk2 hm2
    exact ⟨by omega, fun _ => by omega⟩
theorem Best_uniq {key num : Nat → Int32} {N : Nat} {K M r r' : Int32} (h : Best key num N K M r) (h' : Best key num N K M r') : r = r' := by
  rcases h with ⟨h1, h2⟩ | ⟨b, h1, h2, h3, h4, h5⟩
  · rcases h' with ⟨g1, g2⟩ | ⟨c, g1, g2, g3, g4, g5⟩
    · rw [h1, g1]
    · have := h2 c g1 g3
      omega
  · rcases h' with ⟨g1, g2⟩ | ⟨c, g1, g2, g3, g4, g5⟩
    · have := g2 b h1 h3
      omega
    · have e1 := h5 c g1 g3 g4
      have e2 := g5 b h1 h3 h4
      have : b = c := by
        rcases Nat.lt_trichotomy b c with q | q | q
        · have := e2.2 q; omega
        · exact q
        · have := e1.2 q; omega
      rw [h2, g2, this]
theorem Best_cases {key num : Nat → Int32} {N : Nat} {K M r : Int32} (h : Best key num N K M r) : r = -1 ∨ ∃ b, b < N ∧ r = nI b := by
  rcases h with ⟨h1, h2⟩ | ⟨b, h1, h2, h3, h4, h5⟩
  · exact Or.inl h1
  · exact Or.inr ⟨b, h1, h2⟩
theorem m1_neg : ((-1 : Int32) < 0) = True := eq_true (by decide)
theorem nm1_ge : ((0 : Int32) ≤ -1) = False := eq_false (by decide)
theorem Best_at {key num : Nat → Int32} {N x : Nat} {K M : Int32} (hx : x < N) (hN : N < 2147483648) : Best key num N K M (nI x) ↔ (key x = K ∧ (num x).toInt ≤ M.toInt ∧ ∀ j, j < N → key j = K → (num j).toInt ≤ M.toInt → (num j).toInt ≤ (num x).toInt ∧ (j < x → (num j).toInt < (num x).toInt)) :=
  ⟨fun h => Best_b h hN hx, fun h => Or.inr ⟨x, hx, rfl, h.1, h.2.1, h.2.2⟩⟩
section PB
variable {n k : Nat} {z : SS}
theorem p_slotAt5 (hn : n ≤ 12) {K M : Int32} : ∀ (d fu j : Nat) (r : Int32), j + d = n * 12 → d < fu → Best (z.2 12) (z.2 13) j K M r → ∃ r', ix_slotAt_b5 n k z fu K M r (nI j) = some r' ∧ Best (z.2 12) (z.2 13) (n * 12) K M r' := by
  intro d
  induction d with
  | zero =>
    intro fu j r hj hf hb
    cases fu with
    | zero => omega
    | succ fu =>
      have h1 : n * 12 ≤ j := by omega
      simp (disch := omega) only [ix_slotAt_b5, le_n, h1, if_true]
      have : j = n * 12 := by omega
      subst this
      exact ⟨r, rfl, hb⟩
  | succ d ih =>
    intro fu j r hj hf hb
    cases fu with
    | zero => omega
    | succ fu =>
      have h1 : ¬ n * 12 ≤ j := by omega
      simp (disch := omega) only [ix_slotAt_b5, le_n, h1, if_false, ck_n, tn_n, if_true, na_1]
      have step : ∀ r, Best (z.2 12) (z.2 13) (j + 1) K M r → ∃ r', ix_slotAt_b5 n k z fu K M r (nI (j + 1)) = some r' ∧ Best (z.2 12) (z.2 13) (n * 12) K M r' := fun r h => ih fu (j + 1) r (by omega) (by omega) h
      by_cases hk : z.2 12 j = K
      · rw [if_pos hk]
        by_cases hm : M < z.2 13 j
        · rw [if_pos hm]
          rw [i_lt] at hm
          exact step r (Best_skip hb (fun _ => hm))
        · rw [if_neg hm]
          rw [i_lt] at hm
          rcases Best_cases hb with rfl | ⟨b, hb1, rfl⟩
          · rw [if_pos rfl]
            exact step _ (Best_first hb (by omega) hk (by omega))
          · simp (disch := omega) only [m1_ne, if_false, ck_n, tn_n, if_true]
            by_cases hl : z.2 13 j ≤ z.2 13 b
            · rw [if_pos hl]
              rw [i_le] at hl
              exact step _ (Best_keep hb (by omega) hb1 hl)
            · rw [if_neg hl]
              rw [i_le] at hl
              exact step _ (Best_new hb (by omega) hb1 hk (by omega) (by omega))
      · rw [if_neg hk]
        exact step r (Best_skip hb (fun h => absurd h hk))
theorem p_slotAt (hn : n ≤ 12) (hk : 3000 ≤ k) (K M : Int32) : ∃ r', ix_slotAt n k z K M = some r' ∧ Best (z.2 12) (z.2 13) (n * 12) K M r' := by
  unfold ix_slotAt
  exact p_slotAt5 hn (n * 12) k 0 (-1) (by omega) (by omega) Best_0
theorem m_rowOf9 {N : Nat} (hN : N ≤ 160) (hr : z.1 15 = nI N) {K M : Int32} : ∀ (d fu j : Nat) (r : Int32), j + d = N → d < fu → Best (z.2 8) (z.2 9) j K M r → ∃ r', rm_rowOf_b9 k fu z K M r (nI j) = some (r', z) ∧ Best (z.2 8) (z.2 9) N K M r' := by
  intro d
  induction d with
  | zero =>
    intro fu j r hj hf hb
    cases fu with
    | zero => omega
    | succ fu =>
      have h1 : N ≤ j := by omega
      simp (disch := omega) only [rm_rowOf_b9, hr, le_n, h1, if_true]
      have : j = N := by omega
      subst this
      exact ⟨r, rfl, hb⟩
  | succ d ih =>
    intro fu j r hj hf hb
    cases fu with
    | zero => omega
    | succ fu =>
      have h1 : ¬ N ≤ j := by omega
      simp (disch := omega) only [rm_rowOf_b9, hr, le_n, h1, if_false, ck_n, tn_n, if_true, na_1]
      have step : ∀ r, Best (z.2 8) (z.2 9) (j + 1) K M r → ∃ r', rm_rowOf_b9 k fu z K M r (nI (j + 1)) = some (r', z) ∧ Best (z.2 8) (z.2 9) N K M r' := fun r h => ih fu (j + 1) r (by omega) (by omega) h
      by_cases hk : z.2 8 j = K
      · rw [if_pos hk]
        by_cases hm : M < z.2 9 j
        · rw [if_pos hm]
          rw [i_lt] at hm
          exact step r (Best_skip hb (fun _ => hm))
        · rw [if_neg hm]
          rw [i_lt] at hm
          rcases Best_cases hb with rfl | ⟨b, hb1, rfl⟩
          · rw [if_pos (by decide)]
            exact step _ (Best_first hb (by omega) hk (by omega))
          · simp (disch := omega) only [neg_n, if_false, ck_n, tn_n, if_true]
            by_cases hl : z.2 9 j ≤ z.2 9 b
            · rw [if_pos hl]
              rw [i_le] at hl
              exact step _ (Best_keep hb (by omega) hb1 hl)
            · rw [if_neg hl]
              rw [i_le] at hl
              exact step _ (Best_new hb (by omega) hb1 hk (by omega) (by omega))
      · rw [if_neg hk]
        exact step r (Best_skip hb (fun h => absurd h hk))
theorem m_rowOf {N : Nat} (hN : N ≤ 160) (hk : 3000 ≤ k) (hkn : z.1 14 = 1) (hr : z.1 15 = nI N) (K M : Int32) : ∃ r', rm_rowOf k z K M = some (r', z) ∧ Best (z.2 8) (z.2 9) N K M r' := by
  unfold rm_rowOf rm_know
  rw [hkn, if_neg (by decide), bo_some]
  exact m_rowOf9 hN hr N k 0 (-1) (by omega) (by omega) Best_0
def Lv (key num gr op mom : Nat → Int32) (N x : Nat) : Prop :=
  (∀ j, j < x → key j = key x → (num j).toInt ≠ (num x).toInt) ∧
  (gr x = 0 ∨ ∃ j, j < N ∧ key j = key x ∧ (num j).toInt < (num x).toInt) ∧
  ((∀ j, j < N → key j = key x → (num j).toInt ≤ (num x).toInt) ∨ ∃ i, i < 4 ∧ op i ≠ 0 ∧ (num x).toInt ≤ (mom i).toInt ∧ ∀ j, j < N → key j = key x → (num x).toInt < (num j).toInt → (mom i).toInt < (num j).toInt)
theorem p_any {a b : Int32} : ∀ (d fu i : Nat), i + d = 4 → d < fu → sn_anyWithin_b2 n k z fu a b (nI i) = some (gT (∃ j, i ≤ j ∧ j < 4 ∧ z.2 16 j ≠ 0 ∧ a.toInt ≤ (z.2 17 j).toInt ∧ (z.2 17 j).toInt < b.toInt)) := by
  intro d
  induction d with
  | zero =>
    intro fu i hi hf
    cases fu with
    | zero => omega
    | succ fu =>
      have h1 : 4 ≤ i := by omega
      simp (disch := omega) only [sn_anyWithin_b2, c_le_4, h1, if_true]
      rw [gT_f (fun ⟨j, h2, h3, _⟩ => by omega)]
  | succ d ih =>
    intro fu i hi hf
    cases fu with
    | zero => omega
    | succ fu =>
      have h1 : ¬ 4 ≤ i := by omega
      simp (disch := omega) only [sn_anyWithin_b2, c_le_4, h1, if_false, ck_n, tn_n, if_true, na_1, ih fu (i + 1) (by omega) (by omega)]
      simp only [i_lt, i_le]
      have sk : ¬ (z.2 16 i ≠ 0 ∧ a.toInt ≤ (z.2 17 i).toInt ∧ (z.2 17 i).toInt < b.toInt) → some (gT (∃ j, i + 1 ≤ j ∧ j < 4 ∧ z.2 16 j ≠ 0 ∧ a.toInt ≤ (z.2 17 j).toInt ∧ (z.2 17 j).toInt < b.toInt)) = some (gT (∃ j, i ≤ j ∧ j < 4 ∧ z.2 16 j ≠ 0 ∧ a.toInt ≤ (z.2 17 j).toInt ∧ (z.2 17 j).toInt < b.toInt)) := by
        intro h
        congr 2
        refine propext ⟨fun ⟨j, h2, h3⟩ => ⟨j, by omega, h3⟩, fun ⟨j, h2, h3, h4⟩ => ⟨j, ?_, h3, h4⟩⟩
        rcases Nat.lt_or_ge i j with h5 | h5
        · omega
        · have : j = i := by omega
          subst this
          exact absurd h4 h
      by_cases h2 : z.2 16 i = 0
      · rw [if_pos h2]
        exact sk (fun h => h.1 h2)
      · rw [if_neg h2]
        by_cases h3 : (z.2 17 i).toInt < a.toInt
        · rw [if_pos h3]
          exact sk (fun h => by omega)
        · rw [if_neg h3]
          by_cases h4 : b.toInt ≤ (z.2 17 i).toInt
          · rw [if_pos h4]
            exact sk (fun h => by omega)
          · rw [if_neg h4, gT_t ⟨i, Nat.le_refl _, by omega, h2, by omega, by omega⟩]
theorem p_lives23 (hn : n ≤ 12) (hk : 3000 ≤ k) {x : Nat} (hx : x < n * 12) : ∀ (d fu j : Nat) (x3 x4 x5 : Int32), x3 = gT (∃ i, i < j ∧ z.2 12 i = z.2 12 x ∧ (z.2 13 i).toInt < (z.2 13 x).toInt) → x4 = gT (∃ i, i < j ∧ z.2 12 i = z.2 12 x ∧ (z.2 13 x).toInt < (z.2 13 i).toInt) → j + d = n * 12 → d < fu →
    (∀ i, i < j → i < x → z.2 12 i = z.2 12 x → (z.2 13 i).toInt ≠ (z.2 13 x).toInt) →
    ((∃ i, i < j ∧ z.2 12 i = z.2 12 x ∧ (z.2 13 x).toInt < (z.2 13 i).toInt) → ∀ t : Int, t < x5.toInt ↔ ∀ i, i < j → z.2 12 i = z.2 12 x → (z.2 13 x).toInt < (z.2 13 i).toInt → t < (z.2 13 i).toInt) →
    ix_lives_3_b23 n k z fu (nI x) x3 x4 x5 (nI j) = some (gT (Lv (z.2 12) (z.2 13) (z.2 15) (z.2 16) (z.2 17) (n * 12) x)) := by
  intro d
  induction d with
  | zero =>
    intro fu j x3 x4 x5 hx3 hx4 hj hf hd h5
    cases fu with
    | zero => omega
    | succ fu =>
      have h1 : n * 12 ≤ j := by omega
      simp (disch := omega) only [ix_lives_3_b23, le_n, h1, if_true, ck_n, tn_n]
      have hjn : j = n * 12 := by omega
      subst hjn
      rw [hx3, hx4]
      simp only [gT_0]
      have h153 : ix_lives_3_b153 n k z (nI x) (gT (∃ i, i < n * 12 ∧ z.2 12 i = z.2 12 x ∧ (z.2 13 x).toInt < (z.2 13 i).toInt)) x5 = some (gT ((∀ j, j < n * 12 → z.2 12 j = z.2 12 x → (z.2 13 j).toInt ≤ (z.2 13 x).toInt) ∨ ∃ i, i < 4 ∧ z.2 16 i ≠ 0 ∧ (z.2 13 x).toInt ≤ (z.2 17 i).toInt ∧ ∀ j, j < n * 12 → z.2 12 j = z.2 12 x → (z.2 13 x).toInt < (z.2 13 j).toInt → (z.2 17 i).toInt < (z.2 13 j).toInt)) := by
        unfold ix_lives_3_b153
        simp only [gT_0]
        rw [ck_n hx (by omega), tn_n (by omega), if_pos (rfl : true = true)]
        by_cases hg : ∃ i, i < n * 12 ∧ z.2 12 i = z.2 12 x ∧ (z.2 13 x).toInt < (z.2 13 i).toInt
        · rw [if_neg (fun h => h hg)]
          have ha := p_any (n := n) (k := k) (z := z) (a := z.2 13 x) (b := x5) 4 k 0 (by omega) (by omega)
          have ha0 : sn_anyWithin n k z (z.2 13 x) x5 = _ := ha
          rw [ha0, bo_some]
          have h6 := h5 hg
          by_cases hq : ∃ j, 0 ≤ j ∧ j < 4 ∧ z.2 16 j ≠ 0 ∧ (z.2 13 x).toInt ≤ (z.2 17 j).toInt ∧ (z.2 17 j).toInt < x5.toInt
          · rw [gT_t hq, if_neg (by decide), gT_t]
            obtain ⟨j, _, q1, q2, q3, q4⟩ := hq
            exact Or.inr ⟨j, q1, q2, q3, (h6 _).mp q4⟩
          · rw [gT_f hq, if_pos rfl, gT_f]
            rintro (q | ⟨i, q1, q2, q3, q4⟩)
            · obtain ⟨i, g1, g2, g3⟩ := hg
              have := q i g1 g2
              omega
            · exact hq ⟨i, Nat.zero_le _, q1, q2, q3, (h6 _).mpr q4⟩
        · rw [if_pos hg, gT_t]
          refine Or.inl (fun j q1 q2 => ?_)
          rcases Int.lt_or_le (z.2 13 x).toInt (z.2 13 j).toInt with q | q
          · exact absurd ⟨j, q1, q2, q⟩ hg
          · exact q
      rw [h153]
      have hdup : ∀ j, j < x → z.2 12 j = z.2 12 x → (z.2 13 j).toInt ≠ (z.2 13 x).toInt := fun j q => hd j (by omega) q
      by_cases hgr : z.2 15 x = 0
      · rw [if_pos hgr]
        congr 2
        exact propext ⟨fun h => ⟨hdup, Or.inl hgr, h⟩, fun h => h.2.2⟩
      · rw [if_neg hgr]
        by_cases hle : ∃ i, i < n * 12 ∧ z.2 12 i = z.2 12 x ∧ (z.2 13 i).toInt < (z.2 13 x).toInt
        · rw [if_neg (fun h => h hle)]
          congr 2
          exact propext ⟨fun h => ⟨hdup, Or.inr hle, h⟩, fun h => h.2.2⟩
        · rw [if_pos hle, gT_f]
          intro h
          rcases h.2.1 with q | q
          · exact hgr q
          · exact hle q
  | succ d ih =>
    intro fu j x3 x4 x5 hx3 hx4 hj hf hd h5
    cases fu with
    | zero => omega
    | succ fu =>
      have h1 : ¬ n * 12 ≤ j := by omega
      simp (disch := omega) only [ix_lives_3_b23, ix_lives_3_b116, le_n, h1, if_false, ck_n, tn_n, if_true, na_1]
      simp only [i_le, i_lt]
      have exS : ∀ (Q : Nat → Prop), (∃ i, i < j + 1 ∧ Q i) ↔ ((∃ i, i < j ∧ Q i) ∨ Q j) := fun Q => ⟨fun ⟨i, q1, q2⟩ => by
        rcases Nat.lt_or_ge i j with q | q
        · exact Or.inl ⟨i, q, q2⟩
        · have : i = j := by omega
          subst this
          exact Or.inr q2, fun h => by
        rcases h with ⟨i, q1, q2⟩ | q
        · exact ⟨i, by omega, q2⟩
        · exact ⟨j, by omega, q⟩⟩
      by_cases hK : z.2 12 j = z.2 12 x
      · rw [if_pos hK]
        by_cases hge : (z.2 13 x).toInt ≤ (z.2 13 j).toInt
        · rw [if_pos hge]
          by_cases hle : (z.2 13 j).toInt ≤ (z.2 13 x).toInt
          · rw [if_pos hle]
            by_cases hxj : x ≤ j
            · rw [if_pos hxj]
              have e1 : (∃ i, i < j ∧ z.2 12 i = z.2 12 x ∧ (z.2 13 i).toInt < (z.2 13 x).toInt) = (∃ i, i < j + 1 ∧ z.2 12 i = z.2 12 x ∧ (z.2 13 i).toInt < (z.2 13 x).toInt) := propext ⟨fun h => (exS _).mpr (Or.inl h), fun h => ((exS _).mp h).elim (fun q => q) (fun q => by omega)⟩
              have e2 : (∃ i, i < j ∧ z.2 12 i = z.2 12 x ∧ (z.2 13 x).toInt < (z.2 13 i).toInt) = (∃ i, i < j + 1 ∧ z.2 12 i = z.2 12 x ∧ (z.2 13 x).toInt < (z.2 13 i).toInt) := propext ⟨fun h => (exS _).mpr (Or.inl h), fun h => ((exS _).mp h).elim (fun q => q) (fun q => by omega)⟩
              rw [e1] at hx3
              rw [e2] at hx4
              refine ih fu (j + 1) x3 x4 x5 hx3 hx4 (by omega) (by omega) (fun i q1 q2 => hd i (by omega) q2) (fun q t => ?_)
              rw [← e2] at q
              rw [h5 q t]
              refine ⟨fun w i q1 q2 q3 => ?_, fun w i q1 q2 q3 => w i (by omega) q2 q3⟩
              by_cases hij : i = j
              · subst hij; omega
              · exact w i (by omega) q2 q3
            · rw [if_neg hxj, gT_f]
              exact fun h => h.1 j (by omega) hK (by omega)
          · rw [if_neg hle]
            have e1 : (∃ i, i < j ∧ z.2 12 i = z.2 12 x ∧ (z.2 13 i).toInt < (z.2 13 x).toInt) = (∃ i, i < j + 1 ∧ z.2 12 i = z.2 12 x ∧ (z.2 13 i).toInt < (z.2 13 x).toInt) := propext ⟨fun h => (exS _).mpr (Or.inl h), fun h => ((exS _).mp h).elim (fun q => q) (fun q => by omega)⟩
            have t2 : ∃ i, i < j + 1 ∧ z.2 12 i = z.2 12 x ∧ (z.2 13 x).toInt < (z.2 13 i).toInt := ⟨j, by omega, hK, by omega⟩
            have hdd : ∀ i, i < j + 1 → i < x → z.2 12 i = z.2 12 x → (z.2 13 i).toInt ≠ (z.2 13 x).toInt := fun i q1 q2 q3 => by
              by_cases hij : i = j
              · subst hij; omega
              · exact hd i (by omega) q2 q3
            have go : ∀ y : Int32, (∀ t : Int, t < y.toInt ↔ ∀ i, i < j + 1 → z.2 12 i = z.2 12 x → (z.2 13 x).toInt < (z.2 13 i).toInt → t < (z.2 13 i).toInt) → ix_lives_3_b23 n k z fu (nI x) x3 1 y (nI (j + 1)) = some (gT (Lv (z.2 12) (z.2 13) (z.2 15) (z.2 16) (z.2 17) (n * 12) x)) := by
              intro y hy
              rw [e1] at hx3
              exact ih fu (j + 1) x3 1 y hx3 (gT_t t2).symm (by omega) (by omega) hdd (fun _ => hy)
            by_cases hg : ∃ i, i < j ∧ z.2 12 i = z.2 12 x ∧ (z.2 13 x).toInt < (z.2 13 i).toInt
            · rw [if_neg (fun h => by rw [hx4, gT_0] at h; exact h hg)]
              have h6 := h5 hg
              by_cases hmin : (z.2 13 j).toInt < x5.toInt
              · rw [if_pos hmin]
                refine go _ (fun t => ⟨fun q i q1 q2 q3 => ?_, fun q => q j (by omega) hK (by omega)⟩)
                by_cases hij : i = j
                · subst hij; exact q
                · exact (h6 t).mp (by omega) i (by omega) q2 q3
              · rw [if_neg hmin]
                refine go _ (fun t => ⟨fun q i q1 q2 q3 => ?_, fun q => (h6 t).mpr (fun i q1 q2 q3 => q i (by omega) q2 q3)⟩)
                by_cases hij : i = j
                · subst hij; omega
                · exact (h6 t).mp q i (by omega) q2 q3
            · rw [if_pos (by rw [hx4, gT_0]; exact hg)]
              refine go _ (fun t => ⟨fun q i q1 q2 q3 => ?_, fun q => q j (by omega) hK (by omega)⟩)
              by_cases hij : i = j
              · subst hij; exact q
              · exact absurd ⟨i, by omega, q2, q3⟩ hg
        · rw [if_neg hge]
          have t1 : ∃ i, i < j + 1 ∧ z.2 12 i = z.2 12 x ∧ (z.2 13 i).toInt < (z.2 13 x).toInt := ⟨j, by omega, hK, by omega⟩
          have e2 : (∃ i, i < j ∧ z.2 12 i = z.2 12 x ∧ (z.2 13 x).toInt < (z.2 13 i).toInt) = (∃ i, i < j + 1 ∧ z.2 12 i = z.2 12 x ∧ (z.2 13 x).toInt < (z.2 13 i).toInt) := propext ⟨fun h => (exS _).mpr (Or.inl h), fun h => ((exS _).mp h).elim (fun q => q) (fun q => by omega)⟩
          rw [e2] at hx4
          refine ih fu (j + 1) 1 x4 x5 (gT_t t1).symm hx4 (by omega) (by omega) (fun i q1 q2 q3 => ?_) (fun q t => ?_)
          · by_cases hij : i = j
            · subst hij; omega
            · exact hd i (by omega) q2 q3
          · rw [← e2] at q
            rw [h5 q t]
            refine ⟨fun w i q1 q2 q3 => ?_, fun w i q1 q2 q3 => w i (by omega) q2 q3⟩
            by_cases hij : i = j
            · subst hij; omega
            · exact w i (by omega) q2 q3
      · rw [if_neg hK]
        have e1 : (∃ i, i < j ∧ z.2 12 i = z.2 12 x ∧ (z.2 13 i).toInt < (z.2 13 x).toInt) = (∃ i, i < j + 1 ∧ z.2 12 i = z.2 12 x ∧ (z.2 13 i).toInt < (z.2 13 x).toInt) := propext ⟨fun h => (exS _).mpr (Or.inl h), fun h => ((exS _).mp h).elim (fun q => q) (fun q => absurd q.1 hK)⟩
        have e2 : (∃ i, i < j ∧ z.2 12 i = z.2 12 x ∧ (z.2 13 x).toInt < (z.2 13 i).toInt) = (∃ i, i < j + 1 ∧ z.2 12 i = z.2 12 x ∧ (z.2 13 x).toInt < (z.2 13 i).toInt) := propext ⟨fun h => (exS _).mpr (Or.inl h), fun h => ((exS _).mp h).elim (fun q => q) (fun q => absurd q.1 hK)⟩
        rw [e1] at hx3
        rw [e2] at hx4
        refine ih fu (j + 1) x3 x4 x5 hx3 hx4 (by omega) (by omega) (fun i q1 q2 q3 => ?_) (fun q t => ?_)
        · by_cases hij : i = j
          · subst hij; exact absurd q3 hK
          · exact hd i (by omega) q2 q3
        · rw [← e2] at q
          rw [h5 q t]
          refine ⟨fun w i q1 q2 q3 => ?_, fun w i q1 q2 q3 => w i (by omega) q2 q3⟩
          by_cases hij : i = j
          · subst hij; exact absurd q2 hK
          · exact w i (by omega) q2 q3
theorem p_lives (hn : n ≤ 12) (hk : 3000 ≤ k) {x : Nat} (hx : x < n * 12) : ix_lives_3 n k z (nI x) = some (gT (z.2 12 x ≠ -1 ∧ Lv (z.2 12) (z.2 13) (z.2 15) (z.2 16) (z.2 17) (n * 12) x)) := by
  unfold ix_lives_3
  simp (disch := omega) only [ck_n, tn_n, if_true]
  by_cases h1 : z.2 12 x = -1
  · rw [if_pos h1, gT_f (fun h => h.1 h1)]
  · rw [if_neg h1]
    have h2 := p_lives23 (k := k) (z := z) hn hk hx (n * 12) k 0 0 0 0 (gT_f (fun ⟨i, q, _⟩ => by omega)).symm (gT_f (fun ⟨i, q, _⟩ => by omega)).symm (by omega) (by omega) (fun i q => by omega) (fun ⟨i, q, _⟩ => by omega)
    refine h2.trans ?_
    congr 2
    exact propext ⟨fun h => ⟨h1, h⟩, fun h => h.2⟩
end PB
