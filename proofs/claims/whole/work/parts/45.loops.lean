def LvS (n : Nat) (z : SS) (j : Nat) : Prop := z.2 12 j ≠ -1 ∧ Lv (z.2 12) (z.2 13) (z.2 15) (z.2 16) (z.2 17) (n * 12) j
def LvR (N : Nat) (z : SS) (r : Nat) : Prop := Lv (z.2 8) (z.2 9) (z.2 10) (z.2 5) (z.2 6) N r
section PLo
variable {n k : Nat} {z : SS}
theorem p_bytesOf (hn : n ≤ 12) {j c : Nat} (hj : j < n * 12) (hc : z.2 14 j = nI c) : ix_bytesOf n k z (nI j) = some (nI (16 + c)) := by
  unfold ix_bytesOf rf_bytesWith
  simp (disch := omega) only [ck_n, tn_n, if_true, hc, bo_some, an_8, na_8]
  congr 2
  omega
theorem p_living8 (hn : n ≤ 12) (hk : 3000 ≤ k) {s : Nat} {c : Nat → Nat} (hs : s < n) (hw : ∀ j, j < n * 12 → z.2 12 j ≠ -1 → z.2 14 j = nI (c j) ∧ c j ≤ 20) : ∀ (d fu j acc : Nat), j + d = s * 12 + 12 → d < fu → ix_livingBytes_3_b8 n k z fu (nI s) (nI acc) (nI j) = some (nI (acc + sumR (cw (LvS n z) (fun j => 16 + c j)) j d)) := by
  intro d
  induction d with
  | zero =>
    intro fu j acc hj hf
    cases fu with
    | zero => omega
    | succ fu =>
      have h1 : (s + 1) * 12 ≤ j := by omega
      simp (disch := omega) only [ix_livingBytes_3_b8, na_1, nm_12, le_n, h1, if_true]
      rfl
  | succ d ih =>
    intro fu j acc hj hf
    cases fu with
    | zero => omega
    | succ fu =>
      have h1 : ¬ (s + 1) * 12 ≤ j := by omega
      simp (disch := omega) only [ix_livingBytes_3_b8, na_1, nm_12, le_n, h1, if_false, p_lives (z := z) hn hk (show j < n * 12 by omega), bo_some]
      show _ = some (nI (acc + (cw (LvS n z) (fun j => 16 + c j) j + sumR (cw (LvS n z) (fun j => 16 + c j)) (j + 1) d)))
      by_cases hl : LvS n z j
      · have hl2 := hl
        unfold LvS at hl2
        rw [gT_t hl2, if_neg (by decide), p_bytesOf hn (show j < n * 12 by omega) (hw j (by omega) hl2.1).1, bo_some, nI_add, ih fu (j + 1) _ (by omega) (by omega), cw_t hl, Nat.add_assoc]
      · have hl2 := hl
        unfold LvS at hl2
        rw [gT_f hl2, if_pos rfl, ih fu (j + 1) _ (by omega) (by omega), cw_f hl, Nat.zero_add]
theorem p_living (hn : n ≤ 12) (hk : 3000 ≤ k) {s : Nat} {c : Nat → Nat} (hs : s < n) (hw : ∀ j, j < n * 12 → z.2 12 j ≠ -1 → z.2 14 j = nI (c j) ∧ c j ≤ 20) : ix_livingBytes_3 n k z (nI s) = some (nI (sumR (cw (LvS n z) (fun j => 16 + c j)) (s * 12) 12)) := by
  unfold ix_livingBytes_3
  rw [nm_12]
  have := p_living8 (z := z) hn hk hs hw 12 k (s * 12) 0 rfl (by omega)
  rw [Nat.zero_add] at this
  exact this
theorem m_living8 {N s : Nat} (hN : N ≤ 160) (hk : 3000 ≤ k) (hkn : z.1 14 = 1) (hr : z.1 15 = nI N) (hs : s < 12) {A c : Nat → Nat} (hw : ∀ r, r < N → z.2 7 r = nI (A r) ∧ A r < 2400 ∧ z.2 11 r = nI (16 + c r)) : ∀ (d fu r acc : Nat), r + d = N → d < fu → rm_livingIn_b8 k fu z (nI s) (nI acc) (nI r) = some (nI (acc + sumR (cw (fun r => A r / 200 = s ∧ LvR N z r) (fun r => 16 + c r)) r d), z) := by
  intro d
  induction d with
  | zero =>
    intro fu r acc hj hf
    cases fu with
    | zero => omega
    | succ fu =>
      have h1 : N ≤ r := by omega
      simp (disch := omega) only [rm_livingIn_b8, hr, le_n, h1, if_true]
      rfl
  | succ d ih =>
    intro fu r acc hj hf
    cases fu with
    | zero => omega
    | succ fu =>
      have h1 : ¬ N ≤ r := by omega
      obtain ⟨w1, w2, w3⟩ := hw r (by omega)
      have hd : nI (A r) / 200 = nI (A r / 200) := pk_div (d := 200) (by omega) (by omega) (by omega)
      simp (disch := omega) only [rm_livingIn_b8, hr, na_1, le_n, h1, if_false, ck_n, tn_n, if_true, w1, hd, eq_n, m_lives (z := z) hN hk hkn (show r < N by omega) hr, bi_some, w3]
      show _ = some (nI (acc + (cw (fun r => A r / 200 = s ∧ LvR N z r) (fun r => 16 + c r) r + sumR (cw (fun r => A r / 200 = s ∧ LvR N z r) (fun r => 16 + c r)) (r + 1) d)), z)
      by_cases hq : A r / 200 = s
      · rw [if_pos hq]
        by_cases hl : LvR N z r
        · have hl2 := hl
          unfold LvR at hl2
          rw [gT_t hl2, if_neg (by decide), nI_add, ih fu (r + 1) _ (by omega) (by omega), cw_t ⟨hq, hl⟩, Nat.add_assoc]
        · have hl2 := hl
          unfold LvR at hl2
          rw [gT_f hl2, if_pos rfl, ih fu (r + 1) _ (by omega) (by omega), cw_f (fun h => hl h.2), Nat.zero_add]
      · rw [if_neg hq, ih fu (r + 1) _ (by omega) (by omega), cw_f (fun h => hq h.1), Nat.zero_add]
theorem m_know1 (hkn : z.1 14 = 1) : rm_know k z = some z := by
  unfold rm_know
  rw [hkn, if_neg (by decide)]
theorem m_livingIn {N s : Nat} (hN : N ≤ 160) (hk : 3000 ≤ k) (hkn : z.1 14 = 1) (hr : z.1 15 = nI N) (hs : s < 12) {A c : Nat → Nat} (hw : ∀ r, r < N → z.2 7 r = nI (A r) ∧ A r < 2400 ∧ z.2 11 r = nI (16 + c r)) : rm_livingIn k z (nI s) = some (nI (sumR (cw (fun r => A r / 200 = s ∧ LvR N z r) (fun r => 16 + c r)) 0 N), z) := by
  unfold rm_livingIn
  rw [m_know1 hkn, bo_some]
  have := m_living8 (z := z) hN hk hkn hr hs hw N k 0 0 (by omega) (by omega)
  rw [Nat.zero_add] at this
  exact this
theorem LvS_eq {z' : SS} (h : ∀ q, q ≠ 6 → z'.2 q = z.2 q) : LvS n z' = LvS n z := by
  unfold LvS
  rw [h 12 (by omega), h 13 (by omega), h 15 (by omega), h 16 (by omega), h 17 (by omega)]
theorem p_gather12 (hn : n ≤ 12) (hk : 3000 ≤ k) {s : Nat} (hs : s < n) : ∀ (d fu j m : Nat) (z' : SS), (∀ q, q ≠ 6 → z'.2 q = z.2 q) → z'.1 7 = nI m → m + d ≤ 12 → j + d = s * 12 + 12 → d < fu →
    ∃ z'', gs_gatherSurvivors_b12 n k fu z' (nI (s * 12)) (nI j) = some z'' ∧ z''.1 7 = nI (m + (fl (LvS n z) j d).length) ∧ (∀ q, q ≠ 6 → z''.2 q = z.2 q) ∧ (∀ q, q ≠ 7 → z''.1 q = z'.1 q) ∧ (∀ i, i < m → z''.2 6 i = z'.2 6 i) ∧ (∀ i a, (fl (LvS n z) j d)[i]? = some a → z''.2 6 (m + i) = nI a) := by
  intro d
  induction d with
  | zero =>
    intro fu j m z' hz hm hd hj hf
    cases fu with
    | zero => omega
    | succ fu =>
      have h1 : s * 12 + 12 ≤ j := by omega
      simp (disch := omega) only [gs_gatherSurvivors_b12, na_12, le_n, h1, if_true]
      exact ⟨z', rfl, hm, hz, fun q _ => rfl, fun i _ => rfl, fun i a h => by cases h⟩
  | succ d ih =>
    intro fu j m z' hz hm hd hj hf
    cases fu with
    | zero => omega
    | succ fu =>
      have h1 : ¬ s * 12 + 12 ≤ j := by omega
      simp (disch := omega) only [gs_gatherSurvivors_b12, na_12, na_1, le_n, h1, if_false, p_lives (z := z') hn hk (show j < n * 12 by omega), bo_some]
      have hE := LvS_eq (n := n) hz
      by_cases hl : LvS n z j
      · have hl2 : LvS n z' j := by rw [hE]; exact hl
        have hl3 := hl2
        unfold LvS at hl3
        simp (disch := omega) only [gT_t hl3, hm, ck_n, tn_n, na_1, if_true]
        rw [if_neg (by decide)]
        obtain ⟨z'', e1, e2, e3, e4, e5, e6⟩ := ih fu (j + 1) (m + 1) (si (sa z' 6 m (nI j)) 7 (nI (m + 1))) (fun q hq => by rw [si_a, sa_o hq]; exact hz q hq) si_s (by omega) (by omega) (by omega)
        rw [fl_t hl]
        refine ⟨z'', e1, ?_, e3, ?_, ?_, ?_⟩
        · rw [e2, List.length_cons]; congr 1; omega
        · intro q hq
          rw [e4 q hq, si_o hq, sa_i]
        · intro i hi
          rw [e5 i (by omega), si_a, sa_s, pk_un (by omega)]
        · intro i a h
          cases i with
          | zero =>
            have : j = a := by simpa using h
            subst this
            rw [Nat.add_zero, e5 m (by omega), si_a, sa_s, pk_us]
          | succ i =>
            have := e6 i a (by simpa using h)
            rw [show m + (i + 1) = m + 1 + i by omega]
            exact this
      · have hl2 : ¬ LvS n z' j := by rw [hE]; exact hl
        have hl3 := hl2
        unfold LvS at hl3
        rw [gT_f hl3, if_pos rfl, fl_f hl]
        exact ih fu (j + 1) m z' hz hm (by omega) (by omega) (by omega)
theorem p_gather (hn : n ≤ 12) (hk : 3000 ≤ k) {s : Nat} (hs : s < n) : ∃ z'', gs_gatherSurvivors n k z (nI s) = some z'' ∧ z''.1 7 = nI (fl (LvS n z) (s * 12) 12).length ∧ (∀ q, q ≠ 6 → z''.2 q = z.2 q) ∧ (∀ q, q ≠ 7 → z''.1 q = z.1 q) ∧ (∀ i a, (fl (LvS n z) (s * 12) 12)[i]? = some a → z''.2 6 i = nI a) := by
  unfold gs_gatherSurvivors
  rw [nm_12]
  obtain ⟨z'', e1, e2, e3, e4, e5, e6⟩ := p_gather12 (z := z) hn hk hs 12 k (s * 12) 0 (si z 7 0) (fun q _ => by rw [si_a]) si_s (by omega) rfl (by omega)
  refine ⟨z'', e1, ?_, e3, fun q hq => ?_, fun i a h => ?_⟩
  · rw [e2, Nat.zero_add]
  · rw [e4 q hq, si_o hq]
  · have := e6 i a h
    rw [Nat.zero_add] at this
    exact this
theorem m_choose11 {N s : Nat} (hN : N ≤ 160) (hk : 3000 ≤ k) (hkn : z.1 14 = 1) (hr : z.1 15 = nI N) (hs : s < 12) {A c : Nat → Nat} (hw : ∀ r, r < N → z.2 7 r = nI (A r) ∧ A r < 2400 ∧ z.2 11 r = nI (16 + c r)) (hC : (fl (fun r => A r / 200 = s ∧ LvR N z r) 0 N).length ≤ 20) : ∀ (d fu r m : Nat) (z' : SS), (∀ q, q ≠ 13 → q ≠ 14 → z'.2 q = z.2 q) → (∀ q, q ≠ 26 → z'.1 q = z.1 q) → z'.1 26 = nI m → m + (fl (fun r => A r / 200 = s ∧ LvR N z r) r d).length ≤ 20 → r + d = N → d < fu →
    ∃ z'', rm_choose_b11 k fu z' (nI s) (nI r) = some z'' ∧ z''.1 26 = nI (m + (fl (fun r => A r / 200 = s ∧ LvR N z r) r d).length) ∧ (∀ q, q ≠ 13 → q ≠ 14 → z''.2 q = z.2 q) ∧ (∀ q, q ≠ 26 → z''.1 q = z.1 q) ∧ (∀ i, i < m → z''.2 13 i = z'.2 13 i ∧ z''.2 14 i = z'.2 14 i) ∧ (∀ i a, (fl (fun r => A r / 200 = s ∧ LvR N z r) r d)[i]? = some a → z''.2 13 (m + i) = nI (A a) ∧ z''.2 14 (m + i) = nI (16 + c a)) := by
  intro d
  induction d with
  | zero =>
    intro fu r m z' hz hz1 hm hd hj hf
    cases fu with
    | zero => omega
    | succ fu =>
      have h1 : N ≤ r := by omega
      simp (disch := omega) only [rm_choose_b11, hz1 15 (by omega), hr, le_n, h1, if_true]
      exact ⟨z', rfl, hm, hz, hz1, fun i _ => ⟨rfl, rfl⟩, fun i a h => by cases h⟩
  | succ d ih =>
    intro fu r m z' hz hz1 hm hd hj hf
    cases fu with
    | zero => omega
    | succ fu =>
      have h1 : ¬ N ≤ r := by omega
      obtain ⟨w1, w2, w3⟩ := hw r (by omega)
      have hdv : nI (A r) / 200 = nI (A r / 200) := pk_div (d := 200) (by omega) (by omega) (by omega)
      have hlv := m_lives (k := k) (z := z') hN hk (by rw [hz1 14 (by omega)]; exact hkn) (show r < N by omega) (by rw [hz1 15 (by omega)]; exact hr)
      have hE : Lv (z'.2 8) (z'.2 9) (z'.2 10) (z'.2 5) (z'.2 6) N r = LvR N z r := by
        unfold LvR
        rw [hz 8 (by omega) (by omega), hz 9 (by omega) (by omega), hz 10 (by omega) (by omega), hz 5 (by omega) (by omega), hz 6 (by omega) (by omega)]
      rw [hE] at hlv
      simp (disch := omega) only [rm_choose_b11, hz1 15 (by omega), hr, na_1, le_n, h1, if_false, ck_n, tn_n, if_true, hz 7 (by omega) (by omega), w1, hdv, eq_n, hlv, bi_some, hz 11 (by omega) (by omega), w3]
      by_cases hq : A r / 200 = s
      · rw [if_pos hq]
        by_cases hl : LvR N z r
        · have hf2 := fl_t (P := fun r => A r / 200 = s ∧ LvR N z r) (lo := r) (d := d) ⟨hq, hl⟩
          rw [hf2, List.length_cons] at hd
          rw [hf2]
          simp (disch := omega) only [gT_t hl, hm, ck_n, tn_n, na_1, if_true]
          rw [if_neg (by decide)]
          obtain ⟨z'', e1, e2, e3, e4, e5, e6⟩ := ih fu (r + 1) (m + 1) (si (sa (sa z' 13 m (nI (A r))) 14 m (nI (16 + c r))) 26 (nI (m + 1))) (fun q hq hq2 => by rw [si_a, sa_o hq2, sa_o hq]; exact hz q hq hq2) (fun q hq => by rw [si_o hq, sa_i, sa_i]; exact hz1 q hq) si_s (by omega) (by omega) (by omega)
          refine ⟨z'', e1, ?_, e3, e4, ?_, ?_⟩
          · rw [e2, List.length_cons]; congr 1; omega
          · intro i hi
            have := e5 i (by omega)
            rw [si_a, si_a, sa_s, sa_o (show 13 ≠ 14 by omega), sa_s, sa_o (show 14 ≠ 13 by omega), pk_un (by omega), pk_un (by omega)] at this
            exact this
          · intro i a h
            cases i with
            | zero =>
              have h0 : r = a := by simpa using h
              subst h0
              have := e5 m (by omega)
              rw [si_a, si_a, sa_s, sa_o (show 13 ≠ 14 by omega), sa_s, sa_o (show 14 ≠ 13 by omega), pk_us, pk_us] at this
              rw [Nat.add_zero]
              exact this
            | succ i =>
              have := e6 i a (by simpa using h)
              rw [show m + (i + 1) = m + 1 + i by omega]
              exact this
        · have hf2 := fl_f (P := fun r => A r / 200 = s ∧ LvR N z r) (lo := r) (d := d) (fun h => hl h.2)
          rw [hf2] at hd
          rw [gT_f hl, if_pos rfl, hf2]
          exact ih fu (r + 1) m z' hz hz1 hm hd (by omega) (by omega)
      · have hf2 := fl_f (P := fun r => A r / 200 = s ∧ LvR N z r) (lo := r) (d := d) (fun h => hq h.1)
        rw [hf2] at hd
        rw [if_neg hq, hf2]
        exact ih fu (r + 1) m z' hz hz1 hm hd (by omega) (by omega)
theorem m_choose {N s : Nat} (hN : N ≤ 160) (hk : 3000 ≤ k) (hkn : z.1 14 = 1) (hr : z.1 15 = nI N) (hs : s < 12) {A c : Nat → Nat} (hw : ∀ r, r < N → z.2 7 r = nI (A r) ∧ A r < 2400 ∧ z.2 11 r = nI (16 + c r)) (hC : (fl (fun r => A r / 200 = s ∧ LvR N z r) 0 N).length ≤ 20) :
    ∃ z'', rm_choose k z (nI s) = some z'' ∧ z''.1 26 = nI (fl (fun r => A r / 200 = s ∧ LvR N z r) 0 N).length ∧ (∀ q, q ≠ 13 → q ≠ 14 → z''.2 q = z.2 q) ∧ (∀ q, q ≠ 26 → z''.1 q = z.1 q) ∧ (∀ i a, (fl (fun r => A r / 200 = s ∧ LvR N z r) 0 N)[i]? = some a → z''.2 13 i = nI (A a) ∧ z''.2 14 i = nI (16 + c a)) := by
  unfold rm_choose
  rw [m_know1 hkn, bo_some]
  have hz1 : ∀ q, q ≠ 26 → (si z 26 0).1 q = z.1 q := fun q hq => si_o hq
  obtain ⟨z'', e1, e2, e3, e4, e5, e6⟩ := m_choose11 (z := z) hN hk hkn hr hs hw hC N k 0 0 (si z 26 0) (fun q _ _ => by rw [si_a]) hz1 si_s (by omega) (by omega) (by omega)
  refine ⟨z'', e1, ?_, e3, e4, fun i a h => ?_⟩
  · rw [e2, Nat.zero_add]
  · have := e6 i a h
    rw [Nat.zero_add] at this
    exact this
def KS (n : Nat) (z : SS) (now : Int32) (j : Nat) : Prop := z.2 12 j ≠ -1 ∧ z.2 15 j = 0 ∧ Best (z.2 12) (z.2 13) (n * 12) (z.2 12 j) now (nI j)
theorem p_kws4 (hn : n ≤ 12) (hk : 3000 ≤ k) {now : Int32} : ∀ (d fu j acc : Nat), j + d = n * 12 → d < fu → ix_keysWithSomething_b4 n k z fu now (nI acc) (nI j) = some (nI (acc + sumR (cw (KS n z now) (fun _ => 1)) j d)) := by
  intro d
  induction d with
  | zero =>
    intro fu j acc hj hf
    cases fu with
    | zero => omega
    | succ fu =>
      have h1 : n * 12 ≤ j := by omega
      simp (disch := omega) only [ix_keysWithSomething_b4, le_n, h1, if_true]
      rfl
  | succ d ih =>
    intro fu j acc hj hf
    cases fu with
    | zero => omega
    | succ fu =>
      have h1 : ¬ n * 12 ≤ j := by omega
      simp (disch := omega) only [ix_keysWithSomething_b4, na_1, le_n, h1, if_false, ck_n, tn_n, if_true]
      show _ = some (nI (acc + (cw (KS n z now) (fun _ => 1) j + sumR (cw (KS n z now) (fun _ => 1)) (j + 1) d)))
      have hi := fun a => ih fu (j + 1) a (by omega) (by omega)
      by_cases h2 : z.2 12 j = -1
      · rw [if_pos h2, hi, cw_f (fun h => h.1 h2), Nat.zero_add]
      · rw [if_neg h2]
        by_cases h3 : z.2 15 j = 0
        · rw [if_pos h3]
          obtain ⟨r, e1, b1⟩ := p_slotAt (k := k) (z := z) hn hk (z.2 12 j) now
          rw [e1, bo_some]
          by_cases h4 : r = nI j
          · subst h4
            rw [if_pos rfl, hi, cw_t ⟨h2, h3, b1⟩, Nat.add_assoc]
          · rw [if_neg h4, hi, cw_f (fun h => h4 (Best_uniq b1 h.2.2)), Nat.zero_add]
        · rw [if_neg h3, hi, cw_f (fun h => h3 h.2.1), Nat.zero_add]
theorem p_kws (hn : n ≤ 12) (hk : 3000 ≤ k) (now : Int32) : ix_keysWithSomething n k z now = some (nI (sumR (cw (KS n z now) (fun _ => 1)) 0 (n * 12))) := by
  unfold ix_keysWithSomething
  have := p_kws4 (z := z) hn hk (now := now) (n * 12) k 0 0 (by omega) (by omega)
  rw [Nat.zero_add] at this
  exact this
def HasB (N : Nat) (z : SS) (K M : Int32) (b : Nat) : Prop := b < N ∧ Best (z.2 8) (z.2 9) N K M (nI b) ∧ z.2 10 b = 0
theorem m_has {N : Nat} (hN : N ≤ 160) (hk : 3000 ≤ k) (hkn : z.1 14 = 1) (hr : z.1 15 = nI N) (K M : Int32) : (rm_has k z K M = some (-1, z) ∧ ∀ b, ¬ HasB N z K M b) ∨ (∃ b, HasB N z K M b ∧ rm_has k z K M = some (nI b, z)) := by
  obtain ⟨r, e1, b1⟩ := m_rowOf (k := k) (z := z) hN hk hkn hr K M
  unfold rm_has
  rw [e1, bi_some]
  rcases Best_cases b1 with rfl | ⟨b, h1, rfl⟩
  · refine Or.inl ⟨by rw [if_pos (by decide)], fun b h => ?_⟩
    have := Best_uniq b1 h.2.1
    have h0 := h.1
    rw [eq_comm, m1_ne (by omega)] at this
    exact this
  · simp (disch := omega) only [neg_n, if_false, ck_n, tn_n, if_true]
    by_cases hg : z.2 10 b = 0
    · rw [if_pos hg]
      exact Or.inr ⟨b, ⟨h1, b1, hg⟩, rfl⟩
    · rw [if_neg hg]
      refine Or.inl ⟨rfl, fun c h => ?_⟩
      have h2 := Best_uniq b1 h.2.1
      have h0 := h.1
      rw [eq_n (by omega) (by omega)] at h2
      subst h2
      exact hg h.2.2
theorem m_kn4 {N : Nat} (hN : N ≤ 160) (hk : 3000 ≤ k) (hkn : z.1 14 = 1) (hr : z.1 15 = nI N) : ∀ (d fu K acc : Nat), K + d = 1000 → d < fu → rm_keysNow_b4 k fu z (nI acc) (nI K) = some (nI (acc + sumR (cw (fun K => ∃ b, HasB N z (nI K) 2147483647 b) (fun _ => 1)) K d), z) := by
  intro d
  induction d with
  | zero =>
    intro fu K acc hj hf
    cases fu with
    | zero => omega
    | succ fu =>
      have h1 : 1000 ≤ K := by omega
      simp (disch := omega) only [rm_keysNow_b4, c_le_1000, h1, if_true]
      rfl
  | succ d ih =>
    intro fu K acc hj hf
    cases fu with
    | zero => omega
    | succ fu =>
      have h1 : ¬ 1000 ≤ K := by omega
      simp (disch := omega) only [rm_keysNow_b4, na_1, c_le_1000, h1, if_false]
      show _ = some (nI (acc + (cw (fun K => ∃ b, HasB N z (nI K) 2147483647 b) (fun _ => 1) K + sumR (cw (fun K => ∃ b, HasB N z (nI K) 2147483647 b) (fun _ => 1)) (K + 1) d)), z)
      have hi := fun a => ih fu (K + 1) a (by omega) (by omega)
      rcases m_has (k := k) (z := z) hN hk hkn hr (nI K) 2147483647 with ⟨e1, h2⟩ | ⟨b, h2, e1⟩
      · rw [e1, bi_some, if_pos (by decide), hi, cw_f (fun ⟨b, h⟩ => h2 b h), Nat.zero_add]
      · have h0 := h2.1
        rw [e1, bi_some, if_neg (nI_pos (by omega)), hi, cw_t ⟨b, h2⟩, Nat.add_assoc]
theorem m_keysNow {N : Nat} (hN : N ≤ 160) (hk : 3000 ≤ k) (hkn : z.1 14 = 1) (hr : z.1 15 = nI N) : rm_keysNow k z = some (nI (sumR (cw (fun K => ∃ b, HasB N z (nI K) 2147483647 b) (fun _ => 1)) 0 1000), z) := by
  unfold rm_keysNow
  have := m_kn4 (z := z) hN hk hkn hr 1000 k 0 0 (by omega) (by omega)
  rw [Nat.zero_add] at this
  exact this
end PLo
