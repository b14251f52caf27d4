section RM
variable {n k : Nat}
theorem p_wipe2 (hn : n ≤ 12) {s : Nat} (hs : s < n) : ∀ (d fu i : Nat) (z : SS), i + d = 200 → d < fu → ∃ z', sg_wipe_b2 n k fu z (nI s) (nI i) = some z' ∧ z'.1 = z.1 ∧ z'.2 7 = bw (z.2 7) (s * 200 + i) d (fun _ => 0) ∧ z'.2 8 = upd (z.2 8) s 0 ∧ (∀ x, x ≠ 7 → x ≠ 8 → z'.2 x = z.2 x) := by
  intro d
  induction d with
  | zero =>
    intro fu i z hi hf
    cases fu with
    | zero => omega
    | succ fu =>
      have h1 : 200 ≤ i := by omega
      simp (disch := omega) only [sg_wipe_b2, c_le_200, h1, if_true, ck_n, tn_n]
      exact ⟨_, rfl, rfl, by rw [sa_o (by omega), bw_0], sa_s, fun x x1 x2 => sa_o x2⟩
  | succ d ih =>
    intro fu i z hi hf
    cases fu with
    | zero => omega
    | succ fu =>
      have h1 : ¬ 200 ≤ i := by omega
      simp (disch := omega) only [sg_wipe_b2, c_le_200, h1, if_false, nm_200, nI_add, ck_n, tn_n, if_true, na_1]
      obtain ⟨z', e1, e2, e3, e4, e5⟩ := ih fu (i + 1) (sa z 7 (s * 200 + i) 0) (by omega) (by omega)
      refine ⟨z', e1, by rw [e2]; rfl, ?_, by rw [e4, sa_o (by omega)], fun x x1 x2 => by rw [e5 x x1 x2, sa_o x1]⟩
      rw [e3, sa_s]
      exact bw_head
theorem p_wipe (hn : n ≤ 12) (hk : 3000 ≤ k) {s : Nat} (hs : s < n) (z : SS) : ∃ z', sg_wipe n k z (nI s) = some z' ∧ z'.1 = z.1 ∧ z'.2 7 = bw (z.2 7) (s * 200) 200 (fun _ => 0) ∧ z'.2 8 = upd (z.2 8) s 0 ∧ (∀ x, x ≠ 7 → x ≠ 8 → z'.2 x = z.2 x) := p_wipe2 hn hs 200 k 0 z (by omega) (by omega)
theorem m_wipe (hn : n ≤ 12) {s : Nat} (hs : s < n) {rc : SS → Int32 → Int32 → Int32 → Int32 → Option (Int32 × SS)} {x1 x2 x4 : Int32} : ∀ (d fu i : Nat) (z : SS), i + d = 200 → d < fu → ∃ z', rm_clean_b173 k rc fu z x1 x2 x4 (nI s) (nI i) = rc z' x1 x2 (x4 + 1) (nI (s + 1)) ∧ z'.2 1 = bw (z.2 1) (s * 200 + i) d (fun _ => 0) ∧ z'.2 2 = upd (z.2 2) s 0 ∧ z'.1 14 = 0 ∧ (∀ x, x ≠ 14 → z'.1 x = z.1 x) ∧ (∀ x, x ≠ 1 → x ≠ 2 → z'.2 x = z.2 x) := by
  intro d
  induction d with
  | zero =>
    intro fu i z hi hf
    cases fu with
    | zero => omega
    | succ fu =>
      have h1 : 200 ≤ i := by omega
      simp (disch := omega) only [rm_clean_b173, c_le_200, h1, if_true, ck_n, tn_n, na_1]
      exact ⟨_, rfl, by rw [si_a, sa_o (by omega), bw_0], by rw [si_a, sa_s], si_s, fun x hx => by rw [si_o hx, sa_i], fun x x1 x2 => by rw [si_a, sa_o x2]⟩
  | succ d ih =>
    intro fu i z hi hf
    cases fu with
    | zero => omega
    | succ fu =>
      have h1 : ¬ 200 ≤ i := by omega
      simp (disch := omega) only [rm_clean_b173, c_le_200, h1, if_false, mn_200, nI_add, ck_n, tn_n, if_true, na_1]
      obtain ⟨z', e1, e2, e3, e4, e5, e6⟩ := ih fu (i + 1) (sa z 1 (200 * s + i) 0) (by omega) (by omega)
      refine ⟨z', e1, ?_, by rw [e3, sa_o (by omega)], e4, fun x hx => by rw [e5 x hx, sa_i], fun x x1 x2 => by rw [e6 x x1 x2, sa_o x1]⟩
      rw [e2, sa_s, Nat.mul_comm 200 s]
      exact bw_head
def HR : Nat → Bool → List Nat → Bool
  | _, _, [] => true
  | room, fl, s :: W => if s ≤ room then HR (room - s) fl W else if fl then HR (200 - s) false W else false
theorem HR_sum : ∀ {W : List Nat} {room : Nat} {fl : Bool}, W.sum ≤ room → HR room fl W = true := by
  intro W
  induction W with
  | nil => intro room fl _; rfl
  | cons s W ih =>
    intro room fl h
    have h1 : s + W.sum ≤ room := by simpa using h
    show (if s ≤ room then HR (room - s) fl W else _) = true
    rw [if_pos (by omega)]
    exact ih (by omega)
def i01 (b : Bool) : Int32 := if b then 1 else 0
theorem p_room10 (hn : n ≤ 12) {z : SS} {B : Nat → Int32} {fl : Bool} {y : Int32} (hl : sg_leastFree n k z = some y) (hy : (if y = -1 then some (0 : Int32) else some 1) = some (i01 fl)) : ∀ (W : List (Nat × Nat)) (i room fu : Nat), room ≤ 200 → W.length < fu → i + W.length ≤ 12 → z.1 7 = nI (i + W.length) → (∀ j v, W[j]? = some v → z.2 6 (i + j) = nI v.1 ∧ v.1 < n * 12 ∧ z.2 14 v.1 = nI (gln B v.2) ∧ gln B v.2 ≤ 20) → (W.map (fun v => 16 + gln B v.2)).sum ≤ 200 → gs_survivorsHaveRoom_b10 n k z fu (nI room) (nI i) = some (i01 (HR room fl (W.map (fun v => 16 + gln B v.2)))) := by
  intro W
  induction W with
  | nil =>
    intro i room fu hr hf hi h7 hv hs
    cases fu with
    | zero => exact absurd hf (Nat.not_lt_zero _)
    | succ fu =>
      simp only [List.length_nil] at hi
      simp (disch := omega) only [gs_survivorsHaveRoom_b10, h7, List.length_nil, Nat.add_zero, le_n, Nat.le_refl, if_true]
      rfl
  | cons v W ih =>
    intro i room fu hr hf hi h7 hv hs
    cases fu with
    | zero => exact absurd hf (Nat.not_lt_zero _)
    | succ fu =>
      simp only [List.length_cons] at hi hf h7
      have h1 : ¬ i + (W.length + 1) ≤ i := by omega
      obtain ⟨q1, q2, q3, q4⟩ := hv 0 v rfl
      rw [Nat.add_zero] at q1
      have hs2 : 16 + gln B v.2 + (W.map (fun v => 16 + gln B v.2)).sum ≤ 200 := by simpa using hs
      have next : ∀ room, room ≤ 200 → gs_survivorsHaveRoom_b10 n k z fu (nI room) (nI (i + 1)) = some (i01 (HR room fl (W.map (fun v => 16 + gln B v.2)))) := fun room hr => ih (i + 1) room fu hr (by omega) (by omega) (by rw [h7]; congr 1; omega) (fun j u hu => by
        have := hv (j + 1) u (by simpa using hu)
        rw [show i + (j + 1) = i + 1 + j by omega] at this
        exact this) (by omega)
      simp (disch := omega) only [gs_survivorsHaveRoom_b10, h7, le_n, h1, if_false, ck_n, tn_n, if_true, q1, p_bytesOf (k := k) (z := z) hn q2 q3, bo_some, na_1, hl]
      show _ = some (i01 (if 16 + gln B v.2 ≤ room then HR (room - (16 + gln B v.2)) fl (W.map _) else if fl then HR (200 - (16 + gln B v.2)) false (W.map _) else false))
      by_cases hc : 16 + gln B v.2 ≤ room
      · rw [if_pos hc, if_pos hc, pk_sub hc]
        exact next _ (by omega)
      · rw [if_neg hc, if_neg hc, hy]
        cases fl with
        | false => rfl
        | true => rw [if_pos rfl, HR_sum (by omega)]
theorem m_room29a {z : SS} {B : Nat → Int32} : ∀ (W : List (Nat × Nat)) (i left fu : Nat) (x : Int32), left ≤ 200 → W.length < fu → i + W.length ≤ 12 → z.1 26 = nI (i + W.length) → (∀ j v, W[j]? = some v → z.2 14 (i + j) = nI (16 + gln B v.2) ∧ gln B v.2 ≤ 20) → (W.map (fun v => 16 + gln B v.2)).sum ≤ left → rm_hasRoom_b29 k z fu (nI left) x (nI i) = some 1 := by
  intro W
  induction W with
  | nil =>
    intro i left fu x hl hf hi h26 hv hs
    cases fu with
    | zero => exact absurd hf (Nat.not_lt_zero _)
    | succ fu =>
      simp only [List.length_nil] at hi
      simp (disch := omega) only [rm_hasRoom_b29, h26, List.length_nil, Nat.add_zero, le_n, Nat.le_refl, if_true]
  | cons v W ih =>
    intro i left fu x hl hf hi h26 hv hs
    cases fu with
    | zero => exact absurd hf (Nat.not_lt_zero _)
    | succ fu =>
      simp only [List.length_cons] at hi hf h26
      have h1 : ¬ i + (W.length + 1) ≤ i := by omega
      obtain ⟨q1, q2⟩ := hv 0 v rfl
      rw [Nat.add_zero] at q1
      have hs2 : 16 + gln B v.2 + (W.map (fun v => 16 + gln B v.2)).sum ≤ left := by simpa using hs
      have h2 : ¬ left < 16 + gln B v.2 := by omega
      simp (disch := omega) only [rm_hasRoom_b29, h26, le_n, h1, if_false, ck_n, tn_n, if_true, q1, lt_n, h2, na_1]
      rw [pk_sub (by omega)]
      exact ih (i + 1) _ fu x (by omega) (by omega) (by omega) (by rw [h26]; congr 1; omega) (fun j u hu => by
        have := hv (j + 1) u (by simpa using hu)
        rw [show i + (j + 1) = i + 1 + j by omega] at this
        exact this) (by omega)
theorem m_search (hn : n ≤ 12) {z : SS} (h0 : z.1 0 = nI n) {rc : Int32 → Int32 → Int32 → Option Int32} {i : Nat} : ∀ (d fu s : Nat), s + d = n → d < fu → ((∀ t, s ≤ t → t < n → z.2 1 (t * 200) ≠ 0) ∧ rm_hasRoom_b62 k rc z fu (nI s) (nI i) = some 0) ∨ ∃ w, w < n ∧ s ≤ w ∧ z.2 1 (w * 200) = 0 ∧ rm_hasRoom_b62 k rc z fu (nI s) (nI i) = (if ck (nI i) 20 = true then rc (200 - ((z.2 14) (Int32.toNatClampNeg (nI i)))) (nI w) (nI i + 1) else none) := by
  intro d
  induction d with
  | zero =>
    intro fu s hs hf
    cases fu with
    | zero => omega
    | succ fu =>
      have h1 : n ≤ s := by omega
      have h2 : ¬ s < n := by omega
      simp (disch := omega) only [rm_hasRoom_b62, rm_hasRoom_b84, h0, le_n, lt_n, h1, h2, if_true, if_false]
      exact Or.inl ⟨fun t h2 h3 => by omega, trivial⟩
  | succ d ih =>
    intro fu s hs hf
    cases fu with
    | zero => omega
    | succ fu =>
      have h1 : ¬ n ≤ s := by omega
      have h2 : s < n := by omega
      simp (disch := omega) only [rm_hasRoom_b62, rm_hasRoom_b84, h0, le_n, lt_n, h1, h2, if_true, if_false, m_isFree (z := z) hn h2, bo_some]
      by_cases hf0 : z.2 1 (s * 200) = 0
      · rw [if_pos hf0, ifz1]
        exact Or.inr ⟨s, h2, Nat.le_refl _, hf0, rfl⟩
      · rw [if_neg hf0, ifz0, na_1]
        rcases ih fu (s + 1) (by omega) (by omega) with ⟨g1, g2⟩ | ⟨w, g1, g2, g3, g4⟩
        · refine Or.inl ⟨fun t h3 h4 => ?_, g2⟩
          by_cases hts : t = s
          · subst hts; exact hf0
          · exact g1 t (by omega) h4
        · exact Or.inr ⟨w, g1, by omega, g3, g4⟩
theorem m_room29b (hn : n ≤ 12) (hk : 3000 ≤ k) {z : SS} {B : Nat → Int32} {fl : Bool} (h0 : z.1 0 = nI n) (hfl : fl = true ↔ ∃ w, w < n ∧ z.2 1 (w * 200) = 0) : ∀ (W : List (Nat × Nat)) (i left fu : Nat), left ≤ 200 → W.length < fu → i + W.length ≤ 12 → z.1 26 = nI (i + W.length) → (∀ j v, W[j]? = some v → z.2 14 (i + j) = nI (16 + gln B v.2) ∧ gln B v.2 ≤ 20) → (W.map (fun v => 16 + gln B v.2)).sum ≤ 200 → rm_hasRoom_b29 k z fu (nI left) (-1) (nI i) = some (i01 (HR left fl (W.map (fun v => 16 + gln B v.2)))) := by
  intro W
  induction W with
  | nil =>
    intro i left fu hl hf hi h26 hv hs
    cases fu with
    | zero => exact absurd hf (Nat.not_lt_zero _)
    | succ fu =>
      simp only [List.length_nil] at hi
      simp (disch := omega) only [rm_hasRoom_b29, h26, List.length_nil, Nat.add_zero, le_n, Nat.le_refl, if_true]
      rfl
  | cons v W ih =>
    intro i left fu hl hf hi h26 hv hs
    cases fu with
    | zero => exact absurd hf (Nat.not_lt_zero _)
    | succ fu =>
      simp only [List.length_cons] at hi hf h26
      have h1 : ¬ i + (W.length + 1) ≤ i := by omega
      obtain ⟨q1, q2⟩ := hv 0 v rfl
      rw [Nat.add_zero] at q1
      have hs2 : 16 + gln B v.2 + (W.map (fun v => 16 + gln B v.2)).sum ≤ 200 := by simpa using hs
      have hv2 : ∀ j u, W[j]? = some u → z.2 14 (i + 1 + j) = nI (16 + gln B u.2) ∧ gln B u.2 ≤ 20 := fun j u hu => by
        have := hv (j + 1) u (by simpa using hu)
        rw [show i + (j + 1) = i + 1 + j by omega] at this
        exact this
      have h26' : z.1 26 = nI (i + 1 + W.length) := by rw [h26]; congr 1; omega
      simp (disch := omega) only [rm_hasRoom_b29, h26, le_n, h1, if_false, ck_n, tn_n, if_true, q1, lt_n]
      show _ = some (i01 (if 16 + gln B v.2 ≤ left then HR (left - (16 + gln B v.2)) fl (W.map _) else if fl then HR (200 - (16 + gln B v.2)) false (W.map _) else false))
      by_cases hc : 16 + gln B v.2 ≤ left
      · rw [if_neg (show ¬ left < 16 + gln B v.2 by omega), if_pos hc, pk_sub hc, na_1]
        exact ih (i + 1) _ fu (by omega) (by omega) (by omega) h26' hv2 (by omega)
      · rw [if_pos (show left < 16 + gln B v.2 by omega), if_neg hc, show ((-1 : Int32) + 1) = nI 0 by decide]
        rcases m_search (k := k) (z := z) (rc := rm_hasRoom_b29 k z fu) (i := i) hn h0 n k 0 (by omega) (by omega) with ⟨g1, g2⟩ | ⟨w, g1, _, g3, g4⟩
        · rw [g2]
          have : fl = false := by
            cases hq : fl with
            | false => rfl
            | true =>
              obtain ⟨w, w1, w2⟩ := hfl.mp hq
              exact absurd w2 (g1 w (by omega) w1)
          subst this
          rfl
        · rw [g4, ck_n (by omega) (by omega), if_pos rfl, tn_n (by omega), q1, na_1]
          have : fl = true := hfl.mpr ⟨w, g1, g3⟩
          subst this
          rw [show (200 : Int32) = nI 200 from rfl, pk_sub (by omega), m_room29a (k := k) (B := B) W (i + 1) _ fu (nI w) (by omega) (by omega) (by omega) h26' hv2 (by omega)]
          rw [if_pos rfl, HR_sum (by omega)]
          rfl
def RMo (n : Nat) (zc : SS) (T : Nat → Nat) (room : Nat) : Prop := (zc.1 25 = -1 ∧ room = 0) ∨ ∃ w, w < n ∧ zc.1 25 = nI w ∧ room = 200 - T w
theorem p_room {zc : SS} {T : Nat → Nat} {room : Nat} (hn : n ≤ 12) (h : RMo n zc T room) (hT : ∀ s, s < n → zc.2 8 s = nI (T s) ∧ T s ≤ 200) : sg_roomInWritten n k zc = some (nI room) := by
  unfold sg_roomInWritten
  rcases h with ⟨h1, h2⟩ | ⟨w, h1, h2, h3⟩
  · rw [if_pos h1, h2]; rfl
  · obtain ⟨t1, t2⟩ := hT w h1
    simp (disch := omega) only [h2, m1_ne, if_false, ck_n, tn_n, if_true, t1]
    rw [show (200 : Int32) = nI 200 from rfl, pk_sub t2, h3]
theorem a_haveRoom (hn : n ≤ 12) (hk : 3000 ≤ k) {zc zm : SS} {T : Nat → Nat} {B : Nat → Int32} {W : List (Nat × Nat)} {room : Nat} (h20 : zc.1 20 = nI n) (h0 : zm.1 0 = nI n) (hB : zm.2 1 = zc.2 7) (h2 : zm.2 2 = zc.2 8) (h4 : zm.1 4 = zc.1 25) (hT : ∀ s, s < n → zc.2 8 s = nI (T s) ∧ T s ≤ 200) (hr : RMo n zc T room) (hW : W.length ≤ 12) (h7 : zc.1 7 = nI W.length) (h26 : zm.1 26 = nI W.length) (hv : ∀ j v, W[j]? = some v → zc.2 6 j = nI v.1 ∧ zm.2 14 j = nI (16 + gln B v.2) ∧ v.1 < n * 12 ∧ zc.2 14 v.1 = nI (gln B v.2) ∧ gln B v.2 ≤ 20) (hs : (W.map (fun v => 16 + gln B v.2)).sum ≤ 200) :
    ∃ fl : Bool, gs_survivorsHaveRoom n k zc = some (i01 (HR room fl (W.map (fun v => 16 + gln B v.2)))) ∧ rm_hasRoom k zm = some (i01 (HR room fl (W.map (fun v => 16 + gln B v.2)))) ∧ (fl = true → ∃ w, w < n ∧ zc.2 7 (w * 200) = 0) := by
  have hroom : room ≤ 200 := by
    rcases hr with ⟨_, q⟩ | ⟨w, _, _, q⟩ <;> omega
  have lf := a_least (k := k) hn n k 0 zc zm h20 h0 hB (by omega) (by omega)
  have mm : ∀ fl : Bool, (fl = true ↔ ∃ w, w < n ∧ zc.2 7 (w * 200) = 0) → rm_hasRoom k zm = some (i01 (HR room fl (W.map (fun v => 16 + gln B v.2)))) := by
    intro fl hfl
    have := m_room29b (k := k) (z := zm) (B := B) (fl := fl) hn hk h0 (by rw [hB]; exact hfl) W 0 room k hroom (by omega) (by omega) (by rw [Nat.zero_add]; exact h26) (fun j v hj => by rw [Nat.zero_add]; exact ⟨(hv j v hj).2.1, (hv j v hj).2.2.2.2⟩) hs
    unfold rm_hasRoom rm_hasRoom_b24
    rw [h4]
    rcases hr with ⟨h1, rfl⟩ | ⟨w, h1, h3, h5⟩
    · rw [h1, if_neg (by decide)]
      exact this
    · obtain ⟨t1, t2⟩ := hT w h1
      rw [h3, if_pos (nI_pos' (by omega)), ck_n (by omega) (by omega), if_pos rfl, tn_n (by omega), h2, t1, show (200 : Int32) = nI 200 from rfl, pk_sub t2, ← h5]
      exact this
  have cc : ∀ (fl : Bool) (y : Int32), sg_leastFree n k zc = some y → (if y = -1 then some (0 : Int32) else some 1) = some (i01 fl) → gs_survivorsHaveRoom n k zc = some (i01 (HR room fl (W.map (fun v => 16 + gln B v.2)))) := fun fl y hl hy => by
    unfold gs_survivorsHaveRoom
    rw [p_room hn hr hT, bo_some]
    exact p_room10 (k := k) (z := zc) (B := B) hn hl hy W 0 room k hroom (by omega) (by omega) (by rw [Nat.zero_add]; exact h7) (fun j v hj => by rw [Nat.zero_add]; exact ⟨(hv j v hj).1, (hv j v hj).2.2⟩) hs
  rcases lf with ⟨g1, g2, g3⟩ | ⟨w, g0, g1, g2, g3, g4, g5⟩
  · have g1 : sg_leastFree_b2 n k zc k 0 = some (-1) := g1
    have g1' : sg_leastFree n k zc = some (-1) := g1
    refine ⟨false, cc false (-1) g1' (by rw [if_pos rfl]; rfl), mm false ⟨(fun q => by cases q), (fun ⟨w, w1, w2⟩ => absurd w2 (g3 w (by omega) w1))⟩, (fun q => by cases q)⟩
  · have g4 : sg_leastFree_b2 n k zc k 0 = some (nI w) := g4
    have g4' : sg_leastFree n k zc = some (nI w) := g4
    have hw : ¬ nI w = -1 := by rw [m1_ne (by omega)]; exact fun q => q
    exact ⟨true, cc true (nI w) g4' (by rw [if_neg hw]; rfl), mm true ⟨fun _ => ⟨w, g1, g2⟩, fun _ => rfl⟩, fun _ => ⟨w, g1, g2⟩⟩
end RM
