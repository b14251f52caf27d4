def sumT (T : Nat → Nat) : Nat → Nat
  | 0 => 0
  | n + 1 => sumT T n + T n
def updN (T : Nat → Nat) (s v : Nat) : Nat → Nat := fun j => if j = s then v else T j
theorem updN_s {T : Nat → Nat} {s v : Nat} : updN T s v s = v := if_pos rfl
theorem updN_o {T : Nat → Nat} {s v j : Nat} (h : j ≠ s) : updN T s v j = T j := if_neg h
theorem sumT_congr {T T' : Nat → Nat} : ∀ {n : Nat}, (∀ s, s < n → T s = T' s) → sumT T n = sumT T' n := by
  intro n
  induction n with
  | zero => intro _; rfl
  | succ n ih =>
    intro h
    show sumT T n + T n = sumT T' n + T' n
    rw [ih (fun s hs => h s (by omega)), h n (by omega)]
theorem sumT_upd {T : Nat → Nat} {s v : Nat} : ∀ {n : Nat}, s < n → sumT (updN T s v) n + T s = sumT T n + v := by
  intro n
  induction n with
  | zero => intro h; omega
  | succ n ih =>
    intro h
    show sumT (updN T s v) n + updN T s v n + T s = sumT T n + T n + v
    by_cases h1 : n = s
    · subst h1
      rw [updN_s, sumT_congr (T := updN T n v) (T' := T) (fun j hj => updN_o (by omega))]
      omega
    · rw [updN_o h1]
      have := ih (by omega)
      omega
theorem sumT_le {T : Nat → Nat} {c : Nat} : ∀ {n : Nat}, (∀ s, s < n → T s ≤ c) → sumT T n ≤ n * c := by
  intro n
  induction n with
  | zero => intro _; show 0 ≤ _; omega
  | succ n ih =>
    intro h
    show sumT T n + T n ≤ _
    have h1 := ih (fun s hs => h s (by omega))
    have h2 := h n (by omega)
    rw [Nat.succ_mul]
    omega
theorem sumT_at {T : Nat → Nat} {s : Nat} : ∀ {n : Nat}, s < n → sumT T s + T s ≤ sumT T n := by
  intro n
  induction n with
  | zero => intro h; omega
  | succ n ih =>
    intro h
    show _ ≤ sumT T n + T n
    by_cases h1 : s = n
    · subst h1; omega
    · have := ih (by omega)
      omega
def bw (B : Nat → Int32) (p m : Nat) (D : Nat → Int32) : Nat → Int32 := fun a => if p ≤ a ∧ a < p + m then D (a - p) else B a
theorem bw_in {B D : Nat → Int32} {p m i : Nat} (h : i < m) : bw B p m D (p + i) = D i := by
  unfold bw
  rw [if_pos (by omega), show p + i - p = i by omega]
theorem bw_out {B D : Nat → Int32} {p m a : Nat} (h : a < p ∨ p + m ≤ a) : bw B p m D a = B a := by
  unfold bw
  rw [if_neg (by omega)]
theorem bw_0 {B D : Nat → Int32} {p : Nat} : bw B p 0 D = B := by
  funext a
  unfold bw
  rw [if_neg (by omega)]
theorem bw_s {B D : Nat → Int32} {p m : Nat} : bw B p (m + 1) D = upd (bw B p m D) (p + m) (D m) := by
  funext a
  unfold bw upd
  by_cases h : a = p + m
  · subst h
    rw [if_pos (by omega), if_pos rfl, show p + m - p = m by omega]
  · rw [if_neg h]
    show _ = if p ≤ a ∧ a < p + m then D (a - p) else B a
    by_cases h2 : p ≤ a ∧ a < p + m
    · rw [if_pos h2, if_pos (by omega)]
    · rw [if_neg h2, if_neg (by omega)]
theorem bw_congr {B D D' : Nat → Int32} {p m : Nat} (h : ∀ i, i < m → D i = D' i) : bw B p m D = bw B p m D' := by
  funext a
  unfold bw
  by_cases h2 : p ≤ a ∧ a < p + m
  · rw [if_pos h2, if_pos h2, h _ (by omega)]
  · rw [if_neg h2, if_neg h2]
theorem bw_BOK {B D : Nat → Int32} {p m N : Nat} (hB : BOK B N) (hD : ∀ i, i < m → ∃ b, b < 256 ∧ D i = nI b) : BOK (bw B p m D) N := by
  intro a ha
  unfold bw
  by_cases h2 : p ≤ a ∧ a < p + m
  · rw [if_pos h2]; exact hD _ (by omega)
  · rw [if_neg h2]; exact hB _ ha
theorem gfold_shift {B B' : Nat → Int32} : ∀ {d : Nat} {s : Int64} {x x' : Nat}, (∀ i, i < d → B' (x' + i) = B (x + i)) → gfold B' d s x' = gfold B d s x := by
  intro d
  induction d with
  | zero => intro s x x' _; rfl
  | succ d ih =>
    intro s x x' h
    show gfold B' d (gstp s (B' x')) (x' + 1) = gfold B d (gstp s (B x)) (x + 1)
    have h0 : B' x' = B x := h 0 (by omega)
    rw [h0]
    exact ih (fun i hi => by
      have := h (i + 1) (by omega)
      rw [show x' + 1 + i = x' + (i + 1) by omega, show x + 1 + i = x + (i + 1) by omega]
      exact this)
theorem g_shift {B B' : Nat → Int32} {a a' e e' : Nat} (h0 : gsz B a e ≠ 0) (h : ∀ i, i < gsz B a e → B' (a' + i) = B (a + i)) (he : a' + gsz B a e ≤ e') :
    gsz B' a' e' = gsz B a e ∧ (ggood B' a' e' ↔ ggood B a e) ∧ gkey B' a' = gkey B a ∧ gnum B' a' = gnum B a ∧ gln B' a' = gln B a ∧ B' a' = B a ∧ B' (a' + 7) = B (a + 7) := by
  obtain ⟨g1, g2, g3, g4, g5, g6, g7⟩ := gsz_le h0
  have e0 : B' a' = B a := h 0 (by omega)
  have e1 := h 1 (by omega)
  have e2 := h 2 (by omega)
  have e3 := h 3 (by omega)
  have e4 := h 4 (by omega)
  have e5 := h 5 (by omega)
  have e6 := h 6 (by omega)
  have e7 := h 7 (by omega)
  have hl : gln B' a' = gln B a := by unfold gln; rw [e7]
  have hk : gkey B' a' = gkey B a := by unfold gkey; rw [e1, e2]
  have hn : gnum B' a' = gnum B a := by unfold gnum; rw [e3, e4, e5, e6]
  have hs : gsz B' a' e' = gsz B a e := by
    rw [g5]
    unfold gsz
    rw [hl, e0, if_pos ⟨g7, by omega, g6, by omega⟩]
  refine ⟨hs, ?_, hk, hn, hl, e0, e7⟩
  have hf : gfold B' (gsz B a e - 8) 0 a' = gfold B (gsz B a e - 8) 0 a := gfold_shift (fun i hi => h i (by omega))
  have hm : gsm B' a' (gsz B a e - 8) ↔ gsm B a (gsz B a e - 8) := by
    unfold gsm
    rw [hf]
    constructor
    · intro q i hi
      have := h (gsz B a e - 8 + i) (by omega)
      rw [show a + (gsz B a e - 8) + i = a + (gsz B a e - 8 + i) by omega, ← this, ← q i hi]
      congr 1
      omega
    · intro q i hi
      have := h (gsz B a e - 8 + i) (by omega)
      rw [show a' + (gsz B a e - 8) + i = a' + (gsz B a e - 8 + i) by omega, this, ← q i hi]
      congr 1
      omega
  unfold ggood
  rw [hs, hk, hn, e0, e7, hm]
def Wk (B : Nat → Int32) (e : Nat) : Nat → List Nat → Nat → Prop
  | p, [], q => p = q
  | p, a :: R, q => a = p ∧ gsz B p e ≠ 0 ∧ Wk B e (p + gsz B p e) R q
theorem Wk_app {B : Nat → Int32} {e q : Nat} : ∀ {R : List Nat} {p : Nat}, Wk B e p R q → gsz B q e ≠ 0 → Wk B e p (R ++ [q]) (q + gsz B q e) := by
  intro R
  induction R with
  | nil => intro p h h2; cases h; exact ⟨rfl, h2, rfl⟩
  | cons a R ih => intro p h h2; exact ⟨h.1, h.2.1, ih h.2.2 h2⟩
theorem Wk_len {B : Nat → Int32} {e q : Nat} : ∀ {R : List Nat} {p : Nat}, Wk B e p R q → p + 16 * R.length ≤ q := by
  intro R
  induction R with
  | nil => intro p h; cases h; exact Nat.le_refl _
  | cons a R ih =>
    intro p h
    have := ih h.2.2
    have := gsz_le h.2.1
    simp only [List.length_cons]
    omega
theorem Wk_le {B : Nat → Int32} {e q p : Nat} {R : List Nat} (h : Wk B e p R q) : p ≤ q := by
  have := Wk_len h
  omega
theorem Wk_end {B : Nat → Int32} {e q : Nat} : ∀ {R : List Nat} {p : Nat}, p ≤ e → Wk B e p R q → q ≤ e := by
  intro R
  induction R with
  | nil => intro p hp h; cases h; exact hp
  | cons a R ih =>
    intro p hp h
    have := gsz_le h.2.1
    exact ih (by omega) h.2.2
theorem Wk_mem {B : Nat → Int32} {e q a : Nat} : ∀ {R : List Nat} {p : Nat}, Wk B e p R q → a ∈ R → p ≤ a ∧ gsz B a e ≠ 0 ∧ a + gsz B a e ≤ q := by
  intro R
  induction R with
  | nil => intro p h h2; cases h2
  | cons b R ih =>
    intro p h h2
    obtain ⟨h3, h4, h5⟩ := h
    have h6 := gsz_le h4
    rcases List.mem_cons.mp h2 with h7 | h7
    · subst h7
      subst h3
      exact ⟨Nat.le_refl _, h4, Wk_le h5⟩
    · have := ih h5 h7
      exact ⟨by omega, this.2.1, this.2.2⟩
theorem Wk_congr {B B' : Nat → Int32} {e q : Nat} : ∀ {R : List Nat} {p : Nat}, p ≤ e → (∀ x, p ≤ x → x < q → B' x = B x) → Wk B e p R q → Wk B' e p R q := by
  intro R
  induction R with
  | nil => intro p _ _ h; exact h
  | cons b R ih =>
    intro p hp hx h
    obtain ⟨h3, h4, h5⟩ := h
    have h6 := gsz_le h4
    have h7 := Wk_le h5
    have h8 := g_shift (B' := B') (a' := p) (e' := e) h4 (fun i hi => hx _ (by omega) (by omega)) (by omega)
    refine ⟨h3, by rw [h8.1]; exact h4, ?_⟩
    rw [h8.1]
    exact ih (by omega) (fun x h9 h10 => hx x (by omega) h10) h5
noncomputable def gl (B : Nat → Int32) (e : Nat) (R : List Nat) : List Nat := R.filter (fun a => @decide (ggood B a e) (Classical.propDecidable _))
theorem gl_nil {B : Nat → Int32} {e : Nat} : gl B e [] = [] := rfl
theorem gl_good {B : Nat → Int32} {e a : Nat} {R : List Nat} (h : ggood B a e) : gl B e (a :: R) = a :: gl B e R := by
  unfold gl
  rw [List.filter_cons_of_pos (by simpa using h)]
theorem gl_bad {B : Nat → Int32} {e a : Nat} {R : List Nat} (h : ¬ ggood B a e) : gl B e (a :: R) = gl B e R := by
  unfold gl
  rw [List.filter_cons_of_neg (by simpa using h)]
theorem gl_app {B : Nat → Int32} {e q : Nat} {R : List Nat} (h : ggood B q e) : gl B e (R ++ [q]) = gl B e R ++ [q] := by
  unfold gl
  rw [List.filter_append, List.filter_cons_of_pos (by simpa using h), List.filter_nil]
theorem gl_mem {B : Nat → Int32} {e a : Nat} {R : List Nat} (h : a ∈ gl B e R) : a ∈ R ∧ ggood B a e := by
  unfold gl at h
  have := List.mem_filter.mp h
  exact ⟨this.1, by simpa using this.2⟩
theorem gl_len {B : Nat → Int32} {e : Nat} {R : List Nat} : (gl B e R).length ≤ R.length := by
  unfold gl
  exact List.length_filter_le _ _
theorem gl_congr {B B' : Nat → Int32} {e q : Nat} : ∀ {R : List Nat} {p : Nat}, p ≤ e → (∀ x, p ≤ x → x < q → B' x = B x) → Wk B e p R q → gl B' e R = gl B e R := by
  intro R
  induction R with
  | nil => intro p _ _ h; rw [gl_nil, gl_nil]
  | cons b R ih =>
    intro p hp hx h
    obtain ⟨h3, h4, h5⟩ := h
    have h6 := gsz_le h4
    have h7 := Wk_le h5
    have h8 := g_shift (B' := B') (a' := p) (e' := e) h4 (fun i hi => hx _ (by omega) (by omega)) (by omega)
    have h9 := ih (by omega) (fun x h9 h10 => hx x (by omega) h10) h5
    subst h3
    by_cases h10 : ggood B b e
    · rw [gl_good h10, gl_good (h8.2.1.mpr h10), h9]
    · rw [gl_bad h10, gl_bad (fun h => h10 (h8.2.1.mp h)), h9]
def gG (B : Nat → Int32) (a : Nat) : Int32 := if B a = 2 then 1 else 0
def Sl (z : SS) (j a : Nat) : Prop := z.2 11 j = nI a ∧ z.2 12 j = gkey (z.2 7) a ∧ z.2 13 j = gnum (z.2 7) a ∧ z.2 14 j = nI (gln (z.2 7) a) ∧ z.2 15 j = gG (z.2 7) a
def Ix (n : Nat) (z : SS) (L : Nat → List Nat) : Prop := ∀ s, s < n → z.2 10 s = nI (L s).length ∧ (L s).length ≤ 12 ∧ ∀ i, i < 12 → (∀ a, (L s)[i]? = some a → Sl z (s * 12 + i) a) ∧ ((L s)[i]? = none → z.2 12 (s * 12 + i) = -1)
def Rw (z : SS) (r a : Nat) : Prop := z.2 7 r = nI a ∧ z.2 8 r = gkey (z.2 1) a ∧ z.2 9 r = gnum (z.2 1) a ∧ z.2 10 r = gG (z.2 1) a ∧ z.2 11 r = nI (16 + gln (z.2 1) a)
def off (L : Nat → List Nat) (s : Nat) : Nat := sumT (fun t => (L t).length) s
def Kn (n : Nat) (z : SS) (L : Nat → List Nat) : Prop := z.1 15 = nI (off L n) ∧ ∀ s, s < n → ∀ i a, (L s)[i]? = some a → Rw z (off L s + i) a
