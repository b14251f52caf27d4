theorem walk_ex {B : Nat → Int32} {e : Nat} : ∀ (d p : Nat), p + d = e → ∃ R q, Wk B e p R q ∧ q ≤ e ∧ (q = e ∨ B q = 0 ∨ gsz B q e = 0) := by
  intro d
  induction d using Nat.strongRecOn with
  | ind d ih =>
    intro p hp
    by_cases h0 : gsz B p e = 0
    · exact ⟨[], p, rfl, by omega, Or.inr (Or.inr h0)⟩
    · obtain ⟨g1, g2, g3, g4, g5, g6, g7⟩ := gsz_le h0
      obtain ⟨R, q, h1, h2, h3⟩ := ih (d - gsz B p e) (by omega) (p + gsz B p e) (by omega)
      exact ⟨p :: R, q, ⟨rfl, h0, h1⟩, h2, h3⟩
def bd1 (m : Int32) : Int32 := if m = 0 then 1 else m
def bd2 (B : Nat → Int32) (e : Nat) (m b : Int32) (a : Nat) : Int32 := if m = 0 then (if a + 7 ≤ e then gnum B a else 0) else b
noncomputable def bdF (B : Nat → Int32) (e : Nat) : List Nat → Int32 × Int32 → Int32 × Int32
  | [], x => x
  | a :: R, x => @ite _ (ggood B a e) (Classical.propDecidable _) (bdF B e R x) (bdF B e R (bd1 x.1, bd2 B e x.1 x.2 a))
theorem bdF_good {B : Nat → Int32} {e a : Nat} {R : List Nat} {x : Int32 × Int32} (h : ggood B a e) : bdF B e (a :: R) x = bdF B e R x := by
  show @ite _ (ggood B a e) (Classical.propDecidable _) _ _ = _
  rw [if_pos h]
theorem bdF_bad {B : Nat → Int32} {e a : Nat} {R : List Nat} {x : Int32 × Int32} (h : ¬ ggood B a e) : bdF B e (a :: R) x = bdF B e R (bd1 x.1, bd2 B e x.1 x.2 a) := by
  show @ite _ (ggood B a e) (Classical.propDecidable _) _ _ = _
  rw [if_neg h]
def bdX (B : Nat → Int32) (e lim q : Nat) (x : Int32 × Int32) : Int32 × Int32 := if q < lim ∧ B q ≠ 0 then (bd1 x.1, bd2 B e x.1 x.2 q) else x
def mx (v w : Int32) : Int32 := if v < w then w else v
def mxF (B : Nat → Int32) : List Nat → Int32 → Int32
  | [], v => v
  | a :: L, v => mxF B L (mx v (gnum B a))
section LK
variable {n k : Nat} {z : SS}
theorem p_add (hn : n ≤ 12) {s m a : Nat} (hs : s < n) (hm : z.2 10 s = nI m) (h12 : m < 12) (hB : BOK (z.2 7) (n * 200)) (ha : a + 8 ≤ n * 200) : ∃ z', ix_add_7 n k z (nI s) (nI a) = some z' ∧ z'.1 = z.1 ∧ z'.2 10 = upd (z.2 10) s (nI (m + 1)) ∧ Sl z' (s * 12 + m) a ∧ (∀ x i, i ≠ s * 12 + m → x ≠ 10 → z'.2 x i = z.2 x i) ∧ (∀ x, x < 10 ∨ 15 < x → z'.2 x = z.2 x) := by
  have h1 : ¬ m = 12 := by omega
  obtain ⟨g1, g2⟩ := gln_of (a := a) hB (by omega)
  unfold ix_add_7 ix_add_7_b97
  simp (disch := omega) only [ck_n, tn_n, if_true, hm, n_eq_12, h1, if_false, nm_12, nI_add, na_1, p_keyAt hn (show a + 2 < n * 200 by omega), p_numAt hn (show a + 6 < n * 200 by omega), p_ccAt hn (show a + 7 < n * 200 by omega), bo_some, sa_o]
  have fin : ∀ v : Int32, v = gG (z.2 7) a → ∃ z', some (sa (sa (sa (sa (sa (sa z 10 s (nI (m + 1))) 11 (s * 12 + m) (nI a)) 12 (s * 12 + m) (gkey (z.2 7) a)) 13 (s * 12 + m) (gnum (z.2 7) a)) 14 (s * 12 + m) (z.2 7 (a + 7))) 15 (s * 12 + m) v) = some z' ∧ z'.1 = z.1 ∧ z'.2 10 = upd (z.2 10) s (nI (m + 1)) ∧ Sl z' (s * 12 + m) a ∧ (∀ x i, i ≠ s * 12 + m → x ≠ 10 → z'.2 x i = z.2 x i) ∧ (∀ x, x < 10 ∨ 15 < x → z'.2 x = z.2 x) := by
    intro v hv
    refine ⟨_, rfl, rfl, ?_, ⟨?_, ?_, ?_, ?_, ?_⟩, ?_, ?_⟩
    · simp (disch := omega) only [sa_o, sa_s]
    · simp (disch := omega) only [sa_o, sa_s, pk_us]
    · simp (disch := omega) only [sa_o, sa_s, pk_us]
    · simp (disch := omega) only [sa_o, sa_s, pk_us]
    · simp (disch := omega) only [sa_o, sa_s, pk_us]
      exact g2
    · simp (disch := omega) only [sa_o, sa_s, pk_us]
      exact hv
    · intro x i hi h10
      have st : ∀ (w : SS) (y : Nat) (u : Int32), (sa w y (s * 12 + m) u).2 x i = w.2 x i := by
        intro w y u
        by_cases hxy : x = y
        · subst hxy
          rw [sa_s, pk_un hi]
        · rw [sa_o hxy]
      rw [st, st, st, st, st, sa_o h10]
    · intro x hx
      simp (disch := omega) only [sa_o]
  by_cases h2 : z.2 7 a = 2
  · rw [if_pos h2]
    exact fin _ (by unfold gG; rw [if_pos h2]; decide)
  · rw [if_neg h2]
    exact fin _ (by unfold gG; rw [if_neg h2]; decide)
end LK
