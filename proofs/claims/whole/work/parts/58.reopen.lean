def BR (x y : Int32 × Int32) : Prop := y.1 = x.1 ∧ (x.1 = 0 ∨ x.1 = 1) ∧ y.2 = (if x.1 = 0 then -1 else x.2)
theorem BR_1 {B : Nat → Int32} {e a : Nat} {x y : Int32 × Int32} (h : BR x y) : BR (bd1 x.1, bd2 B e x.1 x.2 a) (bd1 y.1, bd2 B e y.1 y.2 a) := by
  obtain ⟨h1, h2, h3⟩ := h
  unfold BR
  rw [h1, h3]
  unfold bd1 bd2
  rcases h2 with h | h
  · rw [h]
    exact ⟨rfl, Or.inr rfl, rfl⟩
  · rw [h]
    exact ⟨rfl, Or.inr rfl, rfl⟩
theorem BR_F {B : Nat → Int32} {e : Nat} : ∀ {R : List Nat} {x y : Int32 × Int32}, BR x y → BR (bdF B e R x) (bdF B e R y) := by
  intro R
  induction R with
  | nil => intro x y h; exact h
  | cons a R ih =>
    intro x y h
    by_cases hg : ggood B a e
    · rw [bdF_good hg, bdF_good hg]; exact ih h
    · rw [bdF_bad hg, bdF_bad hg]; exact ih (BR_1 h)
theorem BR_X {B : Nat → Int32} {e l q : Nat} {x y : Int32 × Int32} (h : BR x y) : BR (bdX B e l q x) (bdX B e l q y) := by
  unfold bdX
  by_cases hq : q < l ∧ B q ≠ 0
  · rw [if_pos hq, if_pos hq]; exact BR_1 h
  · rw [if_neg hq, if_neg hq]; exact h
theorem mxF_spec {B : Nat → Int32} : ∀ {L : List Nat} {v : Int32}, v.toInt ≤ (mxF B L v).toInt ∧ (∀ a, a ∈ L → (gnum B a).toInt ≤ (mxF B L v).toInt) ∧ (mxF B L v = v ∨ ∃ a, a ∈ L ∧ mxF B L v = gnum B a) := by
  intro L
  induction L with
  | nil => intro v; exact ⟨Int.le_refl _, (fun a h => by cases h), Or.inl rfl⟩
  | cons a L ih =>
    intro v
    obtain ⟨h1, h2, h3⟩ := ih (v := mx v (gnum B a))
    have e : mxF B (a :: L) v = mxF B L (mx v (gnum B a)) := rfl
    rw [e]
    have m1 : v.toInt ≤ (mx v (gnum B a)).toInt ∧ (gnum B a).toInt ≤ (mx v (gnum B a)).toInt ∧ (mx v (gnum B a) = v ∨ mx v (gnum B a) = gnum B a) := by
      unfold mx
      by_cases h : v < gnum B a
      · rw [if_pos h]
        rw [i_lt] at h
        exact ⟨by omega, by omega, Or.inr rfl⟩
      · rw [if_neg h]
        rw [i_lt] at h
        exact ⟨by omega, by omega, Or.inl rfl⟩
    refine ⟨by omega, fun b hb => ?_, ?_⟩
    · rcases List.mem_cons.mp hb with q | q
      · subst q; omega
      · exact h2 b q
    · rcases h3 with q | ⟨b, q1, q2⟩
      · rcases m1.2.2 with w | w
        · exact Or.inl (by rw [q, w])
        · exact Or.inr ⟨a, List.mem_cons_self, by rw [q, w]⟩
      · exact Or.inr ⟨b, List.mem_cons_of_mem _ q1, q2⟩
noncomputable def Lp (B : Nat → Int32) (R : Nat → List Nat) (s t : Nat) : List Nat := if t < s then Lf B R t else []
theorem Lp_lt {B : Nat → Int32} {R : Nat → List Nat} {s t : Nat} (h : t < s) : Lp B R s t = Lf B R t := if_pos h
theorem Lp_ge {B : Nat → Int32} {R : Nat → List Nat} {s t : Nat} (h : ¬ t < s) : Lp B R s t = [] := if_neg h
section RO
variable {n k : Nat} {B : Nat → Int32} {T : Nat → Nat} {R : Nat → List Nat}
def RS (n : Nat) (B : Nat → Int32) (T : Nat → Nat) (R : Nat → List Nat) (zc0 zm0 : SS) (s : Nat) (zc zm : SS) : Prop :=
  zc.2 7 = B ∧ zm.2 1 = B ∧ zm.2 2 = zc.2 8 ∧ (∀ t, t < s → zc.2 8 t = nI (T t)) ∧ BR (zc.1 10, zc.1 11) (zm.1 25, zm.1 13) ∧ Ix n zc (Lp B R s) ∧ (zm.1 15 = nI (off (Lf B R) s) ∧ ∀ t, t < s → ∀ i a, (Lf B R t)[i]? = some a → Rw zm (off (Lf B R) t + i) a) ∧
  (0 ≤ (zc.1 8).toInt ∧ (∀ t, t < s → ∀ a, a ∈ Lf B R t → (gnum B a).toInt ≤ (zc.1 8).toInt) ∧ (zc.1 8 = 0 ∨ ∃ t a, t < s ∧ a ∈ Lf B R t ∧ zc.1 8 = gnum B a)) ∧
  (∀ x, x ≠ 8 → x ≠ 10 → x ≠ 11 → zc.1 x = zc0.1 x) ∧ (∀ x, x < 7 ∨ x = 9 ∨ 15 < x → zc.2 x = zc0.2 x) ∧ (∀ x, x ≠ 13 → x ≠ 15 → x ≠ 25 → zm.1 x = zm0.1 x) ∧ (∀ x, x = 3 ∨ x = 4 ∨ x = 5 ∨ x = 6 ∨ 11 < x → zm.2 x = zm0.2 x)
theorem a_re27 (hn : n ≤ 12) (hk : 3000 ≤ k) (hBo : BOK B (n * 200)) (hW : Ws n B T R) (hT : ∀ s, s < n → T s ≤ 200) (hst : ∀ s, s < n → s * 200 + T s = s * 200 + 200 ∨ B (s * 200 + T s) = 0 ∨ gsz B (s * 200 + T s) (s * 200 + 200) = 0) {zc0 zm0 : SS} (h20 : zc0.1 20 = nI n) (h0 : zm0.1 0 = nI n) : ∀ (d fu s : Nat) (zc zm : SS), s + d = n → d < fu → RS n B T R zc0 zm0 s zc zm →
    ∃ zc' zm', gs_reopen_b27 n k fu zc (nI s) = (bo (ix_keysWithSomething n k zc' (zc'.1 8)) fun r_1 => some (r_1, zc')) ∧ rm_reopen_b42 k fu zm (nI s) = rm_reopen_b87 k k (si (si (si zm' 25 1) 14 1) 5 0) 0 ∧ RS n B T R zc0 zm0 n zc' zm' := by
  have hGL := GL_of hW hT
  intro d
  induction d with
  | zero =>
    intro fu s zc zm hs hf h
    cases fu with
    | zero => omega
    | succ fu =>
      have h1 : n ≤ s := by omega
      have g20 : zc.1 20 = nI n := by rw [h.2.2.2.2.2.2.2.2.1 20 (by omega) (by omega) (by omega), h20]
      have g0 : zm.1 0 = nI n := by rw [h.2.2.2.2.2.2.2.2.2.2.1 0 (by omega) (by omega) (by omega), h0]
      simp (disch := omega) only [gs_reopen_b27, rm_reopen_b42, g20, g0, le_n, h1, if_true]
      have : s = n := by omega
      subst this
      exact ⟨zc, zm, rfl, rfl, h⟩
  | succ d ih =>
    intro fu s zc zm hs hf h
    cases fu with
    | zero => omega
    | succ fu =>
      have h1 : ¬ n ≤ s := by omega
      have hsn : s < n := by omega
      obtain ⟨c1, c2, c3, c4, c5, c6, ⟨c7, c7'⟩, ⟨c8, c8', c8''⟩, c9, c10, c11, c12⟩ := h
      have g20 : zc.1 20 = nI n := by rw [c9 20 (by omega) (by omega) (by omega), h20]
      have g0 : zm.1 0 = nI n := by rw [c11 0 (by omega) (by omega) (by omega), h0]
      simp (disch := omega) only [gs_reopen_b27, rm_reopen_b42, g20, g0, le_n, h1, if_false, ck_n, tn_n, if_true, na_1]
      have hT1 := hT s hsn
      have hlen := Lf_len hW hT1 hsn
      have hIs := c6 s hsn
      rw [Lp_ge (Nat.lt_irrefl _)] at hIs
      obtain ⟨i1, i2, i3⟩ := hIs
      obtain ⟨z1, f1, f2, f3, f4, f5, f6, f7, f8, f9, f10⟩ := p_read15 (k := k) (B := B) (q := s * 200 + T s) hn hk hsn hBo (hst s hsn) (R s) (s * 200) k 0 zc c1 (hW s hsn) (Nat.le_refl _) (by omega) i1 (by have := hlen.1; unfold Lf at this; omega) (by have := hlen.2; omega)
      have f1' : gs_readSegment n k zc (nI s) = some z1 := by
        unfold gs_readSegment
        rw [nm_200, show (nI (s * 200) + 200 : Int32) = nI (s * 200 + 200) from nI_add _ 200]
        exact f1
      rw [f1', bo_some]
      have hoff : off (Lf B R) (s + 1) = off (Lf B R) s + (gl B (s * 200 + 200) (R s)).length := rfl
      have hle : off (Lf B R) (s + 1) ≤ off (Lf B R) n := sumT_mono (by omega)
      have h144 := off_le hn hGL
      have hbr : zm.1 25 = 0 ∨ zm.1 25 = 1 := by
        have q1 : zm.1 25 = zc.1 10 := c5.1
        have q2 : zc.1 10 = 0 ∨ zc.1 10 = 1 := c5.2.1
        rw [q1]; exact q2
      obtain ⟨m1, g1, g2, g3, g4, g5, g6, g7, g8⟩ := m_look2 (k := k) (B := B) (s := s) (q := s * 200 + T s) (le := 200) hn hk hsn hBo (by omega) (by omega) (hst s hsn) (R s) 0 k (off (Lf B R) s) zm c2 hbr (hW s hsn) (by omega) c7 (by omega) (by have := hlen.2; omega)
      have g1' : rm_lookAt k zm (nI s) 200 = some (nI (s * 200 + T s - s * 200), m1) := g1
      rw [g1', bi_some]
      refine ih fu (s + 1) z1 (sa m1 2 s (nI (s * 200 + T s - s * 200))) (by omega) (by omega) ?_
      have hz7 : z1.2 7 = B := by rw [f5 7 (by omega) (by omega), c1]
      have hm1 : m1.2 1 = B := by rw [g5 1 (by omega), c2]
      have lfs : gl B (s * 200 + 200) (R s) = Lf B R s := rfl
      rw [lfs] at f2 f3 f4 f7 g2 g3
      refine ⟨hz7, by rw [sa_o (by omega)]; exact hm1, ?_, ?_, ?_, ?_, ⟨?_, ?_⟩, ⟨?_, ?_, ?_⟩, ?_, ?_, ?_, ?_⟩
      · rw [sa_s, g5 2 (by omega), c3, f6]
      · intro t ht
        rw [f6]
        by_cases hts : t = s
        · subst hts
          rw [pk_us, show t * 200 + T t - t * 200 = T t by omega]
        · rw [pk_un hts]; exact c4 t (by omega)
      · have := BR_X (B := B) (e := s * 200 + 200) (l := s * 200 + 200) (q := s * 200 + T s) (BR_F (B := B) (e := s * 200 + 200) (R := R s) c5)
        rw [sa_i, sa_i, f8, f9, g6, g7]
        exact this
      · intro t ht
        have oldS : ∀ j a, j < s * 12 → Sl zc j a → Sl z1 j a := fun j a hj hS => by
          unfold Sl at hS ⊢
          rw [c1] at hS
          rw [hz7, f4 11 j (by omega) (by omega) (by omega), f4 12 j (by omega) (by omega) (by omega), f4 13 j (by omega) (by omega) (by omega), f4 14 j (by omega) (by omega) (by omega), f4 15 j (by omega) (by omega) (by omega)]
          exact hS
        have hIt := c6 t ht
        by_cases hts : t < s
        · rw [Lp_lt hts] at hIt
          rw [Lp_lt (show t < s + 1 by omega)]
          refine ⟨by rw [f2, pk_un (by omega)]; exact hIt.1, hIt.2.1, fun i hi => ⟨fun a ha => oldS _ _ (by omega) ((hIt.2.2 i hi).1 a ha), fun ha => ?_⟩⟩
          rw [f4 12 _ (by omega) (by omega) (by omega)]
          exact (hIt.2.2 i hi).2 ha
        · rw [Lp_ge hts] at hIt
          by_cases hts2 : t = s
          · subst hts2
            rw [Lp_lt (show t < t + 1 by omega)]
            refine ⟨by rw [f2, pk_us, Nat.zero_add], hlen.1, fun i hi => ⟨fun a ha => ?_, fun ha => ?_⟩⟩
            · have := f3 i a ha
              rw [Nat.add_zero] at this
              exact this
            · have hil : (Lf B R t).length ≤ i := by
                rcases Nat.lt_or_ge i (Lf B R t).length with q | q
                · rw [List.getElem?_eq_getElem q] at ha; cases ha
                · exact q
              rw [f4 12 _ (by omega) (by omega) (by omega)]
              exact (hIt.2.2 i hi).2 rfl
          · rw [Lp_ge (show ¬ t < s + 1 by omega)]
            refine ⟨by rw [f2, pk_un hts2]; exact hIt.1, hIt.2.1, fun i hi => ⟨(fun a ha => by cases ha), fun ha => ?_⟩⟩
            have := hlen.1
            rw [f4 12 _ (by omega) (by omega) (by omega)]
            exact (hIt.2.2 i hi).2 ha
      · rw [sa_i, g2]
        rfl
      · intro t ht i a ha
        have key : Rw m1 (off (Lf B R) t + i) a := by
          by_cases hts : t = s
          · subst hts
            exact g3 i a ha
          · have q := c7' t (by omega) i a ha
            have hil : i < (Lf B R t).length := by
              rcases Nat.lt_or_ge i (Lf B R t).length with q | q
              · exact q
              · rw [List.getElem?_eq_none q] at ha; cases ha
            have hlt : off (Lf B R) t + i < off (Lf B R) s := by
              have := sumT_at (T := fun t => (Lf B R t).length) (s := t) (n := s) (by omega)
              show sumT (fun t => (Lf B R t).length) t + i < sumT (fun t => (Lf B R t).length) s
              omega
            unfold Rw at q ⊢
            rw [c2] at q
            rw [g4 7 _ hlt, g4 8 _ hlt, g4 9 _ hlt, g4 10 _ hlt, g4 11 _ hlt, hm1]
            exact q
        unfold Rw at key ⊢
        simp (disch := omega) only [sa_o]
        exact key
      · rw [f7]
        have := (mxF_spec (B := B) (L := Lf B R s) (v := zc.1 8)).1
        omega
      · intro t ht a ha
        rw [f7]
        obtain ⟨q1, q2, q3⟩ := mxF_spec (B := B) (L := Lf B R s) (v := zc.1 8)
        by_cases hts : t = s
        · subst hts; exact q2 a ha
        · have := c8' t (by omega) a ha
          omega
      · rw [f7]
        obtain ⟨q1, q2, q3⟩ := mxF_spec (B := B) (L := Lf B R s) (v := zc.1 8)
        rcases q3 with w | ⟨a, w1, w2⟩
        · rw [w]
          rcases c8'' with u | ⟨t, a, u1, u2, u3⟩
          · exact Or.inl u
          · exact Or.inr ⟨t, a, by omega, u2, u3⟩
        · exact Or.inr ⟨s, a, by omega, w1, w2⟩
      · intro x x1 x2 x3
        rw [f10 x x1 x2 x3, c9 x x1 x2 x3]
      · intro x hx
        rw [f5 x (by omega) (by omega), c10 x hx]
      · intro x x1 x2 x3
        rw [sa_i, g8 x x1 x2 x3, c11 x x1 x2 x3]
      · intro x hx
        rw [sa_o (by omega), g5 x (by omega), c12 x hx]
theorem m_re87 (hk : 3000 ≤ k) {N : Nat} (hN : N ≤ 160) {num : Nat → Int32} : ∀ (d fu r : Nat) (z : SS), r + d = N → d < fu → z.1 15 = nI N → z.2 9 = num → 0 ≤ (z.1 5).toInt → (∀ j, j < r → (num j).toInt ≤ (z.1 5).toInt) → (z.1 5 = 0 ∨ ∃ j, j < r ∧ z.1 5 = num j) →
    ∃ v : Int32, rm_reopen_b87 k fu z (nI r) = (bi (rm_keysNow k (si z 5 v)) fun r_1 z_1 => some (r_1, z_1)) ∧ 0 ≤ v.toInt ∧ (∀ j, j < N → (num j).toInt ≤ v.toInt) ∧ (v = 0 ∨ ∃ j, j < N ∧ v = num j) := by
  intro d
  induction d with
  | zero =>
    intro fu r z hr hf h15 hnum h1 h2 h3
    cases fu with
    | zero => omega
    | succ fu =>
      have h0 : N ≤ r := by omega
      simp (disch := omega) only [rm_reopen_b87, h15, le_n, h0, if_true]
      have : r = N := by omega
      subst this
      exact ⟨z.1 5, by rw [si_self], h1, h2, h3⟩
  | succ d ih =>
    intro fu r z hr hf h15 hnum h1 h2 h3
    cases fu with
    | zero => omega
    | succ fu =>
      have h0 : ¬ N ≤ r := by omega
      simp (disch := omega) only [rm_reopen_b87, rm_reopen_b122, h15, le_n, h0, if_false, ck_n, tn_n, if_true, na_1, hnum]
      have ss : ∀ u v : Int32, si (si z 5 u) 5 v = si z 5 v := fun u v => by
        unfold si
        have : va_up (va_up z.1 5 u) 5 v = va_up z.1 5 v := by
          funext j
          by_cases h : j = 5
          · subst h; rw [va_up_self, va_up_self]
          · rw [va_up_ne _ _ h, va_up_ne _ _ h, va_up_ne _ _ h]
        show (va_up (va_up z.1 5 u) 5 v, z.2) = _
        rw [this]
      by_cases hc : num r ≤ z.1 5
      · rw [if_pos hc]
        rw [i_le] at hc
        obtain ⟨v, e1, e2, e3, e4⟩ := ih fu (r + 1) (si z 5 (z.1 5)) (by omega) (by omega) (by rw [si_self]; exact h15) hnum (by rw [si_s]; exact h1) (fun j hj => by
          rw [si_s]
          by_cases hjr : j = r
          · subst hjr; exact hc
          · exact h2 j (by omega)) (by
          rw [si_s]
          rcases h3 with q | ⟨j, q1, q2⟩
          · exact Or.inl q
          · exact Or.inr ⟨j, by omega, q2⟩)
        rw [ss] at e1
        exact ⟨v, e1, e2, e3, e4⟩
      · rw [if_neg hc]
        rw [i_le] at hc
        obtain ⟨v, e1, e2, e3, e4⟩ := ih fu (r + 1) (si z 5 (num r)) (by omega) (by omega) (by rw [si_o (by omega)]; exact h15) hnum (by rw [si_s]; omega) (fun j hj => by
          rw [si_s]
          by_cases hjr : j = r
          · subst hjr; exact Int.le_refl _
          · have := h2 j (by omega)
            omega) (by
          rw [si_s]
          exact Or.inr ⟨r, by omega, rfl⟩)
        rw [ss] at e1
        exact ⟨v, e1, e2, e3, e4⟩
theorem si_reopen (hn : n ≤ 12) (hk : 3000 ≤ k) : Sim_reopen n k (RelN n) := by
  intro zc zm h
  have hR0 := Rel_f (v := 0) h
  obtain ⟨T0, R0, hb, he, hm⟩ := h
  obtain ⟨b1, b2, b3, b4, b5, b6, b7, b8, b9, b10, b11⟩ := hb
  obtain ⟨e1, e2, e3, e4, e5, e6, e7, e8, e9, e10, e11, e12, e13, e14, e15⟩ := he
  unfold gs_reopen rm_reopen
  rw [e12]
  rcases hm with ⟨h9, ho, h14⟩ | ⟨h9, hc, h14⟩
  · rw [if_pos h9, if_pos h9]
    exact ⟨_, _, _, rfl, rfl, hR0⟩
  · rw [h9, ifz1, ifz1]
    have hx : ∀ s, ∃ R q, Wk (zc.2 7) (s * 200 + 200) (s * 200) R q ∧ q ≤ s * 200 + 200 ∧ (q = s * 200 + 200 ∨ zc.2 7 q = 0 ∨ gsz (zc.2 7) q (s * 200 + 200) = 0) := fun s => walk_ex 200 (s * 200) rfl
    obtain ⟨R, hx⟩ := Classical.skolem.mp hx
    obtain ⟨Q, hx⟩ := Classical.skolem.mp hx
    have hQ : ∀ s, s * 200 + (Q s - s * 200) = Q s := fun s => by
      have := Wk_le (hx s).1
      omega
    have hW : Ws n (zc.2 7) (fun s => Q s - s * 200) R := fun s hs => by
      show Wk _ _ _ _ (s * 200 + (Q s - s * 200))
      rw [hQ]; exact (hx s).1
    have hT : ∀ s, s < n → (fun s => Q s - s * 200) s ≤ 200 := fun s hs => by
      have := (hx s).2.1
      show Q s - s * 200 ≤ 200
      omega
    have hbr0 : BR ((si (si (si zc 9 0) 10 0) 8 0).1 10, (si (si (si zc 9 0) 10 0) 8 0).1 11) ((si (si (si (si (si (si zm 1 0) 12 0) 14 0) 13 (-1)) 25 0) 15 0).1 25, (si (si (si (si (si (si zm 1 0) 12 0) 14 0) 13 (-1)) 25 0) 15 0).1 13) := by
      have a1 : (si (si (si zc 9 0) 10 0) 8 0).1 10 = 0 := by rw [si_o (by omega), si_s]
      have a2 : (si (si (si (si (si (si zm 1 0) 12 0) 14 0) 13 (-1)) 25 0) 15 0).1 25 = 0 := by rw [si_o (by omega), si_s]
      have a3 : (si (si (si (si (si (si zm 1 0) 12 0) 14 0) 13 (-1)) 25 0) 15 0).1 13 = -1 := by rw [si_o (by omega), si_o (by omega), si_s]
      rw [a1, a2, a3]
      exact ⟨rfl, Or.inl rfl, rfl⟩
    obtain ⟨zc', zm', f1, f2, f3⟩ := a_re27 (n := n) (k := k) (B := zc.2 7) (T := fun s => Q s - s * 200) (R := R) hn hk b2 hW hT (fun s hs => by
      show s * 200 + (Q s - s * 200) = _ ∨ zc.2 7 (s * 200 + (Q s - s * 200)) = 0 ∨ gsz _ (s * 200 + (Q s - s * 200)) _ = 0
      rw [hQ]; exact (hx s).2.2) (zc0 := si (si (si zc 9 0) 10 0) 8 0) (zm0 := si (si (si (si (si (si zm 1 0) 12 0) 14 0) 13 (-1)) 25 0) 15 0) (by rw [si_o (by omega), si_o (by omega), si_o (by omega), b1]) (by rw [si_o (by omega), si_o (by omega), si_o (by omega), si_o (by omega), si_o (by omega), si_o (by omega), e1, b1]) n k 0 (si (si (si zc 9 0) 10 0) 8 0) (si (si (si (si (si (si zm 1 0) 12 0) 14 0) 13 (-1)) 25 0) 15 0) (by omega) (by omega) ⟨rfl, e2, e3, fun t ht => by omega, hbr0, by
      have : Lp (zc.2 7) R 0 = (fun _ => ([] : List Nat)) := by
        funext t; exact Lp_ge (Nat.not_lt_zero _)
      rw [this]
      exact Ix0_fr rfl rfl hc.2.2.1, ⟨si_s, fun t ht => by omega⟩, ⟨by rw [si_s]; decide, fun t ht => by omega, Or.inl si_s⟩, fun x _ _ _ => rfl, fun x _ => rfl, fun x _ _ _ => rfl, fun x _ => rfl⟩
    have f1 : gs_reopen_b27 n k k (si (si (si zc 9 0) 10 0) 8 0) 0 = _ := f1
    have f2 : rm_reopen_b42 k k (si (si (si (si (si (si zm 1 0) 12 0) 14 0) 13 (-1)) 25 0) 15 0) 0 = _ := f2
    rw [f1, f2]
    obtain ⟨c1, c2, c3, c4, c5, c6, ⟨c7, c7'⟩, ⟨c8, c8', c8''⟩, c9, c10, c11, c12⟩ := f3
    have hGL := GL_of hW hT
    have h144 := off_le hn hGL
    obtain ⟨v, g1, g2, g3, g4⟩ := m_re87 (k := k) hk (N := off (Lf (zc.2 7) R) n) (by omega) (num := zm'.2 9) (off (Lf (zc.2 7) R) n) k 0 (si (si (si zm' 25 1) 14 1) 5 0) (by omega) (by omega) (by rw [si_o (by omega), si_o (by omega), si_o (by omega), c7]) rfl (by rw [si_s]; decide) (fun j hj => by omega) (Or.inl si_s)
    have g1 : rm_reopen_b87 k k (si (si (si zm' 25 1) 14 1) 5 0) 0 = _ := g1
    rw [g1]
    have hv : v = zc'.1 8 := by
      have q1 : v.toInt ≤ (zc'.1 8).toInt := by
        rcases g4 with q | ⟨j, q1, q2⟩
        · rw [q]; exact c8
        · obtain ⟨s, i, a, u1, u2, u3, u4, u5⟩ := off_row q1
          have := (c7' s u1 i a u3).2.2.1
          rw [q2, u4, this, c2]
          exact c8' s u1 a u5
      have q2 : (zc'.1 8).toInt ≤ v.toInt := by
        rcases c8'' with q | ⟨t, a, q1, q2, q3⟩
        · rw [q]; exact g2
        · obtain ⟨i, hi⟩ := List.getElem?_of_mem q2
          have w := (c7' t q1 i a hi).2.2.1
          have hil : i < (Lf (zc.2 7) R t).length := by
            rcases Nat.lt_or_ge i (Lf (zc.2 7) R t).length with q | q
            · exact q
            · rw [List.getElem?_eq_none q] at hi; cases hi
          have hlt : off (Lf (zc.2 7) R) t + i < off (Lf (zc.2 7) R) n := by
            have := sumT_at (T := fun t => (Lf (zc.2 7) R t).length) q1
            show sumT (fun t => (Lf (zc.2 7) R t).length) t + i < sumT (fun t => (Lf (zc.2 7) R t).length) n
            omega
          have := g3 _ hlt
          rw [w, c2, ← q3] at this
          exact this
      exact Int32.toInt_inj.mp (by omega)
    have hI : Ix n zc' (Lf (zc.2 7) R) := fun s hs => by
      have := c6 s hs
      rw [Lp_lt hs] at this
      exact this
    have k1 : ∀ x, x ≠ 5 → x ≠ 14 → x ≠ 25 → (si (si (si (si zm' 25 1) 14 1) 5 0) 5 v).1 x = zm'.1 x := fun x x1 x2 x3 => by rw [si_o x1, si_o x1, si_o x2, si_o x3]
    have hKn : Kn n (si (si (si (si zm' 25 1) 14 1) 5 0) 5 v) (Lf (zc.2 7) R) := ⟨by rw [k1 15 (by omega) (by omega) (by omega), c7], fun s hs i a ha => c7' s hs i a ha⟩
    have h7 : zc'.2 7 = zc.2 7 := c1
    have hKK : KK n zc' (si (si (si (si zm' 25 1) 14 1) 5 0) 5 v) (Lf (zc'.2 7) R) := by
      rw [h7]
      refine ⟨hn, by rw [h7]; exact c2, ?_, ?_, by rw [h7]; exact hGL, hI, hKn, by rw [si_o (by omega), si_o (by omega), si_s]⟩
      · show zm'.2 5 = _
        rw [c12 5 (by omega), c10 16 (by omega)]; exact e6
      · show zm'.2 6 = _
        rw [c12 6 (by omega), c10 17 (by omega)]; exact e7
    have hNL : NL n (zc'.2 7) (Lf (zc'.2 7) R) (zc'.1 8) := by
      rw [h7]
      exact fun s hs a ha => c8' s hs a ha
    obtain ⟨w, l1, l2⟩ := a_count (k := k) hKK hk hNL
    rw [l1, l2, bo_some, bi_some]
    have d1 : ∀ x, x ≠ 8 → x ≠ 9 → x ≠ 10 → x ≠ 11 → zc'.1 x = zc.1 x := fun x x1 x2 x3 x4 => by rw [c9 x x1 x3 x4, si_o x1, si_o x3, si_o x2]
    have d2 : ∀ x, x < 7 ∨ x = 9 ∨ 15 < x → zc'.2 x = zc.2 x := fun x hx => by rw [c10 x hx]; rfl
    have k2 : ∀ x, x ≠ 1 → x ≠ 5 → x ≠ 12 → x ≠ 13 → x ≠ 14 → x ≠ 15 → x ≠ 25 → (si (si (si (si zm' 25 1) 14 1) 5 0) 5 v).1 x = zm.1 x := fun x x1 x2 x3 x4 x5 x6 x7 => by
      rw [k1 x x2 x5 x7, c11 x x4 x6 x7, si_o x6, si_o x7, si_o x4, si_o x5, si_o x3, si_o x1]
    have k3 : ∀ x, x = 3 ∨ x = 4 ∨ x = 5 ∨ x = 6 ∨ 11 < x → (si (si (si (si zm' 25 1) 14 1) 5 0) 5 v).2 x = zm.2 x := fun x hx => by
      show zm'.2 x = _
      rw [c12 x hx]; rfl
    refine ⟨_, _, _, rfl, rfl, (fun s => Q s - s * 200), R, ?_, ?_, Or.inl ⟨?_, ?_, Or.inr ⟨?_, ?_⟩⟩⟩
    · unfold Base
      rw [d1 20 (by omega) (by omega) (by omega) (by omega), h7, d1 24 (by omega) (by omega) (by omega) (by omega), d1 5 (by omega) (by omega) (by omega) (by omega), d1 25 (by omega) (by omega) (by omega) (by omega), d2 5 (by omega), d2 9 (by omega), d2 16 (by omega), d2 17 (by omega)]
      refine ⟨b1, b2, fun s hs => ⟨c4 s hs, hT s hs⟩, ⟨0, hc.1, by omega, fun i hi => by omega⟩, b5, b6, ?_, b8, b9, b10, c5.2.1⟩
      rw [i_lt, show (0 : Int32).toInt = 0 by decide]
      omega
    · unfold Eqv
      rw [d1 20 (by omega) (by omega) (by omega) (by omega), h7, d1 24 (by omega) (by omega) (by omega) (by omega), d1 5 (by omega) (by omega) (by omega) (by omega), d1 25 (by omega) (by omega) (by omega) (by omega), d2 5 (by omega), d2 9 (by omega), d2 16 (by omega), d2 17 (by omega)]
      rw [k2 0 (by omega) (by omega) (by omega) (by omega) (by omega) (by omega) (by omega), k2 4 (by omega) (by omega) (by omega) (by omega) (by omega) (by omega) (by omega), k2 6 (by omega) (by omega) (by omega) (by omega) (by omega) (by omega) (by omega), k2 8 (by omega) (by omega) (by omega) (by omega) (by omega) (by omega) (by omega), k2 24 (by omega) (by omega) (by omega) (by omega) (by omega) (by omega) (by omega), k3 3 (by omega), k3 4 (by omega), k3 5 (by omega), k3 6 (by omega)]
      refine ⟨e1, c2, c3, e4, e5, e6, e7, e8, ?_, e10, e11, ?_, ?_, e14, ?_⟩
      · rw [si_s, hv]
      · rw [k1 12 (by omega) (by omega) (by omega), c11 12 (by omega) (by omega) (by omega), c9 9 (by omega) (by omega) (by omega)]
        simp (disch := omega) only [si_o, si_s]
      · rw [k1 13 (by omega) (by omega) (by omega)]
        exact c5.2.2
      · rw [si_o (by omega), si_o (by omega), si_o (by omega), si_s]
    · rw [c9 9 (by omega) (by omega) (by omega)]
      simp (disch := omega) only [si_o, si_s]
    · unfold Op
      rw [h7]
      refine ⟨hW, fun s hs h0 => ?_, hI, fun s hs a ha => c8' s hs a ha⟩
      show Q s - s * 200 = 0
      have hw := (hx s).1
      cases hR : R s with
      | nil =>
        rw [hR] at hw
        have : s * 200 = Q s := hw
        omega
      | cons a l =>
        rw [hR] at hw
        have g := gsz_le hw.2.1
        rcases g.2.2.2.2.2.2 with q | q
        · rw [h0] at q; exact absurd q (by decide)
        · rw [h0] at q; exact absurd q (by decide)
    · rw [si_o (by omega), si_o (by omega), si_s]
    · rw [h7]; exact hKn
end RO
