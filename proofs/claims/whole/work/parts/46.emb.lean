def phi (l : Nat → Nat) : Nat → Nat → Nat
  | 0, _ => 0
  | s + 1, r => if r < sumT l s then phi l s r else s * 12 + (r - sumT l s)
theorem phi_at {l : Nat → Nat} {s i : Nat} : ∀ {n : Nat}, s < n → i < l s → phi l n (sumT l s + i) = s * 12 + i := by
  intro n
  induction n with
  | zero => intro h; omega
  | succ n ih =>
    intro h hi
    show (if sumT l s + i < sumT l n then phi l n (sumT l s + i) else n * 12 + (sumT l s + i - sumT l n)) = _
    by_cases h1 : s = n
    · subst h1
      rw [if_neg (by omega)]
      omega
    · have := sumT_at (T := l) (s := s) (n := n) (by omega)
      rw [if_pos (by omega), ih (by omega) hi]
theorem phi_ex {l : Nat → Nat} {r : Nat} : ∀ {n : Nat}, r < sumT l n → ∃ s i, s < n ∧ i < l s ∧ r = sumT l s + i := by
  intro n
  induction n with
  | zero => intro h; exact absurd h (Nat.not_lt_zero _)
  | succ n ih =>
    intro h
    by_cases h1 : r < sumT l n
    · obtain ⟨s, i, h2, h3, h4⟩ := ih h1
      exact ⟨s, i, by omega, h3, h4⟩
    · have h2 : r < sumT l n + l n := h
      exact ⟨n, r - sumT l n, by omega, by omega, by omega⟩
theorem sumT_mono {l : Nat → Nat} {s : Nat} : ∀ {n : Nat}, s ≤ n → sumT l s ≤ sumT l n := by
  intro n
  induction n with
  | zero => intro h; have : s = 0 := by omega
            subst this; exact Nat.le_refl _
  | succ n ih =>
    intro h
    by_cases h1 : s = n + 1
    · subst h1; exact Nat.le_refl _
    · have := ih (by omega)
      show _ ≤ sumT l n + l n
      omega
theorem phi_mono {l : Nat → Nat} {n r r' : Nat} (hl : ∀ s, s < n → l s ≤ 12) (h : r < r') (h' : r' < sumT l n) : phi l n r < phi l n r' := by
  obtain ⟨s, i, h1, h2, h3⟩ := phi_ex (l := l) (r := r) (n := n) (by omega)
  obtain ⟨s', i', h1', h2', h3'⟩ := phi_ex h'
  rw [h3, h3', phi_at h1 h2, phi_at h1' h2']
  have := hl s h1
  rcases Nat.lt_trichotomy s s' with q | q | q
  · omega
  · subst q; omega
  · have := sumT_at (T := l) (s := s') (n := s) q
    omega
def Emb (N N' : Nat) (ph : Nat → Nat) (key num gr key' num' gr' : Nat → Int32) : Prop :=
  (∀ r, r < N → ph r < N' ∧ key' (ph r) = key r ∧ num' (ph r) = num r ∧ gr' (ph r) = gr r ∧ key r ≠ -1) ∧ (∀ r r', r < r' → r' < N → ph r < ph r') ∧ (∀ j, j < N' → key' j ≠ -1 → ∃ r, r < N ∧ ph r = j)
section EM
variable {N N' : Nat} {ph : Nat → Nat} {key num gr key' num' gr' : Nat → Int32}
theorem Emb_lt (E : Emb N N' ph key num gr key' num' gr') {r r' : Nat} (h : r < N) (h' : r' < N) : ph r < ph r' ↔ r < r' := by
  constructor
  · intro q
    rcases Nat.lt_trichotomy r r' with w | w | w
    · exact w
    · subst w; omega
    · have := E.2.1 r' r w h; omega
  · intro q; exact E.2.1 r r' q h'
theorem Emb_all (E : Emb N N' ph key num gr key' num' gr') {K : Int32} (hK : K ≠ -1) {P : Nat → Prop} : (∀ j, j < N' → key' j = K → P j) ↔ (∀ r, r < N → key r = K → P (ph r)) := by
  constructor
  · intro h r hr hk
    obtain ⟨e1, e2, e3, e4, e5⟩ := E.1 r hr
    exact h _ e1 (by rw [e2]; exact hk)
  · intro h j hj hk
    obtain ⟨r, h1, h2⟩ := E.2.2 j hj (by rw [hk]; exact hK)
    subst h2
    obtain ⟨e1, e2, e3, e4, e5⟩ := E.1 r h1
    exact h r h1 (by rw [← e2]; exact hk)
theorem Emb_best (E : Emb N N' ph key num gr key' num' gr') (hN : N < 2147483648) (hN' : N' < 2147483648) {K M : Int32} (hK : K ≠ -1) {r : Nat} (hr : r < N) : Best key' num' N' K M (nI (ph r)) ↔ Best key num N K M (nI r) := by
  obtain ⟨e1, e2, e3, e4, e5⟩ := E.1 r hr
  rw [Best_at e1 hN', Best_at hr hN, e2, e3, Emb_all E hK]
  refine and_congr Iff.rfl (and_congr Iff.rfl ?_)
  constructor
  · intro h q hq hk
    have := h q hq hk
    rw [(E.1 q hq).2.2.1, Emb_lt E hq hr] at this
    exact this
  · intro h q hq hk
    rw [(E.1 q hq).2.2.1, Emb_lt E hq hr]
    exact h q hq hk
theorem Emb_none (E : Emb N N' ph key num gr key' num' gr') (hN : N < 2147483648) (hN' : N' < 2147483648) {K M : Int32} (hK : K ≠ -1) : Best key' num' N' K M (-1) ↔ Best key num N K M (-1) := by
  have h1 : ∀ {key num : Nat → Int32} {N : Nat}, N < 2147483648 → (Best key num N K M (-1) ↔ ∀ j, j < N → key j = K → M.toInt < (num j).toInt) := by
    intro key num N hN
    constructor
    · intro h
      rcases h with ⟨_, h⟩ | ⟨b, h1, h2, _⟩
      · exact h
      · rw [eq_comm, m1_ne (by omega)] at h2
        exact h2.elim
    · intro h; exact Or.inl ⟨rfl, h⟩
  rw [h1 hN', h1 hN, Emb_all E hK]
  constructor
  · intro h q hq hk
    have := h q hq hk
    rw [(E.1 q hq).2.2.1] at this
    exact this
  · intro h q hq hk
    rw [(E.1 q hq).2.2.1]
    exact h q hq hk
theorem Emb_lv (E : Emb N N' ph key num gr key' num' gr') {op mom : Nat → Int32} {r : Nat} (hr : r < N) : Lv key' num' gr' op mom N' (ph r) ↔ Lv key num gr op mom N r := by
  obtain ⟨e1, e2, e3, e4, e5⟩ := E.1 r hr
  unfold Lv
  rw [e2, e3, e4]
  refine and_congr ?_ (and_congr (or_congr Iff.rfl ?_) (or_congr ?_ ?_))
  · constructor
    · intro h q hq hk
      have h1 := E.1 q (by omega)
      have := h (ph q) (E.2.1 q r hq hr) (by rw [h1.2.1]; exact hk)
      rw [h1.2.2.1] at this
      exact this
    · intro h j hj hk
      obtain ⟨q, h1, h2⟩ := E.2.2 j (by omega) (by rw [hk]; exact e5)
      subst h2
      rw [Emb_lt E h1 hr] at hj
      have h3 := E.1 q h1
      rw [h3.2.1] at hk
      rw [h3.2.2.1]
      exact h q hj hk
  · constructor
    · rintro ⟨j, h1, h2, h3⟩
      obtain ⟨q, h4, h5⟩ := E.2.2 j h1 (by rw [h2]; exact e5)
      subst h5
      have h6 := E.1 q h4
      rw [h6.2.1] at h2
      rw [h6.2.2.1] at h3
      exact ⟨q, h4, h2, h3⟩
    · rintro ⟨q, h1, h2, h3⟩
      have h6 := E.1 q h1
      exact ⟨ph q, h6.1, by rw [h6.2.1]; exact h2, by rw [h6.2.2.1]; exact h3⟩
  · rw [Emb_all E e5]
    constructor
    · intro h q hq hk
      have := h q hq hk
      rw [(E.1 q hq).2.2.1] at this
      exact this
    · intro h q hq hk
      rw [(E.1 q hq).2.2.1]
      exact h q hq hk
  · refine exists_congr (fun i => and_congr Iff.rfl (and_congr Iff.rfl (and_congr Iff.rfl ?_)))
    rw [Emb_all E e5]
    constructor
    · intro h q hq hk
      have := h q hq hk
      rw [(E.1 q hq).2.2.1] at this
      exact this
    · intro h q hq hk
      rw [(E.1 q hq).2.2.1]
      exact h q hq hk
end EM
def GL (n : Nat) (B : Nat → Int32) (L : Nat → List Nat) : Prop := ∀ s, s < n → (L s).length ≤ 12 ∧ ∀ a, a ∈ L s → s * 200 ≤ a ∧ a + gsz B a (s * 200 + 200) ≤ s * 200 + 200 ∧ ggood B a (s * 200 + 200)
theorem GL_row {n s a : Nat} {B : Nat → Int32} {L : Nat → List Nat} (h : GL n B L) (hs : s < n) (ha : a ∈ L s) : s * 200 ≤ a ∧ a + (16 + gln B a) ≤ s * 200 + 200 ∧ gln B a ≤ 20 ∧ gkey B a ≠ -1 ∧ ¬ gkey B a < 0 ∧ ¬ 1000 ≤ gkey B a ∧ gsz B a (s * 200 + 200) = 16 + gln B a ∧ 0 < gnum B a := by
  obtain ⟨h1, h2, h3⟩ := (h s hs).2 a ha
  have g := gsz_le h3.1
  rw [g.2.2.2.2.1] at h2
  refine ⟨h1, h2, g.2.2.2.2.2.1, ?_, h3.2.1.1, h3.2.1.2, g.2.2.2.2.1, h3.2.2.1⟩
  intro h4
  exact h3.2.1.1 (by rw [h4]; decide)
theorem Ix_slot {n j : Nat} {z : SS} {L : Nat → List Nat} (hI : Ix n z L) (hj : j < n * 12) (hk : z.2 12 j ≠ -1) : ∃ s i a, s < n ∧ j = s * 12 + i ∧ (L s)[i]? = some a ∧ i < 12 ∧ Sl z j a := by
  have h1 := (hI (j / 12) (by omega)).2.2 (j % 12) (by omega)
  rw [show j / 12 * 12 + j % 12 = j by omega] at h1
  cases h2 : (L (j / 12))[j % 12]? with
  | none => exact absurd (h1.2 h2) hk
  | some a => exact ⟨j / 12, j % 12, a, by omega, by omega, h2, by omega, h1.1 a h2⟩
theorem off_row {n r : Nat} {L : Nat → List Nat} (h : r < off L n) : ∃ s i a, s < n ∧ i < (L s).length ∧ (L s)[i]? = some a ∧ r = off L s + i ∧ a ∈ L s := by
  obtain ⟨s, i, h1, h2, h3⟩ := phi_ex h
  have h2' : i < (L s).length := h2
  exact ⟨s, i, (L s)[i], h1, h2', List.getElem?_eq_getElem h2', h3, List.getElem_mem h2'⟩
theorem emb_of {n : Nat} {zc zm : SS} {L : Nat → List Nat} (hB : zm.2 1 = zc.2 7) (hL : GL n (zc.2 7) L) (hI : Ix n zc L) (hK : Kn n zm L) : Emb (off L n) (n * 12) (phi (fun t => (L t).length) n) (zm.2 8) (zm.2 9) (zm.2 10) (zc.2 12) (zc.2 13) (zc.2 15) := by
  refine ⟨fun r hr => ?_, fun r r' h h' => phi_mono (fun s hs => (hL s hs).1) h h', fun j hj hk => ?_⟩
  · obtain ⟨s, i, a, h1, h2, h3, h4, h5⟩ := off_row hr
    have h6 : phi (fun t => (L t).length) n r = s * 12 + i := by rw [h4]; exact phi_at h1 h2
    have h7 := (hL s h1).1
    have h8 := ((hI s h1).2.2 i (by omega)).1 a h3
    have h9 := hK.2 s h1 i a h3
    rw [h6, h4]
    obtain ⟨q1, q2, q3, q4, q5⟩ := h8
    obtain ⟨w1, w2, w3, w4, w5⟩ := h9
    rw [hB] at w2 w3 w4
    refine ⟨by omega, by rw [q2, w2], by rw [q3, w3], by rw [q5, w4], ?_⟩
    rw [w2]
    exact (GL_row hL h1 h5).2.2.2.1
  · obtain ⟨s, i, a, h1, h2, h3, h4, h5⟩ := Ix_slot hI hj hk
    have h6 : i < (L s).length := by
      rcases Nat.lt_or_ge i (L s).length with q | q
      · exact q
      · rw [List.getElem?_eq_none q] at h3; cases h3
    refine ⟨off L s + i, ?_, ?_⟩
    · have := sumT_at (T := fun t => (L t).length) h1
      show sumT (fun t => (L t).length) s + i < sumT (fun t => (L t).length) n
      omega
    · rw [h2]; exact phi_at h1 h6
