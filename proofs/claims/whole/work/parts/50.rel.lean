theorem bdF_1 {B : Nat → Int32} {e : Nat} {b : Int32} : ∀ {R : List Nat}, bdF B e R (1, b) = (1, b) := by
  intro R
  induction R with
  | nil => rfl
  | cons a R ih =>
    by_cases h : ggood B a e
    · rw [bdF_good h, ih]
    · rw [bdF_bad h]
      have e1 : bd1 1 = 1 := by decide
      have e2 : bd2 B e 1 b a = b := by unfold bd2; rw [if_neg (by decide)]
      rw [show ((1 : Int32), b).1 = 1 from rfl, show ((1 : Int32), b).2 = b from rfl, e1, e2, ih]
noncomputable def Lf (B : Nat → Int32) (R : Nat → List Nat) (s : Nat) : List Nat := gl B (s * 200 + 200) (R s)
def Ws (n : Nat) (B : Nat → Int32) (T : Nat → Nat) (R : Nat → List Nat) : Prop := ∀ s, s < n → Wk B (s * 200 + 200) (s * 200) (R s) (s * 200 + T s)
theorem Lf_len {n s : Nat} {B : Nat → Int32} {T : Nat → Nat} {R : Nat → List Nat} (h : Ws n B T R) (hT : T s ≤ 200) (hs : s < n) : (Lf B R s).length ≤ 12 ∧ (R s).length ≤ 12 := by
  have h1 := Wk_len (h s hs)
  have h2 := gl_len (B := B) (e := s * 200 + 200) (R := R s)
  have h3 : (Lf B R s).length ≤ (R s).length := h2
  exact ⟨by omega, by omega⟩
theorem GL_of {n : Nat} {B : Nat → Int32} {T : Nat → Nat} {R : Nat → List Nat} (h : Ws n B T R) (hT : ∀ s, s < n → T s ≤ 200) : GL n B (Lf B R) := by
  intro s hs
  refine ⟨(Lf_len h (hT s hs) hs).1, fun a ha => ?_⟩
  obtain ⟨h1, h2⟩ := gl_mem ha
  have h3 := Wk_mem (h s hs) h1
  have := hT s hs
  exact ⟨h3.1, by omega, h2⟩
section KNW
variable {n k : Nat} {B : Nat → Int32} {T : Nat → Nat} {R : Nat → List Nat}
theorem m_know20 (hn : n ≤ 12) (hk : 3000 ≤ k) (hBo : BOK B (n * 200)) (hW : Ws n B T R) (hT : ∀ s, s < n → T s ≤ 200) : ∀ (d fu s : Nat) (z : SS), s + d = n → d < fu → z.1 0 = nI n → z.2 1 = B → (∀ t, t < n → z.2 2 t = nI (T t)) → z.1 25 = 1 → z.1 15 = nI (off (Lf B R) s) → (∀ t, t < s → ∀ i a, (Lf B R t)[i]? = some a → Rw z (off (Lf B R) t + i) a) →
    ∃ z', rm_know_b20 k fu z (nI s) = some z' ∧ Kn n z' (Lf B R) ∧ (∀ x, x < 7 ∨ 11 < x → z'.2 x = z.2 x) ∧ (∀ x, x ≠ 15 → z'.1 x = z.1 x) := by
  have hGL := GL_of hW hT
  intro d
  induction d with
  | zero =>
    intro fu s z hs hf h0 hB h2 h25 h15 hR
    cases fu with
    | zero => omega
    | succ fu =>
      have h1 : n ≤ s := by omega
      simp (disch := omega) only [rm_know_b20, h0, le_n, h1, if_true]
      have : s = n := by omega
      subst this
      exact ⟨z, rfl, ⟨h15, hR⟩, fun x _ => rfl, fun x _ => rfl⟩
  | succ d ih =>
    intro fu s z hs hf h0 hB h2 h25 h15 hR
    cases fu with
    | zero => omega
    | succ fu =>
      have h1 : ¬ n ≤ s := by omega
      simp (disch := omega) only [rm_know_b20, h0, le_n, h1, if_false, ck_n, tn_n, if_true, h2 s (by omega), na_1]
      have hsn : s < n := by omega
      have hT1 := hT s hsn
      have hoff : off (Lf B R) (s + 1) = off (Lf B R) s + (gl B (s * 200 + 200) (R s)).length := rfl
      have hle : off (Lf B R) (s + 1) ≤ off (Lf B R) n := sumT_mono (by omega)
      have h144 := off_le hn hGL
      obtain ⟨z', f1, f2, f3, f4, f5, f6, f7, f8⟩ := m_look2 (k := k) (B := B) (s := s) (q := s * 200 + T s) (le := T s) hn hk hsn hBo hT1 (Nat.le_refl _) (Or.inl rfl) (R s) 0 k (off (Lf B R) s) z hB (Or.inr h25) (hW s hsn) (by omega) h15 (by omega) (by have := (Lf_len hW hT1 hsn).2; omega)
      unfold rm_lookAt
      rw [show nI 0 = (0 : Int32) from rfl] at f1
      rw [f1, bi_some]
      have hX : bdX B (s * 200 + 200) (s * 200 + T s) (s * 200 + T s) (bdF B (s * 200 + 200) (R s) (z.1 25, z.1 13)) = (1, z.1 13) := by
        rw [h25, bdF_1]
        unfold bdX
        rw [if_neg (fun h => by omega)]
      rw [hX] at f6 f7
      have hz1 : z'.2 1 = B := by rw [f5 1 (by omega), hB]
      obtain ⟨z'', g1, g2, g3, g4⟩ := ih fu (s + 1) z' (by omega) (by omega) (by rw [f8 0 (by omega) (by omega) (by omega), h0]) hz1 (fun t ht => by rw [f5 2 (by omega)]; exact h2 t ht) f6 (by rw [f2, hoff]) (fun t ht i a hi => by
        by_cases hts : t = s
        · subst hts
          exact f3 i a hi
        · have h3 := hR t (by omega) i a hi
          have hil : i < (Lf B R t).length := by
            rcases Nat.lt_or_ge i (Lf B R t).length with q | q
            · exact q
            · rw [List.getElem?_eq_none q] at hi; cases hi
          have hlt : off (Lf B R) t + i < off (Lf B R) s := by
            have := sumT_at (T := fun t => (Lf B R t).length) (s := t) (n := s) (by omega)
            show sumT (fun t => (Lf B R t).length) t + i < sumT (fun t => (Lf B R t).length) s
            omega
          unfold Rw at h3 ⊢
          rw [hB] at h3
          rw [f4 7 _ hlt, f4 8 _ hlt, f4 9 _ hlt, f4 10 _ hlt, f4 11 _ hlt, hz1]
          exact h3)
      refine ⟨z'', g1, g2, fun x hx => by rw [g3 x hx, f5 x hx], fun x hx => ?_⟩
      rw [g4 x hx]
      by_cases h13 : x = 13
      · subst h13; exact f7
      · by_cases h25x : x = 25
        · subst h25x; rw [f6, h25]
        · exact f8 x h13 hx h25x
theorem m_know (hn : n ≤ 12) (hk : 3000 ≤ k) (hBo : BOK B (n * 200)) (hW : Ws n B T R) (hT : ∀ s, s < n → T s ≤ 200) {z : SS} (h0 : z.1 0 = nI n) (hB : z.2 1 = B) (h2 : ∀ t, t < n → z.2 2 t = nI (T t)) (h25 : z.1 25 = 1) (h14 : z.1 14 = 0 ∨ (z.1 14 = 1 ∧ Kn n z (Lf B R))) :
    ∃ z', rm_know k z = some z' ∧ z'.1 14 = 1 ∧ Kn n z' (Lf B R) ∧ (∀ x, x < 7 ∨ 11 < x → z'.2 x = z.2 x) ∧ (∀ x, x ≠ 14 → x ≠ 15 → z'.1 x = z.1 x) := by
  rcases h14 with h | ⟨h, hK⟩
  · unfold rm_know
    rw [if_pos h]
    obtain ⟨z', e1, e2, e3, e4⟩ := m_know20 (k := k) hn hk hBo hW hT n k 0 (si (si z 14 1) 15 0) (by omega) (by omega) (by rw [si_o (by omega), si_o (by omega)]; exact h0) hB h2 (by rw [si_o (by omega), si_o (by omega)]; exact h25) si_s (fun t ht => by omega)
    refine ⟨z', e1, by rw [e4 14 (by omega), si_o (by omega), si_s], e2, fun x hx => by rw [e3 x hx]; rfl, fun x h14 h15 => by rw [e4 x h15, si_o h15, si_o h14]⟩
  · exact ⟨z, m_know1 h, h, hK, fun x _ => rfl, fun x _ _ => rfl⟩
end KNW
theorem kn_rowOf {k : Nat} {z z1 : SS} (h : rm_know k z = some z1) (h14 : z1.1 14 = 1) (K M : Int32) : rm_rowOf k z K M = rm_rowOf k z1 K M := by
  unfold rm_rowOf
  rw [h, m_know1 h14]
theorem kn_has {k : Nat} {z z1 : SS} (h : rm_know k z = some z1) (h14 : z1.1 14 = 1) (K M : Int32) : rm_has k z K M = rm_has k z1 K M := by
  unfold rm_has
  rw [kn_rowOf h h14]
theorem kn_living {k : Nat} {z z1 : SS} (h : rm_know k z = some z1) (h14 : z1.1 14 = 1) (s : Int32) : rm_livingIn k z s = rm_livingIn k z1 s := by
  unfold rm_livingIn
  rw [h, m_know1 h14]
theorem kn_choose {k : Nat} {z z1 : SS} (h : rm_know k z = some z1) (h14 : z1.1 14 = 1) (s : Int32) : rm_choose k z s = rm_choose k z1 s := by
  unfold rm_choose
  rw [h, m_know1 h14]
theorem kn_keys {k : Nat} {z z1 : SS} (hk : 3000 ≤ k) (h : rm_know k z = some z1) (h14 : z1.1 14 = 1) : rm_keysNow k z = rm_keysNow k z1 := by
  unfold rm_keysNow
  obtain ⟨j, rfl⟩ : ∃ j, k = j + 1 := ⟨k - 1, by omega⟩
  have e : ∀ w : SS, rm_keysNow_b4 (j + 1) (j + 1) w 0 0 = (bi (rm_has (j + 1) w 0 2147483647) fun r_1 z_1 => (if r_1 < 0 then rm_keysNow_b4 (j + 1) j z_1 0 (0 + 1) else rm_keysNow_b4 (j + 1) j z_1 (0 + 1) (0 + 1))) := by
    intro w
    simp only [rm_keysNow_b4]
    rw [if_neg (by decide)]
  rw [e, e, kn_has h h14]
def Base (n : Nat) (zc : SS) (T : Nat → Nat) : Prop :=
  zc.1 20 = nI n ∧ BOK (zc.2 7) (n * 200) ∧ (∀ s, s < n → zc.2 8 s = nI (T s) ∧ T s ≤ 200) ∧ (∃ H, zc.1 24 = nI H ∧ H ≤ sumT T n ∧ ∀ i, i < H → ∃ c, c < n * 200 ∧ zc.2 9 i = nI c) ∧ (∃ c, c ≤ 20 ∧ zc.1 5 = nI c) ∧ (∀ i, i < 20 → ∃ b, b < 256 ∧ zc.2 5 i = nI b) ∧ ¬ zc.1 8 < 0 ∧ (zc.1 25 = -1 ∨ ∃ w, w < n ∧ zc.1 25 = nI w) ∧ (∀ i, i < 4 → zc.2 16 i = 0 ∨ zc.2 16 i = 1) ∧ (∀ i, i < 4 → ¬ zc.2 17 i < 0) ∧ (zc.1 10 = 0 ∨ zc.1 10 = 1)
def Eqv (zc zm : SS) : Prop :=
  zm.1 0 = zc.1 20 ∧ zm.2 1 = zc.2 7 ∧ zm.2 2 = zc.2 8 ∧ zm.2 3 = zc.2 5 ∧ zm.2 4 = zc.2 9 ∧ zm.2 5 = zc.2 16 ∧ zm.2 6 = zc.2 17 ∧ zm.1 4 = zc.1 25 ∧ zm.1 5 = zc.1 8 ∧ zm.1 6 = zc.1 5 ∧ zm.1 8 = zc.1 24 ∧ zm.1 12 = zc.1 9 ∧ zm.1 13 = (if zc.1 10 = 0 then -1 else zc.1 11) ∧ zm.1 24 = 0 ∧ zm.1 25 = 1
def Op (n : Nat) (zc : SS) (T : Nat → Nat) (R : Nat → List Nat) : Prop :=
  Ws n (zc.2 7) T R ∧ (∀ s, s < n → zc.2 7 (s * 200) = 0 → T s = 0) ∧ Ix n zc (Lf (zc.2 7) R) ∧ NL n (zc.2 7) (Lf (zc.2 7) R) (zc.1 8)
def Cl (n : Nat) (zc : SS) : Prop := zc.1 24 = 0 ∧ zc.1 25 = -1 ∧ Ix n zc (fun _ => []) ∧ (∀ i, i < 4 → zc.2 16 i = 0)
def Md (n : Nat) (zc zm : SS) (T : Nat → Nat) (R : Nat → List Nat) : Prop :=
  (zc.1 9 = 0 ∧ Op n zc T R ∧ (zm.1 14 = 0 ∨ (zm.1 14 = 1 ∧ Kn n zm (Lf (zc.2 7) R)))) ∨ (zc.1 9 = 1 ∧ Cl n zc ∧ zm.1 14 = 0)
def RelN (n : Nat) (zc zm : SS) : Prop := ∃ T R, Base n zc T ∧ Eqv zc zm ∧ Md n zc zm T R
theorem Rel_know {n k : Nat} (hn : n ≤ 12) (hk : 3000 ≤ k) {zc zm : SS} {T : Nat → Nat} {R : Nat → List Nat} (hb : Base n zc T) (he : Eqv zc zm) (ho : Op n zc T R) (h9 : zc.1 9 = 0) (h14 : zm.1 14 = 0 ∨ (zm.1 14 = 1 ∧ Kn n zm (Lf (zc.2 7) R))) : ∃ zm1, rm_know k zm = some zm1 ∧ zm1.1 14 = 1 ∧ KK n zc zm1 (Lf (zc.2 7) R) ∧ Eqv zc zm1 ∧ Kn n zm1 (Lf (zc.2 7) R) ∧ (∀ x, x < 7 ∨ 11 < x → zm1.2 x = zm.2 x) ∧ (∀ x, x ≠ 14 → x ≠ 15 → zm1.1 x = zm.1 x) := by
  obtain ⟨b1, b2, b3, _⟩ := hb
  obtain ⟨e1, e2, e3, e4, e5, e6, e7, e8, e9, e10, e11, e12, e13, e14, e15⟩ := he
  obtain ⟨o1, o2, o3, o4⟩ := ho
  obtain ⟨z1, f1, f2, f3, f4, f5⟩ := m_know (k := k) (z := zm) hn hk b2 o1 (fun s hs => (b3 s hs).2) (by rw [e1, b1]) e2 (fun t ht => by rw [e3]; exact (b3 t ht).1) e15 h14
  refine ⟨z1, f1, f2, ⟨hn, ?_, ?_, ?_, GL_of o1 (fun s hs => (b3 s hs).2), o3, f3, f2⟩, ?_, f3, f4, f5⟩
  · rw [f4 1 (by omega), e2]
  · rw [f4 5 (by omega), e6]
  · rw [f4 6 (by omega), e7]
  · unfold Eqv
    rw [f4 1 (by omega), f4 2 (by omega), f4 3 (by omega), f4 4 (by omega), f4 5 (by omega), f4 6 (by omega), f5 0 (by omega) (by omega), f5 4 (by omega) (by omega), f5 5 (by omega) (by omega), f5 6 (by omega) (by omega), f5 8 (by omega) (by omega), f5 12 (by omega) (by omega), f5 13 (by omega) (by omega), f5 24 (by omega) (by omega), f5 25 (by omega) (by omega)]
    exact ⟨e1, e2, e3, e4, e5, e6, e7, e8, e9, e10, e11, e12, e13, e14, e15⟩
theorem Eqv_f {zc zm : SS} {v : Int32} (h : Eqv zc zm) : Eqv zc (si zm 1 v) := by
  unfold Eqv at h ⊢
  simp (disch := omega) only [si_o, si_a]
  exact h
theorem Kn_f {n : Nat} {zm : SS} {L : Nat → List Nat} {v : Int32} (h : Kn n zm L) : Kn n (si zm 1 v) L := by
  refine ⟨by rw [si_o (by omega)]; exact h.1, fun s hs i a ha => h.2 s hs i a ha⟩
theorem Md_f {n : Nat} {zc zm : SS} {T : Nat → Nat} {R : Nat → List Nat} {v : Int32} (h : Md n zc zm T R) : Md n zc (si zm 1 v) T R := by
  unfold Md at h ⊢
  rw [si_o (by omega)]
  rcases h with ⟨h1, h2, h3⟩ | h
  · exact Or.inl ⟨h1, h2, h3.elim Or.inl (fun q => Or.inr ⟨q.1, Kn_f q.2⟩)⟩
  · exact Or.inr h
theorem Rel_f {n : Nat} {zc zm : SS} {v : Int32} (h : RelN n zc zm) : RelN n zc (si zm 1 v) := by
  obtain ⟨T, R, h1, h2, h3⟩ := h
  exact ⟨T, R, h1, Eqv_f h2, Md_f h3⟩
