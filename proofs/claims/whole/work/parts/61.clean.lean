theorem gl_sum {B : Nat → Int32} {e q : Nat} : ∀ {R : List Nat} {p : Nat}, Wk B e p R q → ((gl B e R).map (fun a => 16 + gln B a)).sum + p ≤ q := by
  intro R
  induction R with
  | nil => intro p h; rw [gl_nil]; cases h; simp
  | cons a R ih =>
    intro p h
    obtain ⟨h1, h2, h3⟩ := h
    subst h1
    have g := gsz_le h2
    have := ih h3
    by_cases hg : ggood B a e
    · rw [gl_good hg]
      have e1 : ((a :: gl B e R).map (fun a => 16 + gln B a)).sum = 16 + gln B a + ((gl B e R).map (fun a => 16 + gln B a)).sum := by simp
      rw [e1]
      omega
    · rw [gl_bad hg]
      omega
theorem sumR_list {f : Nat → Nat} : ∀ {L : List Nat} {h : Nat → Nat} {lo : Nat}, (∀ i a, L[i]? = some a → h (lo + i) = f a) → sumR h lo L.length = (L.map f).sum := by
  intro L
  induction L with
  | nil => intro h lo _; rfl
  | cons a L ih =>
    intro h lo hh
    have h0 : h lo = f a := hh 0 a rfl
    have h1 := ih (h := h) (lo := lo + 1) (fun i b hb => by
      have := hh (i + 1) b (by simpa using hb)
      rw [show lo + (i + 1) = lo + 1 + i by omega] at this
      exact this)
    show h lo + sumR h (lo + 1) L.length = _
    rw [h0, h1]
    simp
theorem sumR_cw {P : Nat → Prop} {w : Nat → Nat} : ∀ {d lo : Nat}, sumR (cw P w) lo d ≤ sumR w lo d := by
  intro d
  induction d with
  | zero => intro lo; exact Nat.le_refl _
  | succ d ih =>
    intro lo
    show cw P w lo + sumR (cw P w) (lo + 1) d ≤ w lo + sumR w (lo + 1) d
    have := ih (lo := lo + 1)
    by_cases h : P lo
    · rw [cw_t h]; omega
    · rw [cw_f h]; omega
section CN
variable {n k : Nat}
theorem surv_sum {zc : SS} {T : Nat → Nat} {R : Nat → List Nat} {s : Nat} (hW : Ws n (zc.2 7) T R) (hs : s < n) (hT : T s ≤ 200) : ((surv n zc (Lf (zc.2 7) R) s).map (fun v => 16 + gln (zc.2 7) v.2)).sum ≤ 200 := by
  unfold surv
  rw [List.map_map]
  have e : ((fun v : Nat × Nat => 16 + gln (zc.2 7) v.2) ∘ fun i => (s * 12 + i, (Lf (zc.2 7) R s).getD i 0)) = (fun i => 16 + gln (zc.2 7) ((Lf (zc.2 7) R s).getD i 0)) := by
    funext i; rfl
  rw [e, fl_sum]
  refine Nat.le_trans sumR_cw ?_
  rw [sumR_list (L := Lf (zc.2 7) R s) (f := fun a => 16 + gln (zc.2 7) a) (fun i a ha => by
    rw [Nat.zero_add, List.getD_eq_getElem?_getD, ha]
    rfl)]
  have := gl_sum (hW s hs)
  unfold Lf
  omega
theorem surv_row {zc : SS} {L : Nat → List Nat} {s j : Nat} {v : Nat × Nat} (h : (surv n zc L s)[j]? = some v) (hl : (L s).length ≤ 12) : ∃ q, q < 12 ∧ v.1 = s * 12 + q ∧ (L s)[q]? = some v.2 := by
  obtain ⟨i, h1, h2, h3⟩ := surv_mem (List.mem_of_getElem? h)
  exact ⟨i, by omega, h2, h3⟩
theorem a_wipe (hn : n ≤ 12) (hk : 3000 ≤ k) {s : Nat} (hs : s < n) {zc zm : SS} {T : Nat → Nat} {R : Nat → List Nat} (hC : CI n s zc zm T R) {rc : SS → Int32 → Int32 → Int32 → Int32 → Option (Int32 × SS)} {x1 x2 x4 : Int32} :
    ∃ z2 z3 zm', sg_wipe n k (si zc 24 0) (nI s) = some z2 ∧ ix_forget n k z2 (nI s) = some z3 ∧ rm_clean_b173 k rc k (si zm 8 0) x1 x2 x4 (nI s) 0 = rc zm' x1 x2 (x4 + 1) (nI (s + 1)) ∧ Base n z3 (updN T s 0) ∧ Eqv z3 zm' ∧ Op n z3 (updN T s 0) (updL R s []) ∧ z3.1 9 = 0 ∧ zm'.1 14 = 0 ∧ zm'.1 22 = zm.1 22 ∧ zm'.1 23 = zm.1 23 := by
  obtain ⟨hb, he, ho, h9, hws, hbs⟩ := hC
  obtain ⟨b1, b2, b3, b4, b5, b6, b7, b8, b9, b10, b11⟩ := hb
  obtain ⟨e1, e2, e3, e4, e5, e6, e7, e8, e9, e10, e11, e12, e13, e14, e15⟩ := he
  obtain ⟨o1, o2, o3, o4⟩ := ho
  obtain ⟨z2, f1, f2, f3, f4, f5⟩ := p_wipe (k := k) hn hk hs (si zc 24 0)
  obtain ⟨z3, g1, g2, g3, g4, g5⟩ := p_forget (k := k) hn hk hs z2
  obtain ⟨zm', m1, m2, m3, m4, m5, m6⟩ := m_wipe (k := k) (rc := rc) (x1 := x1) (x2 := x2) (x4 := x4) hn hs 200 k 0 (si zm 8 0) (by omega) (by omega)
  have m1 : rm_clean_b173 k rc k (si zm 8 0) x1 x2 x4 (nI s) 0 = _ := m1
  rw [si_a] at f3 f4 m2 m3
  rw [Nat.add_zero] at m2
  have c1 : ∀ x, x ≠ 24 → z3.1 x = zc.1 x := fun x hx => by rw [g2, f2, si_o hx]
  have c24 : z3.1 24 = 0 := by rw [g2, f2, si_s]
  have c7 : z3.2 7 = bw (zc.2 7) (s * 200) 200 (fun _ => 0) := by rw [g5 7 (by omega) (by omega), f3]
  have c8 : z3.2 8 = upd (zc.2 8) s 0 := by rw [g5 8 (by omega) (by omega), f4]
  have c10 : z3.2 10 = upd (zc.2 10) s 0 := by rw [g3, f5 10 (by omega) (by omega), si_a]
  have c12 : z3.2 12 = bw (zc.2 12) (s * 12) 12 (fun _ => -1) := by rw [g4, f5 12 (by omega) (by omega), si_a]
  have c2 : ∀ x, x ≠ 7 → x ≠ 8 → x ≠ 10 → x ≠ 12 → z3.2 x = zc.2 x := fun x x1 x2 x3 x4 => by rw [g5 x x3 x4, f5 x x1 x2, si_a]
  have n1 : ∀ x, x ≠ 8 → x ≠ 14 → zm'.1 x = zm.1 x := fun x x1 x2 => by rw [m5 x x2, si_o x1]
  have n2 : ∀ x, x ≠ 1 → x ≠ 2 → zm'.2 x = zm.2 x := fun x x1 x2 => by rw [m6 x x1 x2, si_a]
  have hsame : ∀ x, x < s * 200 ∨ s * 200 + 200 ≤ x → z3.2 7 x = zc.2 7 x := fun x hx => by rw [c7]; exact bw_out hx
  have hRo : ∀ t, t ≠ s → updL R s [] t = R t := fun t ht => if_neg ht
  have hRs : updL R s [] s = [] := if_pos rfl
  have hseg : ∀ t, t < n → t ≠ s → ∀ x, t * 200 ≤ x → x < t * 200 + T t → z3.2 7 x = zc.2 7 x := fun t ht hts x x1 x2 => by
    have := (b3 t ht).2
    exact hsame x (by omega)
  have hLo : ∀ t, t < n → t ≠ s → Lf (z3.2 7) (updL R s []) t = Lf (zc.2 7) R t := fun t ht hts => by
    have := (Lf_same (B' := z3.2 7) o1 ht (hseg t ht hts)).2
    unfold Lf at this ⊢
    rw [hRo t hts, this]
  have hLs : Lf (z3.2 7) (updL R s []) s = [] := by
    unfold Lf
    rw [hRs, gl_nil]
  have hrows : ∀ t, t < n → t ≠ s → ∀ a, a ∈ Lf (zc.2 7) R t → gkey (z3.2 7) a = gkey (zc.2 7) a ∧ gnum (z3.2 7) a = gnum (zc.2 7) a ∧ gln (z3.2 7) a = gln (zc.2 7) a ∧ z3.2 7 a = zc.2 7 a := fun t ht hts a ha => by
    obtain ⟨q1, q2⟩ := gl_mem ha
    have q3 := Wk_mem (o1 t ht) q1
    exact row_same q3.2.1 (fun x x1 x2 => hseg t ht hts x (by omega) (by omega))
  refine ⟨z2, z3, zm', f1, g1, m1, ?_, ?_, ?_, ?_, m4, n1 22 (by omega) (by omega), n1 23 (by omega) (by omega)⟩
  · unfold Base
    rw [c7, c8, c24, c1 20 (by omega), c1 5 (by omega), c1 8 (by omega), c1 25 (by omega), c1 10 (by omega), c2 5 (by omega) (by omega) (by omega) (by omega), c2 16 (by omega) (by omega) (by omega) (by omega), c2 17 (by omega) (by omega) (by omega) (by omega)]
    refine ⟨b1, bw_BOK b2 (fun i _ => ⟨0, by omega, rfl⟩), fun t ht => ?_, ⟨0, rfl, by omega, fun i hi => by omega⟩, b5, b6, b7, b8, b9, b10, b11⟩
    by_cases hts : t = s
    · subst hts; rw [pk_us, updN_s]; exact ⟨rfl, by omega⟩
    · rw [pk_un hts, updN_o hts]; exact b3 t ht
  · unfold Eqv
    rw [c7, c8, c24, c1 20 (by omega), c1 5 (by omega), c1 8 (by omega), c1 25 (by omega), c1 9 (by omega), c1 10 (by omega), c1 11 (by omega), c2 5 (by omega) (by omega) (by omega) (by omega), c2 9 (by omega) (by omega) (by omega) (by omega), c2 16 (by omega) (by omega) (by omega) (by omega), c2 17 (by omega) (by omega) (by omega) (by omega), m2, m3, n1 0 (by omega) (by omega), n1 4 (by omega) (by omega), n1 5 (by omega) (by omega), n1 6 (by omega) (by omega), n1 12 (by omega) (by omega), n1 13 (by omega) (by omega), n1 24 (by omega) (by omega), n1 25 (by omega) (by omega), n2 3 (by omega) (by omega), n2 4 (by omega) (by omega), n2 5 (by omega) (by omega), n2 6 (by omega) (by omega), m5 8 (by omega), si_s]
    exact ⟨e1, by rw [e2], by rw [e3], e4, e5, e6, e7, e8, e9, e10, rfl, e12, e13, e14, e15⟩
  · refine ⟨fun t ht => ?_, fun t ht h0 => ?_, fun t ht => ?_, fun t ht a ha => ?_⟩
    · by_cases hts : t = s
      · subst hts
        rw [hRs, updN_s]
        exact rfl
      · rw [hRo t hts, updN_o hts]
        exact (Lf_same o1 ht (hseg t ht hts)).1
    · by_cases hts : t = s
      · subst hts; exact updN_s
      · rw [updN_o hts]
        rw [hsame _ (by omega)] at h0
        exact o2 t ht h0
    · by_cases hts : t = s
      · subst hts
        rw [hLs]
        refine ⟨by rw [c10, pk_us]; rfl, by simp, fun i hi => ⟨(fun a ha => by simp at ha), fun _ => ?_⟩⟩
        rw [c12, bw_in hi]
      · rw [hLo t ht hts]
        obtain ⟨i1, i2, i3⟩ := o3 t ht
        refine ⟨by rw [c10, pk_un hts]; exact i1, i2, fun i hi => ⟨fun a ha => ?_, fun ha => ?_⟩⟩
        · obtain ⟨q1, q2, q3, q4, q5⟩ := (i3 i hi).1 a ha
          obtain ⟨r1, r2, r3, r4⟩ := hrows t ht hts a (List.mem_of_getElem? ha)
          unfold Sl
          rw [c12, bw_out (by omega), c2 11 (by omega) (by omega) (by omega) (by omega), c2 13 (by omega) (by omega) (by omega) (by omega), c2 14 (by omega) (by omega) (by omega) (by omega), c2 15 (by omega) (by omega) (by omega) (by omega), r1, r2, r3]
          refine ⟨q1, q2, q3, q4, ?_⟩
          rw [q5]
          unfold gG
          rw [r4]
        · rw [c12, bw_out (by omega)]
          exact (i3 i hi).2 ha
    · rw [c1 8 (by omega)]
      by_cases hts : t = s
      · subst hts
        rw [hLs] at ha
        cases ha
      · rw [hLo t ht hts] at ha
        rw [(hrows t ht hts a ha).2.1]
        exact o4 t ht a ha
  · rw [c1 9 (by omega)]; exact h9
theorem close_eq {zm : SS} {v : Int32} : rm_close k (si (si zm 8 0) 24 0) = rm_close k (si (si zm 4 v) 24 0) := by
  unfold rm_close
  have e : si (si (si (si (si (si zm 8 0) 24 0) 12 1) 8 0) 4 (-1)) 14 0 = si (si (si (si (si (si zm 4 v) 24 0) 12 1) 8 0) 4 (-1)) 14 0 := by
    apply Prod.ext
    · funext x
      by_cases h14 : x = 14
      · subst h14; rw [si_s, si_s]
      · rw [si_o h14, si_o h14]
        by_cases h4 : x = 4
        · subst h4; rw [si_s, si_s]
        · rw [si_o h4, si_o h4]
          by_cases h8 : x = 8
          · subst h8; rw [si_s, si_s]
          · rw [si_o h8, si_o h8]
            by_cases h12 : x = 12
            · subst h12; rw [si_s, si_s]
            · rw [si_o h12, si_o h12]
              by_cases h24 : x = 24
              · subst h24; rw [si_s, si_s]
              · rw [si_o h24, si_o h24, si_o h8, si_o h4]
    · rfl
  rw [e]
def KB (zm : SS) (x3 x4 : Int32) : Prop := (x3 = -1 ∧ zm.1 23 = -1) ∨ ∃ M c0, M < 2147483648 ∧ c0 ≤ M ∧ x3 = nI M ∧ x4 = nI c0 ∧ zm.1 23 = nI M ∧ zm.1 22 = nI c0
theorem RMo_ex {zc : SS} {T : Nat → Nat} (h : zc.1 25 = -1 ∨ ∃ w, w < n ∧ zc.1 25 = nI w) : ∃ room, RMo n zc T room := by
  rcases h with h | ⟨w, h1, h2⟩
  · exact ⟨0, Or.inl ⟨h, rfl⟩⟩
  · exact ⟨200 - T w, Or.inr ⟨w, h1, h2, rfl⟩⟩
theorem a_clean55 (hn : n ≤ 12) (hk : 3000 ≤ k) {pa wh x3 : Int32} : ∀ (d fu fu' s : Nat) (zc zm : SS) (x4 x5 : Int32) (T : Nat → Nat) (R : Nat → List Nat), s + d = n → d < fu → d < fu' → Base n zc T → Eqv zc zm → Op n zc T R → zc.1 9 = 0 → (zm.1 14 = 0 ∨ (zm.1 14 = 1 ∧ Kn n zm (Lf (zc.2 7) R))) → KB zm x3 x4 →
    ∃ r zc' zm', gs_clean_b55 n k fu zc pa wh x3 x4 x5 (nI s) = some (r, zc') ∧ rm_clean_b68 k fu' zm pa wh x5 (nI s) = some (r, zm') ∧ RelN n zc' zm' := by
  intro d
  induction d with
  | zero =>
    intro fu fu' s zc zm x4 x5 T R hs hf hf' hb he ho h9 h14 hKB
    cases fu with
    | zero => omega
    | succ fu =>
      cases fu' with
      | zero => omega
      | succ fu' =>
        have h1 : n ≤ s := by omega
        have g20 : zc.1 20 = nI n := hb.1
        have g0 : zm.1 0 = nI n := by rw [he.1, g20]
        simp (disch := omega) only [gs_clean_b55, rm_clean_b68, g20, g0, le_n, h1, if_true]
        exact ⟨_, _, _, rfl, rfl, T, R, hb, he, Or.inl ⟨h9, ho, h14⟩⟩
  | succ d ih =>
    intro fu fu' s zc zm x4 x5 T R hs hf hf' hb he ho h9 h14 hKB
    cases fu with
    | zero => omega
    | succ fu =>
    cases fu' with
    | zero => omega
    | succ fu' =>
      have h1 : ¬ n ≤ s := by omega
      have hsn : s < n := by omega
      have g20 : zc.1 20 = nI n := hb.1
      have g0 : zm.1 0 = nI n := by rw [he.1, g20]
      have e2 : zm.2 1 = zc.2 7 := he.2.1
      have e3 : zm.2 2 = zc.2 8 := he.2.2.1
      have e8 : zm.1 4 = zc.1 25 := he.2.2.2.2.2.2.2.1
      have b3 := hb.2.2.1
      have b8 := hb.2.2.2.2.2.2.2.1
      simp (disch := omega) only [gs_clean_b55, rm_clean_b68, gs_isDue, g20, g0, le_n, h1, if_false, p_isFree (z := zc) hn hsn, m_isFree (z := zm) hn hsn, bo_some, e2, na_1]
      have skip : ∃ r zc' zm', gs_clean_b55 n k fu zc pa wh x3 x4 x5 (nI (s + 1)) = some (r, zc') ∧ rm_clean_b68 k fu' zm pa wh x5 (nI (s + 1)) = some (r, zm') ∧ RelN n zc' zm' := ih fu fu' (s + 1) zc zm x4 x5 T R (by omega) (by omega) (by omega) hb he ho h9 h14 hKB
      by_cases hfree : zc.2 7 (s * 200) = 0
      · simp only [hfree, if_true]
        rw [ifz1, ifz1, bo_some, ifz0]
        exact skip
      · simp only [hfree, if_false, if_true]
        rw [e8]
        by_cases hw : nI s = zc.1 25
        · rw [if_pos hw, if_pos hw, bo_some, ifz0]
          exact skip
        · rw [if_neg hw, if_neg hw]
          simp (disch := omega) only [ck_n, tn_n, if_true]
          obtain ⟨z1, f1, f2, f3, f4, f5, f6, f7⟩ := Rel_know (k := k) (zm := zm) hn hk hb he ho h9 h14
          obtain ⟨v, hv, l1, l2⟩ := a_living (k := k) f3 hk hsn
          have hKB1 : KB z1 x3 x4 := by
            unfold KB at hKB ⊢
            rw [f7 23 (by omega) (by omega), f7 22 (by omega) (by omega)]
            exact hKB
          rw [l1, kn_living f1 f2, l2, bo_some, bi_some, f6 2 (by omega), e3]
          have skip1 : ∃ r zc' zm', gs_clean_b55 n k fu zc pa wh x3 x4 x5 (nI (s + 1)) = some (r, zc') ∧ rm_clean_b68 k fu' z1 pa wh x5 (nI (s + 1)) = some (r, zm') ∧ RelN n zc' zm' := ih fu fu' (s + 1) zc z1 x4 x5 T R (by omega) (by omega) (by omega) hb f4 ho h9 (Or.inr ⟨f2, f5⟩) hKB1
          by_cases hdue : (zc.2 8 s - nI v) * wh < pa * zc.2 8 s
          · rw [if_pos hdue, if_neg (Int32.not_le.mpr hdue), bo_some, ifz0]
            exact skip1
          · rw [if_neg hdue, if_pos (Int32.not_lt.mp hdue), bo_some, ifz1]
            obtain ⟨zc', zm', c1, c2, c3, c4, c5, c6, c7, c8, c9, c10⟩ := a_gather (k := k) f3 hk hsn
            rw [c1, c2, bo_some, bo_some]
            have hGL := GL_of ho.1 (fun s hs => (b3 s hs).2)
            have hz7 : zc'.2 7 = zc.2 7 := c6 7 (by omega)
            have hb2 : Base n zc' T := by
              unfold Base at hb ⊢
              rw [c6 7 (by omega), c6 8 (by omega), c6 9 (by omega), c6 5 (by omega), c6 16 (by omega), c6 17 (by omega), c7 20 (by omega), c7 24 (by omega), c7 5 (by omega), c7 8 (by omega), c7 25 (by omega), c7 10 (by omega)]
              exact hb
            have he2 : Eqv zc' zm' := by
              unfold Eqv at f4 ⊢
              rw [c6 7 (by omega), c6 8 (by omega), c6 9 (by omega), c6 5 (by omega), c6 16 (by omega), c6 17 (by omega), c7 20 (by omega), c7 24 (by omega), c7 5 (by omega), c7 8 (by omega), c7 25 (by omega), c7 10 (by omega), c7 9 (by omega), c7 11 (by omega), c8 1 (by omega) (by omega), c8 2 (by omega) (by omega), c8 3 (by omega) (by omega), c8 4 (by omega) (by omega), c8 5 (by omega) (by omega), c8 6 (by omega) (by omega), c9 0 (by omega), c9 4 (by omega), c9 5 (by omega), c9 6 (by omega), c9 8 (by omega), c9 12 (by omega), c9 13 (by omega), c9 24 (by omega), c9 25 (by omega)]
              exact f4
            have ho2 : Op n zc' T R := Op_fr (fun x hx => c6 x (by omega)) (c7 8 (by omega)) ho
            have h92 : zc'.1 9 = 0 := by rw [c7 9 (by omega)]; exact h9
            have hKn2 : zm'.1 14 = 1 ∧ Kn n zm' (Lf (zc'.2 7) R) := by
              rw [c9 14 (by omega), hz7]
              exact ⟨f2, Kn_fr (fun x hx => c8 x (by omega) (by omega)) (c9 15 (by omega)) f5⟩
            have hsum := surv_sum (n := n) (zc := zc) (T := T) (R := R) (s := s) ho.1 hsn (b3 s hsn).2
            obtain ⟨room, hroom⟩ := RMo_ex (n := n) (zc := zc') (T := T) (by rw [c7 25 (by omega)]; exact b8)
            have hlen12 := (hGL s hsn).1
            have hrow : ∀ (j : Nat) (v : Nat × Nat), (surv n zc (Lf (zc.2 7) R) s)[j]? = some v → v.1 < n * 12 ∧ zc'.2 14 v.1 = nI (gln (zc.2 7) v.2) ∧ gln (zc.2 7) v.2 ≤ 20 := fun j v hj => by
              obtain ⟨q, q1, q2, q3⟩ := surv_row hj hlen12
              obtain ⟨u1, u2, u3, u4, u5⟩ := ((ho.2.2.1 s hsn).2.2 q q1).1 v.2 q3
              have u6 := GL_row hGL hsn (List.mem_of_getElem? q3)
              rw [c6 14 (by omega), q2]
              exact ⟨by omega, u4, u6.2.2.1⟩
            obtain ⟨fl, r1, r2, r3⟩ := a_haveRoom (k := k) (zc := zc') (zm := zm') (T := T) (B := zc.2 7) (W := surv n zc (Lf (zc.2 7) R) s) hn hk hb2.1 (by rw [he2.1, hb2.1]) he2.2.1 he2.2.2.1 he2.2.2.2.2.2.2.2.1 hb2.2.2.1 hroom c5 c3 c4 (fun j v hj => ⟨(c10 j v hj).1, (c10 j v hj).2.2, hrow j v hj⟩) hsum
            rw [r1, r2, bo_some, bo_some]
            cases hHR : HR room fl ((surv n zc (Lf (zc.2 7) R) s).map (fun v => 16 + gln (zc.2 7) v.2)) with
            | false =>
              rw [show i01 false = 0 from rfl, ifz0, ifz0]
              exact ⟨_, _, _, rfl, rfl, T, R, hb2, he2, Or.inl ⟨h92, ho2, Or.inr hKn2⟩⟩
            | true =>
              rw [show i01 true = 1 from rfl, ifz1, ifz1]
              have hKB2 : KB zm' x3 x4 := by
                unfold KB at hKB1 ⊢
                rw [c9 23 (by omega), c9 22 (by omega)]
                exact hKB1
              have hmo : ∃ mo, mo < 2147483648 ∧ (∀ {rc : SS → Int32 → Int32 → Int32 → Int32 → Int32 → Int32 → Option (Int32 × SS)}, (if x3 = -1 then gs_clean_b112 n k rc zc' pa wh x3 x4 x5 (nI s) 200 else gs_clean_b112 n k rc zc' pa wh x3 x4 x5 (nI s) (x3 - x4)) = gs_clean_b112 n k rc zc' pa wh x3 x4 x5 (nI s) (nI mo)) ∧ BudR zm' mo 0 ((surv n zc (Lf (zc.2 7) R) s).map (fun v => 16 + gln (zc.2 7) v.2)).sum ∧ (∀ zz : SS, BudR zz mo ((surv n zc (Lf (zc.2 7) R) s).map (fun v => 16 + gln (zc.2 7) v.2)).sum 0 → ((surv n zc (Lf (zc.2 7) R) s).map (fun v => 16 + gln (zc.2 7) v.2)).sum ≤ mo → zz.1 23 = zm'.1 23 → KB zz x3 (x4 + nI ((surv n zc (Lf (zc.2 7) R) s).map (fun v => 16 + gln (zc.2 7) v.2)).sum)) := by
                rcases hKB2 with ⟨u1, u2⟩ | ⟨M, c0, u1, u2, u3, u4, u5, u6⟩
                · refine ⟨200, by omega, by intro rc; rw [if_pos u1]; rfl, Or.inl ⟨u2, rfl, by omega⟩, fun zz h1 h2 h3 => Or.inl ⟨u1, by rw [h3]; exact u2⟩⟩
                · refine ⟨M - c0, by omega, ?_, Or.inr ⟨M, c0, u1, u2, u5, by rw [u6, Nat.add_zero], rfl⟩, ?_⟩
                  · intro rc
                    rw [u3, if_neg (by rw [m1_ne u1]; exact fun q => q), u4, pk_sub u2]
                  · intro zz hz1 hz2 hz3
                    rcases hz1 with ⟨w1, w2, w3⟩ | ⟨M', c0', w1, w2, w3, w4, w5⟩
                    · rw [hz3, u5, m1_ne u1] at w1
                      exact w1.elim
                    · have hMM : M' = M := by
                        rw [hz3, u5, eq_n u1 w1] at w3
                        exact w3.symm
                      subst hMM
                      have hcc : c0' = c0 := by omega
                      subst hcc
                      exact Or.inr ⟨M', c0' + _, w1, by omega, u3, by rw [u4, nI_add], w3, w4⟩
              obtain ⟨mo, hmo1, hmo2, hmo3, hmo4⟩ := hmo
              rw [hmo2]
              unfold gs_clean_b112
              have hCI : CI n s zc' zm' T R := ⟨hb2, he2, ho2, h92, by rw [c7 25 (by omega)]; exact fun q => hw q.symm, by rw [hz7]; exact hfree⟩
              have hSV : SVf s zc' zm' R (gln (zc.2 7)) (surv n zc (Lf (zc.2 7) R) s) 0 := fun j v hj => by
                obtain ⟨u1, u2, u3⟩ := c10 j v hj
                obtain ⟨q, q1, q2, q3⟩ := surv_row hj hlen12
                rw [Nat.zero_add, hz7]
                exact ⟨u1, u2, u3, rfl, q, q1, q2, q3⟩
              have hRH : ((surv n zc (Lf (zc.2 7) R) s).map (fun v => 16 + gln (zc.2 7) v.2)).sum ≤ room ∨ (HR room fl ((surv n zc (Lf (zc.2 7) R) s).map (fun v => 16 + gln (zc.2 7) v.2)) = true ∧ (fl = true → ∃ f, f < n ∧ zc'.2 7 (f * 200) = 0 ∧ zc'.1 25 ≠ nI f)) := by
                by_cases hwf : ∃ w, w < n ∧ zc'.1 25 = nI w ∧ zc'.2 7 (w * 200) = 0
                · obtain ⟨w, w1, w2, w3⟩ := hwf
                  have hT0 := ho2.2.1 w w1 w3
                  rcases hroom with ⟨u1, u2⟩ | ⟨w', u1, u2, u3⟩
                  · rw [u1, eq_comm, m1_ne (by omega)] at w2
                    exact w2.elim
                  · rw [u2, eq_n (by omega) (by omega)] at w2
                    subst w2
                    exact Or.inl (by omega)
                · refine Or.inr ⟨hHR, fun hfl => ?_⟩
                  obtain ⟨f, q1, q2⟩ := r3 hfl
                  exact ⟨f, q1, q2, fun q => hwf ⟨f, q1, q, q2⟩⟩
              have hgo := a_copy (k := k) (g := gln (zc.2 7)) hn hk hsn hmo1 (surv n zc (Lf (zc.2 7) R) s) 0 0 k k room fl zc' zm' T R hCI (by omega) (by omega) (by omega) (by rw [Nat.zero_add]; exact c3) (by rw [Nat.zero_add]; exact c4) hSV hroom hRH hmo3 (by omega) (by omega)
              rw [Nat.zero_add] at hgo
              rcases hgo with ⟨zc2, zm2, T2, R2, a1, a2, a3, a4, a5, a5'⟩ | ⟨c, zc2, zm2, T2, a1, a2, a3, a4, a5, a6, a7⟩
              · have a1 : gs_copySurvivors n k zc' (nI mo) = _ := a1
                have a2 : rm_copyAll k zm' = _ := a2
                rw [a1, a2, bi_some, bo_some, if_pos (by rw [le_n (by omega) hmo1]; exact a5)]
                have h24 : zm2.1 24 = 0 := a3.2.1.2.2.2.2.2.2.2.2.2.2.2.2.2.1
                rw [if_pos h24]
                unfold sg_settle
                rw [bi_some]
                obtain ⟨z2, z3, zm3, w1, w2, w3, w4, w5, w6, w7, w8, w9, w10⟩ := a_wipe (k := k) (rc := rm_clean_b68 k fu') (x1 := pa) (x2 := wh) (x4 := x5) hn hk hsn a3
                rw [w1, bo_some, w2, bo_some, w3, na_1]
                have hKB3 : KB zm3 x3 (x4 + nI ((surv n zc (Lf (zc.2 7) R) s).map (fun v => 16 + gln (zc.2 7) v.2)).sum) := by
                  have := hmo4 zm2 a4 a5 a5'
                  unfold KB at this ⊢
                  rw [w9, w10]
                  exact this
                exact ih fu fu' (s + 1) z3 zm3 _ _ _ _ (by omega) (by omega) (by omega) w4 w5 w6 w7 (Or.inl w8) hKB3
              · have a3 : gs_copySurvivors n k zc' (nI mo) = _ := a3
                have a4 : rm_copyAll k zm' = _ := a4
                rw [a3, a4, bi_some, bo_some, if_neg (by rw [le_n a2 hmo1]; omega), a5, ifz1]
                obtain ⟨zc3, zm3, w1, w2, w3⟩ := a_shut (k := k) hn hk a6 a7
                rw [close_eq (v := zc2.1 25), w1, w2, bo_some, bo_some]
                exact ⟨_, _, _, rfl, rfl, w3⟩
theorem si_clean (hn : n ≤ 12) (hk : 3000 ≤ k) : Sim_clean n k (RelN n) := by
  intro zc zm a1 a2 a3 h
  have hR0 := Rel_f (v := 0) h
  obtain ⟨T, R, hb, he, hm⟩ := h
  have e12 := he.2.2.2.2.2.2.2.2.2.2.2.1
  unfold gs_clean rm_clean rm_in
  rw [e12]
  rcases hm with ⟨h9, ho, h14⟩ | ⟨h9, hc, h14⟩
  · rw [if_pos h9, if_pos h9]
    by_cases h1 : a2 < 1
    · rw [if_pos h1, if_pos h1, bo_some, ifz0]
      exact ⟨_, _, _, rfl, rfl, hR0⟩
    · rw [if_neg h1, if_neg h1]
      by_cases h2 : 100 < a2
      · rw [if_pos h2, if_pos h2, bo_some, ifz0]
        exact ⟨_, _, _, rfl, rfl, hR0⟩
      · rw [if_neg h2, if_neg h2, bo_some, ifz1]
        by_cases h3 : a1 < 0
        · rw [if_pos h3, if_pos h3, bo_some, ifz0]
          exact ⟨_, _, _, rfl, rfl, hR0⟩
        · rw [if_neg h3, if_neg h3]
          by_cases h4 : a2 < a1
          · rw [if_pos h4, if_pos h4, bo_some, ifz0]
            exact ⟨_, _, _, rfl, rfl, hR0⟩
          · rw [if_neg h4, if_neg h4, bo_some, ifz1]
            by_cases h5 : -1 ≤ a3
            · rw [if_pos h5, if_pos h5]
              unfold sg_settle
              rw [bi_some]
              obtain ⟨b1, b2, b3, b4, b5, b6, b7, b8, b9, b10, b11⟩ := hb
              obtain ⟨e1, e2, e3, e4, e5, e6, e7, e8, e9, e10, e11, e12, e13, e14, e15⟩ := he
              have hgo := a_clean55 (n := n) (k := k) (pa := a1) (wh := a2) (x3 := a3) hn hk n k k 0 (si zc 24 0) (si (si (si (si (si zm 1 0) 8 0) 22 0) 23 a3) 24 0) 0 0 T R (by omega) (by omega) (by omega) (by
                unfold Base
                simp (disch := omega) only [si_o, si_a]
                exact ⟨b1, b2, b3, ⟨0, si_s, by omega, fun i hi => by omega⟩, b5, b6, b7, b8, b9, b10, b11⟩) (by
                unfold Eqv
                simp (disch := omega) only [si_o, si_a, si_s]
                exact ⟨e1, e2, e3, e4, e5, e6, e7, e8, e9, e10, trivial, e12, e13, trivial, e15⟩) (Op_fr (fun x _ => by rw [si_a]) (by rw [si_o (by omega)]) ho) (by rw [si_o (by omega)]; exact h9) (by
                simp (disch := omega) only [si_o, si_a]
                exact h14.elim Or.inl (fun q => Or.inr ⟨q.1, Kn_fr (fun x _ => by simp only [si_a]) (by simp (disch := omega) only [si_o]) q.2⟩)) (by
                unfold KB
                simp (disch := omega) only [si_o, si_s]
                by_cases h6 : a3 = -1
                · exact Or.inl ⟨h6, h6⟩
                · have h7 : ¬ a3 < 0 := fun q => by
                    rw [i_le] at h5
                    rw [i_lt] at q
                    have q0 : (0 : Int32).toInt = 0 := by decide
                    rw [m1_ti] at h5
                    rw [q0] at q
                    exact h6 (Int32.toInt_inj.mp (by rw [m1_ti]; omega))
                  obtain ⟨M, hM, eM⟩ := nI_of h7
                  exact Or.inr ⟨M, 0, hM, by omega, eM, rfl, eM, rfl⟩)
              exact hgo
            · rw [if_neg h5, if_neg h5]
              exact ⟨_, _, _, rfl, rfl, hR0⟩
  · rw [h9, ifz1, ifz1]
    exact ⟨_, _, _, rfl, rfl, hR0⟩
end CN
