section PU
variable {n k : Nat}
theorem p_w77 (hn : n ≤ 12) {z : SS} {w t H m : Nat} {D : Nat → Int32} (hw : w < n) (h25 : z.1 25 = nI w) (h41 : z.1 41 = nI m) (hm : m ≤ 36) (ht : t + m ≤ 200) (hH : H + m ≤ n * 200) (hD : ∀ i, i < m → z.2 18 i = D i) : ∀ (d fu i : Nat) (z' : SS), i + d = m → d < fu → App z z' w t H i D → ∃ zA, App z zA w t H m D ∧ gs_writeRow_b77 n k fu z' (nI w) (nI (w * 200 + t)) (nI i) = (bo (ix_add_7 n k zA (nI w) (nI (w * 200 + t))) fun z_1 => some (((z_1.1 8) + 1), (si z_1 8 ((z_1.1 8) + 1)))) := by
  intro d
  induction d with
  | zero =>
    intro fu i z' hi hf hA
    cases fu with
    | zero => omega
    | succ fu =>
      have h1 : m ≤ i := by omega
      have g41 : z'.1 41 = nI m := by rw [hA.2.2.2.2.1 41 (by omega), h41]
      simp (disch := omega) only [gs_writeRow_b77, g41, le_n, h1, if_true]
      have : i = m := by omega
      subst this
      exact ⟨z', hA, rfl⟩
  | succ d ih =>
    intro fu i z' hi hf hA
    cases fu with
    | zero => omega
    | succ fu =>
      have h1 : ¬ m ≤ i := by omega
      have g41 : z'.1 41 = nI m := by rw [hA.2.2.2.2.1 41 (by omega), h41]
      have g18 : z'.2 18 i = D i := by rw [hA.2.2.2.2.2 18 (by omega), hD i (by omega)]
      simp (disch := omega) only [gs_writeRow_b77, g41, le_n, h1, if_false, ck_n, tn_n, if_true, na_1, g18]
      obtain ⟨z'', e1, e2⟩ := App_s (k := k) hn hA hw h25 (by omega) (by omega) (x := D i) rfl
      rw [e1, bo_some]
      exact ih fu (i + 1) z'' (by omega) (by omega) e2
theorem a_write (hn : n ≤ 12) (hk : 3000 ≤ k) {zc zm : SS} {T : Nat → Nat} {R : Nat → List Nat} (hb : Base n zc T) (he : Eqv zc zm) (ho : Op n zc T R) (h9 : zc.1 9 = 0) (h14 : zm.1 14 = 0 ∨ (zm.1 14 = 1 ∧ Kn n zm (Lf (zc.2 7) R))) {kd K cnt : Nat} (hkd : kd = 1 ∨ (kd = 2 ∧ cnt = 0)) (hK : K < 1000) (hcnt : cnt ≤ 20) :
    ∃ r zc' zm', gs_writeRow n k zc (nI kd) (nI K) (nI cnt) = some (r, zc') ∧ rm_add k zm (nI kd) (nI K) (nI cnt) = some (r, zm') ∧ RelN n zc' zm' ∧ (r = -4 ∨ (r ≠ -4 ∧ ¬ r ≤ 0)) := by
  have hb' := hb
  have he' := he
  have ho' := ho
  obtain ⟨b1, b2, b3, ⟨H, b4, b4', b4''⟩, b5, b6, b7, b8, b9, b10, b11⟩ := hb
  obtain ⟨e1, e2, e3, e4, e5, e6, e7, e8, e9, e10, e11, e12, e13, e14, e15⟩ := he
  obtain ⟨o1, o2, o3, o4⟩ := ho
  have hkd2 : kd < 256 := by omega
  unfold gs_writeRow rm_add rf_bytesWith
  rw [e9]
  obtain ⟨l, hl, el⟩ := nI_of b7
  rw [el]
  by_cases hmax : nI l = 2147483647
  · rw [if_pos hmax, if_pos hmax]
    exact ⟨_, _, _, rfl, rfl, ⟨T, R, hb', he', Or.inl ⟨h9, ho', h14⟩⟩, Or.inl rfl⟩
  · rw [if_neg hmax, if_neg hmax]
    have hl2 : l + 1 < 2147483648 := by
      rcases Nat.lt_or_ge (l + 1) 2147483648 with q | q
      · exact q
      · exfalso
        have : l = 2147483647 := by omega
        subst this
        exact hmax rfl
    simp (disch := omega) only [an_8, na_8, bo_some, na_1]
    rw [show 8 + cnt + 8 = 16 + cnt by omega]
    rcases a_room (k := k) (zc := zc) (zm := zm) hn hk b1 (by rw [e1, b1]) e2 e3 e8 b3 b8 o2 (m := 16 + cnt) (by omega) (by omega) with ⟨r1, r2⟩ | ⟨w, zm1, r1, r2, r3, r4, r5, r6, r7, r8⟩
    · rw [r1, r2, bo_some, bi_some, if_pos rfl, ifz0]
      exact ⟨_, _, _, rfl, rfl, ⟨T, R, hb', he', Or.inl ⟨h9, ho', h14⟩⟩, Or.inl rfl⟩
    · rw [r4, r5, bo_some, bi_some, ifz1]
      rw [if_neg (show ¬ nI w = -1 by rw [m1_ne (by omega)]; exact fun q => q)]
      obtain ⟨z3, d1, d2, d3, d4, d5⟩ := p_make (n := n) (k := k) (z := zc) (N := l + 1) hk hkd2 hK hl2 hcnt b6
      obtain ⟨m3, f1, f2, f3, f4⟩ := m_make (k := k) (z := zm1) (N := l + 1) (kd := kd) hk hK hl2 (by rw [r8 5 (by omega), e9, el, na_1]) hcnt
      have hD : zm1.2 3 = zc.2 5 := by rw [r7, e4]
      rw [hD] at f2
      rw [d1, bo_some, f1, bo_some]
      have t1 := (b3 w r1).1
      have hTw := (b3 w r1).2
      have hend : sg_endOf n k (si z3 25 (nI w)) (nI w) = some (nI (w * 200 + T w)) := by
        unfold sg_endOf
        simp (disch := omega) only [ck_n, tn_n, if_true, si_a, d5 8 (by omega), t1, nm_200, nI_add]
      rw [hend, bo_some]
      have hHm : H + (16 + cnt) ≤ n * 200 := by
        have q1 := sumT_upd (T := T) (s := w) (v := T w + (16 + cnt)) (n := n) r1
        have q2 := sumT_le (T := updN T w (T w + (16 + cnt))) (c := 200) (n := n) (fun s hs => by
          by_cases hsw : s = w
          · subst hsw; rw [updN_s]; omega
          · rw [updN_o hsw]; exact (b3 s hs).2)
        omega
      have hz41 : (si z3 25 (nI w)).1 41 = nI (16 + cnt) := by rw [si_o (by omega), d2]
      have hz18 : ∀ i, i < 16 + cnt → (si z3 25 (nI w)).2 18 i = rowD kd K (l + 1) cnt (zc.2 5) i := fun i hi => by
        rw [si_a, d3]
        have := bw_in (B := zc.2 18) (D := rowD kd K (l + 1) cnt (zc.2 5)) (p := 0) hi
        rw [Nat.zero_add] at this
        exact this
      obtain ⟨zA, hA, eA⟩ := p_w77 (k := k) (z := si z3 25 (nI w)) (t := T w) (H := H) hn r1 si_s hz41 (by omega) (by omega) hHm hz18 (16 + cnt) k 0 (si z3 25 (nI w)) (by omega) (by omega) (App_0 (by rw [si_a, d5 8 (by omega)]; exact t1) (by rw [si_o (by omega), d4 24 (by omega), b4]))
      have eA : gs_writeRow_b77 n k k (si z3 25 (nI w)) (nI w) (nI (w * 200 + T w)) 0 = _ := eA
      rw [eA]
      obtain ⟨y, hM, eM⟩ := m_writeRow (k := k) (z := si m3 23 (-1)) (w := w) (t := T w) (H := H) (m := 16 + cnt) (h := 16 + cnt) (D := rowD kd K (l + 1) cnt (zc.2 5)) hn hk r1 (by rw [si_o (by omega), f3, r6]) (by rw [si_a, f4 2 (by omega), r7, e3]; exact t1) (by rw [si_o (by omega), f3, r8 8 (by omega), e11, b4]) (by omega) (by omega) hHm (fun i hi => by
        rw [si_a, f2]
        have := bw_in (B := zm1.2 12) (D := rowD kd K (l + 1) cnt (zc.2 5)) (p := 0) hi
        rw [Nat.zero_add] at this
        exact this) (by rw [si_o (by omega), f3, r8 24 (by omega), e14]) (Or.inl ⟨by rw [si_s]; decide, rfl⟩)
      rw [if_neg (Nat.lt_irrefl _)] at eM
      rw [eM, bo_some]
      have hA' := hA
      obtain ⟨p1, p2, p3, p4, p5, p6⟩ := hA
      obtain ⟨q1, q2, q3, q4, q5, q6, q7⟩ := hM
      have z4_7 : (si z3 25 (nI w)).2 7 = zc.2 7 := by rw [si_a, d5 7 (by omega)]
      have hrow := row_good (B := zA.2 7) (a := w * 200 + T w) (e := w * 200 + 200) (c := zc.2 5) hkd hK (Nat.succ_pos l) hl2 hcnt (fun i hi => by rw [p1]; exact bw_in hi) (by omega)
      have hBok : BOK (zA.2 7) (n * 200) := by
        rw [p1, z4_7]
        exact bw_BOK b2 (fun i hi => rowD_byte hkd2 hK (fun i hi => b6 i (by omega)) hcnt i)
      obtain ⟨zc2, g1, g2, g3, g4, g5, g6, g7, g8⟩ := op_add (k := k) (zc := si z3 25 (nI w)) (zc1 := zA) (T := T) (R := R) hn (fun s hs => (b3 s hs).2) hBok (by rw [z4_7]; exact o1) (by rw [z4_7]; exact o2) (by
        rw [z4_7]
        exact Ix_fr (fun x hx => by rw [si_a, d5 x (by omega)]) o3) r1 rfl (by omega) hA' hrow.1 hrow.2.1
      rw [g1, bo_some]
      have hz8 : zc2.1 8 = nI l := by rw [g2, p5 8 (by omega), si_o (by omega), d4 8 (by omega), el]
      have hy5 : y.1 5 = nI l := by rw [q6 5 (by omega) (by omega), si_o (by omega), f3, r8 5 (by omega), e9, el]
      rw [hz8, hy5, na_1]
      have c1 : ∀ x, x ≠ 8 → x ≠ 24 → x ≠ 25 → x ≠ 41 → (si zc2 8 (nI (l + 1))).1 x = zc.1 x := fun x x1 x2 x3 x4 => by
        rw [si_o x1, g2, p5 x x2, si_o x3, d4 x x4]
      have c2 : ∀ x, x < 7 ∨ 15 < x → x ≠ 18 → (si zc2 8 (nI (l + 1))).2 x = zc.2 x := fun x x1 x2 => by
        rw [si_a, g3 x (by omega), p6 x (by omega), si_a, d5 x x2]
      have c7 : (si zc2 8 (nI (l + 1))).2 7 = zA.2 7 := by rw [si_a, g3 7 (by omega)]
      have c8 : (si zc2 8 (nI (l + 1))).2 8 = upd (zc.2 8) w (nI (T w + (16 + cnt))) := by rw [si_a, g3 8 (by omega), p2, si_a, d5 8 (by omega)]
      have c9 : (si zc2 8 (nI (l + 1))).2 9 = bw (zc.2 9) H (16 + cnt) (fun i => nI (w * 200 + T w + i)) := by rw [si_a, g3 9 (by omega), p3, si_a, d5 9 (by omega)]
      have c24 : (si zc2 8 (nI (l + 1))).1 24 = nI (H + (16 + cnt)) := by rw [si_o (by omega), g2, p4]
      have c25 : (si zc2 8 (nI (l + 1))).1 25 = nI w := by rw [si_o (by omega), g2, p5 25 (by omega), si_s]
      have n1 : ∀ x, x ≠ 4 → x ≠ 5 → x ≠ 8 → x ≠ 14 → x ≠ 22 → x ≠ 23 → (si (si y 5 (nI (l + 1))) 14 0).1 x = zm.1 x := fun x x1 x2 x3 x4 x5 x6 => by
        rw [si_o x4, si_o x2, q6 x x3 x5, si_o x6, f3, r8 x x1]
      have n2 : ∀ x, x ≠ 1 → x ≠ 2 → x ≠ 4 → x ≠ 12 → (si (si y 5 (nI (l + 1))) 14 0).2 x = zm.2 x := fun x x1 x2 x3 x4 => by
        rw [si_a, si_a, q7 x x1 x2 x3, si_a, f4 x x4, r7]
      refine ⟨_, _, _, rfl, rfl, ⟨updN T w (T w + (16 + cnt)), updL R w (R w ++ [w * 200 + T w]), ?_, ?_, Or.inl ⟨?_, ?_, Or.inl si_s⟩⟩, Or.inr ⟨?_, ?_⟩⟩
      · unfold Base
        rw [c7, c8, c9, c24, c25, si_s, c1 20 (by omega) (by omega) (by omega) (by omega), c1 5 (by omega) (by omega) (by omega) (by omega), c1 10 (by omega) (by omega) (by omega) (by omega), c2 5 (by omega) (by omega), c2 16 (by omega) (by omega), c2 17 (by omega) (by omega)]
        refine ⟨b1, hBok, fun s hs => ?_, ⟨H + (16 + cnt), rfl, ?_, fun i hi => ?_⟩, b5, b6, nI_pos hl2, Or.inr ⟨w, r1, rfl⟩, b9, b10, b11⟩
        · by_cases hsw : s = w
          · subst hsw; rw [pk_us, updN_s]; exact ⟨rfl, by omega⟩
          · rw [pk_un hsw, updN_o hsw]; exact b3 s hs
        · have := sumT_upd (T := T) (s := w) (v := T w + (16 + cnt)) (n := n) r1
          omega
        · by_cases hiH : i < H
          · rw [bw_out (by omega)]; exact b4'' i hiH
          · have : i = H + (i - H) := by omega
            rw [this, bw_in (by omega)]
            exact ⟨w * 200 + T w + (i - H), by omega, rfl⟩
      · unfold Eqv
        rw [c7, c8, c9, c24, c25, si_s, c1 20 (by omega) (by omega) (by omega) (by omega), c1 5 (by omega) (by omega) (by omega) (by omega), c1 9 (by omega) (by omega) (by omega) (by omega), c1 10 (by omega) (by omega) (by omega) (by omega), c1 11 (by omega) (by omega) (by omega) (by omega), c2 5 (by omega) (by omega), c2 16 (by omega) (by omega), c2 17 (by omega) (by omega), n1 0 (by omega) (by omega) (by omega) (by omega) (by omega) (by omega), n1 6 (by omega) (by omega) (by omega) (by omega) (by omega) (by omega), n1 12 (by omega) (by omega) (by omega) (by omega) (by omega) (by omega), n1 13 (by omega) (by omega) (by omega) (by omega) (by omega) (by omega), n1 24 (by omega) (by omega) (by omega) (by omega) (by omega) (by omega), n1 25 (by omega) (by omega) (by omega) (by omega) (by omega) (by omega), n2 3 (by omega) (by omega) (by omega) (by omega), n2 5 (by omega) (by omega) (by omega) (by omega), n2 6 (by omega) (by omega) (by omega) (by omega)]
        refine ⟨e1, ?_, ?_, e4, ?_, e6, e7, ?_, ?_, e10, ?_, e12, e13, e14, e15⟩
        · rw [si_a, si_a, q1, si_a, f4 1 (by omega), r7, e2, p1, z4_7]
        · rw [si_a, si_a, q2, si_a, f4 2 (by omega), r7, e3]
        · rw [si_a, si_a, q3, si_a, f4 4 (by omega), r7, e5]
        · rw [si_o (by omega), si_o (by omega), q6 4 (by omega) (by omega), si_o (by omega), f3, r6]
        · rw [si_o (by omega), si_s]
        · rw [si_o (by omega), si_o (by omega), q4]
      · rw [c1 9 (by omega) (by omega) (by omega) (by omega)]; exact h9
      · unfold Op
        rw [c7, si_s]
        refine ⟨g4, g5, Ix_fr (fun x hx => by rw [si_a]) g6, g8 _ ?_ ?_⟩
        · rw [z4_7]
          intro s hs a ha
          have := o4 s hs a ha
          rw [el, nI_toInt hl] at this
          rw [nI_toInt hl2]
          omega
        · rw [hrow.2.2.2]
          exact Int.le_refl _
      · intro q
        have := congrArg Int32.toInt q
        rw [nI_toInt hl2, show (-4 : Int32).toInt = -4 by decide] at this
        omega
      · rw [n_le_0 hl2]
        omega
theorem Rel_5 {zc zm : SS} (h : RelN n zc zm) : RelN n (si zc 5 0) (si zm 6 0) := by
  obtain ⟨T, R, hb, he, hm⟩ := h
  obtain ⟨b1, b2, b3, b4, b5, b6, b7, b8, b9, b10, b11⟩ := hb
  obtain ⟨e1, e2, e3, e4, e5, e6, e7, e8, e9, e10, e11, e12, e13, e14, e15⟩ := he
  refine ⟨T, R, ?_, ?_, ?_⟩
  · unfold Base
    simp (disch := omega) only [si_o, si_a]
    exact ⟨b1, b2, b3, b4, ⟨0, by omega, si_s⟩, b6, b7, b8, b9, b10, b11⟩
  · unfold Eqv
    simp (disch := omega) only [si_o, si_a, si_s]
    exact ⟨e1, e2, e3, e4, e5, e6, e7, e8, e9, trivial, e11, e12, e13, e14, e15⟩
  · exact Md_fr (fun x _ => by rw [si_a]) (by rw [si_o (by omega)]) (by rw [si_o (by omega)]) (by rw [si_o (by omega)]) (by rw [si_o (by omega)]) (fun x _ => by rw [si_a]) (by rw [si_o (by omega)]) (by rw [si_o (by omega)]) hm
theorem si_self {z : SS} {x : Nat} : si z x (z.1 x) = z := by
  unfold si
  have : va_up z.1 x (z.1 x) = z.1 := by
    funext j
    by_cases h : j = x
    · subst h; exact va_up_self _ _ _
    · exact va_up_ne _ _ h
  rw [this]
theorem si_put (hn : n ≤ 12) (hk : 3000 ≤ k) : Sim_put n k (RelN n) := by
  intro zc zm a1 h
  have hR0 := Rel_f (v := 0) h
  obtain ⟨T, R, hb, he, hm⟩ := h
  have e12 := he.2.2.2.2.2.2.2.2.2.2.2.1
  have e10 := he.2.2.2.2.2.2.2.2.2.1
  unfold gs_put rm_put rf_isKey rm_in
  rw [e12]
  rcases hm with ⟨h9, ho, h14⟩ | ⟨h9, hc, h14⟩
  · rw [if_pos h9, if_pos h9]
    by_cases h1 : a1 < 0
    · rw [if_pos h1, if_pos h1, bo_some, bo_some, ifz0, ifz0]
      exact ⟨_, _, _, rfl, rfl, hR0⟩
    · obtain ⟨K, hK, rfl⟩ := nI_of h1
      have e999 : ((999 : Int32) < nI K) = (999 < K) := lt_n (a := 999) (by omega) (by omega)
      rw [if_neg h1, if_neg h1]
      simp (disch := omega) only [c_le_1000, e999]
      by_cases h2 : 1000 ≤ K
      · rw [if_pos h2, if_pos (show 999 < K by omega), bo_some, bo_some, ifz0, ifz0]
        exact ⟨_, _, _, rfl, rfl, hR0⟩
      · rw [if_neg h2, if_neg (show ¬ 999 < K by omega), bo_some, bo_some, ifz1, ifz1]
        obtain ⟨c, hc, ec⟩ := hb.2.2.2.2.1
        rw [e10, ec]
        obtain ⟨r, zc', zm', w1, w2, w3, w4⟩ := a_write (k := k) (zm := si zm 1 0) (kd := 1) (K := K) (cnt := c) hn hk hb (Eqv_f he) ho h9 (by
          rw [si_o (by omega)]
          exact h14.elim Or.inl (fun q => Or.inr ⟨q.1, Kn_f q.2⟩)) (Or.inl rfl) (by omega) hc
        have w1 : gs_writeRow n k zc 1 (nI K) (nI c) = some (r, zc') := w1
        have w2 : rm_add k (si zm 1 0) 1 (nI K) (nI c) = some (r, zm') := w2
        rw [w1, w2, bi_some, bi_some]
        unfold rm_put_b53
        rcases w4 with rfl | ⟨w4, w5⟩
        · rw [if_pos rfl, if_pos (by decide), si_self]
          exact ⟨_, _, _, rfl, rfl, w3⟩
        · rw [if_neg w4, if_neg w5]
          exact ⟨_, _, _, rfl, rfl, Rel_5 w3⟩
  · rw [h9, ifz1, ifz1]
    exact ⟨_, _, _, rfl, rfl, hR0⟩
theorem si_drop (hn : n ≤ 12) (hk : 3000 ≤ k) : Sim_drop n k (RelN n) := by
  intro zc zm a1 h
  have hR0 := Rel_f (v := 0) h
  obtain ⟨T, R, hb, he, hm⟩ := h
  have e12 := he.2.2.2.2.2.2.2.2.2.2.2.1
  unfold gs_drop rm_drop
  rw [e12]
  rcases hm with ⟨h9, ho, h14⟩ | ⟨h9, hc, h14⟩
  · rw [if_pos h9, if_pos h9]
    obtain ⟨z1, f1, f2, f3, f4, f5, f6, f7⟩ := Rel_know (k := k) (zm := si zm 1 0) hn hk hb (Eqv_f he) ho h9 (by
      rw [si_o (by omega)]
      exact h14.elim Or.inl (fun q => Or.inr ⟨q.1, Kn_f q.2⟩))
    have hR1 : RelN n zc z1 := ⟨T, R, hb, f4, Or.inl ⟨h9, ho, Or.inr ⟨f2, f5⟩⟩⟩
    rw [kn_has f1 f2]
    unfold gs_slotSeen rf_isKey gs_slotSeen_b34
    rw [if_pos h9]
    by_cases hKv : a1 < 0 ∨ 1000 ≤ a1
    · have hcl : (if a1 < 0 then some (0 : Int32) else if 1000 ≤ a1 then some 0 else some 1) = some 0 := by
        by_cases q : a1 < 0
        · rw [if_pos q]
        · rw [if_neg q, if_pos (hKv.elim (fun w => absurd w q) (fun w => w))]
      rw [hcl, bo_some, ifz0, bo_some, if_pos rfl, a_bad f3 hk hKv, bi_some, if_neg (by decide)]
      exact ⟨_, _, _, rfl, rfl, hR1⟩
    · have hcl : (if a1 < 0 then some (0 : Int32) else if 1000 ≤ a1 then some 0 else some 1) = some 1 := by
        rw [if_neg (fun q => hKv (Or.inl q)), if_neg (fun q => hKv (Or.inr q))]
      have hK1 : a1 ≠ -1 := fun q => hKv (Or.inl (by rw [q]; decide))
      rw [hcl, bo_some, ifz1, if_pos rfl, if_pos rfl]
      rcases a_55 (k := k) (K := a1) (Mc := zc.1 8) (Mm := 2147483647) f3 hk ho.2.2.2 hK1 (Or.inr ⟨rfl, rfl⟩) with ⟨g1, g2⟩ | ⟨s, i, a, g1, g2, g3, g4, g5⟩
      · rw [g1, g2, bo_some, bi_some, if_pos rfl, if_neg (by decide)]
        exact ⟨_, _, _, rfl, rfl, hR1⟩
      · have hoff := off_le hn f3.2.2.2.2.1
        have hs12 : s * 12 + i < 2147483648 := by omega
        have hlt : off (Lf (zc.2 7) R) s + i < 2147483648 := by
          have q1 := sumT_mono (l := fun t => (Lf (zc.2 7) R t).length) (s := s) (n := n) (by omega)
          have q2 : off (Lf (zc.2 7) R) s ≤ off (Lf (zc.2 7) R) n := q1
          omega
        rw [g4, g5, bo_some, bi_some, if_neg (by rw [m1_ne hs12]; exact fun q => q), if_pos (nI_pos' hlt)]
        obtain ⟨K, hK, rfl⟩ := nI_of (fun q => hKv (Or.inl q))
        have hK2 : K < 1000 := by
          have hq : ¬ (1000 : Int32) ≤ nI K := fun q => hKv (Or.inr q)
          rw [c_le_1000 hK] at hq
          omega
        obtain ⟨r, zc', zm', w1, w2, w3, w4⟩ := a_write (k := k) (zm := z1) (kd := 2) (K := K) (cnt := 0) hn hk hb f4 ho h9 (Or.inr ⟨f2, f5⟩) (Or.inr ⟨rfl, rfl⟩) hK2 (by omega)
        have w1 : gs_writeRow n k zc 2 (nI K) 0 = some (r, zc') := w1
        have w2 : rm_add k z1 2 (nI K) 0 = some (r, zm') := w2
        rw [w1, w2, bi_some, bi_some]
        exact ⟨_, _, _, rfl, rfl, w3⟩
  · rw [h9, ifz1, ifz1]
    exact ⟨_, _, _, rfl, rfl, hR0⟩
end PU
