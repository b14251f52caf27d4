section CP
variable {n k : Nat}
theorem p_copy49 (hn : n ≤ 12) {z : SS} {w t H h sz j a : Nat} (hw : w < n) (h25 : z.1 25 = nI w) (ht : t + h ≤ 200) (hH : H + h ≤ n * 200) (hj : j < n * 12) (h11 : z.2 11 j = nI a) (hsz : sz ≤ 36) (hh : h ≤ sz) (ha : a + h ≤ n * 200) (hdis : a + h ≤ w * 200 + t ∨ w * 200 + 200 ≤ a) : ∀ (d fu i : Nat) (z' : SS), i + d = h → d < fu → App z z' w t H i (fun i => z.2 7 (a + i)) → ∃ zA, App z zA w t H h (fun i => z.2 7 (a + i)) ∧ gs_copyRow_b49 n k fu z' (nI j) (nI h) (nI sz) (nI w) (nI (w * 200 + t)) (nI i) = (if h = sz then (bo (ix_add_7 n k zA (nI w) (nI (w * 200 + t))) fun z_1 => some z_1) else some zA) := by
  intro d
  induction d with
  | zero =>
    intro fu i z' hi hf hA
    cases fu with
    | zero => omega
    | succ fu =>
      have h1 : h ≤ i := by omega
      simp (disch := omega) only [gs_copyRow_b49, le_n, h1, if_true, eq_n]
      have : i = h := by omega
      subst this
      exact ⟨z', hA, rfl⟩
  | succ d ih =>
    intro fu i z' hi hf hA
    cases fu with
    | zero => omega
    | succ fu =>
      have h1 : ¬ h ≤ i := by omega
      have g11 : z'.2 11 j = nI a := by rw [hA.2.2.2.2.2 11 (by omega), h11]
      have g7 : z'.2 7 (a + i) = z.2 7 (a + i) := by rw [hA.1]; exact bw_out (by omega)
      simp (disch := omega) only [gs_copyRow_b49, le_n, h1, if_false, ck_n, tn_n, if_true, g11, nI_add, g7, na_1]
      obtain ⟨z'', e1, e2⟩ := App_s (k := k) hn hA hw h25 (by omega) (by omega) (x := z.2 7 (a + i)) rfl
      rw [e1, bo_some]
      exact ih fu (i + 1) z'' (by omega) (by omega) e2
theorem m_fresh54 (hn : n ≤ 12) {zm1 : SS} {q a sz : Nat} {rc : SS → Int32 → Option SS} (hq : q < 20) (h14 : zm1.2 14 q = nI sz) (h13 : zm1.2 13 q = nI a) (hsz : sz ≤ 36) (ha : a + sz ≤ 2400) : ∀ (d fu i : Nat) (z' : SS), i + d = sz → d < fu → Fr zm1 z' i (fun i => zm1.2 1 (a + i)) → ∃ zF, Fr zm1 zF sz (fun i => zm1.2 1 (a + i)) ∧ rm_copyAll_b54 k rc fu z' (nI q) (nI i) = (bo (rm_writeRow k zF (nI sz)) fun z_1 => rc (si z_1 14 0) (nI (q + 1))) := by
  intro d
  induction d with
  | zero =>
    intro fu i z' hi hf hF
    cases fu with
    | zero => omega
    | succ fu =>
      have h1 : sz ≤ i := by omega
      have g14 : z'.2 14 q = nI sz := by rw [hF.2.2 14 (by omega), h14]
      simp (disch := omega) only [rm_copyAll_b54, ck_n, tn_n, if_true, g14, le_n, h1, na_1]
      have : i = sz := by omega
      subst this
      exact ⟨z', hF, rfl⟩
  | succ d ih =>
    intro fu i z' hi hf hF
    cases fu with
    | zero => omega
    | succ fu =>
      have h1 : ¬ sz ≤ i := by omega
      have g14 : z'.2 14 q = nI sz := by rw [hF.2.2 14 (by omega), h14]
      have g13 : z'.2 13 q = nI a := by rw [hF.2.2 13 (by omega), h13]
      have g1 : z'.2 1 = zm1.2 1 := hF.2.2 1 (by omega)
      simp (disch := omega) only [rm_copyAll_b54, ck_n, tn_n, if_true, g14, le_n, h1, if_false, g13, nI_add, na_1, g1]
      exact ih fu (i + 1) _ (by omega) (by omega) (Fr_s hF rfl)
def CI (n s : Nat) (zc zm : SS) (T : Nat → Nat) (R : Nat → List Nat) : Prop := Base n zc T ∧ Eqv zc zm ∧ Op n zc T R ∧ zc.1 9 = 0 ∧ zc.1 25 ≠ nI s ∧ zc.2 7 (s * 200) ≠ 0
def EqvX (zc zm : SS) : Prop := Eqv zc (si (si zm 4 (zc.1 25)) 24 0)
def BudR (zm : SS) (mo cl S : Nat) : Prop := (zm.1 23 = -1 ∧ mo = 200 ∧ cl + S ≤ 200) ∨ ∃ M c0, M < 2147483648 ∧ c0 ≤ M ∧ zm.1 23 = nI M ∧ zm.1 22 = nI (c0 + cl) ∧ mo = M - c0
def SVf (s : Nat) (zc zm : SS) (R : Nat → List Nat) (g : Nat → Nat) (W : List (Nat × Nat)) (i : Nat) : Prop := ∀ j v, W[j]? = some v → zc.2 6 (i + j) = nI v.1 ∧ zm.2 13 (i + j) = nI v.2 ∧ zm.2 14 (i + j) = nI (16 + g v.2) ∧ gln (zc.2 7) v.2 = g v.2 ∧ ∃ q, q < 12 ∧ v.1 = s * 12 + q ∧ (Lf (zc.2 7) R s)[q]? = some v.2
theorem seg_w (hn : n ≤ 12) {zc : SS} {T : Nat → Nat} {room m : Nat} (hr : RMo n zc T room) (hT : ∀ s, s < n → zc.2 8 s = nI (T s) ∧ T s ≤ 200) (hm : m ≤ 200) (h : m ≤ room) : sg_segmentFor n k zc (nI m) = some (zc.1 25) := by
  have hroom : room ≤ 200 := by
    rcases hr with ⟨_, q⟩ | ⟨w, _, _, q⟩ <;> omega
  unfold sg_segmentFor
  rw [p_room hn hr hT, bo_some, if_neg (by rw [lt_n (by omega) (by omega)]; omega)]
theorem seg_f (hn : n ≤ 12) {zc : SS} {T : Nat → Nat} {room m : Nat} (hr : RMo n zc T room) (hT : ∀ s, s < n → zc.2 8 s = nI (T s) ∧ T s ≤ 200) (hm : m ≤ 200) (h : room < m) : sg_segmentFor n k zc (nI m) = sg_leastFree n k zc := by
  have hroom : room ≤ 200 := by
    rcases hr with ⟨_, q⟩ | ⟨w, _, _, q⟩ <;> omega
  unfold sg_segmentFor
  rw [p_room hn hr hT, bo_some, if_pos (by rw [lt_n (by omega) (by omega)]; exact h)]
  cases sg_leastFree n k zc <;> rfl
theorem bud_h {zm : SS} {mo cl S sz : Nat} (hb : BudR zm mo cl (sz + S)) (hcl : cl ≤ mo) : Bud zm sz (min sz (mo - cl)) ∧ (zm.1 23 < 0 → min sz (mo - cl) = sz) := by
  rcases hb with ⟨h1, h2, h3⟩ | ⟨M, c0, h1, h2, h3, h4, h5⟩
  · have : min sz (mo - cl) = sz := by omega
    exact ⟨Or.inl ⟨by rw [h1]; decide, this⟩, fun _ => this⟩
  · refine ⟨Or.inr ⟨M, c0 + cl, h1, h3, h4, by omega, by omega⟩, fun q => ?_⟩
    rw [h3] at q
    exact absurd q (nI_pos h1)
theorem base_app {zc zA : SS} {T : Nat → Nat} {w H h : Nat} {D : Nat → Int32} (hb : Base n zc T) (hH1 : H ≤ sumT T n) (hH2 : ∀ i, i < H → ∃ c, c < n * 200 ∧ zc.2 9 i = nI c) (hw : w < n) (ht : T w + h ≤ 200) (hD : ∀ i, i < h → ∃ b, b < 256 ∧ D i = nI b) (hA : App (si zc 25 (nI w)) zA w (T w) H h D) : Base n zA (updN T w (T w + h)) := by
  obtain ⟨b1, b2, b3, _, b5, b6, b7, b8, b9, b10, b11⟩ := hb
  obtain ⟨p1, p2, p3, p4, p5, p6⟩ := hA
  have hsum := sumT_upd (T := T) (s := w) (v := T w + h) (n := n) hw
  have c1 : ∀ x, x ≠ 24 → x ≠ 25 → zA.1 x = zc.1 x := fun x x1 x2 => by rw [p5 x x1, si_o x2]
  have c2 : ∀ x, x < 7 ∨ 9 < x → zA.2 x = zc.2 x := fun x hx => by rw [p6 x hx, si_a]
  unfold Base
  rw [p1, p2, p3, p4, p5 25 (by omega), si_s, c1 20 (by omega) (by omega), c1 5 (by omega) (by omega), c1 8 (by omega) (by omega), c1 10 (by omega) (by omega), c2 5 (by omega), c2 16 (by omega), c2 17 (by omega)]
  refine ⟨b1, bw_BOK b2 hD, fun s hs => ?_, ⟨H + h, rfl, by omega, fun i hi => ?_⟩, b5, b6, b7, Or.inr ⟨w, hw, rfl⟩, b9, b10, b11⟩
  · by_cases hsw : s = w
    · subst hsw; rw [pk_us, updN_s]; exact ⟨rfl, ht⟩
    · rw [pk_un hsw, updN_o hsw]; exact b3 s hs
  · by_cases hiH : i < H
    · rw [bw_out (by omega)]; exact hH2 i hiH
    · have : i = H + (i - H) := by omega
      rw [this, bw_in (by omega)]
      exact ⟨w * 200 + T w + (i - H), by omega, rfl⟩
theorem eqv_app {zc zm zA zm1 zF y : SS} {T : Nat → Nat} {w H h sz : Nat} {D D' : Nat → Int32} (he : Eqv zc zm) (hA : App (si zc 25 (nI w)) zA w (T w) H h D) (r6 : zm1.1 4 = nI w) (r7 : zm1.2 = zm.2) (r8 : ∀ x, x ≠ 4 → zm1.1 x = zm.1 x) (hF : Fr zm1 zF sz D') (hM : MApp zF y w (T w) H h D) : Eqv zA y := by
  obtain ⟨e1, e2, e3, e4, e5, e6, e7, e8, e9, e10, e11, e12, e13, e14, e15⟩ := he
  obtain ⟨p1, p2, p3, p4, p5, p6⟩ := hA
  obtain ⟨q1, q2, q3, q4, q5, q6, q7⟩ := hM
  obtain ⟨f1, f2, f3⟩ := hF
  have c1 : ∀ x, x ≠ 24 → x ≠ 25 → zA.1 x = zc.1 x := fun x x1 x2 => by rw [p5 x x1, si_o x2]
  have c2 : ∀ x, x < 7 ∨ 9 < x → zA.2 x = zc.2 x := fun x hx => by rw [p6 x hx, si_a]
  have n1 : ∀ x, x ≠ 4 → x ≠ 8 → x ≠ 22 → y.1 x = zm.1 x := fun x x1 x2 x3 => by rw [q6 x x2 x3, f2, r8 x x1]
  have n2 : ∀ x, x ≠ 1 → x ≠ 2 → x ≠ 4 → x ≠ 12 → y.2 x = zm.2 x := fun x x1 x2 x3 x4 => by rw [q7 x x1 x2 x3, f3 x x4, r7]
  unfold Eqv
  rw [p1, p2, p3, p4, q1, q2, q3, q4, p5 25 (by omega), si_s, c1 20 (by omega) (by omega), c1 5 (by omega) (by omega), c1 8 (by omega) (by omega), c1 9 (by omega) (by omega), c1 10 (by omega) (by omega), c1 11 (by omega) (by omega), c2 5 (by omega), c2 16 (by omega), c2 17 (by omega), n1 0 (by omega) (by omega) (by omega), n1 5 (by omega) (by omega) (by omega), n1 6 (by omega) (by omega) (by omega), n1 12 (by omega) (by omega) (by omega), n1 13 (by omega) (by omega) (by omega), n1 24 (by omega) (by omega) (by omega), n1 25 (by omega) (by omega) (by omega), n2 3 (by omega) (by omega) (by omega) (by omega), n2 5 (by omega) (by omega) (by omega) (by omega), n2 6 (by omega) (by omega) (by omega) (by omega), f3 1 (by omega), f3 2 (by omega), f3 4 (by omega), r7]
  refine ⟨e1, by rw [e2]; rfl, by rw [e3]; rfl, e4, by rw [e5]; rfl, e6, e7, ?_, e9, e10, rfl, e12, e13, e14, e15⟩
  rw [q6 4 (by omega) (by omega), f2, r6]
theorem a_copy (hn : n ≤ 12) (hk : 3000 ≤ k) {s mo : Nat} (hs : s < n) (hmo : mo < 2147483648) {g : Nat → Nat} : ∀ (W : List (Nat × Nat)) (i cl fu fu' room : Nat) (fl : Bool) (zc zm : SS) (T : Nat → Nat) (R : Nat → List Nat),
    CI n s zc zm T R → W.length < fu → W.length < fu' → i + W.length ≤ 12 → zc.1 7 = nI (i + W.length) → zm.1 26 = nI (i + W.length) → SVf s zc zm R g W i → RMo n zc T room → ((W.map (fun v => 16 + g v.2)).sum ≤ room ∨ (HR room fl (W.map (fun v => 16 + g v.2)) = true ∧ (fl = true → ∃ f, f < n ∧ zc.2 7 (f * 200) = 0 ∧ zc.1 25 ≠ nI f))) → BudR zm mo cl (W.map (fun v => 16 + g v.2)).sum → cl ≤ mo → cl + (W.map (fun v => 16 + g v.2)).sum ≤ 200 →
    (∃ zc' zm' T' R', gs_copySurvivors_b4 n k fu zc (nI mo) (nI cl) (nI i) = some (nI (cl + (W.map (fun v => 16 + g v.2)).sum), zc') ∧ rm_copyAll_b2 k fu' zm (nI i) = some zm' ∧ CI n s zc' zm' T' R' ∧ BudR zm' mo (cl + (W.map (fun v => 16 + g v.2)).sum) 0 ∧ cl + (W.map (fun v => 16 + g v.2)).sum ≤ mo ∧ zm'.1 23 = zm.1 23) ∨
    (∃ c zc' zm' T', mo < c ∧ c < 2147483648 ∧ gs_copySurvivors_b4 n k fu zc (nI mo) (nI cl) (nI i) = some (nI c, zc') ∧ rm_copyAll_b2 k fu' zm (nI i) = some zm' ∧ zm'.1 24 = 1 ∧ Base n zc' T' ∧ EqvX zc' zm') := by
  intro W
  induction W with
  | nil =>
    intro i cl fu fu' room fl zc zm T R hC hf hf' hi h7 h26 hS hR hH hB hcl hc2
    cases fu with
    | zero => exact absurd hf (Nat.not_lt_zero _)
    | succ fu =>
      cases fu' with
      | zero => exact absurd hf' (Nat.not_lt_zero _)
      | succ fu' =>
        simp only [List.length_nil, Nat.add_zero] at hi h7 h26
        simp (disch := omega) only [gs_copySurvivors_b4, rm_copyAll_b2, h7, h26, le_n, Nat.le_refl, if_true]
        exact Or.inl ⟨zc, zm, T, R, rfl, rfl, hC, hB, hcl, rfl⟩
  | cons v W ih =>
    intro i cl fu fu' room fl zc zm T R hC hf hf' hi h7 h26 hS hR hH hB hcl hc2
    cases fu with
    | zero => exact absurd hf (Nat.not_lt_zero _)
    | succ fu =>
    cases fu' with
    | zero => exact absurd hf' (Nat.not_lt_zero _)
    | succ fu' =>
      simp only [List.length_cons] at hi hf hf' h7 h26
      have hsumE : ((v :: W).map (fun v => 16 + g v.2)).sum = 16 + g v.2 + (W.map (fun v => 16 + g v.2)).sum := by simp
      rw [hsumE] at hB hH hc2
      rw [hsumE]
      generalize hSum : (W.map (fun v => 16 + g v.2)).sum = S at hB hH hc2 ⊢
      obtain ⟨hb, he, ho, h9, hws, hbs⟩ := hC
      have hb' := hb
      have he' := he
      obtain ⟨b1, b2, b3, ⟨H, b4, b4', b4''⟩, b5, b6, b7, b8, b9, b10, b11⟩ := hb
      obtain ⟨e1, e2, e3, e4, e5, e6, e7, e8, e9, e10, e11, e12, e13, e14, e15⟩ := he
      obtain ⟨o1, o2, o3, o4⟩ := ho
      obtain ⟨s1, s2, s3, s4, q, hq12, hvq, hLq⟩ := hS 0 v rfl
      rw [Nat.add_zero] at s1 s2 s3
      have hGL := GL_of o1 (fun s hs => (b3 s hs).2)
      have hmem : v.2 ∈ Lf (zc.2 7) R s := List.mem_of_getElem? hLq
      obtain ⟨k1, k2, k3, k4, k5, k6, k7, k8⟩ := GL_row hGL hs hmem
      obtain ⟨l1, l2, l3, l4, l5⟩ := ((o3 s hs).2.2 q hq12).1 v.2 hLq
      rw [← hvq] at l1 l2 l3 l4 l5
      rw [s4] at k2 k3 k7 l4
      have hj : v.1 < n * 12 := by omega
      have hroomv : ∃ w zm1, w < n ∧ T w + (16 + g v.2) ≤ 200 ∧ w ≠ s ∧ sg_segmentFor n k zc (nI (16 + g v.2)) = some (nI w) ∧ rm_makeRoom k zm (nI (16 + g v.2)) = some (1, zm1) ∧ zm1.1 4 = nI w ∧ zm1.2 = zm.2 ∧ (∀ x, x ≠ 4 → zm1.1 x = zm.1 x) ∧ (16 + g v.2 ≤ room → zc.1 25 = nI w ∧ room = 200 - T w) ∧ (¬ 16 + g v.2 ≤ room → T w = 0) := by
        have hfree : ∀ f, f < n → zc.2 7 (f * 200) = 0 → f ≠ s := fun f _ h0 hfs => by
          subst hfs
          exact hbs h0
        rcases a_room (k := k) (zc := zc) (zm := zm) hn hk b1 (by rw [e1, b1]) e2 e3 e8 b3 b8 o2 (m := 16 + g v.2) (by omega) (by omega) with ⟨r1, r2⟩ | ⟨w, zm1, r1, r2, r3, r4, r5, r6, r7, r8⟩
        · exfalso
          by_cases hle : 16 + g v.2 ≤ room
          · rw [seg_w hn hR b3 (by omega) hle] at r1
            rcases hR with ⟨u1, u2⟩ | ⟨w, u1, u2, u3⟩
            · omega
            · rw [u2] at r1
              have := Option.some.inj r1
              rw [m1_ne (by omega)] at this
              exact this
          · rw [seg_f hn hR b3 (by omega) (by omega)] at r1
            have hHR : ∃ f, f < n ∧ zc.2 7 (f * 200) = 0 := by
              rcases hH with u | ⟨u1, u2⟩
              · omega
              · have u3 : (if 16 + g v.2 ≤ room then HR (room - (16 + g v.2)) fl (W.map (fun v => 16 + g v.2)) else if fl then HR (200 - (16 + g v.2)) false (W.map (fun v => 16 + g v.2)) else false) = true := u1
                rw [if_neg hle] at u3
                cases fl with
                | false => exact absurd u3 (by simp)
                | true =>
                  obtain ⟨f, f1, f2, f3⟩ := u2 rfl
                  exact ⟨f, f1, f2⟩
            obtain ⟨f, f1, f2⟩ := hHR
            unfold sg_leastFree at r1
            rcases a_least (k := k) hn n k 0 zc zm b1 (by rw [e1, b1]) e2 (by omega) (by omega) with ⟨g1, g2, g3⟩ | ⟨w, g0, g1, g2, g3, g4, g5⟩
            · exact g3 f (by omega) f1 f2
            · have g4 : sg_leastFree_b2 n k zc k 0 = some (nI w) := g4
              rw [g4] at r1
              have := Option.some.inj r1
              rw [m1_ne (by omega)] at this
              exact this
        · refine ⟨w, zm1, r1, r2, ?_, r4, r5, r6, r7, r8, fun hle => ?_, fun hle => ?_⟩
          · rcases r3 with u | u
            · intro hwe
              subst hwe
              exact hws u
            · exact hfree w r1 u
          · rw [seg_w hn hR b3 (by omega) hle] at r4
            have r4 := Option.some.inj r4
            refine ⟨r4, ?_⟩
            rcases hR with ⟨u1, u2⟩ | ⟨w', u1, u2, u3⟩
            · omega
            · rw [u2, eq_n (by omega) (by omega)] at r4
              subst r4
              exact u3
          · rcases r3 with u | u
            · rcases hR with ⟨u1, u2⟩ | ⟨w', u1, u2, u3⟩
              · rw [u1] at u
                rw [eq_comm, m1_ne (by omega)] at u
                exact u.elim
              · rw [u, eq_n (by omega) (by omega)] at u2
                subst u2
                omega
            · exact o2 w r1 u
      obtain ⟨w, zm1, r1, r2, hwns, r4, r5, r6, r7, r8, hroomA, hroomB⟩ := hroomv
      have hTw := (b3 w r1).2
      have t1 := (b3 w r1).1
      obtain ⟨hBud, hBneg⟩ := bud_h hB hcl
      generalize hh : min (16 + g v.2) (mo - cl) = h at hBud hBneg
      have hhle : h ≤ 16 + g v.2 := by omega
      have hHm : H + (16 + g v.2) ≤ n * 200 := by
        have q1 := sumT_upd (T := T) (s := w) (v := T w + (16 + g v.2)) (n := n) r1
        have q2 := sumT_le (T := updN T w (T w + (16 + g v.2))) (c := 200) (n := n) (fun s hs => by
          by_cases hsw : s = w
          · subst hsw; rw [updN_s]; omega
          · rw [updN_o hsw]; exact (b3 s hs).2)
        omega
      have hmin : (if (nI mo - nI cl) < nI (16 + g v.2) then (nI mo - nI cl) else nI (16 + g v.2)) = nI h := by
        rw [pk_sub hcl]
        by_cases hlt : mo - cl < 16 + g v.2
        · rw [if_pos (by rw [lt_n (by omega) (by omega)]; exact hlt)]
          congr 1
          omega
        · rw [if_neg (by rw [lt_n (by omega) (by omega)]; exact hlt)]
          congr 1
          omega
      obtain ⟨zA, hA, eA⟩ := p_copy49 (k := k) (z := si zc 25 (nI w)) (w := w) (t := T w) (H := H) (h := h) (sz := 16 + g v.2) (j := v.1) (a := v.2) hn r1 si_s (by omega) (by omega) hj (by rw [si_a]; exact l1) (by omega) hhle (by omega) (by omega) h k 0 (si zc 25 (nI w)) (by omega) (by omega) (App_0 (by rw [si_a]; exact t1) (by rw [si_o (by omega), b4]))
      have hrow : gs_copyRow n k zc (nI v.1) (nI h) = (if h = 16 + g v.2 then (bo (ix_add_7 n k zA (nI w) (nI (w * 200 + T w))) fun z_1 => some z_1) else some zA) := by
        unfold gs_copyRow
        rw [p_bytesOf hn hj l4, bo_some, r4, bo_some, if_neg (by rw [m1_ne (by omega)]; exact fun q => q)]
        have hend : sg_endOf n k (si zc 25 (nI w)) (nI w) = some (nI (w * 200 + T w)) := by
          unfold sg_endOf
          simp (disch := omega) only [ck_n, tn_n, if_true, si_a, t1, nm_200, nI_add]
        rw [hend, bo_some]
        exact eA
      have hDb : ∀ i, i < h → ∃ b, b < 256 ∧ (fun i => (si zc 25 (nI w)).2 7 (v.2 + i)) i = nI b := fun i hi => b2 (v.2 + i) (by omega)
      have hbA := base_app (n := n) (zc := zc) (zA := zA) (T := T) (w := w) (H := H) (h := h) hb' b4' b4'' r1 (by omega) hDb hA
      have hcs : gs_copySurvivors_b4 n k (fu + 1) zc (nI mo) (nI cl) (nI i) = (bo (gs_copyRow n k zc (nI v.1) (nI h)) fun z_2 => (if cl + (16 + g v.2) ≤ mo then gs_copySurvivors_b4 n k fu z_2 (nI mo) (nI (cl + (16 + g v.2))) (nI (i + 1)) else some (nI (cl + (16 + g v.2)), z_2))) := by
        have h1 : ¬ i + (W.length + 1) ≤ i := by omega
        simp (disch := omega) only [gs_copySurvivors_b4, h7, le_n, h1, if_false, ck_n, tn_n, if_true, s1, p_bytesOf (k := k) hn hj l4, bo_some, hmin, nI_add, na_1]
      rw [hcs, hrow]
      have hm41 : rm_copyAll_b41 k (rm_copyAll_b2 k fu') zm (nI i) = (bi (some (1, zm1)) fun (r_1 : Int32) z_1 => rm_copyAll_b54 k (rm_copyAll_b2 k fu') k z_1 (nI i) 0) := by
        unfold rm_copyAll_b41
        simp (disch := omega) only [ck_n, tn_n, if_true, s3, r5]
      obtain ⟨zF, hF, eF⟩ := m_fresh54 (n := n) (k := k) (zm1 := zm1) (q := i) (a := v.2) (sz := 16 + g v.2) (rc := rm_copyAll_b2 k fu') hn (by omega) (by rw [r7]; exact s3) (by rw [r7]; exact s2) (by omega) (by omega) (16 + g v.2) k 0 zm1 (by omega) (by omega) ⟨by rw [bw_0], rfl, fun x _ => rfl⟩
      have eF : rm_copyAll_b54 k (rm_copyAll_b2 k fu') k zm1 (nI i) 0 = _ := eF
      have hFD : ∀ i, i < 16 + g v.2 → zF.2 12 i = (si zc 25 (nI w)).2 7 (v.2 + i) := fun i hi => by
        rw [hF.1]
        have := bw_in (B := zm1.2 12) (D := fun i => zm1.2 1 (v.2 + i)) (p := 0) hi
        rw [Nat.zero_add] at this
        rw [this, r7, e2, si_a]
      have hBudF : Bud zF (16 + g v.2) h := by
        unfold Bud at hBud ⊢
        rw [hF.2.1, r8 23 (by omega), r8 22 (by omega)]
        exact hBud
      obtain ⟨y, hM, eM⟩ := m_writeRow (k := k) (z := zF) (w := w) (t := T w) (H := H) (m := 16 + g v.2) (h := h) (D := fun i => (si zc 25 (nI w)).2 7 (v.2 + i)) hn hk r1 (by rw [hF.2.1, r6]) (by rw [hF.2.2 2 (by omega), r7, e3]; exact t1) (by rw [hF.2.1, r8 8 (by omega), e11, b4]) (by omega) (by omega) hHm hFD (by rw [hF.2.1, r8 24 (by omega), e14]) hBudF
      have hEy := eqv_app he' hA r6 r7 r8 hF hM
      have hcut : ∀ zz : SS, zz.1 24 = 1 → rm_copyAll_b2 k (fu' + 1) zz (nI (i + 1)) = some zz := fun zz h24 => by
        simp only [rm_copyAll_b2]
        rw [h24, ifz1]
        by_cases hc : zz.1 26 ≤ nI (i + 1)
        · rw [if_pos hc]
        · rw [if_neg hc]
      have hmod : (zm.1 23 < 0 ∨ zm.1 22 ≠ zm.1 23) → rm_copyAll_b2 k (fu' + 1) zm (nI i) = rm_copyAll_b2 k fu' (si (if h < 16 + g v.2 then si y 24 1 else y) 14 0) (nI (i + 1)) := by
        intro hc
        have h1 : ¬ i + (W.length + 1) ≤ i := by omega
        have hgo : rm_copyAll_b2 k (fu' + 1) zm (nI i) = rm_copyAll_b41 k (rm_copyAll_b2 k fu') zm (nI i) := by
          simp (disch := omega) only [rm_copyAll_b2, h26, le_n, h1, if_false, e14, if_true]
          rcases hc with hc | hc
          · rw [if_pos hc]
          · by_cases hneg : zm.1 23 < 0
            · rw [if_pos hneg]
            · rw [if_neg hneg, if_neg hc]
        rw [hgo, hm41, bi_some, eF, eM, bo_some]
      by_cases hfull : h = 16 + g v.2
      ·
        have hcle : cl + (16 + g v.2) ≤ mo := by omega
        rw [if_pos hfull]
        subst hfull
        rw [hmod (by
          rcases hB with ⟨u1, u2, u3⟩ | ⟨M, c0, u1, u2, u3, u4, u5⟩
          · exact Or.inl (by rw [u1]; decide)
          · refine Or.inr ?_
            rw [u3, u4, ne_eq, eq_n (by omega) u1]
            omega), if_neg (Nat.lt_irrefl _)]
        have hA' := hA
        obtain ⟨p1, p2, p3, p4, p5, p6⟩ := hA
        have z4_7 : (si zc 25 (nI w)).2 7 = zc.2 7 := si_a
        have hg0 : gsz (zc.2 7) v.2 (s * 200 + 200) ≠ 0 := by rw [k7]; omega
        have hgd := ((hGL s hs).2 v.2 hmem).2.2
        have hsh := g_shift (B := zc.2 7) (B' := zA.2 7) (a := v.2) (a' := w * 200 + T w) (e := s * 200 + 200) (e' := w * 200 + 200) hg0 (fun i hi => by
          rw [k7] at hi
          rw [p1, bw_in hi, z4_7]) (by rw [k7]; omega)
        have hz4I : Ix n (si zc 25 (nI w)) (Lf ((si zc 25 (nI w)).2 7) R) := by
          rw [z4_7]
          exact Ix_fr (fun x hx => by rw [si_a]) o3
        obtain ⟨zc2, g1, g2, g3, g4, g5, g6, g7, g8⟩ := op_add (k := k) (zc := si zc 25 (nI w)) (zc1 := zA) (T := T) (R := R) hn (fun s hs => (b3 s hs).2) hbA.2.1 (by rw [z4_7]; exact o1) (by rw [z4_7]; exact o2) hz4I r1 rfl r2 hA' (by rw [hsh.1, k7]) (hsh.2.1.mpr hgd)
        rw [g1, bo_some, bo_some, if_pos hcle]
        have hz7 : zc2.2 7 = zA.2 7 := g3 7 (by omega)
        have hsame : ∀ x, s * 200 ≤ x → x < s * 200 + 200 → zA.2 7 x = zc.2 7 x := fun x x1 x2 => by
          rw [p1]
          exact bw_out (by omega)
        have hc2a : ∀ x, x ≠ 24 → x ≠ 25 → zc2.1 x = zc.1 x := fun x x1 x2 => by rw [g2, p5 x x1, si_o x2]
        have hbase2 : Base n zc2 (updN T w (T w + (16 + g v.2))) := by
          unfold Base at hbA ⊢
          rw [g2, g3 7 (by omega), g3 8 (by omega), g3 9 (by omega), g3 5 (by omega), g3 16 (by omega), g3 17 (by omega)]
          exact hbA
        have heqv2 : Eqv zc2 (si y 14 0) := by
          unfold Eqv at hEy ⊢
          rw [g2, g3 7 (by omega), g3 8 (by omega), g3 9 (by omega), g3 5 (by omega), g3 16 (by omega), g3 17 (by omega)]
          simp (disch := omega) only [si_o, si_a]
          exact hEy
        have hop2 : Op n zc2 (updN T w (T w + (16 + g v.2))) (updL R w (R w ++ [w * 200 + T w])) := by
          unfold Op
          rw [hz7]
          refine ⟨g4, g5, g6, g8 _ ?_ ?_⟩
          · rw [z4_7, g2, p5 8 (by omega), si_o (by omega)]
            exact o4
          · rw [hsh.2.2.2.1, g2, p5 8 (by omega), si_o (by omega)]
            exact o4 s hs v.2 hmem
        have hw25 : zc2.1 25 = nI w := by rw [g2, p5 25 (by omega), si_s]
        have hCI2 : CI n s zc2 (si y 14 0) (updN T w (T w + (16 + g v.2))) (updL R w (R w ++ [w * 200 + T w])) := by
          refine ⟨hbase2, heqv2, hop2, ?_, ?_, ?_⟩
          · rw [hc2a 9 (by omega) (by omega)]; exact h9
          · rw [hw25, ne_eq, eq_n (by omega) (by omega)]; exact hwns
          · rw [hz7, hsame _ (by omega) (by omega)]; exact hbs
        have hy2 : ∀ x, x ≠ 1 → x ≠ 2 → x ≠ 4 → x ≠ 12 → (si y 14 0).2 x = zm.2 x := fun x x1 x2 x3 x4 => by
          rw [si_a, hM.2.2.2.2.2.2 x x1 x2 x3, hF.2.2 x x4, r7]
        have hy1 : ∀ x, x ≠ 4 → x ≠ 8 → x ≠ 14 → x ≠ 22 → (si y 14 0).1 x = zm.1 x := fun x x1 x2 x3 x4 => by
          rw [si_o x3, hM.2.2.2.2.2.1 x x2 x4, hF.2.1, r8 x x1]
        have hy22 : (si y 14 0).1 22 = zm.1 22 + nI (16 + g v.2) := by
          rw [si_o (by omega), hM.2.2.2.2.1, hF.2.1, r8 22 (by omega)]
        have hLs : Lf (zA.2 7) (updL R w (R w ++ [w * 200 + T w])) s = Lf (zc.2 7) R s := by
          have := g7 s hs (fun q => hwns q.symm)
          rw [z4_7] at this
          exact this
        have hS2 : SVf s zc2 (si y 14 0) (updL R w (R w ++ [w * 200 + T w])) g W (i + 1) := by
          intro j u hu
          obtain ⟨v1, v2, v3, v4, q', v5, v6, v7⟩ := hS (j + 1) u (by simpa using hu)
          rw [show i + (j + 1) = i + 1 + j by omega] at v1 v2 v3
          rw [g3 6 (by omega), p6 6 (by omega), si_a, hy2 13 (by omega) (by omega) (by omega) (by omega), hy2 14 (by omega) (by omega) (by omega) (by omega), hz7]
          refine ⟨v1, v2, v3, ?_, q', v5, v6, by rw [hLs]; exact v7⟩
          have hmu : u.2 ∈ Lf (zc.2 7) R s := List.mem_of_getElem? v7
          obtain ⟨u1, u2, u3⟩ := (hGL s hs).2 u.2 hmu
          have hrs := row_same (B := zc.2 7) (B' := zA.2 7) u3.1 (fun x x1 x2 => hsame x (by omega) (by omega))
          rw [hrs.2.2.1]
          exact v4
        have hsum2 : (W.map (fun v => 16 + g v.2)).sum = S := hSum
        have := ih (i + 1) (cl + (16 + g v.2)) fu fu' (200 - (T w + (16 + g v.2))) (if 16 + g v.2 ≤ room then fl else false) zc2 (si y 14 0) (updN T w (T w + (16 + g v.2))) (updL R w (R w ++ [w * 200 + T w])) hCI2 (by omega) (by omega) (by omega) (by rw [hc2a 7 (by omega) (by omega), h7]; congr 1; omega) (by rw [hy1 26 (by omega) (by omega) (by omega) (by omega), h26]; congr 1; omega) hS2 (Or.inr ⟨w, r1, hw25, by rw [updN_s]⟩) (by
          rw [hsum2]
          rcases hH with u | ⟨u1, u2⟩
          · obtain ⟨u3, u4⟩ := hroomA (by omega)
            exact Or.inl (by omega)
          · have u3 : (if 16 + g v.2 ≤ room then HR (room - (16 + g v.2)) fl (W.map (fun v => 16 + g v.2)) else if fl then HR (200 - (16 + g v.2)) false (W.map (fun v => 16 + g v.2)) else false) = true := u1
            by_cases hle : 16 + g v.2 ≤ room
            · obtain ⟨u4, u5⟩ := hroomA hle
              rw [if_pos hle] at u3
              rw [if_pos hle]
              refine Or.inr ⟨by rw [← Nat.sub_sub, ← u5]; exact u3, fun hfl => ?_⟩
              obtain ⟨f, f1, f2, f3⟩ := u2 hfl
              rw [u4, ne_eq, eq_n (by omega) (by omega)] at f3
              refine ⟨f, f1, ?_, ?_⟩
              · rw [hz7, p1, bw_out (by omega)]
                exact f2
              · rw [hw25, ne_eq, eq_n (by omega) (by omega)]
                exact f3
            · rw [if_neg hle] at u3
              rw [if_neg hle]
              have := hroomB hle
              cases fl with
              | false => exact absurd u3 (by simp)
              | true => exact Or.inr ⟨by rw [this, Nat.zero_add]; exact u3, fun q => by cases q⟩) (by
          rw [hsum2]
          rcases hB with ⟨u1, u2, u3⟩ | ⟨M, c0, u1, u2, u3, u4, u5⟩
          · exact Or.inl ⟨by rw [hy1 23 (by omega) (by omega) (by omega) (by omega)]; exact u1, u2, by omega⟩
          · exact Or.inr ⟨M, c0, u1, u2, by rw [hy1 23 (by omega) (by omega) (by omega) (by omega)]; exact u3, by rw [hy22, u4, nI_add, Nat.add_assoc], u5⟩) hcle (by rw [hsum2]; omega)
        rw [hsum2, Nat.add_assoc cl, hy1 23 (by omega) (by omega) (by omega) (by omega)] at this
        exact this
      ·
        have hlt : h < 16 + g v.2 := by omega
        have hgt : ¬ cl + (16 + g v.2) ≤ mo := by omega
        rw [if_neg hfull, bo_some, if_neg hgt]
        refine Or.inr ?_
        have hneg : ¬ zm.1 23 < 0 := fun q => hfull (hBneg q)
        by_cases heq : zm.1 22 = zm.1 23
        ·
          have h0 : h = 0 := by
            rcases hB with ⟨u1, u2, u3⟩ | ⟨M, c0, u1, u2, u3, u4, u5⟩
            · exact absurd (by rw [u1]; decide) hneg
            · rw [u3, u4, eq_n (by omega) u1] at heq
              omega
          subst h0
          refine ⟨cl + (16 + g v.2), zA, si zm 24 1, _, by omega, by omega, rfl, ?_, si_s, hbA, ?_⟩
          · have h1 : ¬ i + (W.length + 1) ≤ i := by omega
            simp (disch := omega) only [rm_copyAll_b2, h26, le_n, h1, if_false, e14, if_true, hneg]
            rw [if_pos heq]
          · obtain ⟨p1, p2, p3, p4, p5, p6⟩ := hA
            rw [bw_0] at p1 p3
            rw [Nat.add_zero] at p2 p4
            have p2 : zA.2 8 = zc.2 8 := by rw [p2]; exact upd_id t1
            have c1 : ∀ x, x ≠ 24 → x ≠ 25 → zA.1 x = zc.1 x := fun x x1 x2 => by rw [p5 x x1, si_o x2]
            have c2 : ∀ x, x < 7 ∨ 9 < x → zA.2 x = zc.2 x := fun x hx => by rw [p6 x hx, si_a]
            unfold EqvX Eqv
            simp (disch := omega) only [si_o, si_a, si_s]
            rw [p1, p2, p3, p4, c1 20 (by omega) (by omega), c1 5 (by omega) (by omega), c1 8 (by omega) (by omega), c1 9 (by omega) (by omega), c1 10 (by omega) (by omega), c1 11 (by omega) (by omega), c2 5 (by omega), c2 16 (by omega), c2 17 (by omega)]
            exact ⟨e1, e2, e3, e4, e5, e6, e7, trivial, e9, e10, by rw [e11, b4], e12, e13, trivial, e15⟩
        · rw [hmod (Or.inr heq), if_pos hlt]
          have hf'2 : ∃ f2, fu' = f2 + 1 := by
            cases fu' with
            | zero => omega
            | succ f2 => exact ⟨f2, rfl⟩
          obtain ⟨f2, rfl⟩ := hf'2
          have hcut2 : ∀ zz : SS, zz.1 24 = 1 → rm_copyAll_b2 k (f2 + 1) zz (nI (i + 1)) = some zz := fun zz h24 => by
            simp only [rm_copyAll_b2]
            rw [h24, ifz1]
            by_cases hc : zz.1 26 ≤ nI (i + 1)
            · rw [if_pos hc]
            · rw [if_neg hc]
          have h24 : (si (si y 24 1) 14 0).1 24 = 1 := by rw [si_o (by omega), si_s]
          refine ⟨cl + (16 + g v.2), zA, si (si y 24 1) 14 0, _, by omega, by omega, rfl, hcut2 _ h24, h24, hbA, ?_⟩
          have h4y : y.1 4 = zA.1 25 := hEy.2.2.2.2.2.2.2.1
          unfold EqvX
          unfold Eqv at hEy ⊢
          simp (disch := omega) only [si_o, si_a, si_s]
          obtain ⟨y1, y2, y3, y4, y5, y6, y7, y8, y9, y10, y11, y12, y13, y14, y15⟩ := hEy
          exact ⟨y1, y2, y3, y4, y5, y6, y7, trivial, y9, y10, y11, y12, y13, trivial, y15⟩
end CP
