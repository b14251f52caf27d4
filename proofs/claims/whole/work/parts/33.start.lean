section OG
variable {p : Program} {l : Launch} {e : Env} {R : Room} {s : State} {m : MethodId} {args : Array Value} {below : List Frame} {meth : Method} {c : Code} {H : Heap} {locs : List Loc} {cells slots : Nat} {Q : State → Prop}
variable {cc : ByteArray} {pc nL : Nat} {ret : Option FieldType} {own : String} {Ts : List Cond} {ls : Array Slot} {rest : List Value} {D : va_G} {A : Nat → Prop} {tys : List (ClassId × FieldType)} {w : va_W}
variable {y : MethodName} {wsY wsY' : List Cond} {rmY : Room} {byY : ByteArray} {mlY n index mc ms : Nat} {As st0 : List Value} {b : Nat}
theorem rcG {U : Type} {wf : U → va_W} {tf : U → List (ClassId × FieldType)} {wc wr : va_W} (C : Cx p s m args meth c cc nL ret own Ts D tys) (S : St D A s.heap w H locs) (hA : ∀ q, s.heap.size ≤ q → A q) (isC isR : List Nat) (hC : isC.map (fun i => w[i]?) = wc.map some) (hC2 : isC.filterMap (fun i => w[i]?) = wc) (hCn : va_nd isC = true) (hR' : isR.map (fun i => w[i]?) = wr.map some) (hn' : va_nd isR = true) (hdis : ∀ i ∈ isR, i ∉ isC)
    (hM : ∀ sz, Met l y wsY rmY (kPg D (.ref b :: As) wc sz) (kN D wc wf tf sz) mc ms (va_A wc sz)) (hN1 : va_Nw nw_sn s) (hN2 : va_Nw nw_dr s) (hG : GoodIn Ts wsY) (hw : wsY = Cond.code y byY mlY none :: wsY') (hrc : rmY.cells = mc ∧ rmY.slots = ms) (hy1 : y.name = "<init>") (hini : Cond.initialized y.cls ∈ Ts) (hlk : Cond.methodLink own index y ∈ Ts) (him : Cond.instanceMethod y ∈ Ts)
    (hd : y.cls ≠ "java/lang/invoke/MethodHandle" ∧ y.cls ≠ "java/lang/invoke/VarHandle" ∧ (parseMethodDescriptor y.desc).map (fun d => d.parameters.length) = some n) (hR : rmY.frames + 1 ≤ R.frames ∧ 8 + (mlY + 11) + rmY.locals ≤ R.locals)
    (hn : As.length = n) (hsize : ls.size = nL) (hst : st0 = As.reverse ++ .ref b :: rest) (hW : (rest.map fun v => v.category).sum ≤ 8) (hdg : decode cc pc = .ok (.invokespecial index, 3)) (hf : cells + mc ≤ R.cells ∧ slots + ms ≤ R.slots)
    (kk : ∀ (u : U) (H : Heap) (locs : List Loc), Cx p s m args meth c cc nL ret own Ts D (tys ++ tf u) → St D A s.heap (wr ++ wf u) H locs → W p l e R s m args below meth c H locs (cells + mc) (slots + ms) Q (F0 m (pc + 3) ls rest)) : W p l e R s m args below meth c H locs cells slots Q (F0 m pc ls st0) := by
  obtain ⟨hx, hb, hr, hml, hown, hts, hlo, hK⟩ := C
  have hFc := S.freeC hA isC hC
  have hPc := S.1.sub isC hC2
  have hDc := S.2.1.sub isC hCn hC
  have hKc := hK.sub (tys' := []) [] rfl
  refine va_callv (va_runI (As := As) (rest := rest) ⟨hx, hb, hml, hown, hts⟩ (hM H.size) ⟨callB_of n hts hG hw hrc.1 hrc.2 (hts _ hini) (hts _ hlk) hd hR, hy1, hts _ him⟩ ⟨kPg_blind, fun U hU hW => ⟨rfl, ⟨by rw [hU], by rw [hU]; exact hPc, va_K.moved hW.alike hKc, hDc.weaken (fun _ _ _ _ => trivial)⟩, va_Nw.warmM hW hN1, va_Nw.warmM hW hN2⟩⟩ rfl hn hsize hst (lv_room hW) hdg hf) S.2.2 (fun q _ h => hFc q h) hFc (fun u t H1 locs1 ht hvm hw1 hB hz1 hk1 hS1 => ?_)
  exact kk u H1 locs1 ⟨hx, hb, hr, hml, hown, hts, hlo, hK.app (va_K.moved hvm.symm hB.2.1)⟩ (rjoin S hA isC isR hC hR' hn' hdis ht hB hk1 hS1)
end OG
theorem st_k8 : Cond.classLink RL 8 RX5 ∈ lw_tbl := by decide +kernel
theorem st_i5 : Cond.instantiable RX5 12 ∈ lw_tbl := by decide +kernel
theorem st_n5 : Cond.initialized RX5 ∈ lw_tbl := by decide +kernel
theorem st_k32 : Cond.classLink RL 32 RX6 ∈ lw_tbl := by decide +kernel
theorem st_i6 : Cond.instantiable RX6 29 ∈ lw_tbl := by decide +kernel
theorem st_n6 : Cond.initialized RX6 ∈ lw_tbl := by decide +kernel
theorem st_l29 : Cond.methodLink RL 29 yX5_init ∈ lw_tbl := by decide +kernel
theorem st_m5 : Cond.instanceMethod yX5_init ∈ lw_tbl := by decide +kernel
theorem st_l34 : Cond.methodLink RL 34 yX6_init ∈ lw_tbl := by decide +kernel
theorem st_m6 : Cond.instanceMethod yX6_init ∈ lw_tbl := by decide +kernel
theorem st_al : Cond.arrayClass (newarray.typeOf .long) ∈ lw_tbl := by decide +kernel
theorem st_iJ : Cond.instantiable RJx00060 6 ∈ lw_tbl := by decide +kernel
theorem st_i0 : Cond.instantiable RX0 2 ∈ lw_tbl := by decide +kernel
theorem st_i1 : Cond.instantiable RX1 6 ∈ lw_tbl := by decide +kernel
theorem st_i3 : Cond.instantiable RX3 6 ∈ lw_tbl := by decide +kernel
theorem st_i4 : Cond.instantiable RX4 2 ∈ lw_tbl := by decide +kernel
theorem st_nw1 : nw_sn ∈ lw_tbl := by decide +kernel
theorem st_nw2 : nw_dr ∈ lw_tbl := by decide +kernel
theorem st_x1 : xs1 ∈ flatC (Jvm.Cond.and given_1 narrow_1) := by decide +kernel
theorem st_x2 : xs2 ∈ flatC (Jvm.Cond.and given_1 narrow_1) := by decide +kernel
/-- how many segments, on both sides -/
theorem clampN (x : Int32) : ∃ n : Nat, 1 ≤ n ∧ n ≤ 12 ∧ (if 1 < (if x < 12 then x else 12) then (if x < 12 then x else 12) else 1) = nI n ∧ nI n = (if 1 ≤ x then (if x ≤ 12 then x else 12) else 1) := by
  by_cases h1 : x ≤ 1
  · refine ⟨1, by omega, by omega, ?_, ?_⟩
    · have h2 : x < 12 := by
        rw [Int32.le_iff_toInt_le] at h1
        rw [Int32.lt_iff_toInt_lt]
        have e1 : (1 : Int32).toInt = 1 := by decide
        have e2 : (12 : Int32).toInt = 12 := by decide
        omega
      rw [if_pos h2, if_neg (Int32.not_lt.mpr h1)]
      rfl
    · by_cases h3 : 1 ≤ x
      · have h4 : x = 1 := Int32.le_antisymm h1 h3
        subst h4
        decide
      · rw [if_neg h3]
        rfl
  · have h1' : 1 < x := Int32.not_le.mp h1
    have h3 : 1 ≤ x := Int32.le_of_lt h1'
    by_cases h2 : x ≤ 12
    · obtain ⟨n, hn1, hn2⟩ := nI_of2 (M := 12) (n := 12) (by decide) (fun h => by
        rw [Int32.lt_iff_toInt_lt] at h h1'
        have e0 : (0 : Int32).toInt = 0 := by decide
        have e1 : (1 : Int32).toInt = 1 := by decide
        omega) h2
      subst hn2
      have hn3 : 1 ≤ n := by
        rcases Nat.eq_zero_or_pos n with h | h
        · subst h
          exact absurd h3 (by decide)
        · exact h
      refine ⟨n, hn3, hn1, ?_, ?_⟩
      · by_cases h5 : nI n < 12
        · rw [if_pos h5, if_pos h1']
        · have h6 : nI n = 12 := Int32.le_antisymm h2 (Int32.not_lt.mp h5)
          rw [if_neg h5, h6]
          decide
      · rw [if_pos h3, if_pos h2]
    · have h4 : ¬ x < 12 := fun h => h2 (Int32.le_of_lt h)
      refine ⟨12, by omega, by omega, ?_, ?_⟩
      · rw [if_neg h4]
        decide
      · rw [if_pos h3, if_neg h2]
        rfl
set_option maxHeartbeats 4000000 in
set_option maxRecDepth 100000 in
theorem whole_start9 (l : Launch) (hfl : l.flags = flags0) (hsim : ∀ n : Nat, 1 ≤ n → n ≤ 12 → ∃ (k : Nat) (Rel : SS → SS → Prop), Sim n k Rel ∧ Rel (gs_z0 n) (rm_z0 (nI n))) {p : Program} {e : Env} {s : State} {m : MethodId} {below : List Frame} {meth : Method} {c : Code} {b L : Nat} {xs : Nat → Int32} (hL : L ≤ 2049) (C0 : lw_At p s m meth c b L xs) : W p l e room_1 s m #[Value.ref b] below meth c s.heap [] 0 0 (lw_Z below #[Value.ref b] s) (entryFrame m ([Value.ref b] : List Value).toArray 7) := by
  obtain ⟨hx, hb, hr, hml, hown, hts, hX, hbl, hlk, hgv⟩ := id C0
  have hb : c.code = cL_law := hb
  have hown : s.vm.findClass RL = some m.cls := hown
  have hA : ∀ q : Nat, s.heap.size ≤ q → (fun q : Nat => s.heap.size ≤ q) q := fun _ h => h
  have hfl9 := flat_of_before _ hgv
  have hE : xE s := by
    intro A a ha
    have h1 := List.all_eq_true.mp EXA_in a ha
    have h2 := List.all_eq_true.mp EXA_ok a ha
    have hini : (Cond.initialized Bundle.tN).before #[Value.ref b] s = true := hts _ (by decide +kernel)
    have hl3 : xs3.before #[Value.ref b] s = true := hts _ (by decide +kernel)
    have hl4 : xs4.before #[Value.ref b] s = true := hts _ (by decide +kernel)
    simp only [xOk, Bool.or_eq_true, Bool.and_eq_true, decide_eq_true_eq] at h2
    simp only [xIn, Bool.or_eq_true, decide_eq_true_eq] at h1
    rcases h2 with (((⟨g1, g2⟩ | rfl) | rfl) | rfl) | rfl
    · rcases h1 with (h1 | rfl) | rfl
      · exact va_tabs g1 rfl (hts _ h1)
      · exact x_isRef (A := #[Value.ref b]) (State.WarmedH.refl s) (fun _ _ h => h) hl3 hini (hfl9 _ st_x1)
      · exact x_isRef (A := #[Value.ref b]) (State.WarmedH.refl s) (fun _ _ h => h) hl4 hini (hfl9 _ st_x2)
    · exact x_isRef (A := #[Value.ref b]) (State.WarmedH.refl s) (fun _ _ h => h) hl3 hini (hfl9 _ st_x1)
    · exact x_isRef (A := #[Value.ref b]) (State.WarmedH.refl s) (fun _ _ h => h) hl4 hini (hfl9 _ st_x2)
    · exact x_lays (A := #[Value.ref b]) (State.WarmedH.refl s) (fun _ _ h => h) hl3
    · exact x_lays (A := #[Value.ref b]) (State.WarmedH.refl s) (fun _ _ h => h) hl4
  have hN1 : va_Nw nw_sn s := va_Nw.of rfl (hts _ st_nw1)
  have hN2 : va_Nw nw_dr s := va_Nw.of rfl (hts _ st_nw2)
  obtain ⟨d0, j0, g0⟩ := u_known (C := RJx00060) (T := TJx00060) (N := 6) (n := 6) hts we_wsJx000600 (hts _ st_iJ)
  obtain ⟨d1, j1, g1⟩ := u_known (C := RX0) (T := TX0) (N := 2) (n := 2) hts we_wsX00 (hts _ st_i0)
  obtain ⟨d2, j2, g2⟩ := u_known (C := RX1) (T := TX1) (N := 6) (n := 6) hts we_wsX10 (hts _ st_i1)
  obtain ⟨d3, j3, g3⟩ := u_known (C := RX3) (T := TX3) (N := 6) (n := 6) hts we_wsX30 (hts _ st_i3)
  obtain ⟨d4, j4, g4⟩ := u_known (C := RX4) (T := TX4) (N := 2) (n := 2) hts we_wsX40 (hts _ st_i4)
  obtain ⟨d5, j5, g5⟩ := u_known (C := RX5) (T := TX5) (N := 12) (n := 12) hts we_wsX50 (hts _ st_i5)
  obtain ⟨d6, j6, g6⟩ := u_known (C := RX6) (T := TX6) (N := 29) (n := 29) hts we_wsX60 (hts _ st_i6)
  obtain ⟨D, hKc⟩ : ∃ D : va_G, ∀ (k : Nat) (q : vw_C), vwCl[k]? = some q → u_Kn s q.1 q.2.1 q.2.2 (D.1 k) (D.2 k) := by
    refine ⟨(fun k => ([d0, d1, d2, d3, d4, d5, d6] : List ClassId).getD k d0, fun k => ([j0, j1, j2, j3, j4, j5, j6] : List (Nat → Nat)).getD k j0), ?_⟩
    intro k q hq
    match k, hq with
    | 0, hq => cases hq; exact g0
    | 1, hq => cases hq; exact g1
    | 2, hq => cases hq; exact g2
    | 3, hq => cases hq; exact g3
    | 4, hq => cases hq; exact g4
    | 5, hq => cases hq; exact g5
    | 6, hq => cases hq; exact g6
    | k + 7, hq => simp [vwCl] at hq
  have hK : va_K D vwCl [] s := ⟨hKc, fun k q h => by simp at h⟩
  have C : Cx p s m #[Value.ref b] meth c cL_law 7 ret RL lw_tbl D [] := ⟨hx, hb, hr, hml, hown, hts, hlk, hK⟩
  have hS : St D (fun q : Nat => s.heap.size ≤ q) s.heap [] s.heap [] := ⟨fun k q h => by simp at h, ⟨fun i j p q h => by simp at h, fun k q h => by simp at h⟩, va_S.rf⟩
  obtain ⟨n, hn1, hn2, hn3, hn4⟩ := clampN (sc L xs)
  obtain ⟨k, Rel, hsm, hR0⟩ := hsim n hn1 hn2
  have hl := lv_entry ([.ref b]) (n := 7) (Nat.le_of_ble_eq_true rfl)
  rw [lg_entry_eq]
  generalize (lg_sl ([.ref b]) ++ List.replicate (7 - (lg_sl ([.ref b])).length) Slot.unset).toArray = ls at hl ⊢
  have hl : lv_has ls 7 [(0, .ref b)] := hl
  refine rnew C hS hA (ci := 5) (fs := [.null, .null, .null, .null, .null, .int 0, .null, .int 0, .int 0, .int 0, .int 0, .int 0]) we_wsX50 tyX5_ok st_k8 st_i5 st_n5 rfl (fun j hj => by rcases (show j = 0 ∨ j = 1 ∨ j = 2 ∨ j = 3 ∨ j = 4 ∨ j = 5 ∨ j = 6 ∨ j = 7 ∨ j = 8 ∨ j = 9 ∨ j = 10 ∨ j = 11 by omega) with rfl | rfl | rfl | rfl | rfl | rfl | rfl | rfl | rfl | rfl | rfl | rfl <;> rfl) (Nat.le_of_ble_eq_true rfl) (Nat.le_of_ble_eq_true rfl) dL_law_0 (fun q1 H hS => ?_)
  refine W.widen (k := 1) (n := 12) (by omega) (by omega) ?_
  have hS : St D (fun q : Nat => s.heap.size ≤ q) s.heap [(q1, .inr (5, [.null, .null, .null, .null, .null, .int 0, .null, .int 0, .int 0, .int 0, .int 0, .int 0]))] _ _ := hS
  refine lv_dup hx hb dL_law_3 rfl ?_
  refine lv_aload_n hx hb dL_law_4 rfl (lv_at hl 0 rfl) ?_
  refine lv_iconst (v := 0) hx hb dL_law_5 (by decide) ?_
  refine va_calli (va_runS (As := [.ref b, .int 0]) (rest := [.ref q1, .ref q1]) ⟨hx, hb, hml, hown, hts⟩ (c_cell l b L xs (by omega)) (va_cwS 2 hts (law_good gL_law_L_cell) rfl rfl rfl (by decide +kernel) ⟨Nat.le_of_ble_eq_true rfl, Nat.le_of_ble_eq_true rfl⟩) ⟨fun a U g mk q => ⟨q.1, va_X.moved (u := U) (U := U.calling g mk a) (Vm.Alike.refl U.vm) q.2⟩, fun U hU hW => ⟨rfl, by show va_X b L xs U U.heap; rw [hU]; exact va_X.moved hW.alike (va_X.kept hX (hS.2.2.2.1 b hbl (Nat.not_le.mpr hbl)))⟩⟩ rfl rfl hl.1 rfl (lv_room (Nat.le_of_ble_eq_true rfl)) dL_law_6 ⟨Nat.le_of_ble_eq_true rfl, Nat.le_of_ble_eq_true rfl⟩) hS.2.2 (fun q _ h => h.elim) (fun q h => h.elim) (fun r u t H1 locs1 ht hvm hw hB hz1 hk1 hS1 => ?_)
  have hw : r = sc L xs := hw
  subst hw
  have hS := hS.keep (fun q hq => hk1 q hq (fun h => h)) hS1
  refine rcG (n := 1) (As := [.int (sc L xs)]) (b := q1) (rest := [.ref q1]) (wf := wf_gs_init n q1) (tf := tf_gs_init) (wc := [(q1, .inr (5, [.null, .null, .null, .null, .null, .int 0, .null, .int 0, .int 0, .int 0, .int 0, .int 0]))]) (wr := []) C hS hA [0] [] rfl rfl (by decide) rfl (by decide) (by decide) (fun sz => ci_gs_init l D n q1 (sc L xs) hn3 hn1 hn2 sz) hN1 hN2 (law_good gL_law_X5_init) rfl ⟨rfl, rfl⟩ rfl st_n5 st_l29 st_m5 (by decide +kernel) ⟨Nat.le_of_ble_eq_true rfl, Nat.le_of_ble_eq_true rfl⟩ rfl hl.1 rfl (Nat.le_of_ble_eq_true rfl) dL_law_9 ⟨Nat.le_of_ble_eq_true rfl, Nat.le_of_ble_eq_true rfl⟩ (fun u1 H locs C hS => ?_)
  refine W.widen (k := 19) (n := 5648) (by omega) (by omega) ?_
  generalize hAD : (fun i => if i = 0 then q1 else u1.1 i) = ad at hS
  have had : ad 0 = q1 := by rw [← hAD]; rfl
  have hS : St D (fun q : Nat => s.heap.size ≤ q) s.heap (wC n ad u1.2 (gs_z0 n)) H locs := by
    have h9 : St D (fun q : Nat => s.heap.size ≤ q) s.heap (wC n (fun i => if i = 0 then q1 else u1.1 i) u1.2 (gs_z0 n)) H locs := hS
    rw [hAD] at h9
    exact h9
  have C : Cx p s m #[Value.ref b] meth c cL_law 7 ret RL lw_tbl D (tC u1.2) := C
  rw [← had]
  refine lv_astore_n (lv' := [(1, .ref (ad 0)), (0, .ref b)]) hx hb dL_law_12 rfl hl (by decide) rfl (fun ls hl => ?_)
  refine rnew C hS hA (ci := 6) (fs := [.int 0, .int 0, .null, .null, .int 0, .int 0, .int 0, .null, .int 0, .null, .null, .null, .int 0, .int 0, .int 0, .int 0, .null, .null, .null, .null, .null, .null, .int 0, .int 0, .int 0, .int 0, .int 0, .null, .null]) we_wsX60 tyX6_ok st_k32 st_i6 st_n6 rfl (fun j hj => by rcases (show j = 0 ∨ j = 1 ∨ j = 2 ∨ j = 3 ∨ j = 4 ∨ j = 5 ∨ j = 6 ∨ j = 7 ∨ j = 8 ∨ j = 9 ∨ j = 10 ∨ j = 11 ∨ j = 12 ∨ j = 13 ∨ j = 14 ∨ j = 15 ∨ j = 16 ∨ j = 17 ∨ j = 18 ∨ j = 19 ∨ j = 20 ∨ j = 21 ∨ j = 22 ∨ j = 23 ∨ j = 24 ∨ j = 25 ∨ j = 26 ∨ j = 27 ∨ j = 28 by omega) with rfl | rfl | rfl | rfl | rfl | rfl | rfl | rfl | rfl | rfl | rfl | rfl | rfl | rfl | rfl | rfl | rfl | rfl | rfl | rfl | rfl | rfl | rfl | rfl | rfl | rfl | rfl | rfl | rfl <;> rfl) (Nat.le_of_ble_eq_true rfl) (Nat.le_of_ble_eq_true rfl) dL_law_13 (fun q2 H hS => ?_)
  refine W.widen (k := 20) (n := 5677) (by omega) (by omega) ?_
  refine lv_dup hx hb dL_law_16 rfl ?_
  refine lv_aload_n hx hb dL_law_17 rfl (lv_at hl 1 rfl) ?_
  refine lv_iconst (v := 0) hx hb dL_law_18 (by decide) ?_
  refine va_calli (va_runS (As := [.ref b, .int 0]) (rest := [.ref q2, .ref q2]) ⟨hx, hb, hml, hown, hts⟩ (c_cell l b L xs (by omega)) (va_cwS 2 hts (law_good gL_law_L_cell) rfl rfl rfl (by decide +kernel) ⟨Nat.le_of_ble_eq_true rfl, Nat.le_of_ble_eq_true rfl⟩) ⟨fun a U g mk q => ⟨q.1, va_X.moved (u := U) (U := U.calling g mk a) (Vm.Alike.refl U.vm) q.2⟩, fun U hU hW => ⟨rfl, by show va_X b L xs U U.heap; rw [hU]; exact va_X.moved hW.alike (va_X.kept hX (hS.2.2.2.1 b hbl (Nat.not_le.mpr hbl)))⟩⟩ rfl rfl hl.1 rfl (lv_room (Nat.le_of_ble_eq_true rfl)) dL_law_19 ⟨Nat.le_of_ble_eq_true rfl, Nat.le_of_ble_eq_true rfl⟩) hS.2.2 (fun q _ h => h.elim) (fun q h => h.elim) (fun r u t H1 locs1 ht hvm hw hB hz1 hk1 hS1 => ?_)
  have hw : r = sc L xs := hw
  subst hw
  have hS := hS.keep (fun q hq => hk1 q hq (fun h => h)) hS1
  refine rcI (n := 1) (As := [.int (sc L xs)]) (b := q2) (rest := [.ref q2]) (wf := wf_rm_init (nI n) q2) (tf := tf_rm_init) (wc := [(q2, .inr (6, [.int 0, .int 0, .null, .null, .int 0, .int 0, .int 0, .null, .int 0, .null, .null, .null, .int 0, .int 0, .int 0, .int 0, .null, .null, .null, .null, .null, .null, .int 0, .int 0, .int 0, .int 0, .int 0, .null, .null]))]) (wr := wC n ad u1.2 (gs_z0 n)) C hS hA [19] [0, 1, 2, 3, 4, 5, 6, 7, 8, 9, 10, 11, 12, 13, 14, 15, 16, 17, 18] rfl rfl (by decide) rfl (by decide) (by decide) (fun sz => ci_rm_init l D q2 (sc L xs) (nI n) hn4 sz) (law_good gL_law_X6_init) rfl ⟨rfl, rfl⟩ rfl st_n6 st_l34 st_m6 (by decide +kernel) ⟨Nat.le_of_ble_eq_true rfl, Nat.le_of_ble_eq_true rfl⟩ rfl hl.1 rfl (Nat.le_of_ble_eq_true rfl) dL_law_22 ⟨Nat.le_of_ble_eq_true rfl, Nat.le_of_ble_eq_true rfl⟩ (fun u2 H locs C hS => ?_)
  refine W.widen (k := 34) (n := 11393) (by omega) (by omega) ?_
  generalize hBD : (fun i => if i = 0 then q2 else u2.1 i) = bd at hS
  have hbd : bd 0 = q2 := by rw [← hBD]; rfl
  have hS : St D (fun q : Nat => s.heap.size ≤ q) s.heap (wC n ad u1.2 (gs_z0 n) ++ wM bd u2.2 (rm_z0 (nI n))) H locs := by
    have h9 : St D (fun q : Nat => s.heap.size ≤ q) s.heap (wC n ad u1.2 (gs_z0 n) ++ wM (fun i => if i = 0 then q2 else u2.1 i) u2.2 (rm_z0 (nI n))) H locs := hS
    rw [hBD] at h9
    exact h9
  have C : Cx p s m #[Value.ref b] meth c cL_law 7 ret RL lw_tbl D (tC u1.2 ++ tM u2.2) := C
  rw [← hbd]
  refine lv_astore_n (lv' := [(2, .ref (bd 0)), (1, .ref (ad 0)), (0, .ref b)]) hx hb dL_law_25 rfl hl (by decide) rfl (fun ls hl => ?_)
  refine lv_iconst (v := 1) hx hb dL_law_26 (by decide) ?_
  obtain ⟨-, -, -, -, -, -, -, hK9⟩ := id C
  refine va_newa (D := D) (cl := vwCl) (atype := .long) (ty := .long) (n := 1) (N' := 1) (a0 := (1, .inr (.inl (fun _ => 0)))) hx hb (hts _ st_al) rfl hK9 hS.1 hS.2.1 hS.2.2 hA (fun _ => rfl) (by decide) (by decide) (by decide) (Nat.le_of_ble_eq_true rfl) (Nat.le_of_ble_eq_true rfl) dL_law_27 (fun qo co H hK10 hP10 hD10 hS10 => ?_)
  refine W.widen (k := 41) (n := 12006) (by omega) (by omega) ?_
  have hS : St D (fun q : Nat => s.heap.size ≤ q) s.heap (wL qo co (fun _ => 0) (wC n ad u1.2 (gs_z0 n)) (wM bd u2.2 (rm_z0 (nI n)))) H locs := St.perm (w := (wC n ad u1.2 (gs_z0 n) ++ wM bd u2.2 (rm_z0 (nI n))) ++ [(qo, .inl (co, 1, .inr (.inl (fun _ => 0))))]) ⟨hP10, hD10, hS10⟩ List.perm_append_comm
  have C : Cx p s m #[Value.ref b] meth c cL_law 7 ret RL lw_tbl D (tL co (tC u1.2) (tM u2.2)) := Cx.sub (tys := (tC u1.2 ++ tM u2.2) ++ [(co, .long)]) ⟨hx, hb, hr, hml, hown, hts, hlk, hK10⟩ (fun q h => (List.perm_append_comm (l₁ := [((co, .long) : ClassId × FieldType)]) (l₂ := tC u1.2 ++ tM u2.2)).mem_iff.mp h)
  refine lv_astore_n (lv' := [(3, .ref qo), (2, .ref (bd 0)), (1, .ref (ad 0)), (0, .ref b)]) hx hb dL_law_29 rfl hl (by decide) rfl (fun ls hl => ?_)
  refine lv_iconst (v := 1) hx hb dL_law_30 (by decide) ?_
  refine lv_istore (lv' := [(4, .int (nI 1)), (3, .ref qo), (2, .ref (bd 0)), (1, .ref (ad 0)), (0, .ref b)]) hx hb dL_law_31 hl (by decide) rfl (fun ls hl => ?_)
  exact law_loop hfl C hX hbl hL hE hsm (L + 1) 1 _ _ _ (by omega) (by omega) hR0 H locs ls hS (lv_sub hl [4, 3, 2, 1, 0] rfl)
