/-! what throws, method by method -/
set_option maxHeartbeats 4000000 in
set_option maxRecDepth 100000 in
/-- Segments.has, that changes nothing at all -/
theorem c_has0 (l : Launch) (D : va_G) (n : Nat) (ad : Nat → Nat) (cA : Nat → ClassId) (z : SS) (x1 r : Int32) (hr0 : r = (if x1 < 0 then 0 else (if z.1 20 ≤ x1 then 0 else 1))) (sz : Nat) : Met l yX3_has wsX3_has R_sg_has (kP D (tC cA) [.ref (ad 1), .int x1] (wC n ad cA z) sz) (va_Qi (fun a (_ : Unit) => a = r) (fun _ _ => True) (fun _ => False)) 0 0 (fun _ => False) := by
  refine Met.ofW (cc := cX3_has) (maxL := 2) (ret := some .boolean) (by decide) rfl ?_
  intro p e s m args below meth c s₁ B hml hv
  obtain ⟨rfl, hsz, hP, hK, hD0⟩ := hv
  have hts := atoms_spec (ws := wsX3_has) B.pre
  have hown : s.vm.findClass RX3 = some m.cls := findClass_of_methodNamed B.named
  have hx := B.exec
  have hb := B.bytes
  have hr := B.returns
  have hlk := B.notSynchronized
  have hl := lv_entry [.ref (ad 1), .int x1] (n := 2) (Nat.le_of_ble_eq_true rfl)
  rw [lg_entry_eq]
  generalize (lg_sl [.ref (ad 1), .int x1] ++ List.replicate (2 - (lg_sl [.ref (ad 1), .int x1]).length) Slot.unset).toArray = ls at hl ⊢
  have hl : lv_has ls 2 [(0, .ref (ad 1)), (1, .int x1)] := hl
  have fin : ∀ v : Int32, v = r → bk v = true → W p l e R_sg_has s m #[Value.ref (ad 1), Value.int x1] below meth c s.heap [] 0 0 (MQ below (va_Qi (fun a (_ : Unit) => a = r) (fun _ _ => True) (fun _ => False)) #[Value.ref (ad 1), Value.int x1] s 0 0 (fun _ => False)) (F0 m 17 ls [.int v]) := fun v hv hbv =>
    W.zret hx hb hr (bk_n hbv) (fun t ht hW => ⟨⟨v, (), rfl, hv, trivial⟩, by rw [ht]; exact Nat.le_refl _, fun q _ _ => by rw [ht]⟩) (fun q h => nomatch h) dX3_has_17 hlk
  refine lv_iload_n hx hb dX3_has_0 rfl (lv_at hl 1 rfl) ?_
  refine lv_if_lt (x := x1) (tgt := 16) hx hb dX3_has_1 (by decide) (fun hc => ?_) (fun hc => ?_)
  · refine lv_iconst (v := 0) hx hb dX3_has_16 (by decide) ?_
    exact fin 0 (by rw [hr0, if_pos hc]) (by decide)
  · refine lv_iload_n hx hb dX3_has_4 rfl (lv_at hl 1 rfl) ?_
    refine lv_aload_n hx hb dX3_has_5 rfl (lv_at hl 0 rfl) ?_
    refine va_get (D := D) (cl := vwCl) (ci := 3) (v := .int (z.1 20)) (C := RX3) (T := TX3) (N := 6) hx hb hts in_X3_has_X3 hown hK hP 1 rfl rfl 0 (by decide) (hts _ lk_X3_has_15) (fun _ h9 => h9) rfl dX3_has_6 ?_
    refine lv_icmp_ge (x := x1) (y := (z.1 20)) (tgt := 16) hx hb dX3_has_9 (by decide) (fun hd => ?_) (fun hd => ?_)
    · refine lv_iconst (v := 0) hx hb dX3_has_16 (by decide) ?_
      exact fin 0 (by rw [hr0, if_neg hc, if_pos hd]) (by decide)
    · refine lv_iconst (v := 1) hx hb dX3_has_12 (by decide) ?_
      refine lv_goto (tgt := 17) hx hb dX3_has_13 (by decide) ?_
      exact fin 1 (by rw [hr0, if_neg hc, if_neg hd]) (by decide)
theorem xk_cellOf : Cond.classLink RX5 171 RJx00060 ∈ wsX5_cellOf := by decide +kernel
theorem xi_cellOf : Cond.initialized RJx00060 ∈ wsX5_cellOf := by decide +kernel
theorem xk_count : Cond.classLink RX5 171 RJx00060 ∈ wsX5_count := by decide +kernel
theorem xi_count : Cond.initialized RJx00060 ∈ wsX5_count := by decide +kernel
def RT_cellOf : Room := { frames := 7, cells := 1, slots := 6, locals := 94 }
def RT_poke : Room := { frames := 8, cells := 1, slots := 6, locals := 116 }
/-- there is no such byte -/
def noByte (z : SS) (x1 x2 : Int32) : Prop := x1 < 0 ∨ z.1 20 ≤ x1 ∨ x2 < 0 ∨ 200 ≤ x2
set_option maxHeartbeats 4000000 in
set_option maxRecDepth 100000 in
theorem t_cellOf (l : Launch) (hfl : l.flags = flags0) (D : va_G) (n : Nat) (ad : Nat → Nat) (cA : Nat → ClassId) (z : SS) (x1 x2 : Int32) (hno : noByte z x1 x2) (sz : Nat) : MT l yX5_cellOf wsX5_cellOf RT_cellOf (xP D (tC cA) [.ref (ad 0), .int x1, .int x2] (wC n ad cA z) sz) := by
  refine entT (by decide) rfl rfl (Nat.le_of_ble_eq_true rfl) (fun p e s m args below meth c hsz hnh C hE hP hD0 ls hl => ?_)
  obtain ⟨hx, hb, hr, hml, hown, hts, hlk, hK⟩ := id C
  have hl : lv_has ls 3 [(0, .ref (ad 0)), (1, .int x1), (2, .int x2)] := hl
  have hS : va_S (fun _ => False) s.heap s.heap [] := va_S.rf
  refine lv_aload_n hx hb dX5_cellOf_0 rfl (lv_at hl 0 rfl) ?_
  refine va_get (D := D) (cl := vwCl) (ci := 5) (v := .ref (ad 1)) (C := RX5) (T := TX5) (N := 12) hx hb hts in_X5_cellOf_X5 hown hK hP 0 rfl rfl 0 (by decide) (hts _ lk_X5_cellOf_23) (fun _ h9 => h9) rfl dX5_cellOf_1 ?_
  refine lv_iload_n hx hb dX5_cellOf_4 rfl (lv_at hl 1 rfl) ?_
  refine va_calli (va_runV (As := [.int x1]) (rest := []) ⟨hx, hb, hml, hown, hts⟩ (c_has0 l D n ad cA z x1 _ rfl s.heap.size) (cwV 1 hts gX5_cellOf_X3_has rfl rfl rfl (by decide +kernel) ⟨Nat.le_of_ble_eq_true rfl, Nat.le_of_ble_eq_true rfl⟩) ⟨kP_blind, va_recv hK hP (ci := 3) (q0 := 1) rfl rfl, fun U hU hW => ⟨rfl, by rw [hU], by rw [hU]; exact hP, va_K.moved hW.alike hK, hD0⟩⟩ rfl rfl hl.1 rfl (lv_room (Nat.le_of_ble_eq_true rfl)) dX5_cellOf_5 ⟨Nat.zero_le _, Nat.zero_le _⟩) hS (fun q _ h => h) (fun q h => h) (fun r u t H1 locs1 ht hvm hw hB hz1 hk1 hS => ?_)
  refine lv_if_eq (x := r) (tgt := 22) hx hb dX5_cellOf_8 (by decide) (fun hc => ?_) (fun hc => ?_)
  · exact rthr hfl C hE hnh hS hl.1 xk_cellOf xi_cellOf dX5_cellOf_22 dX5_cellOf_25 dX5_cellOf_26 dX5_cellOf_29 (Nat.le_of_ble_eq_true rfl) (Nat.le_of_ble_eq_true rfl) (Nat.le_of_ble_eq_true rfl) (Nat.le_of_ble_eq_true rfl)
  · refine lv_iload_n hx hb dX5_cellOf_11 rfl (lv_at hl 2 rfl) ?_
    refine lv_if_lt (x := x2) (tgt := 22) hx hb dX5_cellOf_12 (by decide) (fun hd => ?_) (fun hd => ?_)
    · exact rthr hfl C hE hnh hS hl.1 xk_cellOf xi_cellOf dX5_cellOf_22 dX5_cellOf_25 dX5_cellOf_26 dX5_cellOf_29 (Nat.le_of_ble_eq_true rfl) (Nat.le_of_ble_eq_true rfl) (Nat.le_of_ble_eq_true rfl) (Nat.le_of_ble_eq_true rfl)
    · refine lv_iload_n hx hb dX5_cellOf_15 rfl (lv_at hl 2 rfl) ?_
      refine lv_sipush (v := 200) hx hb dX5_cellOf_16 (by decide) ?_
      refine lv_icmp_lt (x := x2) (y := 200) (tgt := 30) hx hb dX5_cellOf_19 (by decide) (fun he => ?_) (fun he => ?_)
      · refine absurd hno (fun h => ?_)
        rcases h with h | h | h | h
        · exact hc (by rw [hw, if_pos h])
        · by_cases h9 : x1 < 0
          · exact hc (by rw [hw, if_pos h9])
          · exact hc (by rw [hw, if_neg h9, if_pos h])
        · exact hd h
        · exact absurd he (Int32.not_lt.mpr h)
      · exact rthr hfl C hE hnh hS hl.1 xk_cellOf xi_cellOf dX5_cellOf_22 dX5_cellOf_25 dX5_cellOf_26 dX5_cellOf_29 (Nat.le_of_ble_eq_true rfl) (Nat.le_of_ble_eq_true rfl) (Nat.le_of_ble_eq_true rfl) (Nat.le_of_ble_eq_true rfl)
set_option maxHeartbeats 4000000 in
set_option maxRecDepth 100000 in
theorem t_poke (l : Launch) (hfl : l.flags = flags0) (D : va_G) (n : Nat) (ad : Nat → Nat) (cA : Nat → ClassId) (z : SS) (x1 x2 x3 : Int32) (hno : noByte z x1 x2) (sz : Nat) : MT l yX5_poke wsX5_poke RT_poke (xP D (tC cA) [.ref (ad 0), .int x1, .int x2, .int x3] (wC n ad cA z) sz) := by
  refine entT (by decide) rfl rfl (Nat.le_of_ble_eq_true rfl) (fun p e s m args below meth c hsz hnh C hE hP hD0 ls hl => ?_)
  obtain ⟨hx, hb, hr, hml, hown, hts, hlk, hK⟩ := id C
  have hl : lv_has ls 5 [(0, .ref (ad 0)), (1, .int x1), (2, .int x2), (3, .int x3)] := hl
  refine lv_aload_n hx hb dX5_poke_0 rfl (lv_at hl 0 rfl) ?_
  refine lv_iload_n hx hb dX5_poke_1 rfl (lv_at hl 1 rfl) ?_
  refine lv_iload_n hx hb dX5_poke_2 rfl (lv_at hl 2 rfl) ?_
  obtain ⟨cellB, h1, h2, h3⟩ := va_recv hK hP (ci := 5) (q0 := 0) rfl rfl
  exact rcT (n := 2) (As := [.int x1, .int x2]) (rest := []) C hnh (t_cellOf l hfl D n ad cA z x1 x2 hno s.heap.size) gX5_poke_X5_cellOf rfl (by decide +kernel) ⟨Nat.le_of_ble_eq_true rfl, Nat.le_of_ble_eq_true rfl⟩ h1 h2 h3 xP_blind (fun U hU hW => ⟨rfl, ⟨by rw [hU], by rw [hU]; exact hP, va_K.moved hW.alike hK, hD0⟩, xE_move hW (fun q c h => by rw [hU]; exact h) hE⟩) rfl hl.1 rfl (Nat.le_of_ble_eq_true rfl) dX5_poke_3 (Nat.le_of_ble_eq_true rfl) (Nat.le_of_ble_eq_true rfl)
set_option maxHeartbeats 4000000 in
set_option maxRecDepth 100000 in
theorem t_byteAt (l : Launch) (hfl : l.flags = flags0) (D : va_G) (n : Nat) (ad : Nat → Nat) (cA : Nat → ClassId) (z : SS) (x1 x2 : Int32) (hno : noByte z x1 x2) (sz : Nat) : MT l yX5_byteAt wsX5_byteAt RT_poke (xP D (tC cA) [.ref (ad 0), .int x1, .int x2] (wC n ad cA z) sz) := by
  refine entT (by decide) rfl rfl (Nat.le_of_ble_eq_true rfl) (fun p e s m args below meth c hsz hnh C hE hP hD0 ls hl => ?_)
  obtain ⟨hx, hb, hr, hml, hown, hts, hlk, hK⟩ := id C
  have hl : lv_has ls 3 [(0, .ref (ad 0)), (1, .int x1), (2, .int x2)] := hl
  refine lv_aload_n hx hb dX5_byteAt_0 rfl (lv_at hl 0 rfl) ?_
  refine va_get (D := D) (cl := vwCl) (ci := 5) (v := .ref (ad 1)) (C := RX5) (T := TX5) (N := 12) hx hb hts in_X5_byteAt_X5 hown hK hP 0 rfl rfl 0 (by decide) (hts _ lk_X5_byteAt_23) (fun _ h9 => h9) rfl dX5_byteAt_1 ?_
  refine va_get (D := D) (cl := vwCl) (ci := 3) (v := .ref (ad 7)) (C := RX3) (T := TX3) (N := 6) hx hb hts in_X5_byteAt_X3 hown hK hP 1 rfl rfl 1 (by decide) (hts _ lk_X5_byteAt_78) (fun _ h9 => h9) rfl dX5_byteAt_4 ?_
  refine lv_aload_n hx hb dX5_byteAt_7 rfl (lv_at hl 0 rfl) ?_
  refine lv_iload_n hx hb dX5_byteAt_8 rfl (lv_at hl 1 rfl) ?_
  refine lv_iload_n hx hb dX5_byteAt_9 rfl (lv_at hl 2 rfl) ?_
  obtain ⟨cellB, h1, h2, h3⟩ := va_recv hK hP (ci := 5) (q0 := 0) rfl rfl
  exact rcT (n := 2) (As := [.int x1, .int x2]) (rest := [.ref (ad 7)]) C hnh (t_cellOf l hfl D n ad cA z x1 x2 hno s.heap.size) gX5_byteAt_X5_cellOf rfl (by decide +kernel) ⟨Nat.le_of_ble_eq_true rfl, Nat.le_of_ble_eq_true rfl⟩ h1 h2 h3 xP_blind (fun U hU hW => ⟨rfl, ⟨by rw [hU], by rw [hU]; exact hP, va_K.moved hW.alike hK, hD0⟩, xE_move hW (fun q c h => by rw [hU]; exact h) hE⟩) rfl hl.1 rfl (Nat.le_of_ble_eq_true rfl) dX5_byteAt_10 (Nat.le_of_ble_eq_true rfl) (Nat.le_of_ble_eq_true rfl)
set_option maxHeartbeats 4000000 in
set_option maxRecDepth 100000 in
theorem t_count (l : Launch) (hfl : l.flags = flags0) (D : va_G) (n : Nat) (ad : Nat → Nat) (cA : Nat → ClassId) (z : SS) (x1 : Int32) (hno : x1.toInt < 0 ∨ 7 < x1.toInt) (sz : Nat) : MT l yX5_count wsX5_count RT_cellOf (xP D (tC cA) [.ref (ad 0), .int x1] (wC n ad cA z) sz) := by
  refine entT (by decide) rfl rfl (Nat.le_of_ble_eq_true rfl) (fun p e s m args below meth c hsz hnh C hE hP hD0 ls hl => ?_)
  obtain ⟨hx, hb, hr, hml, hown, hts, hlk, hK⟩ := id C
  have hl : lv_has ls 2 [(0, .ref (ad 0)), (1, .int x1)] := hl
  have hS : va_S (fun _ => False) s.heap s.heap [] := va_S.rf
  refine lv_iload_n hx hb dX5_count_0 rfl (lv_at hl 1 rfl) ?_
  refine lv_tableOut (x := x1) (tgt := 115) hx hb dX5_count_1 hno (by decide) ?_
  exact rthr hfl C hE hnh hS hl.1 xk_count xi_count dX5_count_115 dX5_count_118 dX5_count_119 dX5_count_122 (Nat.le_of_ble_eq_true rfl) (Nat.le_of_ble_eq_true rfl) (Nat.le_of_ble_eq_true rfl) (Nat.le_of_ble_eq_true rfl)
