/-! constructors -/
theorem oi_X0_init : Cond.methodLink RX0 1 objectInit ∈ wsX0_init := by decide +kernel
theorem oj_X0_init : Cond.instanceMethod objectInit ∈ wsX0_init := by decide +kernel
theorem ok_X0_init : Cond.code objectInit ⟨#[0xb1]⟩ 1 none ∈ wsX0_init := by decide +kernel
theorem ac_X0_init_int : Cond.arrayClass (newarray.typeOf .int) ∈ wsX0_init := by decide +kernel
theorem lk_X0_init_9 : Cond.fieldLink RX0 9 (TX0 0).1 (TX0 0).2.1 (TX0 0).2.2.1 ∈ wsX0_init := by decide +kernel
theorem in_X0_init_X0 : ∀ x ∈ u_ws RX0 TX0 2, x ∈ wsX0_init := by decide +kernel
theorem oi_X4_init : Cond.methodLink RX4 3 objectInit ∈ wsX4_init := by decide +kernel
theorem oj_X4_init : Cond.instanceMethod objectInit ∈ wsX4_init := by decide +kernel
theorem ok_X4_init : Cond.code objectInit ⟨#[0xb1]⟩ 1 none ∈ wsX4_init := by decide +kernel
theorem ac_X4_init_boolean : Cond.arrayClass (newarray.typeOf .boolean) ∈ wsX4_init := by decide +kernel
theorem lk_X4_init_11 : Cond.fieldLink RX4 11 (TX4 0).1 (TX4 0).2.1 (TX4 0).2.2.1 ∈ wsX4_init := by decide +kernel
theorem in_X4_init_X4 : ∀ x ∈ u_ws RX4 TX4 2, x ∈ wsX4_init := by decide +kernel
theorem ac_X4_init_int : Cond.arrayClass (newarray.typeOf .int) ∈ wsX4_init := by decide +kernel
theorem lk_X4_init_15 : Cond.fieldLink RX4 15 (TX4 1).1 (TX4 1).2.1 (TX4 1).2.2.1 ∈ wsX4_init := by decide +kernel
theorem oi_X3_init : Cond.methodLink RX3 3 objectInit ∈ wsX3_init := by decide +kernel
theorem oj_X3_init : Cond.instanceMethod objectInit ∈ wsX3_init := by decide +kernel
theorem ok_X3_init : Cond.code objectInit ⟨#[0xb1]⟩ 1 none ∈ wsX3_init := by decide +kernel
theorem lk_X3_init_9 : Cond.fieldLink RX3 9 (TX3 5).1 (TX3 5).2.1 (TX3 5).2.2.1 ∈ wsX3_init := by decide +kernel
theorem in_X3_init_X3 : ∀ x ∈ u_ws RX3 TX3 6, x ∈ wsX3_init := by decide +kernel
theorem lk_X3_init_15 : Cond.fieldLink RX3 15 (TX3 0).1 (TX3 0).2.1 (TX3 0).2.2.1 ∈ wsX3_init := by decide +kernel
theorem ac_X3_init_int : Cond.arrayClass (newarray.typeOf .int) ∈ wsX3_init := by decide +kernel
theorem lk_X3_init_18 : Cond.fieldLink RX3 18 (TX3 1).1 (TX3 1).2.1 (TX3 1).2.2.1 ∈ wsX3_init := by decide +kernel
theorem lk_X3_init_22 : Cond.fieldLink RX3 22 (TX3 2).1 (TX3 2).2.1 (TX3 2).2.2.1 ∈ wsX3_init := by decide +kernel
theorem lk_X3_init_25 : Cond.fieldLink RX3 25 (TX3 3).1 (TX3 3).2.1 (TX3 3).2.2.1 ∈ wsX3_init := by decide +kernel
theorem oi_X6_init : Cond.methodLink RX6 1 objectInit ∈ wsX6_init := by decide +kernel
theorem oj_X6_init : Cond.instanceMethod objectInit ∈ wsX6_init := by decide +kernel
theorem ok_X6_init : Cond.code objectInit ⟨#[0xb1]⟩ 1 none ∈ wsX6_init := by decide +kernel
theorem ac_X6_init_int : Cond.arrayClass (newarray.typeOf .int) ∈ wsX6_init := by decide +kernel
theorem lk_X6_init_7 : Cond.fieldLink RX6 7 (TX6 2).1 (TX6 2).2.1 (TX6 2).2.2.1 ∈ wsX6_init := by decide +kernel
theorem in_X6_init_X6 : ∀ x ∈ u_ws RX6 TX6 29, x ∈ wsX6_init := by decide +kernel
theorem lk_X6_init_13 : Cond.fieldLink RX6 13 (TX6 3).1 (TX6 3).2.1 (TX6 3).2.2.1 ∈ wsX6_init := by decide +kernel
theorem lk_X6_init_16 : Cond.fieldLink RX6 16 (TX6 4).1 (TX6 4).2.1 (TX6 4).2.2.1 ∈ wsX6_init := by decide +kernel
theorem lk_X6_init_20 : Cond.fieldLink RX6 20 (TX6 7).1 (TX6 7).2.1 (TX6 7).2.2.1 ∈ wsX6_init := by decide +kernel
theorem lk_X6_init_23 : Cond.fieldLink RX6 23 (TX6 9).1 (TX6 9).2.1 (TX6 9).2.2.1 ∈ wsX6_init := by decide +kernel
theorem ac_X6_init_boolean : Cond.arrayClass (newarray.typeOf .boolean) ∈ wsX6_init := by decide +kernel
theorem lk_X6_init_26 : Cond.fieldLink RX6 26 (TX6 10).1 (TX6 10).2.1 (TX6 10).2.2.1 ∈ wsX6_init := by decide +kernel
theorem lk_X6_init_30 : Cond.fieldLink RX6 30 (TX6 11).1 (TX6 11).2.1 (TX6 11).2.2.1 ∈ wsX6_init := by decide +kernel
theorem lk_X6_init_33 : Cond.fieldLink RX6 33 (TX6 13).1 (TX6 13).2.1 (TX6 13).2.2.1 ∈ wsX6_init := by decide +kernel
theorem lk_X6_init_36 : Cond.fieldLink RX6 36 (TX6 16).1 (TX6 16).2.1 (TX6 16).2.2.1 ∈ wsX6_init := by decide +kernel
theorem lk_X6_init_39 : Cond.fieldLink RX6 39 (TX6 17).1 (TX6 17).2.1 (TX6 17).2.2.1 ∈ wsX6_init := by decide +kernel
theorem lk_X6_init_42 : Cond.fieldLink RX6 42 (TX6 18).1 (TX6 18).2.1 (TX6 18).2.2.1 ∈ wsX6_init := by decide +kernel
theorem lk_X6_init_45 : Cond.fieldLink RX6 45 (TX6 19).1 (TX6 19).2.1 (TX6 19).2.2.1 ∈ wsX6_init := by decide +kernel
theorem lk_X6_init_48 : Cond.fieldLink RX6 48 (TX6 20).1 (TX6 20).2.1 (TX6 20).2.2.1 ∈ wsX6_init := by decide +kernel
theorem lk_X6_init_51 : Cond.fieldLink RX6 51 (TX6 21).1 (TX6 21).2.1 (TX6 21).2.2.1 ∈ wsX6_init := by decide +kernel
theorem lk_X6_init_54 : Cond.fieldLink RX6 54 (TX6 25).1 (TX6 25).2.1 (TX6 25).2.2.1 ∈ wsX6_init := by decide +kernel
theorem lk_X6_init_58 : Cond.fieldLink RX6 58 (TX6 27).1 (TX6 27).2.1 (TX6 27).2.2.1 ∈ wsX6_init := by decide +kernel
theorem lk_X6_init_61 : Cond.fieldLink RX6 61 (TX6 28).1 (TX6 28).2.1 (TX6 28).2.2.1 ∈ wsX6_init := by decide +kernel
theorem lk_X6_init_64 : Cond.fieldLink RX6 64 (TX6 0).1 (TX6 0).2.1 (TX6 0).2.2.1 ∈ wsX6_init := by decide +kernel
theorem oi_X1_init : Cond.methodLink RX1 7 objectInit ∈ wsX1_init := by decide +kernel
theorem oj_X1_init : Cond.instanceMethod objectInit ∈ wsX1_init := by decide +kernel
theorem ok_X1_init : Cond.code objectInit ⟨#[0xb1]⟩ 1 none ∈ wsX1_init := by decide +kernel
theorem ac_X1_init_int : Cond.arrayClass (newarray.typeOf .int) ∈ wsX1_init := by decide +kernel
theorem lk_X1_init_15 : Cond.fieldLink RX1 15 (TX1 0).1 (TX1 0).2.1 (TX1 0).2.2.1 ∈ wsX1_init := by decide +kernel
theorem in_X1_init_X1 : ∀ x ∈ u_ws RX1 TX1 6, x ∈ wsX1_init := by decide +kernel
theorem lk_X1_init_19 : Cond.fieldLink RX1 19 (TX1 1).1 (TX1 1).2.1 (TX1 1).2.2.1 ∈ wsX1_init := by decide +kernel
theorem lk_X1_init_22 : Cond.fieldLink RX1 22 (TX1 2).1 (TX1 2).2.1 (TX1 2).2.2.1 ∈ wsX1_init := by decide +kernel
theorem lk_X1_init_25 : Cond.fieldLink RX1 25 (TX1 3).1 (TX1 3).2.1 (TX1 3).2.2.1 ∈ wsX1_init := by decide +kernel
theorem lk_X1_init_28 : Cond.fieldLink RX1 28 (TX1 4).1 (TX1 4).2.1 (TX1 4).2.2.1 ∈ wsX1_init := by decide +kernel
theorem ac_X1_init_boolean : Cond.arrayClass (newarray.typeOf .boolean) ∈ wsX1_init := by decide +kernel
theorem lk_X1_init_31 : Cond.fieldLink RX1 31 (TX1 5).1 (TX1 5).2.1 (TX1 5).2.2.1 ∈ wsX1_init := by decide +kernel
def R_dr_init : Room := { frames := 1, cells := 1, slots := 36, locals := 12 }
def wf_dr_init (h0 : Nat) (u : (Nat → Nat) × (Nat → ClassId)) : va_W := [(h0, .inr (1, [.ref (u.1 1), .int 0])), (u.1 1, .inl (u.2 1, 36, .inl (fun _ => 0)))]
def tf_dr_init (u : (Nat → Nat) × (Nat → ClassId)) : List (ClassId × FieldType) := [(u.2 1, .int)]
set_option maxHeartbeats 4000000 in
set_option maxRecDepth 100000 in
theorem ci_dr_init (l : Launch) (D : va_G) (h0 : Nat) (sz : Nat) : Met l yX0_init wsX0_init R_dr_init (kP D [] [.ref h0] [(h0, .inr (1, [.null, .int 0]))] sz) (kN D [(h0, .inr (1, [.null, .int 0]))] (wf_dr_init h0) tf_dr_init sz) 1 36 (va_A [(h0, .inr (1, [.null, .int 0]))] sz) := by
  refine entI (by decide) rfl rfl rfl (Nat.le_of_ble_eq_true rfl) (fun p e s m args below meth c hsz C hin hS ls hl => ?_)
  subst hsz
  obtain ⟨hx, hb, hr, hml, hown, hts, hlk, hK⟩ := id C
  have hl : lv_has ls 1 [(0, .ref h0)] := hl
  refine lv_aload_n hx hb dX0_init_0 rfl (lv_at hl 0 rfl) ?_
  refine robj C hl.1 oi_X0_init oj_X0_init ok_X0_init (Nat.le_of_ble_eq_true rfl) (Nat.le_of_ble_eq_true rfl) dX0_init_1 ?_
  refine lv_aload_n hx hb dX0_init_4 rfl (lv_at hl 0 rfl) ?_
  refine lv_bipush (v := 36) hx hb dX0_init_5 (by decide) ?_
  refine rarr C hS (fun _ h => Or.inr h) (atype := .int) (ty := .int) rfl ac_X0_init_int (n := 36) (N := 36) (fun _ => rfl) (by decide) (by decide) (by decide) (Nat.le_of_ble_eq_true rfl) (Nat.le_of_ble_eq_true rfl) dX0_init_7 (fun q1 c1 H C hS => ?_)
  refine W.widen (k := 1) (n := 36) (by omega) (by omega) ?_
  have hS : St D (va_A ([(h0, .inr (1, [.null, .int 0]))]) s.heap.size) s.heap [(h0, .inr (1, [.null, .int 0])), (q1, .inl (c1, 36, .inl (fun _ => 0)))] _ _ := hS
  have C : Cx p s m args meth c cX0_init 1 none RX0 wsX0_init D [(c1, .int)] := C
  refine rputF (w' := [(h0, .inr (1, [.ref q1, .int 0])), (q1, .inl (c1, 36, .inl (fun _ => 0)))]) C hin hS in_X0_init_X0 tyX0_ok nmX0 0 rfl rfl 0 (by decide) lk_X0_init_9 rfl rfl rfl rfl (Nat.le_of_ble_eq_true rfl) rfl dX0_init_9 (fun H locs hS => ?_)
  refine W.widen (k := 1) (n := 36) (by omega) (by omega) ?_
  exact rtn (wf := wf_dr_init h0) (tf := tf_dr_init) (fun i => ([h0, q1] : List Nat).getD i 0, fun i => ([c1, c1] : List ClassId).getD i c1) C hS [0] rfl [0, 1] (by decide) rfl rfl dX0_init_12
def R_sn_init : Room := { frames := 1, cells := 2, slots := 8, locals := 12 }
def wf_sn_init (h0 : Nat) (u : (Nat → Nat) × (Nat → ClassId)) : va_W := [(h0, .inr (4, [.ref (u.1 1), .ref (u.1 2)])), (u.1 1, .inl (u.2 1, 4, .inl (fun _ => 0))), (u.1 2, .inl (u.2 2, 4, .inl (fun _ => 0)))]
def tf_sn_init (u : (Nat → Nat) × (Nat → ClassId)) : List (ClassId × FieldType) := [(u.2 1, .boolean), (u.2 2, .int)]
set_option maxHeartbeats 4000000 in
set_option maxRecDepth 100000 in
theorem ci_sn_init (l : Launch) (D : va_G) (h0 : Nat) (sz : Nat) : Met l yX4_init wsX4_init R_sn_init (kP D [] [.ref h0] [(h0, .inr (4, [.null, .null]))] sz) (kN D [(h0, .inr (4, [.null, .null]))] (wf_sn_init h0) tf_sn_init sz) 2 8 (va_A [(h0, .inr (4, [.null, .null]))] sz) := by
  refine entI (by decide) rfl rfl rfl (Nat.le_of_ble_eq_true rfl) (fun p e s m args below meth c hsz C hin hS ls hl => ?_)
  subst hsz
  obtain ⟨hx, hb, hr, hml, hown, hts, hlk, hK⟩ := id C
  have hl : lv_has ls 1 [(0, .ref h0)] := hl
  refine lv_aload_n hx hb dX4_init_0 rfl (lv_at hl 0 rfl) ?_
  refine robj C hl.1 oi_X4_init oj_X4_init ok_X4_init (Nat.le_of_ble_eq_true rfl) (Nat.le_of_ble_eq_true rfl) dX4_init_1 ?_
  refine lv_aload_n hx hb dX4_init_4 rfl (lv_at hl 0 rfl) ?_
  refine lv_iconst (v := 4) hx hb dX4_init_5 (by decide) ?_
  refine rarr C hS (fun _ h => Or.inr h) (atype := .boolean) (ty := .boolean) rfl ac_X4_init_boolean (n := 4) (N := 4) (fun _ => rfl) (by decide) (by decide) (by decide) (Nat.le_of_ble_eq_true rfl) (Nat.le_of_ble_eq_true rfl) dX4_init_6 (fun q1 c1 H C hS => ?_)
  refine W.widen (k := 1) (n := 4) (by omega) (by omega) ?_
  have hS : St D (va_A ([(h0, .inr (4, [.null, .null]))]) s.heap.size) s.heap [(h0, .inr (4, [.null, .null])), (q1, .inl (c1, 4, .inl (fun _ => 0)))] _ _ := hS
  have C : Cx p s m args meth c cX4_init 1 none RX4 wsX4_init D [(c1, .boolean)] := C
  refine rputF (w' := [(h0, .inr (4, [.ref q1, .null])), (q1, .inl (c1, 4, .inl (fun _ => 0)))]) C hin hS in_X4_init_X4 tyX4_ok nmX4 0 rfl rfl 0 (by decide) lk_X4_init_11 rfl rfl rfl rfl (Nat.le_of_ble_eq_true rfl) rfl dX4_init_8 (fun H locs hS => ?_)
  refine lv_aload_n hx hb dX4_init_11 rfl (lv_at hl 0 rfl) ?_
  refine lv_iconst (v := 4) hx hb dX4_init_12 (by decide) ?_
  refine rarr C hS (fun _ h => Or.inr h) (atype := .int) (ty := .int) rfl ac_X4_init_int (n := 4) (N := 4) (fun _ => rfl) (by decide) (by decide) (by decide) (Nat.le_of_ble_eq_true rfl) (Nat.le_of_ble_eq_true rfl) dX4_init_13 (fun q2 c2 H C hS => ?_)
  refine W.widen (k := 2) (n := 8) (by omega) (by omega) ?_
  have hS : St D (va_A ([(h0, .inr (4, [.null, .null]))]) s.heap.size) s.heap [(h0, .inr (4, [.ref q1, .null])), (q1, .inl (c1, 4, .inl (fun _ => 0))), (q2, .inl (c2, 4, .inl (fun _ => 0)))] _ _ := hS
  have C : Cx p s m args meth c cX4_init 1 none RX4 wsX4_init D [(c1, .boolean), (c2, .int)] := C
  refine rputF (w' := [(h0, .inr (4, [.ref q1, .ref q2])), (q1, .inl (c1, 4, .inl (fun _ => 0))), (q2, .inl (c2, 4, .inl (fun _ => 0)))]) C hin hS in_X4_init_X4 tyX4_ok nmX4 0 rfl rfl 1 (by decide) lk_X4_init_15 rfl rfl rfl rfl (Nat.le_of_ble_eq_true rfl) rfl dX4_init_15 (fun H locs hS => ?_)
  refine W.widen (k := 2) (n := 8) (by omega) (by omega) ?_
  exact rtn (wf := wf_sn_init h0) (tf := tf_sn_init) (fun i => ([h0, q1, q2] : List Nat).getD i 0, fun i => ([c1, c1, c2] : List ClassId).getD i c1) C hS [0, 1] rfl [0, 1, 2] (by decide) rfl rfl dX4_init_18
def R_sg_init : Room := { frames := 1, cells := 3, slots := 4812, locals := 12 }
def wf_sg_init (n : Nat) (h0 : Nat) (u : (Nat → Nat) × (Nat → ClassId)) : va_W := [(h0, .inr (3, [.int (nI n), .ref (u.1 1), .ref (u.1 2), .ref (u.1 3), .int 0, .int (-1)])), (u.1 1, .inl (u.2 1, n * 200, .inl (fun _ => 0))), (u.1 2, .inl (u.2 2, n, .inl (fun _ => 0))), (u.1 3, .inl (u.2 3, n * 200, .inl (fun _ => 0)))]
def tf_sg_init (u : (Nat → Nat) × (Nat → ClassId)) : List (ClassId × FieldType) := [(u.2 1, .int), (u.2 2, .int), (u.2 3, .int)]
set_option maxHeartbeats 4000000 in
set_option maxRecDepth 100000 in
theorem ci_sg_init (l : Launch) (D : va_G) (n : Nat) (h0 : Nat) (hn1 : 1 ≤ n) (hn2 : n ≤ 12) (sz : Nat) : Met l yX3_init wsX3_init R_sg_init (kP D [] [.ref h0, .int (nI n)] [(h0, .inr (3, [.int 0, .null, .null, .null, .int 0, .int 0]))] sz) (kN D [(h0, .inr (3, [.int 0, .null, .null, .null, .int 0, .int 0]))] (wf_sg_init n h0) tf_sg_init sz) 3 4812 (va_A [(h0, .inr (3, [.int 0, .null, .null, .null, .int 0, .int 0]))] sz) := by
  refine entI (by decide) rfl rfl rfl (Nat.le_of_ble_eq_true rfl) (fun p e s m args below meth c hsz C hin hS ls hl => ?_)
  subst hsz
  obtain ⟨hx, hb, hr, hml, hown, hts, hlk, hK⟩ := id C
  have hl : lv_has ls 2 [(0, .ref h0), (1, .int (nI n))] := hl
  refine lv_aload_n hx hb dX3_init_0 rfl (lv_at hl 0 rfl) ?_
  refine robj C hl.1 oi_X3_init oj_X3_init ok_X3_init (Nat.le_of_ble_eq_true rfl) (Nat.le_of_ble_eq_true rfl) dX3_init_1 ?_
  refine lv_aload_n hx hb dX3_init_4 rfl (lv_at hl 0 rfl) ?_
  refine lv_iconst (v := (-1)) hx hb dX3_init_5 (by decide) ?_
  refine rput (w' := [(h0, .inr (3, [.int 0, .null, .null, .null, .int 0, .int (-1)]))]) C hS in_X3_init_X3 tyX3_ok nmX3 0 rfl rfl 5 (by decide) lk_X3_init_9 rfl rfl rfl (Nat.le_of_ble_eq_true rfl) rfl dX3_init_6 (fun H locs hS => ?_)
  refine lv_aload_n hx hb dX3_init_9 rfl (lv_at hl 0 rfl) ?_
  refine lv_iload_n hx hb dX3_init_10 rfl (lv_at hl 1 rfl) ?_
  refine rputF (w' := [(h0, .inr (3, [.int (nI n), .null, .null, .null, .int 0, .int (-1)]))]) C hin hS in_X3_init_X3 tyX3_ok nmX3 0 rfl rfl 0 (by decide) lk_X3_init_15 rfl rfl rfl rfl (Nat.le_of_ble_eq_true rfl) rfl dX3_init_11 (fun H locs hS => ?_)
  refine lv_aload_n hx hb dX3_init_14 rfl (lv_at hl 0 rfl) ?_
  refine lv_iload_n hx hb dX3_init_15 rfl (lv_at hl 1 rfl) ?_
  refine lv_sipush (v := 200) hx hb dX3_init_16 (by decide) ?_
  refine lv_imul (x := (nI n)) (y := 200) hx hb dX3_init_19 ?_
  refine rarr C hS (fun _ h => Or.inr h) (atype := .int) (ty := .int) rfl ac_X3_init_int (n := (nI n * 200)) (N := n * 200) (fun _ => rfl) (by rw [show (nI n * 200) = nI (n * 200) from pk_mul n 200]; exact nI_pos (by omega)) (by rw [show (nI n * 200) = nI (n * 200) from pk_mul n 200]; exact nI_clamp (by omega)) (by show n * 200 * 4 ≤ _; omega) (Nat.le_of_ble_eq_true rfl) (by show _ ≤ 4812; omega) dX3_init_20 (fun q1 c1 H C hS => ?_)
  refine W.widen (k := 1) (n := 2400) (by omega) (by omega) ?_
  have hS : St D (va_A ([(h0, .inr (3, [.int 0, .null, .null, .null, .int 0, .int 0]))]) s.heap.size) s.heap [(h0, .inr (3, [.int (nI n), .null, .null, .null, .int 0, .int (-1)])), (q1, .inl (c1, n * 200, .inl (fun _ => 0)))] _ _ := hS
  have C : Cx p s m args meth c cX3_init 2 none RX3 wsX3_init D [(c1, .int)] := C
  refine rputF (w' := [(h0, .inr (3, [.int (nI n), .ref q1, .null, .null, .int 0, .int (-1)])), (q1, .inl (c1, n * 200, .inl (fun _ => 0)))]) C hin hS in_X3_init_X3 tyX3_ok nmX3 0 rfl rfl 1 (by decide) lk_X3_init_18 rfl rfl rfl rfl (Nat.le_of_ble_eq_true rfl) rfl dX3_init_22 (fun H locs hS => ?_)
  refine lv_aload_n hx hb dX3_init_25 rfl (lv_at hl 0 rfl) ?_
  refine lv_iload_n hx hb dX3_init_26 rfl (lv_at hl 1 rfl) ?_
  refine rarr C hS (fun _ h => Or.inr h) (atype := .int) (ty := .int) rfl ac_X3_init_int (n := (nI n)) (N := n) (fun _ => rfl) (nI_pos (by omega)) (nI_clamp (by omega)) (by show n * 4 ≤ _; omega) (Nat.le_of_ble_eq_true rfl) (by show _ ≤ 4812; omega) dX3_init_27 (fun q2 c2 H C hS => ?_)
  refine W.widen (k := 2) (n := 2412) (by omega) (by omega) ?_
  have hS : St D (va_A ([(h0, .inr (3, [.int 0, .null, .null, .null, .int 0, .int 0]))]) s.heap.size) s.heap [(h0, .inr (3, [.int (nI n), .ref q1, .null, .null, .int 0, .int (-1)])), (q1, .inl (c1, n * 200, .inl (fun _ => 0))), (q2, .inl (c2, n, .inl (fun _ => 0)))] _ _ := hS
  have C : Cx p s m args meth c cX3_init 2 none RX3 wsX3_init D [(c1, .int), (c2, .int)] := C
  refine rputF (w' := [(h0, .inr (3, [.int (nI n), .ref q1, .ref q2, .null, .int 0, .int (-1)])), (q1, .inl (c1, n * 200, .inl (fun _ => 0))), (q2, .inl (c2, n, .inl (fun _ => 0)))]) C hin hS in_X3_init_X3 tyX3_ok nmX3 0 rfl rfl 2 (by decide) lk_X3_init_22 rfl rfl rfl rfl (Nat.le_of_ble_eq_true rfl) rfl dX3_init_29 (fun H locs hS => ?_)
  refine lv_aload_n hx hb dX3_init_32 rfl (lv_at hl 0 rfl) ?_
  refine lv_iload_n hx hb dX3_init_33 rfl (lv_at hl 1 rfl) ?_
  refine lv_sipush (v := 200) hx hb dX3_init_34 (by decide) ?_
  refine lv_imul (x := (nI n)) (y := 200) hx hb dX3_init_37 ?_
  refine rarr C hS (fun _ h => Or.inr h) (atype := .int) (ty := .int) rfl ac_X3_init_int (n := (nI n * 200)) (N := n * 200) (fun _ => rfl) (by rw [show (nI n * 200) = nI (n * 200) from pk_mul n 200]; exact nI_pos (by omega)) (by rw [show (nI n * 200) = nI (n * 200) from pk_mul n 200]; exact nI_clamp (by omega)) (by show n * 200 * 4 ≤ _; omega) (Nat.le_of_ble_eq_true rfl) (by show _ ≤ 4812; omega) dX3_init_38 (fun q3 c3 H C hS => ?_)
  refine W.widen (k := 3) (n := 4812) (by omega) (by omega) ?_
  have hS : St D (va_A ([(h0, .inr (3, [.int 0, .null, .null, .null, .int 0, .int 0]))]) s.heap.size) s.heap [(h0, .inr (3, [.int (nI n), .ref q1, .ref q2, .null, .int 0, .int (-1)])), (q1, .inl (c1, n * 200, .inl (fun _ => 0))), (q2, .inl (c2, n, .inl (fun _ => 0))), (q3, .inl (c3, n * 200, .inl (fun _ => 0)))] _ _ := hS
  have C : Cx p s m args meth c cX3_init 2 none RX3 wsX3_init D [(c1, .int), (c2, .int), (c3, .int)] := C
  refine rputF (w' := [(h0, .inr (3, [.int (nI n), .ref q1, .ref q2, .ref q3, .int 0, .int (-1)])), (q1, .inl (c1, n * 200, .inl (fun _ => 0))), (q2, .inl (c2, n, .inl (fun _ => 0))), (q3, .inl (c3, n * 200, .inl (fun _ => 0)))]) C hin hS in_X3_init_X3 tyX3_ok nmX3 0 rfl rfl 3 (by decide) lk_X3_init_25 rfl rfl rfl rfl (Nat.le_of_ble_eq_true rfl) rfl dX3_init_40 (fun H locs hS => ?_)
  refine W.widen (k := 3) (n := 4812) (by omega) (by omega) ?_
  exact rtn (wf := wf_sg_init n h0) (tf := tf_sg_init) (fun i => ([h0, q1, q2, q3] : List Nat).getD i 0, fun i => ([c1, c1, c2, c3] : List ClassId).getD i c1) C hS [0, 1, 2] rfl [0, 1, 2, 3] (by decide) rfl rfl dX3_init_43
def R_rm_init : Room := { frames := 1, cells := 14, slots := 5716, locals := 12 }
def rm_z0 (v : Int32) : SS := (fun k => if k = 0 then v else if k = 4 then (-1) else if k = 13 then (-1) else if k = 25 then 1 else 0, fun _ _ => 0)
def wf_rm_init (v : Int32) (h0 : Nat) (u : (Nat → Nat) × (Nat → ClassId)) : va_W := wM (fun i => if i = 0 then h0 else u.1 i) u.2 (rm_z0 v)
def tf_rm_init (u : (Nat → Nat) × (Nat → ClassId)) : List (ClassId × FieldType) := tM u.2
set_option maxHeartbeats 4000000 in
set_option maxRecDepth 100000 in
theorem ci_rm_init (l : Launch) (D : va_G) (h0 : Nat) (x1 v : Int32) (hv0 : v = if 1 ≤ x1 then (if x1 ≤ 12 then x1 else 12) else 1) (sz : Nat) : Met l yX6_init wsX6_init R_rm_init (kP D [] [.ref h0, .int x1] [(h0, .inr (6, [.int 0, .int 0, .null, .null, .int 0, .int 0, .int 0, .null, .int 0, .null, .null, .null, .int 0, .int 0, .int 0, .int 0, .null, .null, .null, .null, .null, .null, .int 0, .int 0, .int 0, .int 0, .int 0, .null, .null]))] sz) (kN D [(h0, .inr (6, [.int 0, .int 0, .null, .null, .int 0, .int 0, .int 0, .null, .int 0, .null, .null, .null, .int 0, .int 0, .int 0, .int 0, .null, .null, .null, .null, .null, .null, .int 0, .int 0, .int 0, .int 0, .int 0, .null, .null]))] (wf_rm_init v h0) tf_rm_init sz) 14 5716 (va_A [(h0, .inr (6, [.int 0, .int 0, .null, .null, .int 0, .int 0, .int 0, .null, .int 0, .null, .null, .null, .int 0, .int 0, .int 0, .int 0, .null, .null, .null, .null, .null, .null, .int 0, .int 0, .int 0, .int 0, .int 0, .null, .null]))] sz) := by
  refine entI (by decide) rfl rfl rfl (Nat.le_of_ble_eq_true rfl) (fun p e s m args below meth c hsz C hin hS ls hl => ?_)
  subst hsz
  obtain ⟨hx, hb, hr, hml, hown, hts, hlk, hK⟩ := id C
  have hl : lv_has ls 2 [(0, .ref h0), (1, .int x1)] := hl
  refine lv_aload_n hx hb dX6_init_0 rfl (lv_at hl 0 rfl) ?_
  refine robj C hl.1 oi_X6_init oj_X6_init ok_X6_init (Nat.le_of_ble_eq_true rfl) (Nat.le_of_ble_eq_true rfl) dX6_init_1 ?_
  refine lv_aload_n hx hb dX6_init_4 rfl (lv_at hl 0 rfl) ?_
  refine lv_sipush (v := 2400) hx hb dX6_init_5 (by decide) ?_
  refine rarr C hS (fun _ h => Or.inr h) (atype := .int) (ty := .int) rfl ac_X6_init_int (n := 2400) (N := 2400) (fun _ => rfl) (by decide) (by decide) (by decide) (Nat.le_of_ble_eq_true rfl) (Nat.le_of_ble_eq_true rfl) dX6_init_8 (fun q1 c1 H C hS => ?_)
  refine W.widen (k := 1) (n := 2400) (by omega) (by omega) ?_
  have hS : St D (va_A [(h0, .inr (6, [.int 0, .int 0, .null, .null, .int 0, .int 0, .int 0, .null, .int 0, .null, .null, .null, .int 0, .int 0, .int 0, .int 0, .null, .null, .null, .null, .null, .null, .int 0, .int 0, .int 0, .int 0, .int 0, .null, .null]))] s.heap.size) s.heap [(h0, .inr (6, [.int 0, .int 0, .null, .null, .int 0, .int 0, .int 0, .null, .int 0, .null, .null, .null, .int 0, .int 0, .int 0, .int 0, .null, .null, .null, .null, .null, .null, .int 0, .int 0, .int 0, .int 0, .int 0, .null, .null])), (q1, .inl (c1, 2400, .inl (fun _ => 0)))] _ _ := hS
  have C : Cx p s m args meth c cX6_init 2 none RX6 wsX6_init D [(c1, .int)] := C
  refine rputF (w' := [(h0, .inr (6, [.int 0, .int 0, .ref q1, .null, .int 0, .int 0, .int 0, .null, .int 0, .null, .null, .null, .int 0, .int 0, .int 0, .int 0, .null, .null, .null, .null, .null, .null, .int 0, .int 0, .int 0, .int 0, .int 0, .null, .null])), (q1, .inl (c1, 2400, .inl (fun _ => 0)))]) C hin hS in_X6_init_X6 tyX6_ok nmX6 0 rfl rfl 2 (by decide) lk_X6_init_7 rfl rfl rfl rfl (Nat.le_of_ble_eq_true rfl) rfl dX6_init_10 (fun H locs hS => ?_)
  refine lv_aload_n hx hb dX6_init_13 rfl (lv_at hl 0 rfl) ?_
  refine lv_bipush (v := 12) hx hb dX6_init_14 (by decide) ?_
  refine rarr C hS (fun _ h => Or.inr h) (atype := .int) (ty := .int) rfl ac_X6_init_int (n := 12) (N := 12) (fun _ => rfl) (by decide) (by decide) (by decide) (Nat.le_of_ble_eq_true rfl) (Nat.le_of_ble_eq_true rfl) dX6_init_16 (fun q2 c2 H C hS => ?_)
  refine W.widen (k := 2) (n := 2412) (by omega) (by omega) ?_
  have hS : St D (va_A [(h0, .inr (6, [.int 0, .int 0, .null, .null, .int 0, .int 0, .int 0, .null, .int 0, .null, .null, .null, .int 0, .int 0, .int 0, .int 0, .null, .null, .null, .null, .null, .null, .int 0, .int 0, .int 0, .int 0, .int 0, .null, .null]))] s.heap.size) s.heap [(h0, .inr (6, [.int 0, .int 0, .ref q1, .null, .int 0, .int 0, .int 0, .null, .int 0, .null, .null, .null, .int 0, .int 0, .int 0, .int 0, .null, .null, .null, .null, .null, .null, .int 0, .int 0, .int 0, .int 0, .int 0, .null, .null])), (q1, .inl (c1, 2400, .inl (fun _ => 0))), (q2, .inl (c2, 12, .inl (fun _ => 0)))] _ _ := hS
  have C : Cx p s m args meth c cX6_init 2 none RX6 wsX6_init D [(c1, .int), (c2, .int)] := C
  refine rputF (w' := [(h0, .inr (6, [.int 0, .int 0, .ref q1, .ref q2, .int 0, .int 0, .int 0, .null, .int 0, .null, .null, .null, .int 0, .int 0, .int 0, .int 0, .null, .null, .null, .null, .null, .null, .int 0, .int 0, .int 0, .int 0, .int 0, .null, .null])), (q1, .inl (c1, 2400, .inl (fun _ => 0))), (q2, .inl (c2, 12, .inl (fun _ => 0)))]) C hin hS in_X6_init_X6 tyX6_ok nmX6 0 rfl rfl 3 (by decide) lk_X6_init_13 rfl rfl rfl rfl (Nat.le_of_ble_eq_true rfl) rfl dX6_init_18 (fun H locs hS => ?_)
  refine lv_aload_n hx hb dX6_init_21 rfl (lv_at hl 0 rfl) ?_
  refine lv_iconst (v := (-1)) hx hb dX6_init_22 (by decide) ?_
  refine rput (w' := [(h0, .inr (6, [.int 0, .int 0, .ref q1, .ref q2, .int (-1), .int 0, .int 0, .null, .int 0, .null, .null, .null, .int 0, .int 0, .int 0, .int 0, .null, .null, .null, .null, .null, .null, .int 0, .int 0, .int 0, .int 0, .int 0, .null, .null])), (q1, .inl (c1, 2400, .inl (fun _ => 0))), (q2, .inl (c2, 12, .inl (fun _ => 0)))]) C hS in_X6_init_X6 tyX6_ok nmX6 0 rfl rfl 4 (by decide) lk_X6_init_16 rfl rfl rfl (Nat.le_of_ble_eq_true rfl) rfl dX6_init_23 (fun H locs hS => ?_)
  refine lv_aload_n hx hb dX6_init_26 rfl (lv_at hl 0 rfl) ?_
  refine lv_bipush (v := 20) hx hb dX6_init_27 (by decide) ?_
  refine rarr C hS (fun _ h => Or.inr h) (atype := .int) (ty := .int) rfl ac_X6_init_int (n := 20) (N := 20) (fun _ => rfl) (by decide) (by decide) (by decide) (Nat.le_of_ble_eq_true rfl) (Nat.le_of_ble_eq_true rfl) dX6_init_29 (fun q3 c3 H C hS => ?_)
  refine W.widen (k := 3) (n := 2432) (by omega) (by omega) ?_
  have hS : St D (va_A [(h0, .inr (6, [.int 0, .int 0, .null, .null, .int 0, .int 0, .int 0, .null, .int 0, .null, .null, .null, .int 0, .int 0, .int 0, .int 0, .null, .null, .null, .null, .null, .null, .int 0, .int 0, .int 0, .int 0, .int 0, .null, .null]))] s.heap.size) s.heap [(h0, .inr (6, [.int 0, .int 0, .ref q1, .ref q2, .int (-1), .int 0, .int 0, .null, .int 0, .null, .null, .null, .int 0, .int 0, .int 0, .int 0, .null, .null, .null, .null, .null, .null, .int 0, .int 0, .int 0, .int 0, .int 0, .null, .null])), (q1, .inl (c1, 2400, .inl (fun _ => 0))), (q2, .inl (c2, 12, .inl (fun _ => 0))), (q3, .inl (c3, 20, .inl (fun _ => 0)))] _ _ := hS
  have C : Cx p s m args meth c cX6_init 2 none RX6 wsX6_init D [(c1, .int), (c2, .int), (c3, .int)] := C
  refine rputF (w' := [(h0, .inr (6, [.int 0, .int 0, .ref q1, .ref q2, .int (-1), .int 0, .int 0, .ref q3, .int 0, .null, .null, .null, .int 0, .int 0, .int 0, .int 0, .null, .null, .null, .null, .null, .null, .int 0, .int 0, .int 0, .int 0, .int 0, .null, .null])), (q1, .inl (c1, 2400, .inl (fun _ => 0))), (q2, .inl (c2, 12, .inl (fun _ => 0))), (q3, .inl (c3, 20, .inl (fun _ => 0)))]) C hin hS in_X6_init_X6 tyX6_ok nmX6 0 rfl rfl 7 (by decide) lk_X6_init_20 rfl rfl rfl rfl (Nat.le_of_ble_eq_true rfl) rfl dX6_init_31 (fun H locs hS => ?_)
  refine lv_aload_n hx hb dX6_init_34 rfl (lv_at hl 0 rfl) ?_
  refine lv_sipush (v := 2400) hx hb dX6_init_35 (by decide) ?_
  refine rarr C hS (fun _ h => Or.inr h) (atype := .int) (ty := .int) rfl ac_X6_init_int (n := 2400) (N := 2400) (fun _ => rfl) (by decide) (by decide) (by decide) (Nat.le_of_ble_eq_true rfl) (Nat.le_of_ble_eq_true rfl) dX6_init_38 (fun q4 c4 H C hS => ?_)
  refine W.widen (k := 4) (n := 4832) (by omega) (by omega) ?_
  have hS : St D (va_A [(h0, .inr (6, [.int 0, .int 0, .null, .null, .int 0, .int 0, .int 0, .null, .int 0, .null, .null, .null, .int 0, .int 0, .int 0, .int 0, .null, .null, .null, .null, .null, .null, .int 0, .int 0, .int 0, .int 0, .int 0, .null, .null]))] s.heap.size) s.heap [(h0, .inr (6, [.int 0, .int 0, .ref q1, .ref q2, .int (-1), .int 0, .int 0, .ref q3, .int 0, .null, .null, .null, .int 0, .int 0, .int 0, .int 0, .null, .null, .null, .null, .null, .null, .int 0, .int 0, .int 0, .int 0, .int 0, .null, .null])), (q1, .inl (c1, 2400, .inl (fun _ => 0))), (q2, .inl (c2, 12, .inl (fun _ => 0))), (q3, .inl (c3, 20, .inl (fun _ => 0))), (q4, .inl (c4, 2400, .inl (fun _ => 0)))] _ _ := hS
  have C : Cx p s m args meth c cX6_init 2 none RX6 wsX6_init D [(c1, .int), (c2, .int), (c3, .int), (c4, .int)] := C
  refine rputF (w' := [(h0, .inr (6, [.int 0, .int 0, .ref q1, .ref q2, .int (-1), .int 0, .int 0, .ref q3, .int 0, .ref q4, .null, .null, .int 0, .int 0, .int 0, .int 0, .null, .null, .null, .null, .null, .null, .int 0, .int 0, .int 0, .int 0, .int 0, .null, .null])), (q1, .inl (c1, 2400, .inl (fun _ => 0))), (q2, .inl (c2, 12, .inl (fun _ => 0))), (q3, .inl (c3, 20, .inl (fun _ => 0))), (q4, .inl (c4, 2400, .inl (fun _ => 0)))]) C hin hS in_X6_init_X6 tyX6_ok nmX6 0 rfl rfl 9 (by decide) lk_X6_init_23 rfl rfl rfl rfl (Nat.le_of_ble_eq_true rfl) rfl dX6_init_40 (fun H locs hS => ?_)
  refine lv_aload_n hx hb dX6_init_43 rfl (lv_at hl 0 rfl) ?_
  refine lv_iconst (v := 4) hx hb dX6_init_44 (by decide) ?_
  refine rarr C hS (fun _ h => Or.inr h) (atype := .boolean) (ty := .boolean) rfl ac_X6_init_boolean (n := 4) (N := 4) (fun _ => rfl) (by decide) (by decide) (by decide) (Nat.le_of_ble_eq_true rfl) (Nat.le_of_ble_eq_true rfl) dX6_init_45 (fun q5 c5 H C hS => ?_)
  refine W.widen (k := 5) (n := 4836) (by omega) (by omega) ?_
  have hS : St D (va_A [(h0, .inr (6, [.int 0, .int 0, .null, .null, .int 0, .int 0, .int 0, .null, .int 0, .null, .null, .null, .int 0, .int 0, .int 0, .int 0, .null, .null, .null, .null, .null, .null, .int 0, .int 0, .int 0, .int 0, .int 0, .null, .null]))] s.heap.size) s.heap [(h0, .inr (6, [.int 0, .int 0, .ref q1, .ref q2, .int (-1), .int 0, .int 0, .ref q3, .int 0, .ref q4, .null, .null, .int 0, .int 0, .int 0, .int 0, .null, .null, .null, .null, .null, .null, .int 0, .int 0, .int 0, .int 0, .int 0, .null, .null])), (q1, .inl (c1, 2400, .inl (fun _ => 0))), (q2, .inl (c2, 12, .inl (fun _ => 0))), (q3, .inl (c3, 20, .inl (fun _ => 0))), (q4, .inl (c4, 2400, .inl (fun _ => 0))), (q5, .inl (c5, 4, .inl (fun _ => 0)))] _ _ := hS
  have C : Cx p s m args meth c cX6_init 2 none RX6 wsX6_init D [(c1, .int), (c2, .int), (c3, .int), (c4, .int), (c5, .boolean)] := C
  refine rputF (w' := [(h0, .inr (6, [.int 0, .int 0, .ref q1, .ref q2, .int (-1), .int 0, .int 0, .ref q3, .int 0, .ref q4, .ref q5, .null, .int 0, .int 0, .int 0, .int 0, .null, .null, .null, .null, .null, .null, .int 0, .int 0, .int 0, .int 0, .int 0, .null, .null])), (q1, .inl (c1, 2400, .inl (fun _ => 0))), (q2, .inl (c2, 12, .inl (fun _ => 0))), (q3, .inl (c3, 20, .inl (fun _ => 0))), (q4, .inl (c4, 2400, .inl (fun _ => 0))), (q5, .inl (c5, 4, .inl (fun _ => 0)))]) C hin hS in_X6_init_X6 tyX6_ok nmX6 0 rfl rfl 10 (by decide) lk_X6_init_26 rfl rfl rfl rfl (Nat.le_of_ble_eq_true rfl) rfl dX6_init_47 (fun H locs hS => ?_)
  refine lv_aload_n hx hb dX6_init_50 rfl (lv_at hl 0 rfl) ?_
  refine lv_iconst (v := 4) hx hb dX6_init_51 (by decide) ?_
  refine rarr C hS (fun _ h => Or.inr h) (atype := .int) (ty := .int) rfl ac_X6_init_int (n := 4) (N := 4) (fun _ => rfl) (by decide) (by decide) (by decide) (Nat.le_of_ble_eq_true rfl) (Nat.le_of_ble_eq_true rfl) dX6_init_52 (fun q6 c6 H C hS => ?_)
  refine W.widen (k := 6) (n := 4840) (by omega) (by omega) ?_
  have hS : St D (va_A [(h0, .inr (6, [.int 0, .int 0, .null, .null, .int 0, .int 0, .int 0, .null, .int 0, .null, .null, .null, .int 0, .int 0, .int 0, .int 0, .null, .null, .null, .null, .null, .null, .int 0, .int 0, .int 0, .int 0, .int 0, .null, .null]))] s.heap.size) s.heap [(h0, .inr (6, [.int 0, .int 0, .ref q1, .ref q2, .int (-1), .int 0, .int 0, .ref q3, .int 0, .ref q4, .ref q5, .null, .int 0, .int 0, .int 0, .int 0, .null, .null, .null, .null, .null, .null, .int 0, .int 0, .int 0, .int 0, .int 0, .null, .null])), (q1, .inl (c1, 2400, .inl (fun _ => 0))), (q2, .inl (c2, 12, .inl (fun _ => 0))), (q3, .inl (c3, 20, .inl (fun _ => 0))), (q4, .inl (c4, 2400, .inl (fun _ => 0))), (q5, .inl (c5, 4, .inl (fun _ => 0))), (q6, .inl (c6, 4, .inl (fun _ => 0)))] _ _ := hS
  have C : Cx p s m args meth c cX6_init 2 none RX6 wsX6_init D [(c1, .int), (c2, .int), (c3, .int), (c4, .int), (c5, .boolean), (c6, .int)] := C
  refine rputF (w' := [(h0, .inr (6, [.int 0, .int 0, .ref q1, .ref q2, .int (-1), .int 0, .int 0, .ref q3, .int 0, .ref q4, .ref q5, .ref q6, .int 0, .int 0, .int 0, .int 0, .null, .null, .null, .null, .null, .null, .int 0, .int 0, .int 0, .int 0, .int 0, .null, .null])), (q1, .inl (c1, 2400, .inl (fun _ => 0))), (q2, .inl (c2, 12, .inl (fun _ => 0))), (q3, .inl (c3, 20, .inl (fun _ => 0))), (q4, .inl (c4, 2400, .inl (fun _ => 0))), (q5, .inl (c5, 4, .inl (fun _ => 0))), (q6, .inl (c6, 4, .inl (fun _ => 0)))]) C hin hS in_X6_init_X6 tyX6_ok nmX6 0 rfl rfl 11 (by decide) lk_X6_init_30 rfl rfl rfl rfl (Nat.le_of_ble_eq_true rfl) rfl dX6_init_54 (fun H locs hS => ?_)
  refine lv_aload_n hx hb dX6_init_57 rfl (lv_at hl 0 rfl) ?_
  refine lv_iconst (v := (-1)) hx hb dX6_init_58 (by decide) ?_
  refine rput (w' := [(h0, .inr (6, [.int 0, .int 0, .ref q1, .ref q2, .int (-1), .int 0, .int 0, .ref q3, .int 0, .ref q4, .ref q5, .ref q6, .int 0, .int (-1), .int 0, .int 0, .null, .null, .null, .null, .null, .null, .int 0, .int 0, .int 0, .int 0, .int 0, .null, .null])), (q1, .inl (c1, 2400, .inl (fun _ => 0))), (q2, .inl (c2, 12, .inl (fun _ => 0))), (q3, .inl (c3, 20, .inl (fun _ => 0))), (q4, .inl (c4, 2400, .inl (fun _ => 0))), (q5, .inl (c5, 4, .inl (fun _ => 0))), (q6, .inl (c6, 4, .inl (fun _ => 0)))]) C hS in_X6_init_X6 tyX6_ok nmX6 0 rfl rfl 13 (by decide) lk_X6_init_33 rfl rfl rfl (Nat.le_of_ble_eq_true rfl) rfl dX6_init_59 (fun H locs hS => ?_)
  refine lv_aload_n hx hb dX6_init_62 rfl (lv_at hl 0 rfl) ?_
  refine lv_sipush (v := 160) hx hb dX6_init_63 (by decide) ?_
  refine rarr C hS (fun _ h => Or.inr h) (atype := .int) (ty := .int) rfl ac_X6_init_int (n := 160) (N := 160) (fun _ => rfl) (by decide) (by decide) (by decide) (Nat.le_of_ble_eq_true rfl) (Nat.le_of_ble_eq_true rfl) dX6_init_66 (fun q7 c7 H C hS => ?_)
  refine W.widen (k := 7) (n := 5000) (by omega) (by omega) ?_
  have hS : St D (va_A [(h0, .inr (6, [.int 0, .int 0, .null, .null, .int 0, .int 0, .int 0, .null, .int 0, .null, .null, .null, .int 0, .int 0, .int 0, .int 0, .null, .null, .null, .null, .null, .null, .int 0, .int 0, .int 0, .int 0, .int 0, .null, .null]))] s.heap.size) s.heap [(h0, .inr (6, [.int 0, .int 0, .ref q1, .ref q2, .int (-1), .int 0, .int 0, .ref q3, .int 0, .ref q4, .ref q5, .ref q6, .int 0, .int (-1), .int 0, .int 0, .null, .null, .null, .null, .null, .null, .int 0, .int 0, .int 0, .int 0, .int 0, .null, .null])), (q1, .inl (c1, 2400, .inl (fun _ => 0))), (q2, .inl (c2, 12, .inl (fun _ => 0))), (q3, .inl (c3, 20, .inl (fun _ => 0))), (q4, .inl (c4, 2400, .inl (fun _ => 0))), (q5, .inl (c5, 4, .inl (fun _ => 0))), (q6, .inl (c6, 4, .inl (fun _ => 0))), (q7, .inl (c7, 160, .inl (fun _ => 0)))] _ _ := hS
  have C : Cx p s m args meth c cX6_init 2 none RX6 wsX6_init D [(c1, .int), (c2, .int), (c3, .int), (c4, .int), (c5, .boolean), (c6, .int), (c7, .int)] := C
  refine rputF (w' := [(h0, .inr (6, [.int 0, .int 0, .ref q1, .ref q2, .int (-1), .int 0, .int 0, .ref q3, .int 0, .ref q4, .ref q5, .ref q6, .int 0, .int (-1), .int 0, .int 0, .ref q7, .null, .null, .null, .null, .null, .int 0, .int 0, .int 0, .int 0, .int 0, .null, .null])), (q1, .inl (c1, 2400, .inl (fun _ => 0))), (q2, .inl (c2, 12, .inl (fun _ => 0))), (q3, .inl (c3, 20, .inl (fun _ => 0))), (q4, .inl (c4, 2400, .inl (fun _ => 0))), (q5, .inl (c5, 4, .inl (fun _ => 0))), (q6, .inl (c6, 4, .inl (fun _ => 0))), (q7, .inl (c7, 160, .inl (fun _ => 0)))]) C hin hS in_X6_init_X6 tyX6_ok nmX6 0 rfl rfl 16 (by decide) lk_X6_init_36 rfl rfl rfl rfl (Nat.le_of_ble_eq_true rfl) rfl dX6_init_68 (fun H locs hS => ?_)
  refine lv_aload_n hx hb dX6_init_71 rfl (lv_at hl 0 rfl) ?_
  refine lv_sipush (v := 160) hx hb dX6_init_72 (by decide) ?_
  refine rarr C hS (fun _ h => Or.inr h) (atype := .int) (ty := .int) rfl ac_X6_init_int (n := 160) (N := 160) (fun _ => rfl) (by decide) (by decide) (by decide) (Nat.le_of_ble_eq_true rfl) (Nat.le_of_ble_eq_true rfl) dX6_init_75 (fun q8 c8 H C hS => ?_)
  refine W.widen (k := 8) (n := 5160) (by omega) (by omega) ?_
  have hS : St D (va_A [(h0, .inr (6, [.int 0, .int 0, .null, .null, .int 0, .int 0, .int 0, .null, .int 0, .null, .null, .null, .int 0, .int 0, .int 0, .int 0, .null, .null, .null, .null, .null, .null, .int 0, .int 0, .int 0, .int 0, .int 0, .null, .null]))] s.heap.size) s.heap [(h0, .inr (6, [.int 0, .int 0, .ref q1, .ref q2, .int (-1), .int 0, .int 0, .ref q3, .int 0, .ref q4, .ref q5, .ref q6, .int 0, .int (-1), .int 0, .int 0, .ref q7, .null, .null, .null, .null, .null, .int 0, .int 0, .int 0, .int 0, .int 0, .null, .null])), (q1, .inl (c1, 2400, .inl (fun _ => 0))), (q2, .inl (c2, 12, .inl (fun _ => 0))), (q3, .inl (c3, 20, .inl (fun _ => 0))), (q4, .inl (c4, 2400, .inl (fun _ => 0))), (q5, .inl (c5, 4, .inl (fun _ => 0))), (q6, .inl (c6, 4, .inl (fun _ => 0))), (q7, .inl (c7, 160, .inl (fun _ => 0))), (q8, .inl (c8, 160, .inl (fun _ => 0)))] _ _ := hS
  have C : Cx p s m args meth c cX6_init 2 none RX6 wsX6_init D [(c1, .int), (c2, .int), (c3, .int), (c4, .int), (c5, .boolean), (c6, .int), (c7, .int), (c8, .int)] := C
  refine rputF (w' := [(h0, .inr (6, [.int 0, .int 0, .ref q1, .ref q2, .int (-1), .int 0, .int 0, .ref q3, .int 0, .ref q4, .ref q5, .ref q6, .int 0, .int (-1), .int 0, .int 0, .ref q7, .ref q8, .null, .null, .null, .null, .int 0, .int 0, .int 0, .int 0, .int 0, .null, .null])), (q1, .inl (c1, 2400, .inl (fun _ => 0))), (q2, .inl (c2, 12, .inl (fun _ => 0))), (q3, .inl (c3, 20, .inl (fun _ => 0))), (q4, .inl (c4, 2400, .inl (fun _ => 0))), (q5, .inl (c5, 4, .inl (fun _ => 0))), (q6, .inl (c6, 4, .inl (fun _ => 0))), (q7, .inl (c7, 160, .inl (fun _ => 0))), (q8, .inl (c8, 160, .inl (fun _ => 0)))]) C hin hS in_X6_init_X6 tyX6_ok nmX6 0 rfl rfl 17 (by decide) lk_X6_init_39 rfl rfl rfl rfl (Nat.le_of_ble_eq_true rfl) rfl dX6_init_77 (fun H locs hS => ?_)
  refine lv_aload_n hx hb dX6_init_80 rfl (lv_at hl 0 rfl) ?_
  refine lv_sipush (v := 160) hx hb dX6_init_81 (by decide) ?_
  refine rarr C hS (fun _ h => Or.inr h) (atype := .int) (ty := .int) rfl ac_X6_init_int (n := 160) (N := 160) (fun _ => rfl) (by decide) (by decide) (by decide) (Nat.le_of_ble_eq_true rfl) (Nat.le_of_ble_eq_true rfl) dX6_init_84 (fun q9 c9 H C hS => ?_)
  refine W.widen (k := 9) (n := 5320) (by omega) (by omega) ?_
  have hS : St D (va_A [(h0, .inr (6, [.int 0, .int 0, .null, .null, .int 0, .int 0, .int 0, .null, .int 0, .null, .null, .null, .int 0, .int 0, .int 0, .int 0, .null, .null, .null, .null, .null, .null, .int 0, .int 0, .int 0, .int 0, .int 0, .null, .null]))] s.heap.size) s.heap [(h0, .inr (6, [.int 0, .int 0, .ref q1, .ref q2, .int (-1), .int 0, .int 0, .ref q3, .int 0, .ref q4, .ref q5, .ref q6, .int 0, .int (-1), .int 0, .int 0, .ref q7, .ref q8, .null, .null, .null, .null, .int 0, .int 0, .int 0, .int 0, .int 0, .null, .null])), (q1, .inl (c1, 2400, .inl (fun _ => 0))), (q2, .inl (c2, 12, .inl (fun _ => 0))), (q3, .inl (c3, 20, .inl (fun _ => 0))), (q4, .inl (c4, 2400, .inl (fun _ => 0))), (q5, .inl (c5, 4, .inl (fun _ => 0))), (q6, .inl (c6, 4, .inl (fun _ => 0))), (q7, .inl (c7, 160, .inl (fun _ => 0))), (q8, .inl (c8, 160, .inl (fun _ => 0))), (q9, .inl (c9, 160, .inl (fun _ => 0)))] _ _ := hS
  have C : Cx p s m args meth c cX6_init 2 none RX6 wsX6_init D [(c1, .int), (c2, .int), (c3, .int), (c4, .int), (c5, .boolean), (c6, .int), (c7, .int), (c8, .int), (c9, .int)] := C
  refine rputF (w' := [(h0, .inr (6, [.int 0, .int 0, .ref q1, .ref q2, .int (-1), .int 0, .int 0, .ref q3, .int 0, .ref q4, .ref q5, .ref q6, .int 0, .int (-1), .int 0, .int 0, .ref q7, .ref q8, .ref q9, .null, .null, .null, .int 0, .int 0, .int 0, .int 0, .int 0, .null, .null])), (q1, .inl (c1, 2400, .inl (fun _ => 0))), (q2, .inl (c2, 12, .inl (fun _ => 0))), (q3, .inl (c3, 20, .inl (fun _ => 0))), (q4, .inl (c4, 2400, .inl (fun _ => 0))), (q5, .inl (c5, 4, .inl (fun _ => 0))), (q6, .inl (c6, 4, .inl (fun _ => 0))), (q7, .inl (c7, 160, .inl (fun _ => 0))), (q8, .inl (c8, 160, .inl (fun _ => 0))), (q9, .inl (c9, 160, .inl (fun _ => 0)))]) C hin hS in_X6_init_X6 tyX6_ok nmX6 0 rfl rfl 18 (by decide) lk_X6_init_42 rfl rfl rfl rfl (Nat.le_of_ble_eq_true rfl) rfl dX6_init_86 (fun H locs hS => ?_)
  refine lv_aload_n hx hb dX6_init_89 rfl (lv_at hl 0 rfl) ?_
  refine lv_sipush (v := 160) hx hb dX6_init_90 (by decide) ?_
  refine rarr C hS (fun _ h => Or.inr h) (atype := .boolean) (ty := .boolean) rfl ac_X6_init_boolean (n := 160) (N := 160) (fun _ => rfl) (by decide) (by decide) (by decide) (Nat.le_of_ble_eq_true rfl) (Nat.le_of_ble_eq_true rfl) dX6_init_93 (fun q10 c10 H C hS => ?_)
  refine W.widen (k := 10) (n := 5480) (by omega) (by omega) ?_
  have hS : St D (va_A [(h0, .inr (6, [.int 0, .int 0, .null, .null, .int 0, .int 0, .int 0, .null, .int 0, .null, .null, .null, .int 0, .int 0, .int 0, .int 0, .null, .null, .null, .null, .null, .null, .int 0, .int 0, .int 0, .int 0, .int 0, .null, .null]))] s.heap.size) s.heap [(h0, .inr (6, [.int 0, .int 0, .ref q1, .ref q2, .int (-1), .int 0, .int 0, .ref q3, .int 0, .ref q4, .ref q5, .ref q6, .int 0, .int (-1), .int 0, .int 0, .ref q7, .ref q8, .ref q9, .null, .null, .null, .int 0, .int 0, .int 0, .int 0, .int 0, .null, .null])), (q1, .inl (c1, 2400, .inl (fun _ => 0))), (q2, .inl (c2, 12, .inl (fun _ => 0))), (q3, .inl (c3, 20, .inl (fun _ => 0))), (q4, .inl (c4, 2400, .inl (fun _ => 0))), (q5, .inl (c5, 4, .inl (fun _ => 0))), (q6, .inl (c6, 4, .inl (fun _ => 0))), (q7, .inl (c7, 160, .inl (fun _ => 0))), (q8, .inl (c8, 160, .inl (fun _ => 0))), (q9, .inl (c9, 160, .inl (fun _ => 0))), (q10, .inl (c10, 160, .inl (fun _ => 0)))] _ _ := hS
  have C : Cx p s m args meth c cX6_init 2 none RX6 wsX6_init D [(c1, .int), (c2, .int), (c3, .int), (c4, .int), (c5, .boolean), (c6, .int), (c7, .int), (c8, .int), (c9, .int), (c10, .boolean)] := C
  refine rputF (w' := [(h0, .inr (6, [.int 0, .int 0, .ref q1, .ref q2, .int (-1), .int 0, .int 0, .ref q3, .int 0, .ref q4, .ref q5, .ref q6, .int 0, .int (-1), .int 0, .int 0, .ref q7, .ref q8, .ref q9, .ref q10, .null, .null, .int 0, .int 0, .int 0, .int 0, .int 0, .null, .null])), (q1, .inl (c1, 2400, .inl (fun _ => 0))), (q2, .inl (c2, 12, .inl (fun _ => 0))), (q3, .inl (c3, 20, .inl (fun _ => 0))), (q4, .inl (c4, 2400, .inl (fun _ => 0))), (q5, .inl (c5, 4, .inl (fun _ => 0))), (q6, .inl (c6, 4, .inl (fun _ => 0))), (q7, .inl (c7, 160, .inl (fun _ => 0))), (q8, .inl (c8, 160, .inl (fun _ => 0))), (q9, .inl (c9, 160, .inl (fun _ => 0))), (q10, .inl (c10, 160, .inl (fun _ => 0)))]) C hin hS in_X6_init_X6 tyX6_ok nmX6 0 rfl rfl 19 (by decide) lk_X6_init_45 rfl rfl rfl rfl (Nat.le_of_ble_eq_true rfl) rfl dX6_init_95 (fun H locs hS => ?_)
  refine lv_aload_n hx hb dX6_init_98 rfl (lv_at hl 0 rfl) ?_
  refine lv_sipush (v := 160) hx hb dX6_init_99 (by decide) ?_
  refine rarr C hS (fun _ h => Or.inr h) (atype := .int) (ty := .int) rfl ac_X6_init_int (n := 160) (N := 160) (fun _ => rfl) (by decide) (by decide) (by decide) (Nat.le_of_ble_eq_true rfl) (Nat.le_of_ble_eq_true rfl) dX6_init_102 (fun q11 c11 H C hS => ?_)
  refine W.widen (k := 11) (n := 5640) (by omega) (by omega) ?_
  have hS : St D (va_A [(h0, .inr (6, [.int 0, .int 0, .null, .null, .int 0, .int 0, .int 0, .null, .int 0, .null, .null, .null, .int 0, .int 0, .int 0, .int 0, .null, .null, .null, .null, .null, .null, .int 0, .int 0, .int 0, .int 0, .int 0, .null, .null]))] s.heap.size) s.heap [(h0, .inr (6, [.int 0, .int 0, .ref q1, .ref q2, .int (-1), .int 0, .int 0, .ref q3, .int 0, .ref q4, .ref q5, .ref q6, .int 0, .int (-1), .int 0, .int 0, .ref q7, .ref q8, .ref q9, .ref q10, .null, .null, .int 0, .int 0, .int 0, .int 0, .int 0, .null, .null])), (q1, .inl (c1, 2400, .inl (fun _ => 0))), (q2, .inl (c2, 12, .inl (fun _ => 0))), (q3, .inl (c3, 20, .inl (fun _ => 0))), (q4, .inl (c4, 2400, .inl (fun _ => 0))), (q5, .inl (c5, 4, .inl (fun _ => 0))), (q6, .inl (c6, 4, .inl (fun _ => 0))), (q7, .inl (c7, 160, .inl (fun _ => 0))), (q8, .inl (c8, 160, .inl (fun _ => 0))), (q9, .inl (c9, 160, .inl (fun _ => 0))), (q10, .inl (c10, 160, .inl (fun _ => 0))), (q11, .inl (c11, 160, .inl (fun _ => 0)))] _ _ := hS
  have C : Cx p s m args meth c cX6_init 2 none RX6 wsX6_init D [(c1, .int), (c2, .int), (c3, .int), (c4, .int), (c5, .boolean), (c6, .int), (c7, .int), (c8, .int), (c9, .int), (c10, .boolean), (c11, .int)] := C
  refine rputF (w' := [(h0, .inr (6, [.int 0, .int 0, .ref q1, .ref q2, .int (-1), .int 0, .int 0, .ref q3, .int 0, .ref q4, .ref q5, .ref q6, .int 0, .int (-1), .int 0, .int 0, .ref q7, .ref q8, .ref q9, .ref q10, .ref q11, .null, .int 0, .int 0, .int 0, .int 0, .int 0, .null, .null])), (q1, .inl (c1, 2400, .inl (fun _ => 0))), (q2, .inl (c2, 12, .inl (fun _ => 0))), (q3, .inl (c3, 20, .inl (fun _ => 0))), (q4, .inl (c4, 2400, .inl (fun _ => 0))), (q5, .inl (c5, 4, .inl (fun _ => 0))), (q6, .inl (c6, 4, .inl (fun _ => 0))), (q7, .inl (c7, 160, .inl (fun _ => 0))), (q8, .inl (c8, 160, .inl (fun _ => 0))), (q9, .inl (c9, 160, .inl (fun _ => 0))), (q10, .inl (c10, 160, .inl (fun _ => 0))), (q11, .inl (c11, 160, .inl (fun _ => 0)))]) C hin hS in_X6_init_X6 tyX6_ok nmX6 0 rfl rfl 20 (by decide) lk_X6_init_48 rfl rfl rfl rfl (Nat.le_of_ble_eq_true rfl) rfl dX6_init_104 (fun H locs hS => ?_)
  refine lv_aload_n hx hb dX6_init_107 rfl (lv_at hl 0 rfl) ?_
  refine lv_bipush (v := 36) hx hb dX6_init_108 (by decide) ?_
  refine rarr C hS (fun _ h => Or.inr h) (atype := .int) (ty := .int) rfl ac_X6_init_int (n := 36) (N := 36) (fun _ => rfl) (by decide) (by decide) (by decide) (Nat.le_of_ble_eq_true rfl) (Nat.le_of_ble_eq_true rfl) dX6_init_110 (fun q12 c12 H C hS => ?_)
  refine W.widen (k := 12) (n := 5676) (by omega) (by omega) ?_
  have hS : St D (va_A [(h0, .inr (6, [.int 0, .int 0, .null, .null, .int 0, .int 0, .int 0, .null, .int 0, .null, .null, .null, .int 0, .int 0, .int 0, .int 0, .null, .null, .null, .null, .null, .null, .int 0, .int 0, .int 0, .int 0, .int 0, .null, .null]))] s.heap.size) s.heap [(h0, .inr (6, [.int 0, .int 0, .ref q1, .ref q2, .int (-1), .int 0, .int 0, .ref q3, .int 0, .ref q4, .ref q5, .ref q6, .int 0, .int (-1), .int 0, .int 0, .ref q7, .ref q8, .ref q9, .ref q10, .ref q11, .null, .int 0, .int 0, .int 0, .int 0, .int 0, .null, .null])), (q1, .inl (c1, 2400, .inl (fun _ => 0))), (q2, .inl (c2, 12, .inl (fun _ => 0))), (q3, .inl (c3, 20, .inl (fun _ => 0))), (q4, .inl (c4, 2400, .inl (fun _ => 0))), (q5, .inl (c5, 4, .inl (fun _ => 0))), (q6, .inl (c6, 4, .inl (fun _ => 0))), (q7, .inl (c7, 160, .inl (fun _ => 0))), (q8, .inl (c8, 160, .inl (fun _ => 0))), (q9, .inl (c9, 160, .inl (fun _ => 0))), (q10, .inl (c10, 160, .inl (fun _ => 0))), (q11, .inl (c11, 160, .inl (fun _ => 0))), (q12, .inl (c12, 36, .inl (fun _ => 0)))] _ _ := hS
  have C : Cx p s m args meth c cX6_init 2 none RX6 wsX6_init D [(c1, .int), (c2, .int), (c3, .int), (c4, .int), (c5, .boolean), (c6, .int), (c7, .int), (c8, .int), (c9, .int), (c10, .boolean), (c11, .int), (c12, .int)] := C
  refine rputF (w' := [(h0, .inr (6, [.int 0, .int 0, .ref q1, .ref q2, .int (-1), .int 0, .int 0, .ref q3, .int 0, .ref q4, .ref q5, .ref q6, .int 0, .int (-1), .int 0, .int 0, .ref q7, .ref q8, .ref q9, .ref q10, .ref q11, .ref q12, .int 0, .int 0, .int 0, .int 0, .int 0, .null, .null])), (q1, .inl (c1, 2400, .inl (fun _ => 0))), (q2, .inl (c2, 12, .inl (fun _ => 0))), (q3, .inl (c3, 20, .inl (fun _ => 0))), (q4, .inl (c4, 2400, .inl (fun _ => 0))), (q5, .inl (c5, 4, .inl (fun _ => 0))), (q6, .inl (c6, 4, .inl (fun _ => 0))), (q7, .inl (c7, 160, .inl (fun _ => 0))), (q8, .inl (c8, 160, .inl (fun _ => 0))), (q9, .inl (c9, 160, .inl (fun _ => 0))), (q10, .inl (c10, 160, .inl (fun _ => 0))), (q11, .inl (c11, 160, .inl (fun _ => 0))), (q12, .inl (c12, 36, .inl (fun _ => 0)))]) C hin hS in_X6_init_X6 tyX6_ok nmX6 0 rfl rfl 21 (by decide) lk_X6_init_51 rfl rfl rfl rfl (Nat.le_of_ble_eq_true rfl) rfl dX6_init_112 (fun H locs hS => ?_)
  refine lv_aload_n hx hb dX6_init_115 rfl (lv_at hl 0 rfl) ?_
  refine lv_iconst (v := 1) hx hb dX6_init_116 (by decide) ?_
  refine rput (w' := [(h0, .inr (6, [.int 0, .int 0, .ref q1, .ref q2, .int (-1), .int 0, .int 0, .ref q3, .int 0, .ref q4, .ref q5, .ref q6, .int 0, .int (-1), .int 0, .int 0, .ref q7, .ref q8, .ref q9, .ref q10, .ref q11, .ref q12, .int 0, .int 0, .int 0, .int 1, .int 0, .null, .null])), (q1, .inl (c1, 2400, .inl (fun _ => 0))), (q2, .inl (c2, 12, .inl (fun _ => 0))), (q3, .inl (c3, 20, .inl (fun _ => 0))), (q4, .inl (c4, 2400, .inl (fun _ => 0))), (q5, .inl (c5, 4, .inl (fun _ => 0))), (q6, .inl (c6, 4, .inl (fun _ => 0))), (q7, .inl (c7, 160, .inl (fun _ => 0))), (q8, .inl (c8, 160, .inl (fun _ => 0))), (q9, .inl (c9, 160, .inl (fun _ => 0))), (q10, .inl (c10, 160, .inl (fun _ => 0))), (q11, .inl (c11, 160, .inl (fun _ => 0))), (q12, .inl (c12, 36, .inl (fun _ => 0)))]) C hS in_X6_init_X6 tyX6_ok nmX6 0 rfl rfl 25 (by decide) lk_X6_init_54 rfl rfl rfl (Nat.le_of_ble_eq_true rfl) rfl dX6_init_117 (fun H locs hS => ?_)
  refine lv_aload_n hx hb dX6_init_120 rfl (lv_at hl 0 rfl) ?_
  refine lv_bipush (v := 20) hx hb dX6_init_121 (by decide) ?_
  refine rarr C hS (fun _ h => Or.inr h) (atype := .int) (ty := .int) rfl ac_X6_init_int (n := 20) (N := 20) (fun _ => rfl) (by decide) (by decide) (by decide) (Nat.le_of_ble_eq_true rfl) (Nat.le_of_ble_eq_true rfl) dX6_init_123 (fun q13 c13 H C hS => ?_)
  refine W.widen (k := 13) (n := 5696) (by omega) (by omega) ?_
  have hS : St D (va_A [(h0, .inr (6, [.int 0, .int 0, .null, .null, .int 0, .int 0, .int 0, .null, .int 0, .null, .null, .null, .int 0, .int 0, .int 0, .int 0, .null, .null, .null, .null, .null, .null, .int 0, .int 0, .int 0, .int 0, .int 0, .null, .null]))] s.heap.size) s.heap [(h0, .inr (6, [.int 0, .int 0, .ref q1, .ref q2, .int (-1), .int 0, .int 0, .ref q3, .int 0, .ref q4, .ref q5, .ref q6, .int 0, .int (-1), .int 0, .int 0, .ref q7, .ref q8, .ref q9, .ref q10, .ref q11, .ref q12, .int 0, .int 0, .int 0, .int 1, .int 0, .null, .null])), (q1, .inl (c1, 2400, .inl (fun _ => 0))), (q2, .inl (c2, 12, .inl (fun _ => 0))), (q3, .inl (c3, 20, .inl (fun _ => 0))), (q4, .inl (c4, 2400, .inl (fun _ => 0))), (q5, .inl (c5, 4, .inl (fun _ => 0))), (q6, .inl (c6, 4, .inl (fun _ => 0))), (q7, .inl (c7, 160, .inl (fun _ => 0))), (q8, .inl (c8, 160, .inl (fun _ => 0))), (q9, .inl (c9, 160, .inl (fun _ => 0))), (q10, .inl (c10, 160, .inl (fun _ => 0))), (q11, .inl (c11, 160, .inl (fun _ => 0))), (q12, .inl (c12, 36, .inl (fun _ => 0))), (q13, .inl (c13, 20, .inl (fun _ => 0)))] _ _ := hS
  have C : Cx p s m args meth c cX6_init 2 none RX6 wsX6_init D [(c1, .int), (c2, .int), (c3, .int), (c4, .int), (c5, .boolean), (c6, .int), (c7, .int), (c8, .int), (c9, .int), (c10, .boolean), (c11, .int), (c12, .int), (c13, .int)] := C
  refine rputF (w' := [(h0, .inr (6, [.int 0, .int 0, .ref q1, .ref q2, .int (-1), .int 0, .int 0, .ref q3, .int 0, .ref q4, .ref q5, .ref q6, .int 0, .int (-1), .int 0, .int 0, .ref q7, .ref q8, .ref q9, .ref q10, .ref q11, .ref q12, .int 0, .int 0, .int 0, .int 1, .int 0, .ref q13, .null])), (q1, .inl (c1, 2400, .inl (fun _ => 0))), (q2, .inl (c2, 12, .inl (fun _ => 0))), (q3, .inl (c3, 20, .inl (fun _ => 0))), (q4, .inl (c4, 2400, .inl (fun _ => 0))), (q5, .inl (c5, 4, .inl (fun _ => 0))), (q6, .inl (c6, 4, .inl (fun _ => 0))), (q7, .inl (c7, 160, .inl (fun _ => 0))), (q8, .inl (c8, 160, .inl (fun _ => 0))), (q9, .inl (c9, 160, .inl (fun _ => 0))), (q10, .inl (c10, 160, .inl (fun _ => 0))), (q11, .inl (c11, 160, .inl (fun _ => 0))), (q12, .inl (c12, 36, .inl (fun _ => 0))), (q13, .inl (c13, 20, .inl (fun _ => 0)))]) C hin hS in_X6_init_X6 tyX6_ok nmX6 0 rfl rfl 27 (by decide) lk_X6_init_58 rfl rfl rfl rfl (Nat.le_of_ble_eq_true rfl) rfl dX6_init_125 (fun H locs hS => ?_)
  refine lv_aload_n hx hb dX6_init_128 rfl (lv_at hl 0 rfl) ?_
  refine lv_bipush (v := 20) hx hb dX6_init_129 (by decide) ?_
  refine rarr C hS (fun _ h => Or.inr h) (atype := .int) (ty := .int) rfl ac_X6_init_int (n := 20) (N := 20) (fun _ => rfl) (by decide) (by decide) (by decide) (Nat.le_of_ble_eq_true rfl) (Nat.le_of_ble_eq_true rfl) dX6_init_131 (fun q14 c14 H C hS => ?_)
  refine W.widen (k := 14) (n := 5716) (by omega) (by omega) ?_
  have hS : St D (va_A [(h0, .inr (6, [.int 0, .int 0, .null, .null, .int 0, .int 0, .int 0, .null, .int 0, .null, .null, .null, .int 0, .int 0, .int 0, .int 0, .null, .null, .null, .null, .null, .null, .int 0, .int 0, .int 0, .int 0, .int 0, .null, .null]))] s.heap.size) s.heap [(h0, .inr (6, [.int 0, .int 0, .ref q1, .ref q2, .int (-1), .int 0, .int 0, .ref q3, .int 0, .ref q4, .ref q5, .ref q6, .int 0, .int (-1), .int 0, .int 0, .ref q7, .ref q8, .ref q9, .ref q10, .ref q11, .ref q12, .int 0, .int 0, .int 0, .int 1, .int 0, .ref q13, .null])), (q1, .inl (c1, 2400, .inl (fun _ => 0))), (q2, .inl (c2, 12, .inl (fun _ => 0))), (q3, .inl (c3, 20, .inl (fun _ => 0))), (q4, .inl (c4, 2400, .inl (fun _ => 0))), (q5, .inl (c5, 4, .inl (fun _ => 0))), (q6, .inl (c6, 4, .inl (fun _ => 0))), (q7, .inl (c7, 160, .inl (fun _ => 0))), (q8, .inl (c8, 160, .inl (fun _ => 0))), (q9, .inl (c9, 160, .inl (fun _ => 0))), (q10, .inl (c10, 160, .inl (fun _ => 0))), (q11, .inl (c11, 160, .inl (fun _ => 0))), (q12, .inl (c12, 36, .inl (fun _ => 0))), (q13, .inl (c13, 20, .inl (fun _ => 0))), (q14, .inl (c14, 20, .inl (fun _ => 0)))] _ _ := hS
  have C : Cx p s m args meth c cX6_init 2 none RX6 wsX6_init D [(c1, .int), (c2, .int), (c3, .int), (c4, .int), (c5, .boolean), (c6, .int), (c7, .int), (c8, .int), (c9, .int), (c10, .boolean), (c11, .int), (c12, .int), (c13, .int), (c14, .int)] := C
  refine rputF (w' := [(h0, .inr (6, [.int 0, .int 0, .ref q1, .ref q2, .int (-1), .int 0, .int 0, .ref q3, .int 0, .ref q4, .ref q5, .ref q6, .int 0, .int (-1), .int 0, .int 0, .ref q7, .ref q8, .ref q9, .ref q10, .ref q11, .ref q12, .int 0, .int 0, .int 0, .int 1, .int 0, .ref q13, .ref q14])), (q1, .inl (c1, 2400, .inl (fun _ => 0))), (q2, .inl (c2, 12, .inl (fun _ => 0))), (q3, .inl (c3, 20, .inl (fun _ => 0))), (q4, .inl (c4, 2400, .inl (fun _ => 0))), (q5, .inl (c5, 4, .inl (fun _ => 0))), (q6, .inl (c6, 4, .inl (fun _ => 0))), (q7, .inl (c7, 160, .inl (fun _ => 0))), (q8, .inl (c8, 160, .inl (fun _ => 0))), (q9, .inl (c9, 160, .inl (fun _ => 0))), (q10, .inl (c10, 160, .inl (fun _ => 0))), (q11, .inl (c11, 160, .inl (fun _ => 0))), (q12, .inl (c12, 36, .inl (fun _ => 0))), (q13, .inl (c13, 20, .inl (fun _ => 0))), (q14, .inl (c14, 20, .inl (fun _ => 0)))]) C hin hS in_X6_init_X6 tyX6_ok nmX6 0 rfl rfl 28 (by decide) lk_X6_init_61 rfl rfl rfl rfl (Nat.le_of_ble_eq_true rfl) rfl dX6_init_133 (fun H locs hS => ?_)
  refine lv_aload_n hx hb dX6_init_136 rfl (lv_at hl 0 rfl) ?_
  refine lv_iload_n hx hb dX6_init_137 rfl (lv_at hl 1 rfl) ?_
  refine lv_iconst (v := 1) hx hb dX6_init_138 (by decide) ?_
  refine lv_icmp_ge (x := x1) (y := 1) (tgt := 146) hx hb dX6_init_139 (by decide) (fun hc => ?_) (fun hc => ?_)
  · refine lv_iload_n hx hb dX6_init_146 rfl (lv_at hl 1 rfl) ?_
    refine lv_bipush (v := 12) hx hb dX6_init_147 (by decide) ?_
    refine lv_icmp_le (x := x1) (y := 12) (tgt := 157) hx hb dX6_init_149 (by decide) (fun hd => ?_) (fun hd => ?_)
    · refine lv_iload_n hx hb dX6_init_157 rfl (lv_at hl 1 rfl) ?_
      have hv : v = x1 := by rw [hv0, if_pos hc, if_pos hd]
      rw [hv]
      refine rputF (w' := [(h0, .inr (6, [.int x1, .int 0, .ref q1, .ref q2, .int (-1), .int 0, .int 0, .ref q3, .int 0, .ref q4, .ref q5, .ref q6, .int 0, .int (-1), .int 0, .int 0, .ref q7, .ref q8, .ref q9, .ref q10, .ref q11, .ref q12, .int 0, .int 0, .int 0, .int 1, .int 0, .ref q13, .ref q14])), (q1, .inl (c1, 2400, .inl (fun _ => 0))), (q2, .inl (c2, 12, .inl (fun _ => 0))), (q3, .inl (c3, 20, .inl (fun _ => 0))), (q4, .inl (c4, 2400, .inl (fun _ => 0))), (q5, .inl (c5, 4, .inl (fun _ => 0))), (q6, .inl (c6, 4, .inl (fun _ => 0))), (q7, .inl (c7, 160, .inl (fun _ => 0))), (q8, .inl (c8, 160, .inl (fun _ => 0))), (q9, .inl (c9, 160, .inl (fun _ => 0))), (q10, .inl (c10, 160, .inl (fun _ => 0))), (q11, .inl (c11, 160, .inl (fun _ => 0))), (q12, .inl (c12, 36, .inl (fun _ => 0))), (q13, .inl (c13, 20, .inl (fun _ => 0))), (q14, .inl (c14, 20, .inl (fun _ => 0)))]) C hin hS in_X6_init_X6 tyX6_ok nmX6 0 rfl rfl 0 (by decide) lk_X6_init_64 rfl rfl rfl rfl (Nat.le_of_ble_eq_true rfl) rfl dX6_init_158 (fun H locs hS => ?_)
      exact rtn (wf := wf_rm_init x1 h0) (tf := tf_rm_init) (fun i => ([h0, q1, q2, q3, q4, q5, q6, q7, q8, q9, q10, q11, q12, q13, q14] : List Nat).getD i 0, fun i => ([c1, c1, c2, c3, c4, c5, c6, c7, c8, c9, c10, c11, c12, c13, c14] : List ClassId).getD i c1) C hS [0, 1, 2, 3, 4, 5, 6, 7, 8, 9, 10, 11, 12, 13] rfl [0, 1, 2, 3, 4, 5, 6, 7, 8, 9, 10, 11, 12, 13, 14] (by decide) rfl rfl dX6_init_161
    · refine lv_bipush (v := 12) hx hb dX6_init_152 (by decide) ?_
      refine lv_goto (tgt := 158) hx hb dX6_init_154 (by decide) ?_
      have hv : v = 12 := by rw [hv0, if_pos hc, if_neg hd]
      rw [hv]
      refine rputF (w' := [(h0, .inr (6, [.int 12, .int 0, .ref q1, .ref q2, .int (-1), .int 0, .int 0, .ref q3, .int 0, .ref q4, .ref q5, .ref q6, .int 0, .int (-1), .int 0, .int 0, .ref q7, .ref q8, .ref q9, .ref q10, .ref q11, .ref q12, .int 0, .int 0, .int 0, .int 1, .int 0, .ref q13, .ref q14])), (q1, .inl (c1, 2400, .inl (fun _ => 0))), (q2, .inl (c2, 12, .inl (fun _ => 0))), (q3, .inl (c3, 20, .inl (fun _ => 0))), (q4, .inl (c4, 2400, .inl (fun _ => 0))), (q5, .inl (c5, 4, .inl (fun _ => 0))), (q6, .inl (c6, 4, .inl (fun _ => 0))), (q7, .inl (c7, 160, .inl (fun _ => 0))), (q8, .inl (c8, 160, .inl (fun _ => 0))), (q9, .inl (c9, 160, .inl (fun _ => 0))), (q10, .inl (c10, 160, .inl (fun _ => 0))), (q11, .inl (c11, 160, .inl (fun _ => 0))), (q12, .inl (c12, 36, .inl (fun _ => 0))), (q13, .inl (c13, 20, .inl (fun _ => 0))), (q14, .inl (c14, 20, .inl (fun _ => 0)))]) C hin hS in_X6_init_X6 tyX6_ok nmX6 0 rfl rfl 0 (by decide) lk_X6_init_64 rfl rfl rfl rfl (Nat.le_of_ble_eq_true rfl) rfl dX6_init_158 (fun H locs hS => ?_)
      exact rtn (wf := wf_rm_init 12 h0) (tf := tf_rm_init) (fun i => ([h0, q1, q2, q3, q4, q5, q6, q7, q8, q9, q10, q11, q12, q13, q14] : List Nat).getD i 0, fun i => ([c1, c1, c2, c3, c4, c5, c6, c7, c8, c9, c10, c11, c12, c13, c14] : List ClassId).getD i c1) C hS [0, 1, 2, 3, 4, 5, 6, 7, 8, 9, 10, 11, 12, 13] rfl [0, 1, 2, 3, 4, 5, 6, 7, 8, 9, 10, 11, 12, 13, 14] (by decide) rfl rfl dX6_init_161
  · refine lv_iconst (v := 1) hx hb dX6_init_142 (by decide) ?_
    refine lv_goto (tgt := 158) hx hb dX6_init_143 (by decide) ?_
    have hv : v = 1 := by rw [hv0, if_neg hc]
    rw [hv]
    refine rputF (w' := [(h0, .inr (6, [.int 1, .int 0, .ref q1, .ref q2, .int (-1), .int 0, .int 0, .ref q3, .int 0, .ref q4, .ref q5, .ref q6, .int 0, .int (-1), .int 0, .int 0, .ref q7, .ref q8, .ref q9, .ref q10, .ref q11, .ref q12, .int 0, .int 0, .int 0, .int 1, .int 0, .ref q13, .ref q14])), (q1, .inl (c1, 2400, .inl (fun _ => 0))), (q2, .inl (c2, 12, .inl (fun _ => 0))), (q3, .inl (c3, 20, .inl (fun _ => 0))), (q4, .inl (c4, 2400, .inl (fun _ => 0))), (q5, .inl (c5, 4, .inl (fun _ => 0))), (q6, .inl (c6, 4, .inl (fun _ => 0))), (q7, .inl (c7, 160, .inl (fun _ => 0))), (q8, .inl (c8, 160, .inl (fun _ => 0))), (q9, .inl (c9, 160, .inl (fun _ => 0))), (q10, .inl (c10, 160, .inl (fun _ => 0))), (q11, .inl (c11, 160, .inl (fun _ => 0))), (q12, .inl (c12, 36, .inl (fun _ => 0))), (q13, .inl (c13, 20, .inl (fun _ => 0))), (q14, .inl (c14, 20, .inl (fun _ => 0)))]) C hin hS in_X6_init_X6 tyX6_ok nmX6 0 rfl rfl 0 (by decide) lk_X6_init_64 rfl rfl rfl rfl (Nat.le_of_ble_eq_true rfl) rfl dX6_init_158 (fun H locs hS => ?_)
    exact rtn (wf := wf_rm_init 1 h0) (tf := tf_rm_init) (fun i => ([h0, q1, q2, q3, q4, q5, q6, q7, q8, q9, q10, q11, q12, q13, q14] : List Nat).getD i 0, fun i => ([c1, c1, c2, c3, c4, c5, c6, c7, c8, c9, c10, c11, c12, c13, c14] : List ClassId).getD i c1) C hS [0, 1, 2, 3, 4, 5, 6, 7, 8, 9, 10, 11, 12, 13] rfl [0, 1, 2, 3, 4, 5, 6, 7, 8, 9, 10, 11, 12, 13, 14] (by decide) rfl rfl dX6_init_161
def R_ix_init : Room := { frames := 1, cells := 6, slots := 732, locals := 12 }
def ixf : Nat → Nat → Int32
  | 0 => fun _ => 0
  | d + 1 => upd (ixf d) d (-1)
def wf_ix_init (n : Nat) (h0 : Nat) (u : (Nat → Nat) × (Nat → ClassId)) : va_W := [(h0, .inr (2, [.ref (u.1 1), .ref (u.1 2), .ref (u.1 3), .ref (u.1 4), .ref (u.1 5), .ref (u.1 6)])), (u.1 1, .inl (u.2 1, n, .inl (fun _ => 0))), (u.1 2, .inl (u.2 2, n * 12, .inl (fun _ => 0))), (u.1 3, .inl (u.2 3, n * 12, .inl (ixf (n * 12)))), (u.1 4, .inl (u.2 4, n * 12, .inl (fun _ => 0))), (u.1 5, .inl (u.2 5, n * 12, .inl (fun _ => 0))), (u.1 6, .inl (u.2 6, n * 12, .inl (fun _ => 0)))]
def tf_ix_init (u : (Nat → Nat) × (Nat → ClassId)) : List (ClassId × FieldType) := [(u.2 1, .int), (u.2 2, .int), (u.2 3, .int), (u.2 4, .int), (u.2 5, .int), (u.2 6, .boolean)]
set_option maxHeartbeats 4000000 in
set_option maxRecDepth 100000 in
theorem ixi_loop {p : Program} {l : Launch} {e : Env} {s : State} {m : MethodId} {args : Array Value} {below : List Frame} {meth : Method} {c : Code} {D : va_G} {w0 : va_W} {n : Nat} (hn2 : n ≤ 12) (h0 q1 q2 q3 q4 q5 q6 : Nat) (c1 c2 c3 c4 c5 c6 : ClassId) (C : Cx p s m args meth c cX1_init 4 none RX1 wsX1_init D [(c1, .int), (c2, .int), (c3, .int), (c4, .int), (c5, .int), (c6, .boolean)]) : ∀ (d j : Nat), j + d = n * 12 → ∀ (H : Heap) (locs : List Loc) (ls : Array Slot), St D (va_A w0 s.heap.size) s.heap [(h0, .inr (2, [.ref q1, .ref q2, .ref q3, .ref q4, .ref q5, .ref q6])), (q1, .inl (c1, n, .inl (fun _ => 0))), (q2, .inl (c2, n * 12, .inl (fun _ => 0))), (q3, .inl (c3, n * 12, .inl (ixf j))), (q4, .inl (c4, n * 12, .inl (fun _ => 0))), (q5, .inl (c5, n * 12, .inl (fun _ => 0))), (q6, .inl (c6, n * 12, .inl (fun _ => 0)))] H locs → lv_has ls 4 [(0, .ref h0), (2, .int (nI n * 12)), (3, .int (nI j))] → W p l e R_ix_init s m args below meth c H locs 6 732 (MQ below (kN D w0 (wf_ix_init n h0) tf_ix_init s.heap.size) args s 6 732 (va_A w0 s.heap.size)) (F0 m 53 ls []) := by
  obtain ⟨hx, hb, hr, hml, hown, hts, hlk, hK⟩ := id C
  have e12 : nI n * 12 = nI (n * 12) := pk_mul n 12
  intro d
  induction d with
  | zero =>
    intro j hj H locs ls hS hl
    have hj : j = n * 12 := hj
    subst hj
    refine lv_iload_n hx hb dX1_init_53 rfl (lv_at hl 2 rfl) ?_
    refine lv_iload_n hx hb dX1_init_54 rfl (lv_at hl 1 rfl) ?_
    refine lv_icmp_ge (x := nI (n * 12)) (y := nI n * 12) (tgt := 71) hx hb dX1_init_55 (by decide) (fun hc => ?_) (fun hc => ?_)
    · exact rtn (wf := wf_ix_init n h0) (tf := tf_ix_init) (fun i => ([h0, q1, q2, q3, q4, q5, q6] : List Nat).getD i 0, fun i => ([c1, c1, c2, c3, c4, c5, c6] : List ClassId).getD i c1) C hS [0, 1, 2, 3, 4, 5] rfl [0, 1, 2, 3, 4, 5, 6] (by decide) rfl rfl dX1_init_71
    · exact absurd (by rw [e12]; exact Int32.le_refl _) hc
  | succ d ih =>
    intro j hj H locs ls hS hl
    refine lv_iload_n hx hb dX1_init_53 rfl (lv_at hl 2 rfl) ?_
    refine lv_iload_n hx hb dX1_init_54 rfl (lv_at hl 1 rfl) ?_
    refine lv_icmp_ge (x := nI j) (y := nI n * 12) (tgt := 71) hx hb dX1_init_55 (by decide) (fun hc => ?_) (fun hc => ?_)
    · rw [e12] at hc
      exact absurd hc (nI_ge (by omega) (by omega))
    · refine lv_aload_n hx hb dX1_init_58 rfl (lv_at hl 0 rfl) ?_
      refine rget C hS in_X1_init_X1 0 rfl rfl 2 (by decide) lk_X1_init_22 (v := .ref q3) rfl dX1_init_59 ?_
      refine lv_iload_n hx hb dX1_init_62 rfl (lv_at hl 2 rfl) ?_
      refine lv_iconst (v := (-1)) hx hb dX1_init_63 (by decide) ?_
      refine rast (w' := [(h0, .inr (2, [.ref q1, .ref q2, .ref q3, .ref q4, .ref q5, .ref q6])), (q1, .inl (c1, n, .inl (fun _ => 0))), (q2, .inl (c2, n * 12, .inl (fun _ => 0))), (q3, .inl (c3, n * 12, .inl (ixf (j + 1)))), (q4, .inl (c4, n * 12, .inl (fun _ => 0))), (q5, .inl (c5, n * 12, .inl (fun _ => 0))), (q6, .inl (c6, n * 12, .inl (fun _ => 0)))]) C hS 3 2 (f := ixf j) rfl rfl (i := nI j) (x := (-1)) (vp_in_nI (by omega) (by omega)) (by rw [show (nI j).toNatClampNeg = j from nI_clamp (by omega)]; rfl) dX1_init_64 (fun H locs hS => ?_)
      refine lv_iinc (v := nI (j + 1)) (lv' := [(3, .int (nI (j + 1))), (0, .ref h0), (2, .int (nI n * 12))]) hx hb dX1_init_65 hl (k := 2) rfl (nI_add j 1) (by decide) rfl (fun ls hl => ?_)
      refine lv_goto (tgt := 53) hx hb dX1_init_68 (by decide) ?_
      exact ih (j + 1) (by omega) H locs ls hS (lv_sub hl [1, 2, 0] rfl)
set_option maxHeartbeats 4000000 in
set_option maxRecDepth 100000 in
theorem ci_ix_init (l : Launch) (D : va_G) (n : Nat) (h0 : Nat) (hn1 : 1 ≤ n) (hn2 : n ≤ 12) (sz : Nat) : Met l yX1_init wsX1_init R_ix_init (kP D [] [.ref h0, .int (nI n)] [(h0, .inr (2, [.null, .null, .null, .null, .null, .null]))] sz) (kN D [(h0, .inr (2, [.null, .null, .null, .null, .null, .null]))] (wf_ix_init n h0) tf_ix_init sz) 6 732 (va_A [(h0, .inr (2, [.null, .null, .null, .null, .null, .null]))] sz) := by
  refine entI (by decide) rfl rfl rfl (Nat.le_of_ble_eq_true rfl) (fun p e s m args below meth c hsz C hin hS ls hl => ?_)
  subst hsz
  obtain ⟨hx, hb, hr, hml, hown, hts, hlk, hK⟩ := id C
  have hl : lv_has ls 4 [(0, .ref h0), (1, .int (nI n))] := hl
  refine lv_aload_n hx hb dX1_init_0 rfl (lv_at hl 0 rfl) ?_
  refine robj C hl.1 oi_X1_init oj_X1_init ok_X1_init (Nat.le_of_ble_eq_true rfl) (Nat.le_of_ble_eq_true rfl) dX1_init_1 ?_
  refine lv_iload_n hx hb dX1_init_4 rfl (lv_at hl 1 rfl) ?_
  refine lv_bipush (v := 12) hx hb dX1_init_5 (by decide) ?_
  refine lv_imul (x := (nI n)) (y := 12) hx hb dX1_init_7 ?_
  refine lv_istore_n (lv' := [(2, .int (nI n * 12)), (0, .ref h0), (1, .int (nI n))]) hx hb dX1_init_8 rfl hl (by decide) rfl (fun ls hl => ?_)
  refine lv_aload_n hx hb dX1_init_9 rfl (lv_at hl 1 rfl) ?_
  refine lv_iload_n hx hb dX1_init_10 rfl (lv_at hl 2 rfl) ?_
  refine rarr C hS (fun _ h => Or.inr h) (atype := .int) (ty := .int) rfl ac_X1_init_int (n := (nI n)) (N := n) (fun _ => rfl) (nI_pos (by omega)) (nI_clamp (by omega)) (by show n * 4 ≤ _; omega) (Nat.le_of_ble_eq_true rfl) (by show _ ≤ 732; omega) dX1_init_11 (fun q1 c1 H C hS => ?_)
  refine W.widen (k := 1) (n := 12) (by omega) (by omega) ?_
  have hS : St D (va_A [(h0, .inr (2, [.null, .null, .null, .null, .null, .null]))] s.heap.size) s.heap [(h0, .inr (2, [.null, .null, .null, .null, .null, .null])), (q1, .inl (c1, n, .inl (fun _ => 0)))] _ _ := hS
  have C : Cx p s m args meth c cX1_init 4 none RX1 wsX1_init D [(c1, .int)] := C
  refine rputF (w' := [(h0, .inr (2, [.ref q1, .null, .null, .null, .null, .null])), (q1, .inl (c1, n, .inl (fun _ => 0)))]) C hin hS in_X1_init_X1 tyX1_ok nmX1 0 rfl rfl 0 (by decide) lk_X1_init_15 rfl rfl rfl rfl (Nat.le_of_ble_eq_true rfl) rfl dX1_init_13 (fun H locs hS => ?_)
  refine lv_aload_n hx hb dX1_init_16 rfl (lv_at hl 1 rfl) ?_
  refine lv_iload_n hx hb dX1_init_17 rfl (lv_at hl 0 rfl) ?_
  refine rarr C hS (fun _ h => Or.inr h) (atype := .int) (ty := .int) rfl ac_X1_init_int (n := (nI n * 12)) (N := n * 12) (fun _ => rfl) (by rw [show (nI n * 12) = nI (n * 12) from pk_mul n 12]; exact nI_pos (by omega)) (by rw [show (nI n * 12) = nI (n * 12) from pk_mul n 12]; exact nI_clamp (by omega)) (by show n * 12 * 4 ≤ _; omega) (Nat.le_of_ble_eq_true rfl) (by show _ ≤ 732; omega) dX1_init_18 (fun q2 c2 H C hS => ?_)
  refine W.widen (k := 2) (n := 156) (by omega) (by omega) ?_
  have hS : St D (va_A [(h0, .inr (2, [.null, .null, .null, .null, .null, .null]))] s.heap.size) s.heap [(h0, .inr (2, [.ref q1, .null, .null, .null, .null, .null])), (q1, .inl (c1, n, .inl (fun _ => 0))), (q2, .inl (c2, n * 12, .inl (fun _ => 0)))] _ _ := hS
  have C : Cx p s m args meth c cX1_init 4 none RX1 wsX1_init D [(c1, .int), (c2, .int)] := C
  refine rputF (w' := [(h0, .inr (2, [.ref q1, .ref q2, .null, .null, .null, .null])), (q1, .inl (c1, n, .inl (fun _ => 0))), (q2, .inl (c2, n * 12, .inl (fun _ => 0)))]) C hin hS in_X1_init_X1 tyX1_ok nmX1 0 rfl rfl 1 (by decide) lk_X1_init_19 rfl rfl rfl rfl (Nat.le_of_ble_eq_true rfl) rfl dX1_init_20 (fun H locs hS => ?_)
  refine lv_aload_n hx hb dX1_init_23 rfl (lv_at hl 1 rfl) ?_
  refine lv_iload_n hx hb dX1_init_24 rfl (lv_at hl 0 rfl) ?_
  refine rarr C hS (fun _ h => Or.inr h) (atype := .int) (ty := .int) rfl ac_X1_init_int (n := (nI n * 12)) (N := n * 12) (fun _ => rfl) (by rw [show (nI n * 12) = nI (n * 12) from pk_mul n 12]; exact nI_pos (by omega)) (by rw [show (nI n * 12) = nI (n * 12) from pk_mul n 12]; exact nI_clamp (by omega)) (by show n * 12 * 4 ≤ _; omega) (Nat.le_of_ble_eq_true rfl) (by show _ ≤ 732; omega) dX1_init_25 (fun q3 c3 H C hS => ?_)
  refine W.widen (k := 3) (n := 300) (by omega) (by omega) ?_
  have hS : St D (va_A [(h0, .inr (2, [.null, .null, .null, .null, .null, .null]))] s.heap.size) s.heap [(h0, .inr (2, [.ref q1, .ref q2, .null, .null, .null, .null])), (q1, .inl (c1, n, .inl (fun _ => 0))), (q2, .inl (c2, n * 12, .inl (fun _ => 0))), (q3, .inl (c3, n * 12, .inl (fun _ => 0)))] _ _ := hS
  have C : Cx p s m args meth c cX1_init 4 none RX1 wsX1_init D [(c1, .int), (c2, .int), (c3, .int)] := C
  refine rputF (w' := [(h0, .inr (2, [.ref q1, .ref q2, .ref q3, .null, .null, .null])), (q1, .inl (c1, n, .inl (fun _ => 0))), (q2, .inl (c2, n * 12, .inl (fun _ => 0))), (q3, .inl (c3, n * 12, .inl (fun _ => 0)))]) C hin hS in_X1_init_X1 tyX1_ok nmX1 0 rfl rfl 2 (by decide) lk_X1_init_22 rfl rfl rfl rfl (Nat.le_of_ble_eq_true rfl) rfl dX1_init_27 (fun H locs hS => ?_)
  refine lv_aload_n hx hb dX1_init_30 rfl (lv_at hl 1 rfl) ?_
  refine lv_iload_n hx hb dX1_init_31 rfl (lv_at hl 0 rfl) ?_
  refine rarr C hS (fun _ h => Or.inr h) (atype := .int) (ty := .int) rfl ac_X1_init_int (n := (nI n * 12)) (N := n * 12) (fun _ => rfl) (by rw [show (nI n * 12) = nI (n * 12) from pk_mul n 12]; exact nI_pos (by omega)) (by rw [show (nI n * 12) = nI (n * 12) from pk_mul n 12]; exact nI_clamp (by omega)) (by show n * 12 * 4 ≤ _; omega) (Nat.le_of_ble_eq_true rfl) (by show _ ≤ 732; omega) dX1_init_32 (fun q4 c4 H C hS => ?_)
  refine W.widen (k := 4) (n := 444) (by omega) (by omega) ?_
  have hS : St D (va_A [(h0, .inr (2, [.null, .null, .null, .null, .null, .null]))] s.heap.size) s.heap [(h0, .inr (2, [.ref q1, .ref q2, .ref q3, .null, .null, .null])), (q1, .inl (c1, n, .inl (fun _ => 0))), (q2, .inl (c2, n * 12, .inl (fun _ => 0))), (q3, .inl (c3, n * 12, .inl (fun _ => 0))), (q4, .inl (c4, n * 12, .inl (fun _ => 0)))] _ _ := hS
  have C : Cx p s m args meth c cX1_init 4 none RX1 wsX1_init D [(c1, .int), (c2, .int), (c3, .int), (c4, .int)] := C
  refine rputF (w' := [(h0, .inr (2, [.ref q1, .ref q2, .ref q3, .ref q4, .null, .null])), (q1, .inl (c1, n, .inl (fun _ => 0))), (q2, .inl (c2, n * 12, .inl (fun _ => 0))), (q3, .inl (c3, n * 12, .inl (fun _ => 0))), (q4, .inl (c4, n * 12, .inl (fun _ => 0)))]) C hin hS in_X1_init_X1 tyX1_ok nmX1 0 rfl rfl 3 (by decide) lk_X1_init_25 rfl rfl rfl rfl (Nat.le_of_ble_eq_true rfl) rfl dX1_init_34 (fun H locs hS => ?_)
  refine lv_aload_n hx hb dX1_init_37 rfl (lv_at hl 1 rfl) ?_
  refine lv_iload_n hx hb dX1_init_38 rfl (lv_at hl 0 rfl) ?_
  refine rarr C hS (fun _ h => Or.inr h) (atype := .int) (ty := .int) rfl ac_X1_init_int (n := (nI n * 12)) (N := n * 12) (fun _ => rfl) (by rw [show (nI n * 12) = nI (n * 12) from pk_mul n 12]; exact nI_pos (by omega)) (by rw [show (nI n * 12) = nI (n * 12) from pk_mul n 12]; exact nI_clamp (by omega)) (by show n * 12 * 4 ≤ _; omega) (Nat.le_of_ble_eq_true rfl) (by show _ ≤ 732; omega) dX1_init_39 (fun q5 c5 H C hS => ?_)
  refine W.widen (k := 5) (n := 588) (by omega) (by omega) ?_
  have hS : St D (va_A [(h0, .inr (2, [.null, .null, .null, .null, .null, .null]))] s.heap.size) s.heap [(h0, .inr (2, [.ref q1, .ref q2, .ref q3, .ref q4, .null, .null])), (q1, .inl (c1, n, .inl (fun _ => 0))), (q2, .inl (c2, n * 12, .inl (fun _ => 0))), (q3, .inl (c3, n * 12, .inl (fun _ => 0))), (q4, .inl (c4, n * 12, .inl (fun _ => 0))), (q5, .inl (c5, n * 12, .inl (fun _ => 0)))] _ _ := hS
  have C : Cx p s m args meth c cX1_init 4 none RX1 wsX1_init D [(c1, .int), (c2, .int), (c3, .int), (c4, .int), (c5, .int)] := C
  refine rputF (w' := [(h0, .inr (2, [.ref q1, .ref q2, .ref q3, .ref q4, .ref q5, .null])), (q1, .inl (c1, n, .inl (fun _ => 0))), (q2, .inl (c2, n * 12, .inl (fun _ => 0))), (q3, .inl (c3, n * 12, .inl (fun _ => 0))), (q4, .inl (c4, n * 12, .inl (fun _ => 0))), (q5, .inl (c5, n * 12, .inl (fun _ => 0)))]) C hin hS in_X1_init_X1 tyX1_ok nmX1 0 rfl rfl 4 (by decide) lk_X1_init_28 rfl rfl rfl rfl (Nat.le_of_ble_eq_true rfl) rfl dX1_init_41 (fun H locs hS => ?_)
  refine lv_aload_n hx hb dX1_init_44 rfl (lv_at hl 1 rfl) ?_
  refine lv_iload_n hx hb dX1_init_45 rfl (lv_at hl 0 rfl) ?_
  refine rarr C hS (fun _ h => Or.inr h) (atype := .boolean) (ty := .boolean) rfl ac_X1_init_boolean (n := (nI n * 12)) (N := n * 12) (fun _ => rfl) (by rw [show (nI n * 12) = nI (n * 12) from pk_mul n 12]; exact nI_pos (by omega)) (by rw [show (nI n * 12) = nI (n * 12) from pk_mul n 12]; exact nI_clamp (by omega)) (by show n * 12 * 1 ≤ _; omega) (Nat.le_of_ble_eq_true rfl) (by show _ ≤ 732; omega) dX1_init_46 (fun q6 c6 H C hS => ?_)
  refine W.widen (k := 6) (n := 732) (by omega) (by omega) ?_
  have hS : St D (va_A [(h0, .inr (2, [.null, .null, .null, .null, .null, .null]))] s.heap.size) s.heap [(h0, .inr (2, [.ref q1, .ref q2, .ref q3, .ref q4, .ref q5, .null])), (q1, .inl (c1, n, .inl (fun _ => 0))), (q2, .inl (c2, n * 12, .inl (fun _ => 0))), (q3, .inl (c3, n * 12, .inl (fun _ => 0))), (q4, .inl (c4, n * 12, .inl (fun _ => 0))), (q5, .inl (c5, n * 12, .inl (fun _ => 0))), (q6, .inl (c6, n * 12, .inl (fun _ => 0)))] _ _ := hS
  have C : Cx p s m args meth c cX1_init 4 none RX1 wsX1_init D [(c1, .int), (c2, .int), (c3, .int), (c4, .int), (c5, .int), (c6, .boolean)] := C
  refine rputF (w' := [(h0, .inr (2, [.ref q1, .ref q2, .ref q3, .ref q4, .ref q5, .ref q6])), (q1, .inl (c1, n, .inl (fun _ => 0))), (q2, .inl (c2, n * 12, .inl (fun _ => 0))), (q3, .inl (c3, n * 12, .inl (fun _ => 0))), (q4, .inl (c4, n * 12, .inl (fun _ => 0))), (q5, .inl (c5, n * 12, .inl (fun _ => 0))), (q6, .inl (c6, n * 12, .inl (fun _ => 0)))]) C hin hS in_X1_init_X1 tyX1_ok nmX1 0 rfl rfl 5 (by decide) lk_X1_init_31 rfl rfl rfl rfl (Nat.le_of_ble_eq_true rfl) rfl dX1_init_48 (fun H locs hS => ?_)
  refine lv_iconst (v := 0) hx hb dX1_init_51 (by decide) ?_
  refine lv_istore_n (lv' := [(3, .int 0), (2, .int (nI n * 12)), (0, .ref h0), (1, .int (nI n))]) hx hb dX1_init_52 rfl hl (by decide) rfl (fun ls hl => ?_)
  exact ixi_loop hn2 h0 q1 q2 q3 q4 q5 q6 c1 c2 c3 c4 c5 c6 C (n * 12) 0 (by omega) _ _ _ hS (lv_sub hl [2, 1, 0] rfl)
