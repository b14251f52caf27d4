-- ix_add_7: void add(int, int, int[]);
theorem lk_X1_add_15 : Cond.fieldLink RX1 15 (TX1 0).1 (TX1 0).2.1 (TX1 0).2.2.1 ∈ wsX1_add := by decide +kernel
theorem in_X1_add_X1 : ∀ x ∈ u_ws RX1 TX1 6, x ∈ wsX1_add := by decide +kernel
theorem lk_X1_add_19 : Cond.fieldLink RX1 19 (TX1 1).1 (TX1 1).2.1 (TX1 1).2.2.1 ∈ wsX1_add := by decide +kernel
theorem lk_X1_add_22 : Cond.fieldLink RX1 22 (TX1 2).1 (TX1 2).2.1 (TX1 2).2.2.1 ∈ wsX1_add := by decide +kernel
theorem lk_X1_add_25 : Cond.fieldLink RX1 25 (TX1 3).1 (TX1 3).2.1 (TX1 3).2.2.1 ∈ wsX1_add := by decide +kernel
theorem lk_X1_add_28 : Cond.fieldLink RX1 28 (TX1 4).1 (TX1 4).2.1 (TX1 4).2.2.1 ∈ wsX1_add := by decide +kernel
theorem lk_X1_add_31 : Cond.fieldLink RX1 31 (TX1 5).1 (TX1 5).2.1 (TX1 5).2.2.1 ∈ wsX1_add := by decide +kernel
def R_ix_add_7 : Room := { frames := 1, cells := 0, slots := 0, locals := 21 }
def ix_add_7_b97 (n : Nat) (k : Nat) (z : SS) (y0 : Int32) (y1 : Int32) : Option SS :=
  (if ck y1 (n * 12) = true then some (sa z 15 (Int32.toNatClampNeg y1) (vp_nar .boolean y0)) else none)
def ix_add_7 (n : Nat) (k : Nat) (z : SS) (x1 : Int32) (x2 : Int32) : Option SS :=
  (if ck x1 n = true then (if ((z.2 10) (Int32.toNatClampNeg x1)) = 12 then some z else (if ck x1 n = true then (if ck x1 n = true then (if ck x1 n = true then (if ck ((x1 * 12) + ((z.2 10) (Int32.toNatClampNeg x1))) (n * 12) = true then (bo (rf_keyAt_7 n k (sa (sa z 10 (Int32.toNatClampNeg x1) (((z.2 10) (Int32.toNatClampNeg x1)) + 1)) 11 (Int32.toNatClampNeg ((x1 * 12) + ((z.2 10) (Int32.toNatClampNeg x1)))) x2) x2) fun r_1 => (if ck ((x1 * 12) + ((z.2 10) (Int32.toNatClampNeg x1))) (n * 12) = true then (bo (rf_numberAt_7 n k (sa (sa (sa z 10 (Int32.toNatClampNeg x1) (((z.2 10) (Int32.toNatClampNeg x1)) + 1)) 11 (Int32.toNatClampNeg ((x1 * 12) + ((z.2 10) (Int32.toNatClampNeg x1)))) x2) 12 (Int32.toNatClampNeg ((x1 * 12) + ((z.2 10) (Int32.toNatClampNeg x1)))) r_1) x2) fun r_2 => (if ck ((x1 * 12) + ((z.2 10) (Int32.toNatClampNeg x1))) (n * 12) = true then (bo (rf_contentsCountAt_7 n k (sa (sa (sa (sa z 10 (Int32.toNatClampNeg x1) (((z.2 10) (Int32.toNatClampNeg x1)) + 1)) 11 (Int32.toNatClampNeg ((x1 * 12) + ((z.2 10) (Int32.toNatClampNeg x1)))) x2) 12 (Int32.toNatClampNeg ((x1 * 12) + ((z.2 10) (Int32.toNatClampNeg x1)))) r_1) 13 (Int32.toNatClampNeg ((x1 * 12) + ((z.2 10) (Int32.toNatClampNeg x1)))) r_2) x2) fun r_3 => (if ck ((x1 * 12) + ((z.2 10) (Int32.toNatClampNeg x1))) (n * 12) = true then (if ck x2 (n * 200) = true then (if ((z.2 7) (Int32.toNatClampNeg x2)) = 2 then ix_add_7_b97 n k (sa (sa (sa (sa (sa z 10 (Int32.toNatClampNeg x1) (((z.2 10) (Int32.toNatClampNeg x1)) + 1)) 11 (Int32.toNatClampNeg ((x1 * 12) + ((z.2 10) (Int32.toNatClampNeg x1)))) x2) 12 (Int32.toNatClampNeg ((x1 * 12) + ((z.2 10) (Int32.toNatClampNeg x1)))) r_1) 13 (Int32.toNatClampNeg ((x1 * 12) + ((z.2 10) (Int32.toNatClampNeg x1)))) r_2) 14 (Int32.toNatClampNeg ((x1 * 12) + ((z.2 10) (Int32.toNatClampNeg x1)))) r_3) 1 ((x1 * 12) + ((z.2 10) (Int32.toNatClampNeg x1))) else ix_add_7_b97 n k (sa (sa (sa (sa (sa z 10 (Int32.toNatClampNeg x1) (((z.2 10) (Int32.toNatClampNeg x1)) + 1)) 11 (Int32.toNatClampNeg ((x1 * 12) + ((z.2 10) (Int32.toNatClampNeg x1)))) x2) 12 (Int32.toNatClampNeg ((x1 * 12) + ((z.2 10) (Int32.toNatClampNeg x1)))) r_1) 13 (Int32.toNatClampNeg ((x1 * 12) + ((z.2 10) (Int32.toNatClampNeg x1)))) r_2) 14 (Int32.toNatClampNeg ((x1 * 12) + ((z.2 10) (Int32.toNatClampNeg x1)))) r_3) 0 ((x1 * 12) + ((z.2 10) (Int32.toNatClampNeg x1)))) else none) else none)) else none)) else none)) else none) else none) else none) else none)) else none)
set_option maxHeartbeats 4000000 in
set_option maxRecDepth 100000 in
theorem w_ix_add_7_b97 {p : Program} {l : Launch} {e : Env} {s : State} {m : MethodId} {args : Array Value} {below : List Frame} {meth : Method} {c : Code} {D : va_G} {w0 : va_W} {n : Nat} {ad : Nat → Nat} {cA : Nat → ClassId} (C : Cx p s m args meth c cX1_add 5 none RX1 wsX1_add D (tC cA)) (k : Nat) (z : SS) (y0 : Int32) (y1 : Int32) (z' : SS) (hf : ix_add_7_b97 n k z y0 y1 = some z') : ∀ (H : Heap) (locs : List Loc) (ls : Array Slot), St D (va_A w0 s.heap.size) s.heap (wC n ad cA z) H locs → lv_has ls 5 [] → W p l e R_ix_add_7 s m args below meth c H locs 0 0 (MQ below (kV D (tC cA) w0 (wC n ad cA z') s.heap.size) args s 0 0 (va_A w0 s.heap.size)) (F0 m 97 ls [.int y0, .int y1, .ref (ad 15)]) := by
  obtain ⟨hx, hb, hr, hml, hown, hts, hlk, hK⟩ := id C
  intro H locs ls hS hl
  have hf : (if ck y1 (n * 12) = true then some (sa z 15 (Int32.toNatClampNeg y1) (vp_nar .boolean y0)) else none) = some z' := hf
  obtain ⟨hck, hf⟩ := cs hf
  refine sC_15 C hS (i := y1) (x := y0) hck dX1_add_97 (fun H locs hS => ?_)
  cases hf
  exact rtv C hS dX1_add_98
set_option maxHeartbeats 4000000 in
set_option maxRecDepth 100000 in
theorem w_ix_add_7_0 {p : Program} {l : Launch} {e : Env} {s : State} {m : MethodId} {args : Array Value} {below : List Frame} {meth : Method} {c : Code} {D : va_G} {w0 : va_W} {n : Nat} {ad : Nat → Nat} {cA : Nat → ClassId} (C : Cx p s m args meth c cX1_add 5 none RX1 wsX1_add D (tC cA)) (k : Nat) (z : SS) (x1 : Int32) (x2 : Int32) (z' : SS) (hf : ix_add_7 n k z x1 x2 = some z') : ∀ (H : Heap) (locs : List Loc) (ls : Array Slot), St D (va_A w0 s.heap.size) s.heap (wC n ad cA z) H locs → lv_has ls 5 [(0, .ref (ad 2)), (1, .int x1), (2, .int x2), (3, .ref (ad 7))] → W p l e R_ix_add_7 s m args below meth c H locs 0 0 (MQ below (kV D (tC cA) w0 (wC n ad cA z') s.heap.size) args s 0 0 (va_A w0 s.heap.size)) (F0 m 0 ls []) := by
  obtain ⟨hx, hb, hr, hml, hown, hts, hlk, hK⟩ := id C
  intro H locs ls hS hl
  have hf : (if ck x1 n = true then (if ((z.2 10) (Int32.toNatClampNeg x1)) = 12 then some z else (if ck x1 n = true then (if ck x1 n = true then (if ck x1 n = true then (if ck ((x1 * 12) + ((z.2 10) (Int32.toNatClampNeg x1))) (n * 12) = true then (bo (rf_keyAt_7 n k (sa (sa z 10 (Int32.toNatClampNeg x1) (((z.2 10) (Int32.toNatClampNeg x1)) + 1)) 11 (Int32.toNatClampNeg ((x1 * 12) + ((z.2 10) (Int32.toNatClampNeg x1)))) x2) x2) fun r_1 => (if ck ((x1 * 12) + ((z.2 10) (Int32.toNatClampNeg x1))) (n * 12) = true then (bo (rf_numberAt_7 n k (sa (sa (sa z 10 (Int32.toNatClampNeg x1) (((z.2 10) (Int32.toNatClampNeg x1)) + 1)) 11 (Int32.toNatClampNeg ((x1 * 12) + ((z.2 10) (Int32.toNatClampNeg x1)))) x2) 12 (Int32.toNatClampNeg ((x1 * 12) + ((z.2 10) (Int32.toNatClampNeg x1)))) r_1) x2) fun r_2 => (if ck ((x1 * 12) + ((z.2 10) (Int32.toNatClampNeg x1))) (n * 12) = true then (bo (rf_contentsCountAt_7 n k (sa (sa (sa (sa z 10 (Int32.toNatClampNeg x1) (((z.2 10) (Int32.toNatClampNeg x1)) + 1)) 11 (Int32.toNatClampNeg ((x1 * 12) + ((z.2 10) (Int32.toNatClampNeg x1)))) x2) 12 (Int32.toNatClampNeg ((x1 * 12) + ((z.2 10) (Int32.toNatClampNeg x1)))) r_1) 13 (Int32.toNatClampNeg ((x1 * 12) + ((z.2 10) (Int32.toNatClampNeg x1)))) r_2) x2) fun r_3 => (if ck ((x1 * 12) + ((z.2 10) (Int32.toNatClampNeg x1))) (n * 12) = true then (if ck x2 (n * 200) = true then (if ((z.2 7) (Int32.toNatClampNeg x2)) = 2 then ix_add_7_b97 n k (sa (sa (sa (sa (sa z 10 (Int32.toNatClampNeg x1) (((z.2 10) (Int32.toNatClampNeg x1)) + 1)) 11 (Int32.toNatClampNeg ((x1 * 12) + ((z.2 10) (Int32.toNatClampNeg x1)))) x2) 12 (Int32.toNatClampNeg ((x1 * 12) + ((z.2 10) (Int32.toNatClampNeg x1)))) r_1) 13 (Int32.toNatClampNeg ((x1 * 12) + ((z.2 10) (Int32.toNatClampNeg x1)))) r_2) 14 (Int32.toNatClampNeg ((x1 * 12) + ((z.2 10) (Int32.toNatClampNeg x1)))) r_3) 1 ((x1 * 12) + ((z.2 10) (Int32.toNatClampNeg x1))) else ix_add_7_b97 n k (sa (sa (sa (sa (sa z 10 (Int32.toNatClampNeg x1) (((z.2 10) (Int32.toNatClampNeg x1)) + 1)) 11 (Int32.toNatClampNeg ((x1 * 12) + ((z.2 10) (Int32.toNatClampNeg x1)))) x2) 12 (Int32.toNatClampNeg ((x1 * 12) + ((z.2 10) (Int32.toNatClampNeg x1)))) r_1) 13 (Int32.toNatClampNeg ((x1 * 12) + ((z.2 10) (Int32.toNatClampNeg x1)))) r_2) 14 (Int32.toNatClampNeg ((x1 * 12) + ((z.2 10) (Int32.toNatClampNeg x1)))) r_3) 0 ((x1 * 12) + ((z.2 10) (Int32.toNatClampNeg x1)))) else none) else none)) else none)) else none)) else none) else none) else none) else none)) else none) = some z' := hf
  refine lv_aload_n hx hb dX1_add_0 rfl (lv_at hl 0 rfl) ?_
  refine hC_10 C hS in_X1_add_X1 lk_X1_add_15 dX1_add_1 ?_
  refine lv_iload_n hx hb dX1_add_4 rfl (lv_at hl 1 rfl) ?_
  obtain ⟨hck, hf⟩ := cs hf
  refine lC_10 C hS (f := (z.2 10)) rfl (i := x1) hck dX1_add_5 ?_
  refine lv_bipush (v := 12) hx hb dX1_add_6 (by decide) ?_
  refine lv_icmp_ne (x := ((z.2 10) (Int32.toNatClampNeg x1))) (y := 12) (tgt := 12) hx hb dX1_add_8 (by decide) (fun hc => ?_) (fun hc => ?_)
  · replace hf := it_f hc hf
    refine lv_iload_n hx hb dX1_add_12 rfl (lv_at hl 1 rfl) ?_
    refine lv_bipush (v := 12) hx hb dX1_add_13 (by decide) ?_
    refine lv_imul (x := x1) (y := 12) hx hb dX1_add_15 ?_
    refine lv_aload_n hx hb dX1_add_16 rfl (lv_at hl 0 rfl) ?_
    refine hC_10 C hS in_X1_add_X1 lk_X1_add_15 dX1_add_17 ?_
    refine lv_iload_n hx hb dX1_add_20 rfl (lv_at hl 1 rfl) ?_
    obtain ⟨hck, hf⟩ := cs hf
    refine lC_10 C hS (f := (z.2 10)) rfl (i := x1) hck dX1_add_21 ?_
    refine lv_iadd (x := (x1 * 12)) (y := ((z.2 10) (Int32.toNatClampNeg x1))) hx hb dX1_add_22 ?_
    refine lv_istore (lv' := [(4, .int ((x1 * 12) + ((z.2 10) (Int32.toNatClampNeg x1)))), (0, .ref (ad 2)), (1, .int x1), (2, .int x2), (3, .ref (ad 7))]) hx hb dX1_add_23 hl (by decide) rfl (fun ls hl => ?_)
    refine lv_aload_n hx hb dX1_add_25 rfl (lv_at hl 1 rfl) ?_
    refine hC_10 C hS in_X1_add_X1 lk_X1_add_15 dX1_add_26 ?_
    refine lv_iload_n hx hb dX1_add_29 rfl (lv_at hl 2 rfl) ?_
    refine lv_dup2_11 hx hb dX1_add_30 rfl rfl ?_
    obtain ⟨hck, hf⟩ := cs hf
    refine lC_10 C hS (f := (z.2 10)) rfl (i := x1) hck dX1_add_31 ?_
    refine lv_iconst (v := 1) hx hb dX1_add_32 (by decide) ?_
    refine lv_iadd (x := ((z.2 10) (Int32.toNatClampNeg x1))) (y := 1) hx hb dX1_add_33 ?_
    obtain ⟨hck, hf⟩ := cs hf
    refine sC_10 C hS (i := x1) (x := (((z.2 10) (Int32.toNatClampNeg x1)) + 1)) hck dX1_add_34 (fun H locs hS => ?_)
    refine lv_aload_n hx hb dX1_add_35 rfl (lv_at hl 1 rfl) ?_
    refine hC_11 C hS in_X1_add_X1 lk_X1_add_19 dX1_add_36 ?_
    refine lv_iload hx hb dX1_add_39 (lv_at hl 0 rfl) ?_
    refine lv_iload_n hx hb dX1_add_41 rfl (lv_at hl 3 rfl) ?_
    obtain ⟨hck, hf⟩ := cs hf
    refine sC_11 C hS (i := ((x1 * 12) + ((z.2 10) (Int32.toNatClampNeg x1)))) (x := x2) hck dX1_add_42 (fun H locs hS => ?_)
    refine lv_aload_n hx hb dX1_add_43 rfl (lv_at hl 1 rfl) ?_
    refine hC_12 C hS in_X1_add_X1 lk_X1_add_22 dX1_add_44 ?_
    refine lv_iload hx hb dX1_add_47 (lv_at hl 0 rfl) ?_
    refine lv_aload_n hx hb dX1_add_49 rfl (lv_at hl 4 rfl) ?_
    refine lv_iload_n hx hb dX1_add_50 rfl (lv_at hl 3 rfl) ?_
    obtain ⟨r_1, hcl, hf⟩ := bo_s hf
    refine rcSi (n := 2) (As := [.ref (ad 7), .int x2]) (rest := [.int ((x1 * 12) + ((z.2 10) (Int32.toNatClampNeg x1))), .ref (ad 12)]) (w' := (wC n ad cA (sa (sa z 10 (Int32.toNatClampNeg x1) (((z.2 10) (Int32.toNatClampNeg x1)) + 1)) 11 (Int32.toNatClampNeg ((x1 * 12) + ((z.2 10) (Int32.toNatClampNeg x1)))) x2))) C hS (fun sz => c_rf_keyAt_7 l D n ad cA k (sa (sa z 10 (Int32.toNatClampNeg x1) (((z.2 10) (Int32.toNatClampNeg x1)) + 1)) 11 (Int32.toNatClampNeg ((x1 * 12) + ((z.2 10) (Int32.toNatClampNeg x1)))) x2) x2 r_1 hcl sz) gX1_add_X2_keyAt rfl ⟨rfl, rfl⟩ (by decide +kernel) ⟨Nat.le_of_ble_eq_true rfl, Nat.le_of_ble_eq_true rfl⟩ rfl hl.1 rfl (Nat.le_of_ble_eq_true rfl) dX1_add_51 (fun H locs hS => ?_)
    obtain ⟨hck, hf⟩ := cs hf
    refine sC_12 C hS (i := ((x1 * 12) + ((z.2 10) (Int32.toNatClampNeg x1)))) (x := r_1) hck dX1_add_54 (fun H locs hS => ?_)
    refine lv_aload_n hx hb dX1_add_55 rfl (lv_at hl 1 rfl) ?_
    refine hC_13 C hS in_X1_add_X1 lk_X1_add_25 dX1_add_56 ?_
    refine lv_iload hx hb dX1_add_59 (lv_at hl 0 rfl) ?_
    refine lv_aload_n hx hb dX1_add_61 rfl (lv_at hl 4 rfl) ?_
    refine lv_iload_n hx hb dX1_add_62 rfl (lv_at hl 3 rfl) ?_
    obtain ⟨r_2, hcl, hf⟩ := bo_s hf
    refine rcSi (n := 2) (As := [.ref (ad 7), .int x2]) (rest := [.int ((x1 * 12) + ((z.2 10) (Int32.toNatClampNeg x1))), .ref (ad 13)]) (w' := (wC n ad cA (sa (sa (sa z 10 (Int32.toNatClampNeg x1) (((z.2 10) (Int32.toNatClampNeg x1)) + 1)) 11 (Int32.toNatClampNeg ((x1 * 12) + ((z.2 10) (Int32.toNatClampNeg x1)))) x2) 12 (Int32.toNatClampNeg ((x1 * 12) + ((z.2 10) (Int32.toNatClampNeg x1)))) r_1))) C hS (fun sz => c_rf_numberAt_7 l D n ad cA k (sa (sa (sa z 10 (Int32.toNatClampNeg x1) (((z.2 10) (Int32.toNatClampNeg x1)) + 1)) 11 (Int32.toNatClampNeg ((x1 * 12) + ((z.2 10) (Int32.toNatClampNeg x1)))) x2) 12 (Int32.toNatClampNeg ((x1 * 12) + ((z.2 10) (Int32.toNatClampNeg x1)))) r_1) x2 r_2 hcl sz) gX1_add_X2_numberAt rfl ⟨rfl, rfl⟩ (by decide +kernel) ⟨Nat.le_of_ble_eq_true rfl, Nat.le_of_ble_eq_true rfl⟩ rfl hl.1 rfl (Nat.le_of_ble_eq_true rfl) dX1_add_63 (fun H locs hS => ?_)
    obtain ⟨hck, hf⟩ := cs hf
    refine sC_13 C hS (i := ((x1 * 12) + ((z.2 10) (Int32.toNatClampNeg x1)))) (x := r_2) hck dX1_add_66 (fun H locs hS => ?_)
    refine lv_aload_n hx hb dX1_add_67 rfl (lv_at hl 1 rfl) ?_
    refine hC_14 C hS in_X1_add_X1 lk_X1_add_28 dX1_add_68 ?_
    refine lv_iload hx hb dX1_add_71 (lv_at hl 0 rfl) ?_
    refine lv_aload_n hx hb dX1_add_73 rfl (lv_at hl 4 rfl) ?_
    refine lv_iload_n hx hb dX1_add_74 rfl (lv_at hl 3 rfl) ?_
    obtain ⟨r_3, hcl, hf⟩ := bo_s hf
    refine rcSi (n := 2) (As := [.ref (ad 7), .int x2]) (rest := [.int ((x1 * 12) + ((z.2 10) (Int32.toNatClampNeg x1))), .ref (ad 14)]) (w' := (wC n ad cA (sa (sa (sa (sa z 10 (Int32.toNatClampNeg x1) (((z.2 10) (Int32.toNatClampNeg x1)) + 1)) 11 (Int32.toNatClampNeg ((x1 * 12) + ((z.2 10) (Int32.toNatClampNeg x1)))) x2) 12 (Int32.toNatClampNeg ((x1 * 12) + ((z.2 10) (Int32.toNatClampNeg x1)))) r_1) 13 (Int32.toNatClampNeg ((x1 * 12) + ((z.2 10) (Int32.toNatClampNeg x1)))) r_2))) C hS (fun sz => c_rf_contentsCountAt_7 l D n ad cA k (sa (sa (sa (sa z 10 (Int32.toNatClampNeg x1) (((z.2 10) (Int32.toNatClampNeg x1)) + 1)) 11 (Int32.toNatClampNeg ((x1 * 12) + ((z.2 10) (Int32.toNatClampNeg x1)))) x2) 12 (Int32.toNatClampNeg ((x1 * 12) + ((z.2 10) (Int32.toNatClampNeg x1)))) r_1) 13 (Int32.toNatClampNeg ((x1 * 12) + ((z.2 10) (Int32.toNatClampNeg x1)))) r_2) x2 r_3 hcl sz) gX1_add_X2_contentsCountAt rfl ⟨rfl, rfl⟩ (by decide +kernel) ⟨Nat.le_of_ble_eq_true rfl, Nat.le_of_ble_eq_true rfl⟩ rfl hl.1 rfl (Nat.le_of_ble_eq_true rfl) dX1_add_75 (fun H locs hS => ?_)
    obtain ⟨hck, hf⟩ := cs hf
    refine sC_14 C hS (i := ((x1 * 12) + ((z.2 10) (Int32.toNatClampNeg x1)))) (x := r_3) hck dX1_add_78 (fun H locs hS => ?_)
    refine lv_aload_n hx hb dX1_add_79 rfl (lv_at hl 1 rfl) ?_
    refine hC_15 C hS in_X1_add_X1 lk_X1_add_31 dX1_add_80 ?_
    refine lv_iload hx hb dX1_add_83 (lv_at hl 0 rfl) ?_
    refine lv_aload_n hx hb dX1_add_85 rfl (lv_at hl 4 rfl) ?_
    refine lv_iload_n hx hb dX1_add_86 rfl (lv_at hl 3 rfl) ?_
    obtain ⟨hck, hf⟩ := cs hf
    refine lC_7 C hS (f := (z.2 7)) ((sa_o (by decide)).trans ((sa_o (by decide)).trans ((sa_o (by decide)).trans ((sa_o (by decide)).trans ((sa_o (by decide)).trans rfl))))) (i := x2) hck dX1_add_87 ?_
    refine lv_iconst (v := 2) hx hb dX1_add_88 (by decide) ?_
    refine lv_icmp_ne (x := ((z.2 7) (Int32.toNatClampNeg x2))) (y := 2) (tgt := 96) hx hb dX1_add_89 (by decide) (fun hc => ?_) (fun hc => ?_)
    · replace hf := it_f hc hf
      refine lv_iconst (v := 0) hx hb dX1_add_96 (by decide) ?_
      exact w_ix_add_7_b97 C k (sa (sa (sa (sa (sa z 10 (Int32.toNatClampNeg x1) (((z.2 10) (Int32.toNatClampNeg x1)) + 1)) 11 (Int32.toNatClampNeg ((x1 * 12) + ((z.2 10) (Int32.toNatClampNeg x1)))) x2) 12 (Int32.toNatClampNeg ((x1 * 12) + ((z.2 10) (Int32.toNatClampNeg x1)))) r_1) 13 (Int32.toNatClampNeg ((x1 * 12) + ((z.2 10) (Int32.toNatClampNeg x1)))) r_2) 14 (Int32.toNatClampNeg ((x1 * 12) + ((z.2 10) (Int32.toNatClampNeg x1)))) r_3) 0 ((x1 * 12) + ((z.2 10) (Int32.toNatClampNeg x1))) z' hf H locs ls hS (lv_sub hl [] rfl)
    · replace hf := it_t hc hf
      refine lv_iconst (v := 1) hx hb dX1_add_92 (by decide) ?_
      refine lv_goto (tgt := 97) hx hb dX1_add_93 (by decide) ?_
      exact w_ix_add_7_b97 C k (sa (sa (sa (sa (sa z 10 (Int32.toNatClampNeg x1) (((z.2 10) (Int32.toNatClampNeg x1)) + 1)) 11 (Int32.toNatClampNeg ((x1 * 12) + ((z.2 10) (Int32.toNatClampNeg x1)))) x2) 12 (Int32.toNatClampNeg ((x1 * 12) + ((z.2 10) (Int32.toNatClampNeg x1)))) r_1) 13 (Int32.toNatClampNeg ((x1 * 12) + ((z.2 10) (Int32.toNatClampNeg x1)))) r_2) 14 (Int32.toNatClampNeg ((x1 * 12) + ((z.2 10) (Int32.toNatClampNeg x1)))) r_3) 1 ((x1 * 12) + ((z.2 10) (Int32.toNatClampNeg x1))) z' hf H locs ls hS (lv_sub hl [] rfl)
  · replace hf := it_t hc hf
    cases hf
    exact rtv C hS dX1_add_11
set_option maxHeartbeats 4000000 in
set_option maxRecDepth 100000 in
theorem c_ix_add_7 (l : Launch) (D : va_G) (n : Nat) (ad : Nat → Nat) (cA : Nat → ClassId) (k : Nat) (z : SS) (x1 : Int32) (x2 : Int32) (z' : SS) (hf : ix_add_7 n k z x1 x2 = some z') (sz : Nat) : Met l yX1_add wsX1_add R_ix_add_7 (kP D (tC cA) [.ref (ad 2), .int x1, .int x2, .ref (ad 7)] (wC n ad cA z) sz) (kV D (tC cA) (wC n ad cA z) (wC n ad cA z') sz) 0 0 (va_A (wC n ad cA z) sz) := by
  refine ent (by decide) rfl rfl (Nat.le_of_ble_eq_true rfl) (fun p e s m args below meth c hsz C hS ls hl => ?_)
  subst hsz
  exact w_ix_add_7_0 C k z x1 x2 z' hf s.heap [] ls hS hl
-- ix_forget: void forget(int);
theorem lk_X1_forget_22 : Cond.fieldLink RX1 22 (TX1 2).1 (TX1 2).2.1 (TX1 2).2.2.1 ∈ wsX1_forget := by decide +kernel
theorem in_X1_forget_X1 : ∀ x ∈ u_ws RX1 TX1 6, x ∈ wsX1_forget := by decide +kernel
theorem lk_X1_forget_15 : Cond.fieldLink RX1 15 (TX1 0).1 (TX1 0).2.1 (TX1 0).2.2.1 ∈ wsX1_forget := by decide +kernel
def R_ix_forget : Room := { frames := 0, cells := 0, slots := 0, locals := 0 }
def ix_forget_b9 (n : Nat) (k : Nat) : Nat → SS → Int32 → Int32 → Option SS
  | 0, _, _, _ => none
  | fu + 1, z, x1, x2 => (if 12 ≤ x2 then some z else (if ck ((x1 * 12) + x2) (n * 12) = true then ix_forget_b9 n k fu (sa z 12 (Int32.toNatClampNeg ((x1 * 12) + x2)) (-1)) x1 (x2 + 1) else none))
def ix_forget (n : Nat) (k : Nat) (z : SS) (x1 : Int32) : Option SS :=
  (if ck x1 n = true then ix_forget_b9 n k k (sa z 10 (Int32.toNatClampNeg x1) 0) x1 0 else none)
set_option maxHeartbeats 4000000 in
set_option maxRecDepth 100000 in
theorem w_ix_forget_b9 {p : Program} {l : Launch} {e : Env} {s : State} {m : MethodId} {args : Array Value} {below : List Frame} {meth : Method} {c : Code} {D : va_G} {w0 : va_W} {n : Nat} {ad : Nat → Nat} {cA : Nat → ClassId} (C : Cx p s m args meth c cX1_forget 3 none RX1 wsX1_forget D (tC cA)) (k : Nat) : ∀ (fu : Nat) (z : SS) (x1 : Int32) (x2 : Int32) (z' : SS), ix_forget_b9 n k fu z x1 x2 = some z' → ∀ (H : Heap) (locs : List Loc) (ls : Array Slot), St D (va_A w0 s.heap.size) s.heap (wC n ad cA z) H locs → lv_has ls 3 [(0, .ref (ad 2)), (1, .int x1), (2, .int x2)] → W p l e R_ix_forget s m args below meth c H locs 0 0 (MQ below (kV D (tC cA) w0 (wC n ad cA z') s.heap.size) args s 0 0 (va_A w0 s.heap.size)) (F0 m 9 ls []) := by
  obtain ⟨hx, hb, hr, hml, hown, hts, hlk, hK⟩ := id C
  intro fu
  induction fu with
  | zero =>
    intro z x1 x2 z' hf
    cases (show (none : Option SS) = some z' from hf)
  | succ fu ih =>
    intro z x1 x2 z' hf H locs ls hS hl
    have hf : (if 12 ≤ x2 then some z else (if ck ((x1 * 12) + x2) (n * 12) = true then ix_forget_b9 n k fu (sa z 12 (Int32.toNatClampNeg ((x1 * 12) + x2)) (-1)) x1 (x2 + 1) else none)) = some z' := hf
    refine lv_iload_n hx hb dX1_forget_9 rfl (lv_at hl 2 rfl) ?_
    refine lv_bipush (v := 12) hx hb dX1_forget_10 (by decide) ?_
    refine lv_icmp_ge (x := x2) (y := 12) (tgt := 33) hx hb dX1_forget_12 (by decide) (fun hc => ?_) (fun hc => ?_)
    · replace hf := it_t hc hf
      cases hf
      exact rtv C hS dX1_forget_33
    · replace hf := it_f hc hf
      refine lv_aload_n hx hb dX1_forget_15 rfl (lv_at hl 0 rfl) ?_
      refine hC_12 C hS in_X1_forget_X1 lk_X1_forget_22 dX1_forget_16 ?_
      refine lv_iload_n hx hb dX1_forget_19 rfl (lv_at hl 1 rfl) ?_
      refine lv_bipush (v := 12) hx hb dX1_forget_20 (by decide) ?_
      refine lv_imul (x := x1) (y := 12) hx hb dX1_forget_22 ?_
      refine lv_iload_n hx hb dX1_forget_23 rfl (lv_at hl 2 rfl) ?_
      refine lv_iadd (x := (x1 * 12)) (y := x2) hx hb dX1_forget_24 ?_
      refine lv_iconst (v := (-1)) hx hb dX1_forget_25 (by decide) ?_
      obtain ⟨hck, hf⟩ := cs hf
      refine sC_12 C hS (i := ((x1 * 12) + x2)) (x := (-1)) hck dX1_forget_26 (fun H locs hS => ?_)
      refine lv_iinc (v := (x2 + 1)) (lv' := [(2, .int (x2 + 1)), (0, .ref (ad 2)), (1, .int x1)]) hx hb dX1_forget_27 hl (k := 2) rfl (congrArg (fun q => x2 + q) (by decide : Int32.ofInt 1 = (1 : Int32))) (by decide) rfl (fun ls hl => ?_)
      refine lv_goto (tgt := 9) hx hb dX1_forget_30 (by decide) ?_
      exact ih (sa z 12 (Int32.toNatClampNeg ((x1 * 12) + x2)) (-1)) x1 (x2 + 1) z' hf H locs ls hS (lv_sub hl [1, 2, 0] rfl)
set_option maxHeartbeats 4000000 in
set_option maxRecDepth 100000 in
theorem w_ix_forget_0 {p : Program} {l : Launch} {e : Env} {s : State} {m : MethodId} {args : Array Value} {below : List Frame} {meth : Method} {c : Code} {D : va_G} {w0 : va_W} {n : Nat} {ad : Nat → Nat} {cA : Nat → ClassId} (C : Cx p s m args meth c cX1_forget 3 none RX1 wsX1_forget D (tC cA)) (k : Nat) (z : SS) (x1 : Int32) (z' : SS) (hf : ix_forget n k z x1 = some z') : ∀ (H : Heap) (locs : List Loc) (ls : Array Slot), St D (va_A w0 s.heap.size) s.heap (wC n ad cA z) H locs → lv_has ls 3 [(0, .ref (ad 2)), (1, .int x1)] → W p l e R_ix_forget s m args below meth c H locs 0 0 (MQ below (kV D (tC cA) w0 (wC n ad cA z') s.heap.size) args s 0 0 (va_A w0 s.heap.size)) (F0 m 0 ls []) := by
  obtain ⟨hx, hb, hr, hml, hown, hts, hlk, hK⟩ := id C
  intro H locs ls hS hl
  have hf : (if ck x1 n = true then ix_forget_b9 n k k (sa z 10 (Int32.toNatClampNeg x1) 0) x1 0 else none) = some z' := hf
  refine lv_aload_n hx hb dX1_forget_0 rfl (lv_at hl 0 rfl) ?_
  refine hC_10 C hS in_X1_forget_X1 lk_X1_forget_15 dX1_forget_1 ?_
  refine lv_iload_n hx hb dX1_forget_4 rfl (lv_at hl 1 rfl) ?_
  refine lv_iconst (v := 0) hx hb dX1_forget_5 (by decide) ?_
  obtain ⟨hck, hf⟩ := cs hf
  refine sC_10 C hS (i := x1) (x := 0) hck dX1_forget_6 (fun H locs hS => ?_)
  refine lv_iconst (v := 0) hx hb dX1_forget_7 (by decide) ?_
  refine lv_istore_n (lv' := [(2, .int 0), (0, .ref (ad 2)), (1, .int x1)]) hx hb dX1_forget_8 rfl hl (by decide) rfl (fun ls hl => ?_)
  exact w_ix_forget_b9 C k k (sa z 10 (Int32.toNatClampNeg x1) 0) x1 0 z' hf H locs ls hS (lv_sub hl [1, 2, 0] rfl)
set_option maxHeartbeats 4000000 in
set_option maxRecDepth 100000 in
theorem c_ix_forget (l : Launch) (D : va_G) (n : Nat) (ad : Nat → Nat) (cA : Nat → ClassId) (k : Nat) (z : SS) (x1 : Int32) (z' : SS) (hf : ix_forget n k z x1 = some z') (sz : Nat) : Met l yX1_forget wsX1_forget R_ix_forget (kP D (tC cA) [.ref (ad 2), .int x1] (wC n ad cA z) sz) (kV D (tC cA) (wC n ad cA z) (wC n ad cA z') sz) 0 0 (va_A (wC n ad cA z) sz) := by
  refine ent (by decide) rfl rfl (Nat.le_of_ble_eq_true rfl) (fun p e s m args below meth c hsz C hS ls hl => ?_)
  subst hsz
  exact w_ix_forget_0 C k z x1 z' hf s.heap [] ls hS hl
-- ix_forgetAll: void forgetAll();
theorem lk_X1_forgetAll_15 : Cond.fieldLink RX1 15 (TX1 0).1 (TX1 0).2.1 (TX1 0).2.2.1 ∈ wsX1_forgetAll := by decide +kernel
theorem in_X1_forgetAll_X1 : ∀ x ∈ u_ws RX1 TX1 6, x ∈ wsX1_forgetAll := by decide +kernel
def R_ix_forgetAll : Room := { frames := 1, cells := 0, slots := 0, locals := 22 }
def ix_forgetAll_b2 (n : Nat) (k : Nat) : Nat → SS → Int32 → Option SS
  | 0, _, _ => none
  | fu + 1, z, x1 => (if (nI n) ≤ x1 then some z else (bo (ix_forget n k z x1) fun z_1 => ix_forgetAll_b2 n k fu z_1 (x1 + 1)))
def ix_forgetAll (n : Nat) (k : Nat) (z : SS) : Option SS :=
  ix_forgetAll_b2 n k k z 0
set_option maxHeartbeats 4000000 in
set_option maxRecDepth 100000 in
theorem w_ix_forgetAll_b2 {p : Program} {l : Launch} {e : Env} {s : State} {m : MethodId} {args : Array Value} {below : List Frame} {meth : Method} {c : Code} {D : va_G} {w0 : va_W} {n : Nat} {ad : Nat → Nat} {cA : Nat → ClassId} (C : Cx p s m args meth c cX1_forgetAll 2 none RX1 wsX1_forgetAll D (tC cA)) (k : Nat) : ∀ (fu : Nat) (z : SS) (x1 : Int32) (z' : SS), ix_forgetAll_b2 n k fu z x1 = some z' → ∀ (H : Heap) (locs : List Loc) (ls : Array Slot), St D (va_A w0 s.heap.size) s.heap (wC n ad cA z) H locs → lv_has ls 2 [(0, .ref (ad 2)), (1, .int x1)] → W p l e R_ix_forgetAll s m args below meth c H locs 0 0 (MQ below (kV D (tC cA) w0 (wC n ad cA z') s.heap.size) args s 0 0 (va_A w0 s.heap.size)) (F0 m 2 ls []) := by
  obtain ⟨hx, hb, hr, hml, hown, hts, hlk, hK⟩ := id C
  intro fu
  induction fu with
  | zero =>
    intro z x1 z' hf
    cases (show (none : Option SS) = some z' from hf)
  | succ fu ih =>
    intro z x1 z' hf H locs ls hS hl
    have hf : (if (nI n) ≤ x1 then some z else (bo (ix_forget n k z x1) fun z_1 => ix_forgetAll_b2 n k fu z_1 (x1 + 1))) = some z' := hf
    refine lv_iload_n hx hb dX1_forgetAll_2 rfl (lv_at hl 1 rfl) ?_
    refine lv_aload_n hx hb dX1_forgetAll_3 rfl (lv_at hl 0 rfl) ?_
    refine hC_10 C hS in_X1_forgetAll_X1 lk_X1_forgetAll_15 dX1_forgetAll_4 ?_
    refine nC_10 C hS dX1_forgetAll_7 ?_
    refine lv_icmp_ge (x := x1) (y := (nI n)) (tgt := 22) hx hb dX1_forgetAll_8 (by decide) (fun hc => ?_) (fun hc => ?_)
    · replace hf := it_t hc hf
      cases hf
      exact rtv C hS dX1_forgetAll_22
    · replace hf := it_f hc hf
      refine lv_aload_n hx hb dX1_forgetAll_11 rfl (lv_at hl 0 rfl) ?_
      refine lv_iload_n hx hb dX1_forgetAll_12 rfl (lv_at hl 1 rfl) ?_
      obtain ⟨z_1, hcl, hf⟩ := bo_s hf
      refine rcVv (n := 1) (As := [.int x1]) (rest := []) (q0 := 2) (w' := (wC n ad cA z_1)) C hS (fun sz => c_ix_forget l D n ad cA k z x1 z_1 hcl sz) gX1_forgetAll_X1_forget rfl ⟨rfl, rfl⟩ (by decide +kernel) ⟨Nat.le_of_ble_eq_true rfl, Nat.le_of_ble_eq_true rfl⟩ oC_2 rfl rfl hl.1 rfl (Nat.le_of_ble_eq_true rfl) dX1_forgetAll_13 (fun H locs hS => ?_)
      refine lv_iinc (v := (x1 + 1)) (lv' := [(1, .int (x1 + 1)), (0, .ref (ad 2))]) hx hb dX1_forgetAll_16 hl (k := 1) rfl (congrArg (fun q => x1 + q) (by decide : Int32.ofInt 1 = (1 : Int32))) (by decide) rfl (fun ls hl => ?_)
      refine lv_goto (tgt := 2) hx hb dX1_forgetAll_19 (by decide) ?_
      exact ih z_1 (x1 + 1) z' hf H locs ls hS (lv_sub hl [1, 0] rfl)
set_option maxHeartbeats 4000000 in
set_option maxRecDepth 100000 in
theorem w_ix_forgetAll_0 {p : Program} {l : Launch} {e : Env} {s : State} {m : MethodId} {args : Array Value} {below : List Frame} {meth : Method} {c : Code} {D : va_G} {w0 : va_W} {n : Nat} {ad : Nat → Nat} {cA : Nat → ClassId} (C : Cx p s m args meth c cX1_forgetAll 2 none RX1 wsX1_forgetAll D (tC cA)) (k : Nat) (z : SS) (z' : SS) (hf : ix_forgetAll n k z = some z') : ∀ (H : Heap) (locs : List Loc) (ls : Array Slot), St D (va_A w0 s.heap.size) s.heap (wC n ad cA z) H locs → lv_has ls 2 [(0, .ref (ad 2))] → W p l e R_ix_forgetAll s m args below meth c H locs 0 0 (MQ below (kV D (tC cA) w0 (wC n ad cA z') s.heap.size) args s 0 0 (va_A w0 s.heap.size)) (F0 m 0 ls []) := by
  obtain ⟨hx, hb, hr, hml, hown, hts, hlk, hK⟩ := id C
  intro H locs ls hS hl
  have hf : ix_forgetAll_b2 n k k z 0 = some z' := hf
  refine lv_iconst (v := 0) hx hb dX1_forgetAll_0 (by decide) ?_
  refine lv_istore_n (lv' := [(1, .int 0), (0, .ref (ad 2))]) hx hb dX1_forgetAll_1 rfl hl (by decide) rfl (fun ls hl => ?_)
  exact w_ix_forgetAll_b2 C k k z 0 z' hf H locs ls hS (lv_sub hl [1, 0] rfl)
set_option maxHeartbeats 4000000 in
set_option maxRecDepth 100000 in
theorem c_ix_forgetAll (l : Launch) (D : va_G) (n : Nat) (ad : Nat → Nat) (cA : Nat → ClassId) (k : Nat) (z : SS) (z' : SS) (hf : ix_forgetAll n k z = some z') (sz : Nat) : Met l yX1_forgetAll wsX1_forgetAll R_ix_forgetAll (kP D (tC cA) [.ref (ad 2)] (wC n ad cA z) sz) (kV D (tC cA) (wC n ad cA z) (wC n ad cA z') sz) 0 0 (va_A (wC n ad cA z) sz) := by
  refine ent (by decide) rfl rfl (Nat.le_of_ble_eq_true rfl) (fun p e s m args below meth c hsz C hS ls hl => ?_)
  subst hsz
  exact w_ix_forgetAll_0 C k z z' hf s.heap [] ls hS hl
-- ix_bytesOf: int bytesOf(int);
theorem lk_X1_bytesOf_28 : Cond.fieldLink RX1 28 (TX1 4).1 (TX1 4).2.1 (TX1 4).2.2.1 ∈ wsX1_bytesOf := by decide +kernel
theorem in_X1_bytesOf_X1 : ∀ x ∈ u_ws RX1 TX1 6, x ∈ wsX1_bytesOf := by decide +kernel
def R_ix_bytesOf : Room := { frames := 1, cells := 0, slots := 0, locals := 20 }
def ix_bytesOf (n : Nat) (k : Nat) (z : SS) (x1 : Int32) : Option Int32 :=
  (if ck x1 (n * 12) = true then (bo (rf_bytesWith n k z ((z.2 14) (Int32.toNatClampNeg x1))) fun r_1 => some r_1) else none)
set_option maxHeartbeats 4000000 in
set_option maxRecDepth 100000 in
theorem w_ix_bytesOf_0 {p : Program} {l : Launch} {e : Env} {s : State} {m : MethodId} {args : Array Value} {below : List Frame} {meth : Method} {c : Code} {D : va_G} {w0 : va_W} {n : Nat} {ad : Nat → Nat} {cA : Nat → ClassId} (C : Cx p s m args meth c cX1_bytesOf 2 (some .int) RX1 wsX1_bytesOf D (tC cA)) (k : Nat) (z : SS) (x1 : Int32) (r : Int32) (hf : ix_bytesOf n k z x1 = some r) : ∀ (H : Heap) (locs : List Loc) (ls : Array Slot), St D (va_A w0 s.heap.size) s.heap (wC n ad cA z) H locs → lv_has ls 2 [(0, .ref (ad 2)), (1, .int x1)] → W p l e R_ix_bytesOf s m args below meth c H locs 0 0 (MQ below (kI D (tC cA) r w0 (wC n ad cA z) s.heap.size) args s 0 0 (va_A w0 s.heap.size)) (F0 m 0 ls []) := by
  obtain ⟨hx, hb, hr, hml, hown, hts, hlk, hK⟩ := id C
  intro H locs ls hS hl
  have hf : (if ck x1 (n * 12) = true then (bo (rf_bytesWith n k z ((z.2 14) (Int32.toNatClampNeg x1))) fun r_1 => some r_1) else none) = some r := hf
  refine lv_aload_n hx hb dX1_bytesOf_0 rfl (lv_at hl 0 rfl) ?_
  refine hC_14 C hS in_X1_bytesOf_X1 lk_X1_bytesOf_28 dX1_bytesOf_1 ?_
  refine lv_iload_n hx hb dX1_bytesOf_4 rfl (lv_at hl 1 rfl) ?_
  obtain ⟨hck, hf⟩ := cs hf
  refine lC_14 C hS (f := (z.2 14)) rfl (i := x1) hck dX1_bytesOf_5 ?_
  obtain ⟨r_1, hcl, hf⟩ := bo_s hf
  refine rcSi (n := 1) (As := [.int ((z.2 14) (Int32.toNatClampNeg x1))]) (rest := []) (w' := (wC n ad cA z)) C hS (fun sz => c_rf_bytesWith l D n ad cA k z ((z.2 14) (Int32.toNatClampNeg x1)) r_1 hcl sz) gX1_bytesOf_X2_bytesWith rfl ⟨rfl, rfl⟩ (by decide +kernel) ⟨Nat.le_of_ble_eq_true rfl, Nat.le_of_ble_eq_true rfl⟩ rfl hl.1 rfl (Nat.le_of_ble_eq_true rfl) dX1_bytesOf_6 (fun H locs hS => ?_)
  cases hf
  exact rti C hS dX1_bytesOf_9
set_option maxHeartbeats 4000000 in
set_option maxRecDepth 100000 in
theorem c_ix_bytesOf (l : Launch) (D : va_G) (n : Nat) (ad : Nat → Nat) (cA : Nat → ClassId) (k : Nat) (z : SS) (x1 : Int32) (r : Int32) (hf : ix_bytesOf n k z x1 = some r) (sz : Nat) : Met l yX1_bytesOf wsX1_bytesOf R_ix_bytesOf (kP D (tC cA) [.ref (ad 2), .int x1] (wC n ad cA z) sz) (kI D (tC cA) r (wC n ad cA z) (wC n ad cA z) sz) 0 0 (va_A (wC n ad cA z) sz) := by
  refine ent (by decide) rfl rfl (Nat.le_of_ble_eq_true rfl) (fun p e s m args below meth c hsz C hS ls hl => ?_)
  subst hsz
  exact w_ix_bytesOf_0 C k z x1 r hf s.heap [] ls hS hl
-- ix_slotAt: int slotAt(int, int);
theorem lk_X1_slotAt_22 : Cond.fieldLink RX1 22 (TX1 2).1 (TX1 2).2.1 (TX1 2).2.2.1 ∈ wsX1_slotAt := by decide +kernel
theorem in_X1_slotAt_X1 : ∀ x ∈ u_ws RX1 TX1 6, x ∈ wsX1_slotAt := by decide +kernel
theorem lk_X1_slotAt_25 : Cond.fieldLink RX1 25 (TX1 3).1 (TX1 3).2.1 (TX1 3).2.2.1 ∈ wsX1_slotAt := by decide +kernel
def R_ix_slotAt : Room := { frames := 0, cells := 0, slots := 0, locals := 0 }
def ix_slotAt_b5 (n : Nat) (k : Nat) (z : SS) : Nat → Int32 → Int32 → Int32 → Int32 → Option Int32
  | 0, _, _, _, _ => none
  | fu + 1, x1, x2, x3, x4 => (if (nI (n * 12)) ≤ x4 then some x3 else (if ck x4 (n * 12) = true then (if ((z.2 12) (Int32.toNatClampNeg x4)) = x1 then (if ck x4 (n * 12) = true then (if x2 < ((z.2 13) (Int32.toNatClampNeg x4)) then ix_slotAt_b5 n k z fu x1 x2 x3 (x4 + 1) else (if x3 = (-1) then ix_slotAt_b5 n k z fu x1 x2 x4 (x4 + 1) else (if ck x4 (n * 12) = true then (if ck x3 (n * 12) = true then (if ((z.2 13) (Int32.toNatClampNeg x4)) ≤ ((z.2 13) (Int32.toNatClampNeg x3)) then ix_slotAt_b5 n k z fu x1 x2 x3 (x4 + 1) else ix_slotAt_b5 n k z fu x1 x2 x4 (x4 + 1)) else none) else none))) else none) else ix_slotAt_b5 n k z fu x1 x2 x3 (x4 + 1)) else none))
def ix_slotAt (n : Nat) (k : Nat) (z : SS) (x1 : Int32) (x2 : Int32) : Option Int32 :=
  ix_slotAt_b5 n k z k x1 x2 (-1) 0
set_option maxHeartbeats 4000000 in
set_option maxRecDepth 100000 in
theorem w_ix_slotAt_b5 {p : Program} {l : Launch} {e : Env} {s : State} {m : MethodId} {args : Array Value} {below : List Frame} {meth : Method} {c : Code} {D : va_G} {w0 : va_W} {n : Nat} {ad : Nat → Nat} {cA : Nat → ClassId} (C : Cx p s m args meth c cX1_slotAt 5 (some .int) RX1 wsX1_slotAt D (tC cA)) (k : Nat) (z : SS) : ∀ (fu : Nat) (x1 : Int32) (x2 : Int32) (x3 : Int32) (x4 : Int32) (r : Int32), ix_slotAt_b5 n k z fu x1 x2 x3 x4 = some r → ∀ (H : Heap) (locs : List Loc) (ls : Array Slot), St D (va_A w0 s.heap.size) s.heap (wC n ad cA z) H locs → lv_has ls 5 [(0, .ref (ad 2)), (1, .int x1), (2, .int x2), (3, .int x3), (4, .int x4)] → W p l e R_ix_slotAt s m args below meth c H locs 0 0 (MQ below (kI D (tC cA) r w0 (wC n ad cA z) s.heap.size) args s 0 0 (va_A w0 s.heap.size)) (F0 m 5 ls []) := by
  obtain ⟨hx, hb, hr, hml, hown, hts, hlk, hK⟩ := id C
  intro fu
  induction fu with
  | zero =>
    intro x1 x2 x3 x4 r hf
    cases (show (none : Option Int32) = some r from hf)
  | succ fu ih =>
    intro x1 x2 x3 x4 r hf H locs ls hS hl
    have hf : (if (nI (n * 12)) ≤ x4 then some x3 else (if ck x4 (n * 12) = true then (if ((z.2 12) (Int32.toNatClampNeg x4)) = x1 then (if ck x4 (n * 12) = true then (if x2 < ((z.2 13) (Int32.toNatClampNeg x4)) then ix_slotAt_b5 n k z fu x1 x2 x3 (x4 + 1) else (if x3 = (-1) then ix_slotAt_b5 n k z fu x1 x2 x4 (x4 + 1) else (if ck x4 (n * 12) = true then (if ck x3 (n * 12) = true then (if ((z.2 13) (Int32.toNatClampNeg x4)) ≤ ((z.2 13) (Int32.toNatClampNeg x3)) then ix_slotAt_b5 n k z fu x1 x2 x3 (x4 + 1) else ix_slotAt_b5 n k z fu x1 x2 x4 (x4 + 1)) else none) else none))) else none) else ix_slotAt_b5 n k z fu x1 x2 x3 (x4 + 1)) else none)) = some r := hf
    refine lv_iload hx hb dX1_slotAt_5 (lv_at hl 4 rfl) ?_
    refine lv_aload_n hx hb dX1_slotAt_7 rfl (lv_at hl 0 rfl) ?_
    refine hC_12 C hS in_X1_slotAt_X1 lk_X1_slotAt_22 dX1_slotAt_8 ?_
    refine nC_12 C hS dX1_slotAt_11 ?_
    refine lv_icmp_ge (x := x4) (y := (nI (n * 12))) (tgt := 67) hx hb dX1_slotAt_12 (by decide) (fun hc => ?_) (fun hc => ?_)
    · replace hf := it_t hc hf
      refine lv_iload_n hx hb dX1_slotAt_67 rfl (lv_at hl 3 rfl) ?_
      cases hf
      exact rti C hS dX1_slotAt_68
    · replace hf := it_f hc hf
      refine lv_aload_n hx hb dX1_slotAt_15 rfl (lv_at hl 0 rfl) ?_
      refine hC_12 C hS in_X1_slotAt_X1 lk_X1_slotAt_22 dX1_slotAt_16 ?_
      refine lv_iload hx hb dX1_slotAt_19 (lv_at hl 4 rfl) ?_
      obtain ⟨hck, hf⟩ := cs hf
      refine lC_12 C hS (f := (z.2 12)) rfl (i := x4) hck dX1_slotAt_21 ?_
      refine lv_iload_n hx hb dX1_slotAt_22 rfl (lv_at hl 1 rfl) ?_
      refine lv_icmp_ne (x := ((z.2 12) (Int32.toNatClampNeg x4))) (y := x1) (tgt := 61) hx hb dX1_slotAt_23 (by decide) (fun hc => ?_) (fun hc => ?_)
      · replace hf := it_f hc hf
        refine lv_iinc (v := (x4 + 1)) (lv' := [(4, .int (x4 + 1)), (0, .ref (ad 2)), (1, .int x1), (2, .int x2), (3, .int x3)]) hx hb dX1_slotAt_61 hl (k := 4) rfl (congrArg (fun q => x4 + q) (by decide : Int32.ofInt 1 = (1 : Int32))) (by decide) rfl (fun ls hl => ?_)
        refine lv_goto (tgt := 5) hx hb dX1_slotAt_64 (by decide) ?_
        exact ih x1 x2 x3 (x4 + 1) r hf H locs ls hS (lv_sub hl [1, 2, 3, 4, 0] rfl)
      · replace hf := it_t hc hf
        refine lv_aload_n hx hb dX1_slotAt_26 rfl (lv_at hl 0 rfl) ?_
        refine hC_13 C hS in_X1_slotAt_X1 lk_X1_slotAt_25 dX1_slotAt_27 ?_
        refine lv_iload hx hb dX1_slotAt_30 (lv_at hl 4 rfl) ?_
        obtain ⟨hck, hf⟩ := cs hf
        refine lC_13 C hS (f := (z.2 13)) rfl (i := x4) hck dX1_slotAt_32 ?_
        refine lv_iload_n hx hb dX1_slotAt_33 rfl (lv_at hl 2 rfl) ?_
        refine lv_icmp_gt (x := ((z.2 13) (Int32.toNatClampNeg x4))) (y := x2) (tgt := 61) hx hb dX1_slotAt_34 (by decide) (fun hc => ?_) (fun hc => ?_)
        · replace hf := it_t hc hf
          refine lv_iinc (v := (x4 + 1)) (lv' := [(4, .int (x4 + 1)), (0, .ref (ad 2)), (1, .int x1), (2, .int x2), (3, .int x3)]) hx hb dX1_slotAt_61 hl (k := 4) rfl (congrArg (fun q => x4 + q) (by decide : Int32.ofInt 1 = (1 : Int32))) (by decide) rfl (fun ls hl => ?_)
          refine lv_goto (tgt := 5) hx hb dX1_slotAt_64 (by decide) ?_
          exact ih x1 x2 x3 (x4 + 1) r hf H locs ls hS (lv_sub hl [1, 2, 3, 4, 0] rfl)
        · replace hf := it_f hc hf
          refine lv_iload_n hx hb dX1_slotAt_37 rfl (lv_at hl 3 rfl) ?_
          refine lv_iconst (v := (-1)) hx hb dX1_slotAt_38 (by decide) ?_
          refine lv_icmp_eq (x := x3) (y := (-1)) (tgt := 58) hx hb dX1_slotAt_39 (by decide) (fun hc => ?_) (fun hc => ?_)
          · replace hf := it_t hc hf
            refine lv_iload hx hb dX1_slotAt_58 (lv_at hl 4 rfl) ?_
            refine lv_istore_n (lv' := [(3, .int x4), (0, .ref (ad 2)), (1, .int x1), (2, .int x2), (4, .int x4)]) hx hb dX1_slotAt_60 rfl hl (by decide) rfl (fun ls hl => ?_)
            refine lv_iinc (v := (x4 + 1)) (lv' := [(4, .int (x4 + 1)), (3, .int x4), (0, .ref (ad 2)), (1, .int x1), (2, .int x2)]) hx hb dX1_slotAt_61 hl (k := 4) rfl (congrArg (fun q => x4 + q) (by decide : Int32.ofInt 1 = (1 : Int32))) (by decide) rfl (fun ls hl => ?_)
            refine lv_goto (tgt := 5) hx hb dX1_slotAt_64 (by decide) ?_
            exact ih x1 x2 x4 (x4 + 1) r hf H locs ls hS (lv_sub hl [2, 3, 4, 1, 0] rfl)
          · replace hf := it_f hc hf
            refine lv_aload_n hx hb dX1_slotAt_42 rfl (lv_at hl 0 rfl) ?_
            refine hC_13 C hS in_X1_slotAt_X1 lk_X1_slotAt_25 dX1_slotAt_43 ?_
            refine lv_iload hx hb dX1_slotAt_46 (lv_at hl 4 rfl) ?_
            obtain ⟨hck, hf⟩ := cs hf
            refine lC_13 C hS (f := (z.2 13)) rfl (i := x4) hck dX1_slotAt_48 ?_
            refine lv_aload_n hx hb dX1_slotAt_49 rfl (lv_at hl 0 rfl) ?_
            refine hC_13 C hS in_X1_slotAt_X1 lk_X1_slotAt_25 dX1_slotAt_50 ?_
            refine lv_iload_n hx hb dX1_slotAt_53 rfl (lv_at hl 3 rfl) ?_
            obtain ⟨hck, hf⟩ := cs hf
            refine lC_13 C hS (f := (z.2 13)) rfl (i := x3) hck dX1_slotAt_54 ?_
            refine lv_icmp_le (x := ((z.2 13) (Int32.toNatClampNeg x4))) (y := ((z.2 13) (Int32.toNatClampNeg x3))) (tgt := 61) hx hb dX1_slotAt_55 (by decide) (fun hc => ?_) (fun hc => ?_)
            · replace hf := it_t hc hf
              refine lv_iinc (v := (x4 + 1)) (lv' := [(4, .int (x4 + 1)), (0, .ref (ad 2)), (1, .int x1), (2, .int x2), (3, .int x3)]) hx hb dX1_slotAt_61 hl (k := 4) rfl (congrArg (fun q => x4 + q) (by decide : Int32.ofInt 1 = (1 : Int32))) (by decide) rfl (fun ls hl => ?_)
              refine lv_goto (tgt := 5) hx hb dX1_slotAt_64 (by decide) ?_
              exact ih x1 x2 x3 (x4 + 1) r hf H locs ls hS (lv_sub hl [1, 2, 3, 4, 0] rfl)
            · replace hf := it_f hc hf
              refine lv_iload hx hb dX1_slotAt_58 (lv_at hl 4 rfl) ?_
              refine lv_istore_n (lv' := [(3, .int x4), (0, .ref (ad 2)), (1, .int x1), (2, .int x2), (4, .int x4)]) hx hb dX1_slotAt_60 rfl hl (by decide) rfl (fun ls hl => ?_)
              refine lv_iinc (v := (x4 + 1)) (lv' := [(4, .int (x4 + 1)), (3, .int x4), (0, .ref (ad 2)), (1, .int x1), (2, .int x2)]) hx hb dX1_slotAt_61 hl (k := 4) rfl (congrArg (fun q => x4 + q) (by decide : Int32.ofInt 1 = (1 : Int32))) (by decide) rfl (fun ls hl => ?_)
              refine lv_goto (tgt := 5) hx hb dX1_slotAt_64 (by decide) ?_
              exact ih x1 x2 x4 (x4 + 1) r hf H locs ls hS (lv_sub hl [2, 3, 4, 1, 0] rfl)
set_option maxHeartbeats 4000000 in
set_option maxRecDepth 100000 in
theorem w_ix_slotAt_0 {p : Program} {l : Launch} {e : Env} {s : State} {m : MethodId} {args : Array Value} {below : List Frame} {meth : Method} {c : Code} {D : va_G} {w0 : va_W} {n : Nat} {ad : Nat → Nat} {cA : Nat → ClassId} (C : Cx p s m args meth c cX1_slotAt 5 (some .int) RX1 wsX1_slotAt D (tC cA)) (k : Nat) (z : SS) (x1 : Int32) (x2 : Int32) (r : Int32) (hf : ix_slotAt n k z x1 x2 = some r) : ∀ (H : Heap) (locs : List Loc) (ls : Array Slot), St D (va_A w0 s.heap.size) s.heap (wC n ad cA z) H locs → lv_has ls 5 [(0, .ref (ad 2)), (1, .int x1), (2, .int x2)] → W p l e R_ix_slotAt s m args below meth c H locs 0 0 (MQ below (kI D (tC cA) r w0 (wC n ad cA z) s.heap.size) args s 0 0 (va_A w0 s.heap.size)) (F0 m 0 ls []) := by
  obtain ⟨hx, hb, hr, hml, hown, hts, hlk, hK⟩ := id C
  intro H locs ls hS hl
  have hf : ix_slotAt_b5 n k z k x1 x2 (-1) 0 = some r := hf
  refine lv_iconst (v := (-1)) hx hb dX1_slotAt_0 (by decide) ?_
  refine lv_istore_n (lv' := [(3, .int (-1)), (0, .ref (ad 2)), (1, .int x1), (2, .int x2)]) hx hb dX1_slotAt_1 rfl hl (by decide) rfl (fun ls hl => ?_)
  refine lv_iconst (v := 0) hx hb dX1_slotAt_2 (by decide) ?_
  refine lv_istore (lv' := [(4, .int 0), (3, .int (-1)), (0, .ref (ad 2)), (1, .int x1), (2, .int x2)]) hx hb dX1_slotAt_3 hl (by decide) rfl (fun ls hl => ?_)
  exact w_ix_slotAt_b5 C k z k x1 x2 (-1) 0 r hf H locs ls hS (lv_sub hl [2, 3, 4, 1, 0] rfl)
set_option maxHeartbeats 4000000 in
set_option maxRecDepth 100000 in
theorem c_ix_slotAt (l : Launch) (D : va_G) (n : Nat) (ad : Nat → Nat) (cA : Nat → ClassId) (k : Nat) (z : SS) (x1 : Int32) (x2 : Int32) (r : Int32) (hf : ix_slotAt n k z x1 x2 = some r) (sz : Nat) : Met l yX1_slotAt wsX1_slotAt R_ix_slotAt (kP D (tC cA) [.ref (ad 2), .int x1, .int x2] (wC n ad cA z) sz) (kI D (tC cA) r (wC n ad cA z) (wC n ad cA z) sz) 0 0 (va_A (wC n ad cA z) sz) := by
  refine ent (by decide) rfl rfl (Nat.le_of_ble_eq_true rfl) (fun p e s m args below meth c hsz C hS ls hl => ?_)
  subst hsz
  exact w_ix_slotAt_0 C k z x1 x2 r hf s.heap [] ls hS hl
-- ix_keysWithSomething: int keysWithSomething(int);
theorem lk_X1_keysWithSomething_22 : Cond.fieldLink RX1 22 (TX1 2).1 (TX1 2).2.1 (TX1 2).2.2.1 ∈ wsX1_keysWithSomething := by decide +kernel
theorem in_X1_keysWithSomething_X1 : ∀ x ∈ u_ws RX1 TX1 6, x ∈ wsX1_keysWithSomething := by decide +kernel
theorem lk_X1_keysWithSomething_31 : Cond.fieldLink RX1 31 (TX1 5).1 (TX1 5).2.1 (TX1 5).2.2.1 ∈ wsX1_keysWithSomething := by decide +kernel
def R_ix_keysWithSomething : Room := { frames := 1, cells := 0, slots := 0, locals := 24 }
def ix_keysWithSomething_b4 (n : Nat) (k : Nat) (z : SS) : Nat → Int32 → Int32 → Int32 → Option Int32
  | 0, _, _, _ => none
  | fu + 1, x1, x2, x3 => (if (nI (n * 12)) ≤ x3 then some x2 else (if ck x3 (n * 12) = true then (if ((z.2 12) (Int32.toNatClampNeg x3)) = (-1) then ix_keysWithSomething_b4 n k z fu x1 x2 (x3 + 1) else (if ck x3 (n * 12) = true then (if ((z.2 15) (Int32.toNatClampNeg x3)) = 0 then (if ck x3 (n * 12) = true then (bo (ix_slotAt n k z ((z.2 12) (Int32.toNatClampNeg x3)) x1) fun r_1 => (if r_1 = x3 then ix_keysWithSomething_b4 n k z fu x1 (x2 + 1) (x3 + 1) else ix_keysWithSomething_b4 n k z fu x1 x2 (x3 + 1))) else none) else ix_keysWithSomething_b4 n k z fu x1 x2 (x3 + 1)) else none)) else none))
def ix_keysWithSomething (n : Nat) (k : Nat) (z : SS) (x1 : Int32) : Option Int32 :=
  ix_keysWithSomething_b4 n k z k x1 0 0
set_option maxHeartbeats 4000000 in
set_option maxRecDepth 100000 in
theorem w_ix_keysWithSomething_b4 {p : Program} {l : Launch} {e : Env} {s : State} {m : MethodId} {args : Array Value} {below : List Frame} {meth : Method} {c : Code} {D : va_G} {w0 : va_W} {n : Nat} {ad : Nat → Nat} {cA : Nat → ClassId} (C : Cx p s m args meth c cX1_keysWithSomething 4 (some .int) RX1 wsX1_keysWithSomething D (tC cA)) (k : Nat) (z : SS) : ∀ (fu : Nat) (x1 : Int32) (x2 : Int32) (x3 : Int32) (r : Int32), ix_keysWithSomething_b4 n k z fu x1 x2 x3 = some r → ∀ (H : Heap) (locs : List Loc) (ls : Array Slot), St D (va_A w0 s.heap.size) s.heap (wC n ad cA z) H locs → lv_has ls 4 [(0, .ref (ad 2)), (1, .int x1), (2, .int x2), (3, .int x3)] → W p l e R_ix_keysWithSomething s m args below meth c H locs 0 0 (MQ below (kI D (tC cA) r w0 (wC n ad cA z) s.heap.size) args s 0 0 (va_A w0 s.heap.size)) (F0 m 4 ls []) := by
  obtain ⟨hx, hb, hr, hml, hown, hts, hlk, hK⟩ := id C
  intro fu
  induction fu with
  | zero =>
    intro x1 x2 x3 r hf
    cases (show (none : Option Int32) = some r from hf)
  | succ fu ih =>
    intro x1 x2 x3 r hf H locs ls hS hl
    have hf : (if (nI (n * 12)) ≤ x3 then some x2 else (if ck x3 (n * 12) = true then (if ((z.2 12) (Int32.toNatClampNeg x3)) = (-1) then ix_keysWithSomething_b4 n k z fu x1 x2 (x3 + 1) else (if ck x3 (n * 12) = true then (if ((z.2 15) (Int32.toNatClampNeg x3)) = 0 then (if ck x3 (n * 12) = true then (bo (ix_slotAt n k z ((z.2 12) (Int32.toNatClampNeg x3)) x1) fun r_1 => (if r_1 = x3 then ix_keysWithSomething_b4 n k z fu x1 (x2 + 1) (x3 + 1) else ix_keysWithSomething_b4 n k z fu x1 x2 (x3 + 1))) else none) else ix_keysWithSomething_b4 n k z fu x1 x2 (x3 + 1)) else none)) else none)) = some r := hf
    refine lv_iload_n hx hb dX1_keysWithSomething_4 rfl (lv_at hl 3 rfl) ?_
    refine lv_aload_n hx hb dX1_keysWithSomething_5 rfl (lv_at hl 0 rfl) ?_
    refine hC_12 C hS in_X1_keysWithSomething_X1 lk_X1_keysWithSomething_22 dX1_keysWithSomething_6 ?_
    refine nC_12 C hS dX1_keysWithSomething_9 ?_
    refine lv_icmp_ge (x := x3) (y := (nI (n * 12))) (tgt := 56) hx hb dX1_keysWithSomething_10 (by decide) (fun hc => ?_) (fun hc => ?_)
    · replace hf := it_t hc hf
      refine lv_iload_n hx hb dX1_keysWithSomething_56 rfl (lv_at hl 2 rfl) ?_
      cases hf
      exact rti C hS dX1_keysWithSomething_57
    · replace hf := it_f hc hf
      refine lv_aload_n hx hb dX1_keysWithSomething_13 rfl (lv_at hl 0 rfl) ?_
      refine hC_12 C hS in_X1_keysWithSomething_X1 lk_X1_keysWithSomething_22 dX1_keysWithSomething_14 ?_
      refine lv_iload_n hx hb dX1_keysWithSomething_17 rfl (lv_at hl 3 rfl) ?_
      obtain ⟨hck, hf⟩ := cs hf
      refine lC_12 C hS (f := (z.2 12)) rfl (i := x3) hck dX1_keysWithSomething_18 ?_
      refine lv_iconst (v := (-1)) hx hb dX1_keysWithSomething_19 (by decide) ?_
      refine lv_icmp_eq (x := ((z.2 12) (Int32.toNatClampNeg x3))) (y := (-1)) (tgt := 50) hx hb dX1_keysWithSomething_20 (by decide) (fun hc => ?_) (fun hc => ?_)
      · replace hf := it_t hc hf
        refine lv_iinc (v := (x3 + 1)) (lv' := [(3, .int (x3 + 1)), (0, .ref (ad 2)), (1, .int x1), (2, .int x2)]) hx hb dX1_keysWithSomething_50 hl (k := 3) rfl (congrArg (fun q => x3 + q) (by decide : Int32.ofInt 1 = (1 : Int32))) (by decide) rfl (fun ls hl => ?_)
        refine lv_goto (tgt := 4) hx hb dX1_keysWithSomething_53 (by decide) ?_
        exact ih x1 x2 (x3 + 1) r hf H locs ls hS (lv_sub hl [1, 2, 3, 0] rfl)
      · replace hf := it_f hc hf
        refine lv_aload_n hx hb dX1_keysWithSomething_23 rfl (lv_at hl 0 rfl) ?_
        refine hC_15 C hS in_X1_keysWithSomething_X1 lk_X1_keysWithSomething_31 dX1_keysWithSomething_24 ?_
        refine lv_iload_n hx hb dX1_keysWithSomething_27 rfl (lv_at hl 3 rfl) ?_
        obtain ⟨hck, hf⟩ := cs hf
        refine lC_15 C hS (f := (z.2 15)) rfl (i := x3) hck dX1_keysWithSomething_28 ?_
        refine lv_if_ne (x := ((z.2 15) (Int32.toNatClampNeg x3))) (tgt := 50) hx hb dX1_keysWithSomething_29 (by decide) (fun hc => ?_) (fun hc => ?_)
        · replace hf := it_f hc hf
          refine lv_iinc (v := (x3 + 1)) (lv' := [(3, .int (x3 + 1)), (0, .ref (ad 2)), (1, .int x1), (2, .int x2)]) hx hb dX1_keysWithSomething_50 hl (k := 3) rfl (congrArg (fun q => x3 + q) (by decide : Int32.ofInt 1 = (1 : Int32))) (by decide) rfl (fun ls hl => ?_)
          refine lv_goto (tgt := 4) hx hb dX1_keysWithSomething_53 (by decide) ?_
          exact ih x1 x2 (x3 + 1) r hf H locs ls hS (lv_sub hl [1, 2, 3, 0] rfl)
        · replace hf := it_t hc hf
          refine lv_aload_n hx hb dX1_keysWithSomething_32 rfl (lv_at hl 0 rfl) ?_
          refine lv_aload_n hx hb dX1_keysWithSomething_33 rfl (lv_at hl 0 rfl) ?_
          refine hC_12 C hS in_X1_keysWithSomething_X1 lk_X1_keysWithSomething_22 dX1_keysWithSomething_34 ?_
          refine lv_iload_n hx hb dX1_keysWithSomething_37 rfl (lv_at hl 3 rfl) ?_
          obtain ⟨hck, hf⟩ := cs hf
          refine lC_12 C hS (f := (z.2 12)) rfl (i := x3) hck dX1_keysWithSomething_38 ?_
          refine lv_iload_n hx hb dX1_keysWithSomething_39 rfl (lv_at hl 1 rfl) ?_
          obtain ⟨r_1, hcl, hf⟩ := bo_s hf
          refine rcVi (n := 2) (As := [.int ((z.2 12) (Int32.toNatClampNeg x3)), .int x1]) (rest := []) (q0 := 2) (w' := (wC n ad cA z)) C hS (fun sz => c_ix_slotAt l D n ad cA k z ((z.2 12) (Int32.toNatClampNeg x3)) x1 r_1 hcl sz) gX1_keysWithSomething_X1_slotAt rfl ⟨rfl, rfl⟩ (by decide +kernel) ⟨Nat.le_of_ble_eq_true rfl, Nat.le_of_ble_eq_true rfl⟩ oC_2 rfl rfl hl.1 rfl (Nat.le_of_ble_eq_true rfl) dX1_keysWithSomething_40 (fun H locs hS => ?_)
          refine lv_iload_n hx hb dX1_keysWithSomething_43 rfl (lv_at hl 3 rfl) ?_
          refine lv_icmp_ne (x := r_1) (y := x3) (tgt := 50) hx hb dX1_keysWithSomething_44 (by decide) (fun hc => ?_) (fun hc => ?_)
          · replace hf := it_f hc hf
            refine lv_iinc (v := (x3 + 1)) (lv' := [(3, .int (x3 + 1)), (0, .ref (ad 2)), (1, .int x1), (2, .int x2)]) hx hb dX1_keysWithSomething_50 hl (k := 3) rfl (congrArg (fun q => x3 + q) (by decide : Int32.ofInt 1 = (1 : Int32))) (by decide) rfl (fun ls hl => ?_)
            refine lv_goto (tgt := 4) hx hb dX1_keysWithSomething_53 (by decide) ?_
            exact ih x1 x2 (x3 + 1) r hf H locs ls hS (lv_sub hl [1, 2, 3, 0] rfl)
          · replace hf := it_t hc hf
            refine lv_iinc (v := (x2 + 1)) (lv' := [(2, .int (x2 + 1)), (0, .ref (ad 2)), (1, .int x1), (3, .int x3)]) hx hb dX1_keysWithSomething_47 hl (k := 2) rfl (congrArg (fun q => x2 + q) (by decide : Int32.ofInt 1 = (1 : Int32))) (by decide) rfl (fun ls hl => ?_)
            refine lv_iinc (v := (x3 + 1)) (lv' := [(3, .int (x3 + 1)), (2, .int (x2 + 1)), (0, .ref (ad 2)), (1, .int x1)]) hx hb dX1_keysWithSomething_50 hl (k := 3) rfl (congrArg (fun q => x3 + q) (by decide : Int32.ofInt 1 = (1 : Int32))) (by decide) rfl (fun ls hl => ?_)
            refine lv_goto (tgt := 4) hx hb dX1_keysWithSomething_53 (by decide) ?_
            exact ih x1 (x2 + 1) (x3 + 1) r hf H locs ls hS (lv_sub hl [2, 3, 1, 0] rfl)
set_option maxHeartbeats 4000000 in
set_option maxRecDepth 100000 in
theorem w_ix_keysWithSomething_0 {p : Program} {l : Launch} {e : Env} {s : State} {m : MethodId} {args : Array Value} {below : List Frame} {meth : Method} {c : Code} {D : va_G} {w0 : va_W} {n : Nat} {ad : Nat → Nat} {cA : Nat → ClassId} (C : Cx p s m args meth c cX1_keysWithSomething 4 (some .int) RX1 wsX1_keysWithSomething D (tC cA)) (k : Nat) (z : SS) (x1 : Int32) (r : Int32) (hf : ix_keysWithSomething n k z x1 = some r) : ∀ (H : Heap) (locs : List Loc) (ls : Array Slot), St D (va_A w0 s.heap.size) s.heap (wC n ad cA z) H locs → lv_has ls 4 [(0, .ref (ad 2)), (1, .int x1)] → W p l e R_ix_keysWithSomething s m args below meth c H locs 0 0 (MQ below (kI D (tC cA) r w0 (wC n ad cA z) s.heap.size) args s 0 0 (va_A w0 s.heap.size)) (F0 m 0 ls []) := by
  obtain ⟨hx, hb, hr, hml, hown, hts, hlk, hK⟩ := id C
  intro H locs ls hS hl
  have hf : ix_keysWithSomething_b4 n k z k x1 0 0 = some r := hf
  refine lv_iconst (v := 0) hx hb dX1_keysWithSomething_0 (by decide) ?_
  refine lv_istore_n (lv' := [(2, .int 0), (0, .ref (ad 2)), (1, .int x1)]) hx hb dX1_keysWithSomething_1 rfl hl (by decide) rfl (fun ls hl => ?_)
  refine lv_iconst (v := 0) hx hb dX1_keysWithSomething_2 (by decide) ?_
  refine lv_istore_n (lv' := [(3, .int 0), (2, .int 0), (0, .ref (ad 2)), (1, .int x1)]) hx hb dX1_keysWithSomething_3 rfl hl (by decide) rfl (fun ls hl => ?_)
  exact w_ix_keysWithSomething_b4 C k z k x1 0 0 r hf H locs ls hS (lv_sub hl [2, 3, 1, 0] rfl)
set_option maxHeartbeats 4000000 in
set_option maxRecDepth 100000 in
theorem c_ix_keysWithSomething (l : Launch) (D : va_G) (n : Nat) (ad : Nat → Nat) (cA : Nat → ClassId) (k : Nat) (z : SS) (x1 : Int32) (r : Int32) (hf : ix_keysWithSomething n k z x1 = some r) (sz : Nat) : Met l yX1_keysWithSomething wsX1_keysWithSomething R_ix_keysWithSomething (kP D (tC cA) [.ref (ad 2), .int x1] (wC n ad cA z) sz) (kI D (tC cA) r (wC n ad cA z) (wC n ad cA z) sz) 0 0 (va_A (wC n ad cA z) sz) := by
  refine ent (by decide) rfl rfl (Nat.le_of_ble_eq_true rfl) (fun p e s m args below meth c hsz C hS ls hl => ?_)
  subst hsz
  exact w_ix_keysWithSomething_0 C k z x1 r hf s.heap [] ls hS hl
