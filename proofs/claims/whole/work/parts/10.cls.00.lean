-- rf_isKey: static boolean isKey(int);
def R_rf_isKey : Room := { frames := 0, cells := 0, slots := 0, locals := 0 }
def rf_isKey (n : Nat) (k : Nat) (z : SS) (x0 : Int32) : Option Int32 :=
  (if x0 < 0 then some 0 else (if 1000 ≤ x0 then some 0 else some 1))
set_option maxHeartbeats 4000000 in
set_option maxRecDepth 100000 in
theorem w_rf_isKey_0 {p : Program} {l : Launch} {e : Env} {s : State} {m : MethodId} {args : Array Value} {below : List Frame} {meth : Method} {c : Code} {D : va_G} {w0 : va_W} {n : Nat} {ad : Nat → Nat} {cA : Nat → ClassId} (C : Cx p s m args meth c cX2_isKey 1 (some .boolean) RX2 wsX2_isKey D (tC cA)) (k : Nat) (z : SS) (x0 : Int32) (r : Int32) (hf : rf_isKey n k z x0 = some r) : ∀ (H : Heap) (locs : List Loc) (ls : Array Slot), St D (va_A w0 s.heap.size) s.heap (wC n ad cA z) H locs → lv_has ls 1 [(0, .int x0)] → W p l e R_rf_isKey s m args below meth c H locs 0 0 (MQ below (kI D (tC cA) r w0 (wC n ad cA z) s.heap.size) args s 0 0 (va_A w0 s.heap.size)) (F0 m 0 ls []) := by
  obtain ⟨hx, hb, hr, hml, hown, hts, hlk, hK⟩ := id C
  intro H locs ls hS hl
  have hf : (if x0 < 0 then some 0 else (if 1000 ≤ x0 then some 0 else some 1)) = some r := hf
  refine lv_iload_n hx hb dX2_isKey_0 rfl (lv_at hl 0 rfl) ?_
  refine lv_if_lt (x := x0) (tgt := 15) hx hb dX2_isKey_1 (by decide) (fun hc => ?_) (fun hc => ?_)
  · replace hf := it_t hc hf
    refine lv_iconst (v := 0) hx hb dX2_isKey_15 (by decide) ?_
    cases hf
    exact rtz C hS (by decide) dX2_isKey_16
  · replace hf := it_f hc hf
    refine lv_iload_n hx hb dX2_isKey_4 rfl (lv_at hl 0 rfl) ?_
    refine lv_sipush (v := 1000) hx hb dX2_isKey_5 (by decide) ?_
    refine lv_icmp_ge (x := x0) (y := 1000) (tgt := 15) hx hb dX2_isKey_8 (by decide) (fun hc => ?_) (fun hc => ?_)
    · replace hf := it_t hc hf
      refine lv_iconst (v := 0) hx hb dX2_isKey_15 (by decide) ?_
      cases hf
      exact rtz C hS (by decide) dX2_isKey_16
    · replace hf := it_f hc hf
      refine lv_iconst (v := 1) hx hb dX2_isKey_11 (by decide) ?_
      refine lv_goto (tgt := 16) hx hb dX2_isKey_12 (by decide) ?_
      cases hf
      exact rtz C hS (by decide) dX2_isKey_16
set_option maxHeartbeats 4000000 in
set_option maxRecDepth 100000 in
theorem c_rf_isKey (l : Launch) (D : va_G) (n : Nat) (ad : Nat → Nat) (cA : Nat → ClassId) (k : Nat) (z : SS) (x0 : Int32) (r : Int32) (hf : rf_isKey n k z x0 = some r) (sz : Nat) : Met l yX2_isKey wsX2_isKey R_rf_isKey (kP D (tC cA) [.int x0] (wC n ad cA z) sz) (kI D (tC cA) r (wC n ad cA z) (wC n ad cA z) sz) 0 0 (va_A (wC n ad cA z) sz) := by
  refine ent (by decide) rfl rfl (Nat.le_of_ble_eq_true rfl) (fun p e s m args below meth c hsz C hS ls hl => ?_)
  subst hsz
  exact w_rf_isKey_0 C k z x0 r hf s.heap [] ls hS hl
-- rf_bytesWith: static int bytesWith(int);
def R_rf_bytesWith : Room := { frames := 0, cells := 0, slots := 0, locals := 0 }
def rf_bytesWith (n : Nat) (k : Nat) (z : SS) (x0 : Int32) : Option Int32 :=
  some ((8 + x0) + 8)
set_option maxHeartbeats 4000000 in
set_option maxRecDepth 100000 in
theorem w_rf_bytesWith_0 {p : Program} {l : Launch} {e : Env} {s : State} {m : MethodId} {args : Array Value} {below : List Frame} {meth : Method} {c : Code} {D : va_G} {w0 : va_W} {n : Nat} {ad : Nat → Nat} {cA : Nat → ClassId} (C : Cx p s m args meth c cX2_bytesWith 1 (some .int) RX2 wsX2_bytesWith D (tC cA)) (k : Nat) (z : SS) (x0 : Int32) (r : Int32) (hf : rf_bytesWith n k z x0 = some r) : ∀ (H : Heap) (locs : List Loc) (ls : Array Slot), St D (va_A w0 s.heap.size) s.heap (wC n ad cA z) H locs → lv_has ls 1 [(0, .int x0)] → W p l e R_rf_bytesWith s m args below meth c H locs 0 0 (MQ below (kI D (tC cA) r w0 (wC n ad cA z) s.heap.size) args s 0 0 (va_A w0 s.heap.size)) (F0 m 0 ls []) := by
  obtain ⟨hx, hb, hr, hml, hown, hts, hlk, hK⟩ := id C
  intro H locs ls hS hl
  have hf : some ((8 + x0) + 8) = some r := hf
  refine lv_bipush (v := 8) hx hb dX2_bytesWith_0 (by decide) ?_
  refine lv_iload_n hx hb dX2_bytesWith_2 rfl (lv_at hl 0 rfl) ?_
  refine lv_iadd (x := 8) (y := x0) hx hb dX2_bytesWith_3 ?_
  refine lv_bipush (v := 8) hx hb dX2_bytesWith_4 (by decide) ?_
  refine lv_iadd (x := (8 + x0)) (y := 8) hx hb dX2_bytesWith_6 ?_
  cases hf
  exact rti C hS dX2_bytesWith_7
set_option maxHeartbeats 4000000 in
set_option maxRecDepth 100000 in
theorem c_rf_bytesWith (l : Launch) (D : va_G) (n : Nat) (ad : Nat → Nat) (cA : Nat → ClassId) (k : Nat) (z : SS) (x0 : Int32) (r : Int32) (hf : rf_bytesWith n k z x0 = some r) (sz : Nat) : Met l yX2_bytesWith wsX2_bytesWith R_rf_bytesWith (kP D (tC cA) [.int x0] (wC n ad cA z) sz) (kI D (tC cA) r (wC n ad cA z) (wC n ad cA z) sz) 0 0 (va_A (wC n ad cA z) sz) := by
  refine ent (by decide) rfl rfl (Nat.le_of_ble_eq_true rfl) (fun p e s m args below meth c hsz C hS ls hl => ?_)
  subst hsz
  exact w_rf_bytesWith_0 C k z x0 r hf s.heap [] ls hS hl
-- rf_keyAt_7: static int keyAt(int[], int);
def R_rf_keyAt_7 : Room := { frames := 0, cells := 0, slots := 0, locals := 0 }
def rf_keyAt_7 (n : Nat) (k : Nat) (z : SS) (x1 : Int32) : Option Int32 :=
  (if ck (x1 + 1) (n * 200) = true then (if ck (x1 + 2) (n * 200) = true then some ((((z.2 7) (Int32.toNatClampNeg (x1 + 1))) <<< (8 &&& 31)) ||| ((z.2 7) (Int32.toNatClampNeg (x1 + 2)))) else none) else none)
set_option maxHeartbeats 4000000 in
set_option maxRecDepth 100000 in
theorem w_rf_keyAt_7_0 {p : Program} {l : Launch} {e : Env} {s : State} {m : MethodId} {args : Array Value} {below : List Frame} {meth : Method} {c : Code} {D : va_G} {w0 : va_W} {n : Nat} {ad : Nat → Nat} {cA : Nat → ClassId} (C : Cx p s m args meth c cX2_keyAt 2 (some .int) RX2 wsX2_keyAt D (tC cA)) (k : Nat) (z : SS) (x1 : Int32) (r : Int32) (hf : rf_keyAt_7 n k z x1 = some r) : ∀ (H : Heap) (locs : List Loc) (ls : Array Slot), St D (va_A w0 s.heap.size) s.heap (wC n ad cA z) H locs → lv_has ls 2 [(0, .ref (ad 7)), (1, .int x1)] → W p l e R_rf_keyAt_7 s m args below meth c H locs 0 0 (MQ below (kI D (tC cA) r w0 (wC n ad cA z) s.heap.size) args s 0 0 (va_A w0 s.heap.size)) (F0 m 0 ls []) := by
  obtain ⟨hx, hb, hr, hml, hown, hts, hlk, hK⟩ := id C
  intro H locs ls hS hl
  have hf : (if ck (x1 + 1) (n * 200) = true then (if ck (x1 + 2) (n * 200) = true then some ((((z.2 7) (Int32.toNatClampNeg (x1 + 1))) <<< (8 &&& 31)) ||| ((z.2 7) (Int32.toNatClampNeg (x1 + 2)))) else none) else none) = some r := hf
  refine lv_aload_n hx hb dX2_keyAt_0 rfl (lv_at hl 0 rfl) ?_
  refine lv_iload_n hx hb dX2_keyAt_1 rfl (lv_at hl 1 rfl) ?_
  refine lv_iconst (v := 1) hx hb dX2_keyAt_2 (by decide) ?_
  refine lv_iadd (x := x1) (y := 1) hx hb dX2_keyAt_3 ?_
  obtain ⟨hck, hf⟩ := cs hf
  refine lC_7 C hS (f := (z.2 7)) rfl (i := (x1 + 1)) hck dX2_keyAt_4 ?_
  refine lv_bipush (v := 8) hx hb dX2_keyAt_5 (by decide) ?_
  refine lv_ishl (x := ((z.2 7) (Int32.toNatClampNeg (x1 + 1)))) (y := 8) hx hb dX2_keyAt_7 ?_
  refine lv_aload_n hx hb dX2_keyAt_8 rfl (lv_at hl 0 rfl) ?_
  refine lv_iload_n hx hb dX2_keyAt_9 rfl (lv_at hl 1 rfl) ?_
  refine lv_iconst (v := 2) hx hb dX2_keyAt_10 (by decide) ?_
  refine lv_iadd (x := x1) (y := 2) hx hb dX2_keyAt_11 ?_
  obtain ⟨hck, hf⟩ := cs hf
  refine lC_7 C hS (f := (z.2 7)) rfl (i := (x1 + 2)) hck dX2_keyAt_12 ?_
  refine lv_ior (x := (((z.2 7) (Int32.toNatClampNeg (x1 + 1))) <<< (8 &&& 31))) (y := ((z.2 7) (Int32.toNatClampNeg (x1 + 2)))) hx hb dX2_keyAt_13 ?_
  cases hf
  exact rti C hS dX2_keyAt_14
set_option maxHeartbeats 4000000 in
set_option maxRecDepth 100000 in
theorem c_rf_keyAt_7 (l : Launch) (D : va_G) (n : Nat) (ad : Nat → Nat) (cA : Nat → ClassId) (k : Nat) (z : SS) (x1 : Int32) (r : Int32) (hf : rf_keyAt_7 n k z x1 = some r) (sz : Nat) : Met l yX2_keyAt wsX2_keyAt R_rf_keyAt_7 (kP D (tC cA) [.ref (ad 7), .int x1] (wC n ad cA z) sz) (kI D (tC cA) r (wC n ad cA z) (wC n ad cA z) sz) 0 0 (va_A (wC n ad cA z) sz) := by
  refine ent (by decide) rfl rfl (Nat.le_of_ble_eq_true rfl) (fun p e s m args below meth c hsz C hS ls hl => ?_)
  subst hsz
  exact w_rf_keyAt_7_0 C k z x1 r hf s.heap [] ls hS hl
-- rf_numberAt_7: static int numberAt(int[], int);
def R_rf_numberAt_7 : Room := { frames := 0, cells := 0, slots := 0, locals := 0 }
def rf_numberAt_7 (n : Nat) (k : Nat) (z : SS) (x1 : Int32) : Option Int32 :=
  (if ck (x1 + 3) (n * 200) = true then (if ck (x1 + 4) (n * 200) = true then (if ck (x1 + 5) (n * 200) = true then (if ck (x1 + 6) (n * 200) = true then some ((((((z.2 7) (Int32.toNatClampNeg (x1 + 3))) <<< (24 &&& 31)) ||| (((z.2 7) (Int32.toNatClampNeg (x1 + 4))) <<< (16 &&& 31))) ||| (((z.2 7) (Int32.toNatClampNeg (x1 + 5))) <<< (8 &&& 31))) ||| ((z.2 7) (Int32.toNatClampNeg (x1 + 6)))) else none) else none) else none) else none)
set_option maxHeartbeats 4000000 in
set_option maxRecDepth 100000 in
theorem w_rf_numberAt_7_0 {p : Program} {l : Launch} {e : Env} {s : State} {m : MethodId} {args : Array Value} {below : List Frame} {meth : Method} {c : Code} {D : va_G} {w0 : va_W} {n : Nat} {ad : Nat → Nat} {cA : Nat → ClassId} (C : Cx p s m args meth c cX2_numberAt 2 (some .int) RX2 wsX2_numberAt D (tC cA)) (k : Nat) (z : SS) (x1 : Int32) (r : Int32) (hf : rf_numberAt_7 n k z x1 = some r) : ∀ (H : Heap) (locs : List Loc) (ls : Array Slot), St D (va_A w0 s.heap.size) s.heap (wC n ad cA z) H locs → lv_has ls 2 [(0, .ref (ad 7)), (1, .int x1)] → W p l e R_rf_numberAt_7 s m args below meth c H locs 0 0 (MQ below (kI D (tC cA) r w0 (wC n ad cA z) s.heap.size) args s 0 0 (va_A w0 s.heap.size)) (F0 m 0 ls []) := by
  obtain ⟨hx, hb, hr, hml, hown, hts, hlk, hK⟩ := id C
  intro H locs ls hS hl
  have hf : (if ck (x1 + 3) (n * 200) = true then (if ck (x1 + 4) (n * 200) = true then (if ck (x1 + 5) (n * 200) = true then (if ck (x1 + 6) (n * 200) = true then some ((((((z.2 7) (Int32.toNatClampNeg (x1 + 3))) <<< (24 &&& 31)) ||| (((z.2 7) (Int32.toNatClampNeg (x1 + 4))) <<< (16 &&& 31))) ||| (((z.2 7) (Int32.toNatClampNeg (x1 + 5))) <<< (8 &&& 31))) ||| ((z.2 7) (Int32.toNatClampNeg (x1 + 6)))) else none) else none) else none) else none) = some r := hf
  refine lv_aload_n hx hb dX2_numberAt_0 rfl (lv_at hl 0 rfl) ?_
  refine lv_iload_n hx hb dX2_numberAt_1 rfl (lv_at hl 1 rfl) ?_
  refine lv_iconst (v := 3) hx hb dX2_numberAt_2 (by decide) ?_
  refine lv_iadd (x := x1) (y := 3) hx hb dX2_numberAt_3 ?_
  obtain ⟨hck, hf⟩ := cs hf
  refine lC_7 C hS (f := (z.2 7)) rfl (i := (x1 + 3)) hck dX2_numberAt_4 ?_
  refine lv_bipush (v := 24) hx hb dX2_numberAt_5 (by decide) ?_
  refine lv_ishl (x := ((z.2 7) (Int32.toNatClampNeg (x1 + 3)))) (y := 24) hx hb dX2_numberAt_7 ?_
  refine lv_aload_n hx hb dX2_numberAt_8 rfl (lv_at hl 0 rfl) ?_
  refine lv_iload_n hx hb dX2_numberAt_9 rfl (lv_at hl 1 rfl) ?_
  refine lv_iconst (v := 4) hx hb dX2_numberAt_10 (by decide) ?_
  refine lv_iadd (x := x1) (y := 4) hx hb dX2_numberAt_11 ?_
  obtain ⟨hck, hf⟩ := cs hf
  refine lC_7 C hS (f := (z.2 7)) rfl (i := (x1 + 4)) hck dX2_numberAt_12 ?_
  refine lv_bipush (v := 16) hx hb dX2_numberAt_13 (by decide) ?_
  refine lv_ishl (x := ((z.2 7) (Int32.toNatClampNeg (x1 + 4)))) (y := 16) hx hb dX2_numberAt_15 ?_
  refine lv_ior (x := (((z.2 7) (Int32.toNatClampNeg (x1 + 3))) <<< (24 &&& 31))) (y := (((z.2 7) (Int32.toNatClampNeg (x1 + 4))) <<< (16 &&& 31))) hx hb dX2_numberAt_16 ?_
  refine lv_aload_n hx hb dX2_numberAt_17 rfl (lv_at hl 0 rfl) ?_
  refine lv_iload_n hx hb dX2_numberAt_18 rfl (lv_at hl 1 rfl) ?_
  refine lv_iconst (v := 5) hx hb dX2_numberAt_19 (by decide) ?_
  refine lv_iadd (x := x1) (y := 5) hx hb dX2_numberAt_20 ?_
  obtain ⟨hck, hf⟩ := cs hf
  refine lC_7 C hS (f := (z.2 7)) rfl (i := (x1 + 5)) hck dX2_numberAt_21 ?_
  refine lv_bipush (v := 8) hx hb dX2_numberAt_22 (by decide) ?_
  refine lv_ishl (x := ((z.2 7) (Int32.toNatClampNeg (x1 + 5)))) (y := 8) hx hb dX2_numberAt_24 ?_
  refine lv_ior (x := ((((z.2 7) (Int32.toNatClampNeg (x1 + 3))) <<< (24 &&& 31)) ||| (((z.2 7) (Int32.toNatClampNeg (x1 + 4))) <<< (16 &&& 31)))) (y := (((z.2 7) (Int32.toNatClampNeg (x1 + 5))) <<< (8 &&& 31))) hx hb dX2_numberAt_25 ?_
  refine lv_aload_n hx hb dX2_numberAt_26 rfl (lv_at hl 0 rfl) ?_
  refine lv_iload_n hx hb dX2_numberAt_27 rfl (lv_at hl 1 rfl) ?_
  refine lv_bipush (v := 6) hx hb dX2_numberAt_28 (by decide) ?_
  refine lv_iadd (x := x1) (y := 6) hx hb dX2_numberAt_30 ?_
  obtain ⟨hck, hf⟩ := cs hf
  refine lC_7 C hS (f := (z.2 7)) rfl (i := (x1 + 6)) hck dX2_numberAt_31 ?_
  refine lv_ior (x := (((((z.2 7) (Int32.toNatClampNeg (x1 + 3))) <<< (24 &&& 31)) ||| (((z.2 7) (Int32.toNatClampNeg (x1 + 4))) <<< (16 &&& 31))) ||| (((z.2 7) (Int32.toNatClampNeg (x1 + 5))) <<< (8 &&& 31)))) (y := ((z.2 7) (Int32.toNatClampNeg (x1 + 6)))) hx hb dX2_numberAt_32 ?_
  cases hf
  exact rti C hS dX2_numberAt_33
set_option maxHeartbeats 4000000 in
set_option maxRecDepth 100000 in
theorem c_rf_numberAt_7 (l : Launch) (D : va_G) (n : Nat) (ad : Nat → Nat) (cA : Nat → ClassId) (k : Nat) (z : SS) (x1 : Int32) (r : Int32) (hf : rf_numberAt_7 n k z x1 = some r) (sz : Nat) : Met l yX2_numberAt wsX2_numberAt R_rf_numberAt_7 (kP D (tC cA) [.ref (ad 7), .int x1] (wC n ad cA z) sz) (kI D (tC cA) r (wC n ad cA z) (wC n ad cA z) sz) 0 0 (va_A (wC n ad cA z) sz) := by
  refine ent (by decide) rfl rfl (Nat.le_of_ble_eq_true rfl) (fun p e s m args below meth c hsz C hS ls hl => ?_)
  subst hsz
  exact w_rf_numberAt_7_0 C k z x1 r hf s.heap [] ls hS hl
-- rf_contentsCountAt_7: static int contentsCountAt(int[], int);
def R_rf_contentsCountAt_7 : Room := { frames := 0, cells := 0, slots := 0, locals := 0 }
def rf_contentsCountAt_7 (n : Nat) (k : Nat) (z : SS) (x1 : Int32) : Option Int32 :=
  (if ck (x1 + 7) (n * 200) = true then some ((z.2 7) (Int32.toNatClampNeg (x1 + 7))) else none)
set_option maxHeartbeats 4000000 in
set_option maxRecDepth 100000 in
theorem w_rf_contentsCountAt_7_0 {p : Program} {l : Launch} {e : Env} {s : State} {m : MethodId} {args : Array Value} {below : List Frame} {meth : Method} {c : Code} {D : va_G} {w0 : va_W} {n : Nat} {ad : Nat → Nat} {cA : Nat → ClassId} (C : Cx p s m args meth c cX2_contentsCountAt 2 (some .int) RX2 wsX2_contentsCountAt D (tC cA)) (k : Nat) (z : SS) (x1 : Int32) (r : Int32) (hf : rf_contentsCountAt_7 n k z x1 = some r) : ∀ (H : Heap) (locs : List Loc) (ls : Array Slot), St D (va_A w0 s.heap.size) s.heap (wC n ad cA z) H locs → lv_has ls 2 [(0, .ref (ad 7)), (1, .int x1)] → W p l e R_rf_contentsCountAt_7 s m args below meth c H locs 0 0 (MQ below (kI D (tC cA) r w0 (wC n ad cA z) s.heap.size) args s 0 0 (va_A w0 s.heap.size)) (F0 m 0 ls []) := by
  obtain ⟨hx, hb, hr, hml, hown, hts, hlk, hK⟩ := id C
  intro H locs ls hS hl
  have hf : (if ck (x1 + 7) (n * 200) = true then some ((z.2 7) (Int32.toNatClampNeg (x1 + 7))) else none) = some r := hf
  refine lv_aload_n hx hb dX2_contentsCountAt_0 rfl (lv_at hl 0 rfl) ?_
  refine lv_iload_n hx hb dX2_contentsCountAt_1 rfl (lv_at hl 1 rfl) ?_
  refine lv_bipush (v := 7) hx hb dX2_contentsCountAt_2 (by decide) ?_
  refine lv_iadd (x := x1) (y := 7) hx hb dX2_contentsCountAt_4 ?_
  obtain ⟨hck, hf⟩ := cs hf
  refine lC_7 C hS (f := (z.2 7)) rfl (i := (x1 + 7)) hck dX2_contentsCountAt_5 ?_
  cases hf
  exact rti C hS dX2_contentsCountAt_6
set_option maxHeartbeats 4000000 in
set_option maxRecDepth 100000 in
theorem c_rf_contentsCountAt_7 (l : Launch) (D : va_G) (n : Nat) (ad : Nat → Nat) (cA : Nat → ClassId) (k : Nat) (z : SS) (x1 : Int32) (r : Int32) (hf : rf_contentsCountAt_7 n k z x1 = some r) (sz : Nat) : Met l yX2_contentsCountAt wsX2_contentsCountAt R_rf_contentsCountAt_7 (kP D (tC cA) [.ref (ad 7), .int x1] (wC n ad cA z) sz) (kI D (tC cA) r (wC n ad cA z) (wC n ad cA z) sz) 0 0 (va_A (wC n ad cA z) sz) := by
  refine ent (by decide) rfl rfl (Nat.le_of_ble_eq_true rfl) (fun p e s m args below meth c hsz C hS ls hl => ?_)
  subst hsz
  exact w_rf_contentsCountAt_7_0 C k z x1 r hf s.heap [] ls hS hl
-- rf_sumOf_7: static long sumOf(int[], int, int);
theorem lc_X2_sumOf_11 : Cond.constantLong RX2 11 (-7046029254386353131) ∈ wsX2_sumOf := by decide +kernel
def R_rf_sumOf_7 : Room := { frames := 0, cells := 0, slots := 0, locals := 0 }
def rf_sumOf_7_b5 (n : Nat) (k : Nat) (z : SS) : Nat → Int32 → Int64 → Int32 → Option Int64
  | 0, _, _, _ => none
  | fu + 1, x2, x3, x5 => (if x2 ≤ x5 then some x3 else (if ck x5 (n * 200) = true then rf_sumOf_7_b5 n k z fu x2 (((jlshl (x3 ^^^ (Int32.toInt64 ((z.2 7) (Int32.toNatClampNeg x5)))) 45) ||| (jlushr (x3 ^^^ (Int32.toInt64 ((z.2 7) (Int32.toNatClampNeg x5)))) 19)) * (-7046029254386353131)) (x5 + 1) else none))
def rf_sumOf_7 (n : Nat) (k : Nat) (z : SS) (x1 : Int32) (x2 : Int32) : Option Int64 :=
  rf_sumOf_7_b5 n k z k x2 0 x1
set_option maxHeartbeats 4000000 in
set_option maxRecDepth 100000 in
theorem w_rf_sumOf_7_b5 {p : Program} {l : Launch} {e : Env} {s : State} {m : MethodId} {args : Array Value} {below : List Frame} {meth : Method} {c : Code} {D : va_G} {w0 : va_W} {n : Nat} {ad : Nat → Nat} {cA : Nat → ClassId} (C : Cx p s m args meth c cX2_sumOf 8 (some .long) RX2 wsX2_sumOf D (tC cA)) (k : Nat) (z : SS) : ∀ (fu : Nat) (x2 : Int32) (x3 : Int64) (x5 : Int32) (r : Int64), rf_sumOf_7_b5 n k z fu x2 x3 x5 = some r → ∀ (H : Heap) (locs : List Loc) (ls : Array Slot), St D (va_A w0 s.heap.size) s.heap (wC n ad cA z) H locs → lv_has ls 8 [(0, .ref (ad 7)), (2, .int x2), (3, .long x3), (5, .int x5)] → W p l e R_rf_sumOf_7 s m args below meth c H locs 0 0 (MQ below (kL D (tC cA) r w0 (wC n ad cA z) s.heap.size) args s 0 0 (va_A w0 s.heap.size)) (F0 m 5 ls []) := by
  obtain ⟨hx, hb, hr, hml, hown, hts, hlk, hK⟩ := id C
  intro fu
  induction fu with
  | zero =>
    intro x2 x3 x5 r hf
    cases (show (none : Option Int64) = some r from hf)
  | succ fu ih =>
    intro x2 x3 x5 r hf H locs ls hS hl
    have hf : (if x2 ≤ x5 then some x3 else (if ck x5 (n * 200) = true then rf_sumOf_7_b5 n k z fu x2 (((jlshl (x3 ^^^ (Int32.toInt64 ((z.2 7) (Int32.toNatClampNeg x5)))) 45) ||| (jlushr (x3 ^^^ (Int32.toInt64 ((z.2 7) (Int32.toNatClampNeg x5)))) 19)) * (-7046029254386353131)) (x5 + 1) else none)) = some r := hf
    refine lv_iload hx hb dX2_sumOf_5 (lv_at hl 3 rfl) ?_
    refine lv_iload_n hx hb dX2_sumOf_7 rfl (lv_at hl 1 rfl) ?_
    refine lv_icmp_ge (x := x5) (y := x2) (tgt := 42) hx hb dX2_sumOf_8 (by decide) (fun hc => ?_) (fun hc => ?_)
    · replace hf := it_t hc hf
      refine lv_lload_n hx hb dX2_sumOf_42 rfl (lv_at hl 2 rfl) ?_
      cases hf
      exact rtl C hS dX2_sumOf_43
    · replace hf := it_f hc hf
      refine lv_lload_n hx hb dX2_sumOf_11 rfl (lv_at hl 2 rfl) ?_
      refine lv_aload_n hx hb dX2_sumOf_12 rfl (lv_at hl 0 rfl) ?_
      refine lv_iload hx hb dX2_sumOf_13 (lv_at hl 3 rfl) ?_
      obtain ⟨hck, hf⟩ := cs hf
      refine lC_7 C hS (f := (z.2 7)) rfl (i := x5) hck dX2_sumOf_15 ?_
      refine lv_i2l (x := ((z.2 7) (Int32.toNatClampNeg x5))) (v := (Int32.toInt64 ((z.2 7) (Int32.toNatClampNeg x5)))) hx hb dX2_sumOf_16 rfl ?_
      refine lv_lxor (x := x3) (y := (Int32.toInt64 ((z.2 7) (Int32.toNatClampNeg x5)))) hx hb dX2_sumOf_17 ?_
      refine lv_lstore (lv' := [(6, .long (x3 ^^^ (Int32.toInt64 ((z.2 7) (Int32.toNatClampNeg x5))))), (0, .ref (ad 7)), (2, .int x2), (3, .long x3), (5, .int x5)]) hx hb dX2_sumOf_18 hl (by decide) rfl (fun ls hl => ?_)
      refine lv_lload hx hb dX2_sumOf_20 (lv_at hl 0 rfl) ?_
      refine lv_bipush (v := 45) hx hb dX2_sumOf_22 (by decide) ?_
      refine lv_lshl (x := (x3 ^^^ (Int32.toInt64 ((z.2 7) (Int32.toNatClampNeg x5))))) (y := 45) (v := (jlshl (x3 ^^^ (Int32.toInt64 ((z.2 7) (Int32.toNatClampNeg x5)))) 45)) hx hb dX2_sumOf_24 rfl ?_
      refine lv_lload hx hb dX2_sumOf_25 (lv_at hl 0 rfl) ?_
      refine lv_bipush (v := 19) hx hb dX2_sumOf_27 (by decide) ?_
      refine lv_lushr (x := (x3 ^^^ (Int32.toInt64 ((z.2 7) (Int32.toNatClampNeg x5))))) (y := 19) (v := (jlushr (x3 ^^^ (Int32.toInt64 ((z.2 7) (Int32.toNatClampNeg x5)))) 19)) hx hb dX2_sumOf_29 rfl ?_
      refine lv_lor (x := (jlshl (x3 ^^^ (Int32.toInt64 ((z.2 7) (Int32.toNatClampNeg x5)))) 45)) (y := (jlushr (x3 ^^^ (Int32.toInt64 ((z.2 7) (Int32.toNatClampNeg x5)))) 19)) hx hb dX2_sumOf_30 ?_
      refine lv_ldc2 (v := (-7046029254386353131)) hx hb hown (hts _ lc_X2_sumOf_11) dX2_sumOf_31 ?_
      refine lv_lmul (x := ((jlshl (x3 ^^^ (Int32.toInt64 ((z.2 7) (Int32.toNatClampNeg x5)))) 45) ||| (jlushr (x3 ^^^ (Int32.toInt64 ((z.2 7) (Int32.toNatClampNeg x5)))) 19))) (y := (-7046029254386353131)) hx hb dX2_sumOf_34 ?_
      refine lv_lstore_n (lv' := [(3, .long (((jlshl (x3 ^^^ (Int32.toInt64 ((z.2 7) (Int32.toNatClampNeg x5)))) 45) ||| (jlushr (x3 ^^^ (Int32.toInt64 ((z.2 7) (Int32.toNatClampNeg x5)))) 19)) * (-7046029254386353131))), (6, .long (x3 ^^^ (Int32.toInt64 ((z.2 7) (Int32.toNatClampNeg x5))))), (0, .ref (ad 7)), (2, .int x2), (5, .int x5)]) hx hb dX2_sumOf_35 rfl hl (by decide) rfl (fun ls hl => ?_)
      refine lv_iinc (v := (x5 + 1)) (lv' := [(5, .int (x5 + 1)), (3, .long (((jlshl (x3 ^^^ (Int32.toInt64 ((z.2 7) (Int32.toNatClampNeg x5)))) 45) ||| (jlushr (x3 ^^^ (Int32.toInt64 ((z.2 7) (Int32.toNatClampNeg x5)))) 19)) * (-7046029254386353131))), (6, .long (x3 ^^^ (Int32.toInt64 ((z.2 7) (Int32.toNatClampNeg x5))))), (0, .ref (ad 7)), (2, .int x2)]) hx hb dX2_sumOf_36 hl (k := 4) rfl (congrArg (fun q => x5 + q) (by decide : Int32.ofInt 1 = (1 : Int32))) (by decide) rfl (fun ls hl => ?_)
      refine lv_goto (tgt := 5) hx hb dX2_sumOf_39 (by decide) ?_
      exact ih x2 (((jlshl (x3 ^^^ (Int32.toInt64 ((z.2 7) (Int32.toNatClampNeg x5)))) 45) ||| (jlushr (x3 ^^^ (Int32.toInt64 ((z.2 7) (Int32.toNatClampNeg x5)))) 19)) * (-7046029254386353131)) (x5 + 1) r hf H locs ls hS (lv_sub hl [3, 4, 1, 0] rfl)
set_option maxHeartbeats 4000000 in
set_option maxRecDepth 100000 in
theorem w_rf_sumOf_7_0 {p : Program} {l : Launch} {e : Env} {s : State} {m : MethodId} {args : Array Value} {below : List Frame} {meth : Method} {c : Code} {D : va_G} {w0 : va_W} {n : Nat} {ad : Nat → Nat} {cA : Nat → ClassId} (C : Cx p s m args meth c cX2_sumOf 8 (some .long) RX2 wsX2_sumOf D (tC cA)) (k : Nat) (z : SS) (x1 : Int32) (x2 : Int32) (r : Int64) (hf : rf_sumOf_7 n k z x1 x2 = some r) : ∀ (H : Heap) (locs : List Loc) (ls : Array Slot), St D (va_A w0 s.heap.size) s.heap (wC n ad cA z) H locs → lv_has ls 8 [(0, .ref (ad 7)), (1, .int x1), (2, .int x2)] → W p l e R_rf_sumOf_7 s m args below meth c H locs 0 0 (MQ below (kL D (tC cA) r w0 (wC n ad cA z) s.heap.size) args s 0 0 (va_A w0 s.heap.size)) (F0 m 0 ls []) := by
  obtain ⟨hx, hb, hr, hml, hown, hts, hlk, hK⟩ := id C
  intro H locs ls hS hl
  have hf : rf_sumOf_7_b5 n k z k x2 0 x1 = some r := hf
  refine lv_lconst (v := 0) hx hb dX2_sumOf_0 (by decide) ?_
  refine lv_lstore_n (lv' := [(3, .long 0), (0, .ref (ad 7)), (1, .int x1), (2, .int x2)]) hx hb dX2_sumOf_1 rfl hl (by decide) rfl (fun ls hl => ?_)
  refine lv_iload_n hx hb dX2_sumOf_2 rfl (lv_at hl 2 rfl) ?_
  refine lv_istore (lv' := [(5, .int x1), (3, .long 0), (0, .ref (ad 7)), (1, .int x1), (2, .int x2)]) hx hb dX2_sumOf_3 hl (by decide) rfl (fun ls hl => ?_)
  exact w_rf_sumOf_7_b5 C k z k x2 0 x1 r hf H locs ls hS (lv_sub hl [2, 4, 1, 0] rfl)
set_option maxHeartbeats 4000000 in
set_option maxRecDepth 100000 in
theorem c_rf_sumOf_7 (l : Launch) (D : va_G) (n : Nat) (ad : Nat → Nat) (cA : Nat → ClassId) (k : Nat) (z : SS) (x1 : Int32) (x2 : Int32) (r : Int64) (hf : rf_sumOf_7 n k z x1 x2 = some r) (sz : Nat) : Met l yX2_sumOf wsX2_sumOf R_rf_sumOf_7 (kP D (tC cA) [.ref (ad 7), .int x1, .int x2] (wC n ad cA z) sz) (kL D (tC cA) r (wC n ad cA z) (wC n ad cA z) sz) 0 0 (va_A (wC n ad cA z) sz) := by
  refine ent (by decide) rfl rfl (Nat.le_of_ble_eq_true rfl) (fun p e s m args below meth c hsz C hS ls hl => ?_)
  subst hsz
  exact w_rf_sumOf_7_0 C k z x1 x2 r hf s.heap [] ls hS hl
-- rf_sumByte: static int sumByte(long, int);
def R_rf_sumByte : Room := { frames := 0, cells := 0, slots := 0, locals := 0 }
def rf_sumByte (n : Nat) (k : Nat) (z : SS) (x0 : Int64) (x2 : Int32) : Option Int32 :=
  some ((Int64.toInt32 (jlushr x0 (8 * (7 - x2)))) &&& 255)
set_option maxHeartbeats 4000000 in
set_option maxRecDepth 100000 in
theorem w_rf_sumByte_0 {p : Program} {l : Launch} {e : Env} {s : State} {m : MethodId} {args : Array Value} {below : List Frame} {meth : Method} {c : Code} {D : va_G} {w0 : va_W} {n : Nat} {ad : Nat → Nat} {cA : Nat → ClassId} (C : Cx p s m args meth c cX2_sumByte 3 (some .int) RX2 wsX2_sumByte D (tC cA)) (k : Nat) (z : SS) (x0 : Int64) (x2 : Int32) (r : Int32) (hf : rf_sumByte n k z x0 x2 = some r) : ∀ (H : Heap) (locs : List Loc) (ls : Array Slot), St D (va_A w0 s.heap.size) s.heap (wC n ad cA z) H locs → lv_has ls 3 [(0, .long x0), (2, .int x2)] → W p l e R_rf_sumByte s m args below meth c H locs 0 0 (MQ below (kI D (tC cA) r w0 (wC n ad cA z) s.heap.size) args s 0 0 (va_A w0 s.heap.size)) (F0 m 0 ls []) := by
  obtain ⟨hx, hb, hr, hml, hown, hts, hlk, hK⟩ := id C
  intro H locs ls hS hl
  have hf : some ((Int64.toInt32 (jlushr x0 (8 * (7 - x2)))) &&& 255) = some r := hf
  refine lv_lload_n hx hb dX2_sumByte_0 rfl (lv_at hl 0 rfl) ?_
  refine lv_bipush (v := 8) hx hb dX2_sumByte_1 (by decide) ?_
  refine lv_bipush (v := 7) hx hb dX2_sumByte_3 (by decide) ?_
  refine lv_iload_n hx hb dX2_sumByte_5 rfl (lv_at hl 1 rfl) ?_
  refine lv_isub (x := 7) (y := x2) hx hb dX2_sumByte_6 ?_
  refine lv_imul (x := 8) (y := (7 - x2)) hx hb dX2_sumByte_7 ?_
  refine lv_lushr (x := x0) (y := (8 * (7 - x2))) (v := (jlushr x0 (8 * (7 - x2)))) hx hb dX2_sumByte_8 rfl ?_
  refine lv_l2i (x := (jlushr x0 (8 * (7 - x2)))) (v := (Int64.toInt32 (jlushr x0 (8 * (7 - x2))))) hx hb dX2_sumByte_9 rfl ?_
  refine lv_sipush (v := 255) hx hb dX2_sumByte_10 (by decide) ?_
  refine lv_iand (x := (Int64.toInt32 (jlushr x0 (8 * (7 - x2))))) (y := 255) hx hb dX2_sumByte_13 ?_
  cases hf
  exact rti C hS dX2_sumByte_14
set_option maxHeartbeats 4000000 in
set_option maxRecDepth 100000 in
theorem c_rf_sumByte (l : Launch) (D : va_G) (n : Nat) (ad : Nat → Nat) (cA : Nat → ClassId) (k : Nat) (z : SS) (x0 : Int64) (x2 : Int32) (r : Int32) (hf : rf_sumByte n k z x0 x2 = some r) (sz : Nat) : Met l yX2_sumByte wsX2_sumByte R_rf_sumByte (kP D (tC cA) [.long x0, .int x2] (wC n ad cA z) sz) (kI D (tC cA) r (wC n ad cA z) (wC n ad cA z) sz) 0 0 (va_A (wC n ad cA z) sz) := by
  refine ent (by decide) rfl rfl (Nat.le_of_ble_eq_true rfl) (fun p e s m args below meth c hsz C hS ls hl => ?_)
  subst hsz
  exact w_rf_sumByte_0 C k z x0 x2 r hf s.heap [] ls hS hl
-- rf_hasSum_7: static boolean hasSum(int[], int, int);
def R_rf_hasSum_7 : Room := { frames := 1, cells := 0, slots := 0, locals := 27 }
def rf_hasSum_7_b10 (n : Nat) (k : Nat) (z : SS) : Nat → Int32 → Int64 → Int32 → Option Int32
  | 0, _, _, _ => none
  | fu + 1, x2, x3, x5 => (if 8 ≤ x5 then some 1 else (if ck (x2 + x5) (n * 200) = true then (bo (rf_sumByte n k z x3 x5) fun r_1 => (if ((z.2 7) (Int32.toNatClampNeg (x2 + x5))) = r_1 then rf_hasSum_7_b10 n k z fu x2 x3 (x5 + 1) else some 0)) else none))
def rf_hasSum_7 (n : Nat) (k : Nat) (z : SS) (x1 : Int32) (x2 : Int32) : Option Int32 :=
  (bo (rf_sumOf_7 n k z x1 x2) fun r_1 => rf_hasSum_7_b10 n k z k x2 r_1 0)
set_option maxHeartbeats 4000000 in
set_option maxRecDepth 100000 in
theorem w_rf_hasSum_7_b10 {p : Program} {l : Launch} {e : Env} {s : State} {m : MethodId} {args : Array Value} {below : List Frame} {meth : Method} {c : Code} {D : va_G} {w0 : va_W} {n : Nat} {ad : Nat → Nat} {cA : Nat → ClassId} (C : Cx p s m args meth c cX2_hasSum 6 (some .boolean) RX2 wsX2_hasSum D (tC cA)) (k : Nat) (z : SS) : ∀ (fu : Nat) (x2 : Int32) (x3 : Int64) (x5 : Int32) (r : Int32), rf_hasSum_7_b10 n k z fu x2 x3 x5 = some r → ∀ (H : Heap) (locs : List Loc) (ls : Array Slot), St D (va_A w0 s.heap.size) s.heap (wC n ad cA z) H locs → lv_has ls 6 [(0, .ref (ad 7)), (2, .int x2), (3, .long x3), (5, .int x5)] → W p l e R_rf_hasSum_7 s m args below meth c H locs 0 0 (MQ below (kI D (tC cA) r w0 (wC n ad cA z) s.heap.size) args s 0 0 (va_A w0 s.heap.size)) (F0 m 10 ls []) := by
  obtain ⟨hx, hb, hr, hml, hown, hts, hlk, hK⟩ := id C
  intro fu
  induction fu with
  | zero =>
    intro x2 x3 x5 r hf
    cases (show (none : Option Int32) = some r from hf)
  | succ fu ih =>
    intro x2 x3 x5 r hf H locs ls hS hl
    have hf : (if 8 ≤ x5 then some 1 else (if ck (x2 + x5) (n * 200) = true then (bo (rf_sumByte n k z x3 x5) fun r_1 => (if ((z.2 7) (Int32.toNatClampNeg (x2 + x5))) = r_1 then rf_hasSum_7_b10 n k z fu x2 x3 (x5 + 1) else some 0)) else none)) = some r := hf
    refine lv_iload hx hb dX2_hasSum_10 (lv_at hl 3 rfl) ?_
    refine lv_bipush (v := 8) hx hb dX2_hasSum_12 (by decide) ?_
    refine lv_icmp_ge (x := x5) (y := 8) (tgt := 40) hx hb dX2_hasSum_14 (by decide) (fun hc => ?_) (fun hc => ?_)
    · replace hf := it_t hc hf
      refine lv_iconst (v := 1) hx hb dX2_hasSum_40 (by decide) ?_
      cases hf
      exact rtz C hS (by decide) dX2_hasSum_41
    · replace hf := it_f hc hf
      refine lv_aload_n hx hb dX2_hasSum_17 rfl (lv_at hl 0 rfl) ?_
      refine lv_iload_n hx hb dX2_hasSum_18 rfl (lv_at hl 1 rfl) ?_
      refine lv_iload hx hb dX2_hasSum_19 (lv_at hl 3 rfl) ?_
      refine lv_iadd (x := x2) (y := x5) hx hb dX2_hasSum_21 ?_
      obtain ⟨hck, hf⟩ := cs hf
      refine lC_7 C hS (f := (z.2 7)) rfl (i := (x2 + x5)) hck dX2_hasSum_22 ?_
      refine lv_lload_n hx hb dX2_hasSum_23 rfl (lv_at hl 2 rfl) ?_
      refine lv_iload hx hb dX2_hasSum_24 (lv_at hl 3 rfl) ?_
      obtain ⟨r_1, hcl, hf⟩ := bo_s hf
      refine rcSi (n := 2) (As := [.long x3, .int x5]) (rest := [.int ((z.2 7) (Int32.toNatClampNeg (x2 + x5)))]) (w' := (wC n ad cA z)) C hS (fun sz => c_rf_sumByte l D n ad cA k z x3 x5 r_1 hcl sz) gX2_hasSum_X2_sumByte rfl ⟨rfl, rfl⟩ (by decide +kernel) ⟨Nat.le_of_ble_eq_true rfl, Nat.le_of_ble_eq_true rfl⟩ rfl hl.1 rfl (Nat.le_of_ble_eq_true rfl) dX2_hasSum_26 (fun H locs hS => ?_)
      refine lv_icmp_eq (x := ((z.2 7) (Int32.toNatClampNeg (x2 + x5)))) (y := r_1) (tgt := 34) hx hb dX2_hasSum_29 (by decide) (fun hc => ?_) (fun hc => ?_)
      · replace hf := it_t hc hf
        refine lv_iinc (v := (x5 + 1)) (lv' := [(5, .int (x5 + 1)), (0, .ref (ad 7)), (2, .int x2), (3, .long x3)]) hx hb dX2_hasSum_34 hl (k := 3) rfl (congrArg (fun q => x5 + q) (by decide : Int32.ofInt 1 = (1 : Int32))) (by decide) rfl (fun ls hl => ?_)
        refine lv_goto (tgt := 10) hx hb dX2_hasSum_37 (by decide) ?_
        exact ih x2 x3 (x5 + 1) r hf H locs ls hS (lv_sub hl [1, 2, 3, 0] rfl)
      · replace hf := it_f hc hf
        refine lv_iconst (v := 0) hx hb dX2_hasSum_32 (by decide) ?_
        cases hf
        exact rtz C hS (by decide) dX2_hasSum_33
set_option maxHeartbeats 4000000 in
set_option maxRecDepth 100000 in
theorem w_rf_hasSum_7_0 {p : Program} {l : Launch} {e : Env} {s : State} {m : MethodId} {args : Array Value} {below : List Frame} {meth : Method} {c : Code} {D : va_G} {w0 : va_W} {n : Nat} {ad : Nat → Nat} {cA : Nat → ClassId} (C : Cx p s m args meth c cX2_hasSum 6 (some .boolean) RX2 wsX2_hasSum D (tC cA)) (k : Nat) (z : SS) (x1 : Int32) (x2 : Int32) (r : Int32) (hf : rf_hasSum_7 n k z x1 x2 = some r) : ∀ (H : Heap) (locs : List Loc) (ls : Array Slot), St D (va_A w0 s.heap.size) s.heap (wC n ad cA z) H locs → lv_has ls 6 [(0, .ref (ad 7)), (1, .int x1), (2, .int x2)] → W p l e R_rf_hasSum_7 s m args below meth c H locs 0 0 (MQ below (kI D (tC cA) r w0 (wC n ad cA z) s.heap.size) args s 0 0 (va_A w0 s.heap.size)) (F0 m 0 ls []) := by
  obtain ⟨hx, hb, hr, hml, hown, hts, hlk, hK⟩ := id C
  intro H locs ls hS hl
  have hf : (bo (rf_sumOf_7 n k z x1 x2) fun r_1 => rf_hasSum_7_b10 n k z k x2 r_1 0) = some r := hf
  refine lv_aload_n hx hb dX2_hasSum_0 rfl (lv_at hl 0 rfl) ?_
  refine lv_iload_n hx hb dX2_hasSum_1 rfl (lv_at hl 1 rfl) ?_
  refine lv_iload_n hx hb dX2_hasSum_2 rfl (lv_at hl 2 rfl) ?_
  obtain ⟨r_1, hcl, hf⟩ := bo_s hf
  refine rcSl (n := 3) (As := [.ref (ad 7), .int x1, .int x2]) (rest := []) (w' := (wC n ad cA z)) C hS (fun sz => c_rf_sumOf_7 l D n ad cA k z x1 x2 r_1 hcl sz) gX2_hasSum_X2_sumOf rfl ⟨rfl, rfl⟩ (by decide +kernel) ⟨Nat.le_of_ble_eq_true rfl, Nat.le_of_ble_eq_true rfl⟩ rfl hl.1 rfl (Nat.le_of_ble_eq_true rfl) dX2_hasSum_3 (fun H locs hS => ?_)
  refine lv_lstore_n (lv' := [(3, .long r_1), (0, .ref (ad 7)), (1, .int x1), (2, .int x2)]) hx hb dX2_hasSum_6 rfl hl (by decide) rfl (fun ls hl => ?_)
  refine lv_iconst (v := 0) hx hb dX2_hasSum_7 (by decide) ?_
  refine lv_istore (lv' := [(5, .int 0), (3, .long r_1), (0, .ref (ad 7)), (1, .int x1), (2, .int x2)]) hx hb dX2_hasSum_8 hl (by decide) rfl (fun ls hl => ?_)
  exact w_rf_hasSum_7_b10 C k z k x2 r_1 0 r hf H locs ls hS (lv_sub hl [2, 4, 1, 0] rfl)
set_option maxHeartbeats 4000000 in
set_option maxRecDepth 100000 in
theorem c_rf_hasSum_7 (l : Launch) (D : va_G) (n : Nat) (ad : Nat → Nat) (cA : Nat → ClassId) (k : Nat) (z : SS) (x1 : Int32) (x2 : Int32) (r : Int32) (hf : rf_hasSum_7 n k z x1 x2 = some r) (sz : Nat) : Met l yX2_hasSum wsX2_hasSum R_rf_hasSum_7 (kP D (tC cA) [.ref (ad 7), .int x1, .int x2] (wC n ad cA z) sz) (kI D (tC cA) r (wC n ad cA z) (wC n ad cA z) sz) 0 0 (va_A (wC n ad cA z) sz) := by
  refine ent (by decide) rfl rfl (Nat.le_of_ble_eq_true rfl) (fun p e s m args below meth c hsz C hS ls hl => ?_)
  subst hsz
  exact w_rf_hasSum_7_0 C k z x1 x2 r hf s.heap [] ls hS hl
-- rf_behind_7: static int behind(int[], int, int);
def R_rf_behind_7 : Room := { frames := 1, cells := 0, slots := 0, locals := 21 }
def rf_behind_7_b14 (n : Nat) (k : Nat) (z : SS) (x1 : Int32) (x2 : Int32) : Option Int32 :=
  (if (x1 + 8) ≤ x2 then (bo (rf_contentsCountAt_7 n k z x1) fun r_1 => (if 20 < r_1 then some (-1) else (bo (rf_bytesWith n k z r_1) fun r_2 => (if (x1 + r_2) ≤ x2 then (bo (rf_bytesWith n k z r_1) fun r_3 => some (x1 + r_3)) else some (-1))))) else some (-1))
def rf_behind_7 (n : Nat) (k : Nat) (z : SS) (x1 : Int32) (x2 : Int32) : Option Int32 :=
  (if ck x1 (n * 200) = true then (if ((z.2 7) (Int32.toNatClampNeg x1)) = 1 then rf_behind_7_b14 n k z x1 x2 else (if ck x1 (n * 200) = true then (if ((z.2 7) (Int32.toNatClampNeg x1)) = 2 then rf_behind_7_b14 n k z x1 x2 else some (-1)) else none)) else none)
set_option maxHeartbeats 4000000 in
set_option maxRecDepth 100000 in
theorem w_rf_behind_7_b14 {p : Program} {l : Launch} {e : Env} {s : State} {m : MethodId} {args : Array Value} {below : List Frame} {meth : Method} {c : Code} {D : va_G} {w0 : va_W} {n : Nat} {ad : Nat → Nat} {cA : Nat → ClassId} (C : Cx p s m args meth c cX2_behind 4 (some .int) RX2 wsX2_behind D (tC cA)) (k : Nat) (z : SS) (x1 : Int32) (x2 : Int32) (r : Int32) (hf : rf_behind_7_b14 n k z x1 x2 = some r) : ∀ (H : Heap) (locs : List Loc) (ls : Array Slot), St D (va_A w0 s.heap.size) s.heap (wC n ad cA z) H locs → lv_has ls 4 [(0, .ref (ad 7)), (1, .int x1), (2, .int x2)] → W p l e R_rf_behind_7 s m args below meth c H locs 0 0 (MQ below (kI D (tC cA) r w0 (wC n ad cA z) s.heap.size) args s 0 0 (va_A w0 s.heap.size)) (F0 m 14 ls []) := by
  obtain ⟨hx, hb, hr, hml, hown, hts, hlk, hK⟩ := id C
  intro H locs ls hS hl
  have hf : (if (x1 + 8) ≤ x2 then (bo (rf_contentsCountAt_7 n k z x1) fun r_1 => (if 20 < r_1 then some (-1) else (bo (rf_bytesWith n k z r_1) fun r_2 => (if (x1 + r_2) ≤ x2 then (bo (rf_bytesWith n k z r_1) fun r_3 => some (x1 + r_3)) else some (-1))))) else some (-1)) = some r := hf
  refine lv_iload_n hx hb dX2_behind_14 rfl (lv_at hl 1 rfl) ?_
  refine lv_bipush (v := 8) hx hb dX2_behind_15 (by decide) ?_
  refine lv_iadd (x := x1) (y := 8) hx hb dX2_behind_17 ?_
  refine lv_iload_n hx hb dX2_behind_18 rfl (lv_at hl 2 rfl) ?_
  refine lv_icmp_le (x := (x1 + 8)) (y := x2) (tgt := 24) hx hb dX2_behind_19 (by decide) (fun hc => ?_) (fun hc => ?_)
  · replace hf := it_t hc hf
    refine lv_aload_n hx hb dX2_behind_24 rfl (lv_at hl 0 rfl) ?_
    refine lv_iload_n hx hb dX2_behind_25 rfl (lv_at hl 1 rfl) ?_
    obtain ⟨r_1, hcl, hf⟩ := bo_s hf
    refine rcSi (n := 2) (As := [.ref (ad 7), .int x1]) (rest := []) (w' := (wC n ad cA z)) C hS (fun sz => c_rf_contentsCountAt_7 l D n ad cA k z x1 r_1 hcl sz) gX2_behind_X2_contentsCountAt rfl ⟨rfl, rfl⟩ (by decide +kernel) ⟨Nat.le_of_ble_eq_true rfl, Nat.le_of_ble_eq_true rfl⟩ rfl hl.1 rfl (Nat.le_of_ble_eq_true rfl) dX2_behind_26 (fun H locs hS => ?_)
    refine lv_istore_n (lv' := [(3, .int r_1), (0, .ref (ad 7)), (1, .int x1), (2, .int x2)]) hx hb dX2_behind_29 rfl hl (by decide) rfl (fun ls hl => ?_)
    refine lv_iload_n hx hb dX2_behind_30 rfl (lv_at hl 0 rfl) ?_
    refine lv_bipush (v := 20) hx hb dX2_behind_31 (by decide) ?_
    refine lv_icmp_gt (x := r_1) (y := 20) (tgt := 46) hx hb dX2_behind_33 (by decide) (fun hc => ?_) (fun hc => ?_)
    · replace hf := it_t hc hf
      refine lv_iconst (v := (-1)) hx hb dX2_behind_46 (by decide) ?_
      cases hf
      exact rti C hS dX2_behind_47
    · replace hf := it_f hc hf
      refine lv_iload_n hx hb dX2_behind_36 rfl (lv_at hl 2 rfl) ?_
      refine lv_iload_n hx hb dX2_behind_37 rfl (lv_at hl 0 rfl) ?_
      obtain ⟨r_2, hcl, hf⟩ := bo_s hf
      refine rcSi (n := 1) (As := [.int r_1]) (rest := [.int x1]) (w' := (wC n ad cA z)) C hS (fun sz => c_rf_bytesWith l D n ad cA k z r_1 r_2 hcl sz) gX2_behind_X2_bytesWith rfl ⟨rfl, rfl⟩ (by decide +kernel) ⟨Nat.le_of_ble_eq_true rfl, Nat.le_of_ble_eq_true rfl⟩ rfl hl.1 rfl (Nat.le_of_ble_eq_true rfl) dX2_behind_38 (fun H locs hS => ?_)
      refine lv_iadd (x := x1) (y := r_2) hx hb dX2_behind_41 ?_
      refine lv_iload_n hx hb dX2_behind_42 rfl (lv_at hl 3 rfl) ?_
      refine lv_icmp_le (x := (x1 + r_2)) (y := x2) (tgt := 48) hx hb dX2_behind_43 (by decide) (fun hc => ?_) (fun hc => ?_)
      · replace hf := it_t hc hf
        refine lv_iload_n hx hb dX2_behind_48 rfl (lv_at hl 2 rfl) ?_
        refine lv_iload_n hx hb dX2_behind_49 rfl (lv_at hl 0 rfl) ?_
        obtain ⟨r_3, hcl, hf⟩ := bo_s hf
        refine rcSi (n := 1) (As := [.int r_1]) (rest := [.int x1]) (w' := (wC n ad cA z)) C hS (fun sz => c_rf_bytesWith l D n ad cA k z r_1 r_3 hcl sz) gX2_behind_X2_bytesWith rfl ⟨rfl, rfl⟩ (by decide +kernel) ⟨Nat.le_of_ble_eq_true rfl, Nat.le_of_ble_eq_true rfl⟩ rfl hl.1 rfl (Nat.le_of_ble_eq_true rfl) dX2_behind_50 (fun H locs hS => ?_)
        refine lv_iadd (x := x1) (y := r_3) hx hb dX2_behind_53 ?_
        cases hf
        exact rti C hS dX2_behind_54
      · replace hf := it_f hc hf
        refine lv_iconst (v := (-1)) hx hb dX2_behind_46 (by decide) ?_
        cases hf
        exact rti C hS dX2_behind_47
  · replace hf := it_f hc hf
    refine lv_iconst (v := (-1)) hx hb dX2_behind_22 (by decide) ?_
    cases hf
    exact rti C hS dX2_behind_23
set_option maxHeartbeats 4000000 in
set_option maxRecDepth 100000 in
theorem w_rf_behind_7_0 {p : Program} {l : Launch} {e : Env} {s : State} {m : MethodId} {args : Array Value} {below : List Frame} {meth : Method} {c : Code} {D : va_G} {w0 : va_W} {n : Nat} {ad : Nat → Nat} {cA : Nat → ClassId} (C : Cx p s m args meth c cX2_behind 4 (some .int) RX2 wsX2_behind D (tC cA)) (k : Nat) (z : SS) (x1 : Int32) (x2 : Int32) (r : Int32) (hf : rf_behind_7 n k z x1 x2 = some r) : ∀ (H : Heap) (locs : List Loc) (ls : Array Slot), St D (va_A w0 s.heap.size) s.heap (wC n ad cA z) H locs → lv_has ls 4 [(0, .ref (ad 7)), (1, .int x1), (2, .int x2)] → W p l e R_rf_behind_7 s m args below meth c H locs 0 0 (MQ below (kI D (tC cA) r w0 (wC n ad cA z) s.heap.size) args s 0 0 (va_A w0 s.heap.size)) (F0 m 0 ls []) := by
  obtain ⟨hx, hb, hr, hml, hown, hts, hlk, hK⟩ := id C
  intro H locs ls hS hl
  have hf : (if ck x1 (n * 200) = true then (if ((z.2 7) (Int32.toNatClampNeg x1)) = 1 then rf_behind_7_b14 n k z x1 x2 else (if ck x1 (n * 200) = true then (if ((z.2 7) (Int32.toNatClampNeg x1)) = 2 then rf_behind_7_b14 n k z x1 x2 else some (-1)) else none)) else none) = some r := hf
  refine lv_aload_n hx hb dX2_behind_0 rfl (lv_at hl 0 rfl) ?_
  refine lv_iload_n hx hb dX2_behind_1 rfl (lv_at hl 1 rfl) ?_
  obtain ⟨hck, hf⟩ := cs hf
  refine lC_7 C hS (f := (z.2 7)) rfl (i := x1) hck dX2_behind_2 ?_
  refine lv_iconst (v := 1) hx hb dX2_behind_3 (by decide) ?_
  refine lv_icmp_eq (x := ((z.2 7) (Int32.toNatClampNeg x1))) (y := 1) (tgt := 14) hx hb dX2_behind_4 (by decide) (fun hc => ?_) (fun hc => ?_)
  · replace hf := it_t hc hf
    exact w_rf_behind_7_b14 C k z x1 x2 r hf H locs ls hS (lv_sub hl [0, 1, 2] rfl)
  · replace hf := it_f hc hf
    refine lv_aload_n hx hb dX2_behind_7 rfl (lv_at hl 0 rfl) ?_
    refine lv_iload_n hx hb dX2_behind_8 rfl (lv_at hl 1 rfl) ?_
    obtain ⟨hck, hf⟩ := cs hf
    refine lC_7 C hS (f := (z.2 7)) rfl (i := x1) hck dX2_behind_9 ?_
    refine lv_iconst (v := 2) hx hb dX2_behind_10 (by decide) ?_
    refine lv_icmp_ne (x := ((z.2 7) (Int32.toNatClampNeg x1))) (y := 2) (tgt := 22) hx hb dX2_behind_11 (by decide) (fun hc => ?_) (fun hc => ?_)
    · replace hf := it_f hc hf
      refine lv_iconst (v := (-1)) hx hb dX2_behind_22 (by decide) ?_
      cases hf
      exact rti C hS dX2_behind_23
    · replace hf := it_t hc hf
      exact w_rf_behind_7_b14 C k z x1 x2 r hf H locs ls hS (lv_sub hl [0, 1, 2] rfl)
set_option maxHeartbeats 4000000 in
set_option maxRecDepth 100000 in
theorem c_rf_behind_7 (l : Launch) (D : va_G) (n : Nat) (ad : Nat → Nat) (cA : Nat → ClassId) (k : Nat) (z : SS) (x1 : Int32) (x2 : Int32) (r : Int32) (hf : rf_behind_7 n k z x1 x2 = some r) (sz : Nat) : Met l yX2_behind wsX2_behind R_rf_behind_7 (kP D (tC cA) [.ref (ad 7), .int x1, .int x2] (wC n ad cA z) sz) (kI D (tC cA) r (wC n ad cA z) (wC n ad cA z) sz) 0 0 (va_A (wC n ad cA z) sz) := by
  refine ent (by decide) rfl rfl (Nat.le_of_ble_eq_true rfl) (fun p e s m args below meth c hsz C hS ls hl => ?_)
  subst hsz
  exact w_rf_behind_7_0 C k z x1 x2 r hf s.heap [] ls hS hl
-- rf_isGood_7: static boolean isGood(int[], int, int);
def R_rf_isGood_7 : Room := { frames := 2, cells := 0, slots := 0, locals := 52 }
def rf_isGood_7_b50 (n : Nat) (k : Nat) (z : SS) (x1 : Int32) (x3 : Int32) : Option Int32 :=
  (bo (rf_hasSum_7 n k z x1 (x3 - 8)) fun r_1 => (if bk r_1 = true then some r_1 else none))
def rf_isGood_7 (n : Nat) (k : Nat) (z : SS) (x1 : Int32) (x2 : Int32) : Option Int32 :=
  (bo (rf_behind_7 n k z x1 x2) fun r_1 => (if r_1 = (-1) then some 0 else (bo (rf_keyAt_7 n k z x1) fun r_2 => (bo (rf_isKey n k z r_2) fun r_3 => (if r_3 = 0 then some 0 else (bo (rf_numberAt_7 n k z x1) fun r_4 => (if 0 < r_4 then (if ck x1 (n * 200) = true then (if ((z.2 7) (Int32.toNatClampNeg x1)) = 2 then (bo (rf_contentsCountAt_7 n k z x1) fun r_5 => (if r_5 = 0 then rf_isGood_7_b50 n k z x1 r_1 else some 0)) else rf_isGood_7_b50 n k z x1 r_1) else none) else some 0)))))))
set_option maxHeartbeats 4000000 in
set_option maxRecDepth 100000 in
theorem w_rf_isGood_7_b50 {p : Program} {l : Launch} {e : Env} {s : State} {m : MethodId} {args : Array Value} {below : List Frame} {meth : Method} {c : Code} {D : va_G} {w0 : va_W} {n : Nat} {ad : Nat → Nat} {cA : Nat → ClassId} (C : Cx p s m args meth c cX2_isGood 4 (some .boolean) RX2 wsX2_isGood D (tC cA)) (k : Nat) (z : SS) (x1 : Int32) (x3 : Int32) (r : Int32) (hf : rf_isGood_7_b50 n k z x1 x3 = some r) : ∀ (H : Heap) (locs : List Loc) (ls : Array Slot), St D (va_A w0 s.heap.size) s.heap (wC n ad cA z) H locs → lv_has ls 4 [(0, .ref (ad 7)), (1, .int x1), (3, .int x3)] → W p l e R_rf_isGood_7 s m args below meth c H locs 0 0 (MQ below (kI D (tC cA) r w0 (wC n ad cA z) s.heap.size) args s 0 0 (va_A w0 s.heap.size)) (F0 m 50 ls []) := by
  obtain ⟨hx, hb, hr, hml, hown, hts, hlk, hK⟩ := id C
  intro H locs ls hS hl
  have hf : (bo (rf_hasSum_7 n k z x1 (x3 - 8)) fun r_1 => (if bk r_1 = true then some r_1 else none)) = some r := hf
  refine lv_aload_n hx hb dX2_isGood_50 rfl (lv_at hl 0 rfl) ?_
  refine lv_iload_n hx hb dX2_isGood_51 rfl (lv_at hl 1 rfl) ?_
  refine lv_iload_n hx hb dX2_isGood_52 rfl (lv_at hl 2 rfl) ?_
  refine lv_bipush (v := 8) hx hb dX2_isGood_53 (by decide) ?_
  refine lv_isub (x := x3) (y := 8) hx hb dX2_isGood_55 ?_
  obtain ⟨r_1, hcl, hf⟩ := bo_s hf
  refine rcSi (n := 3) (As := [.ref (ad 7), .int x1, .int (x3 - 8)]) (rest := []) (w' := (wC n ad cA z)) C hS (fun sz => c_rf_hasSum_7 l D n ad cA k z x1 (x3 - 8) r_1 hcl sz) gX2_isGood_X2_hasSum rfl ⟨rfl, rfl⟩ (by decide +kernel) ⟨Nat.le_of_ble_eq_true rfl, Nat.le_of_ble_eq_true rfl⟩ rfl hl.1 rfl (Nat.le_of_ble_eq_true rfl) dX2_isGood_56 (fun H locs hS => ?_)
  obtain ⟨hck, hf⟩ := cs hf
  cases hf
  exact rtz C hS hck dX2_isGood_59
set_option maxHeartbeats 4000000 in
set_option maxRecDepth 100000 in
theorem w_rf_isGood_7_0 {p : Program} {l : Launch} {e : Env} {s : State} {m : MethodId} {args : Array Value} {below : List Frame} {meth : Method} {c : Code} {D : va_G} {w0 : va_W} {n : Nat} {ad : Nat → Nat} {cA : Nat → ClassId} (C : Cx p s m args meth c cX2_isGood 4 (some .boolean) RX2 wsX2_isGood D (tC cA)) (k : Nat) (z : SS) (x1 : Int32) (x2 : Int32) (r : Int32) (hf : rf_isGood_7 n k z x1 x2 = some r) : ∀ (H : Heap) (locs : List Loc) (ls : Array Slot), St D (va_A w0 s.heap.size) s.heap (wC n ad cA z) H locs → lv_has ls 4 [(0, .ref (ad 7)), (1, .int x1), (2, .int x2)] → W p l e R_rf_isGood_7 s m args below meth c H locs 0 0 (MQ below (kI D (tC cA) r w0 (wC n ad cA z) s.heap.size) args s 0 0 (va_A w0 s.heap.size)) (F0 m 0 ls []) := by
  obtain ⟨hx, hb, hr, hml, hown, hts, hlk, hK⟩ := id C
  intro H locs ls hS hl
  have hf : (bo (rf_behind_7 n k z x1 x2) fun r_1 => (if r_1 = (-1) then some 0 else (bo (rf_keyAt_7 n k z x1) fun r_2 => (bo (rf_isKey n k z r_2) fun r_3 => (if r_3 = 0 then some 0 else (bo (rf_numberAt_7 n k z x1) fun r_4 => (if 0 < r_4 then (if ck x1 (n * 200) = true then (if ((z.2 7) (Int32.toNatClampNeg x1)) = 2 then (bo (rf_contentsCountAt_7 n k z x1) fun r_5 => (if r_5 = 0 then rf_isGood_7_b50 n k z x1 r_1 else some 0)) else rf_isGood_7_b50 n k z x1 r_1) else none) else some 0))))))) = some r := hf
  refine lv_aload_n hx hb dX2_isGood_0 rfl (lv_at hl 0 rfl) ?_
  refine lv_iload_n hx hb dX2_isGood_1 rfl (lv_at hl 1 rfl) ?_
  refine lv_iload_n hx hb dX2_isGood_2 rfl (lv_at hl 2 rfl) ?_
  obtain ⟨r_1, hcl, hf⟩ := bo_s hf
  refine rcSi (n := 3) (As := [.ref (ad 7), .int x1, .int x2]) (rest := []) (w' := (wC n ad cA z)) C hS (fun sz => c_rf_behind_7 l D n ad cA k z x1 x2 r_1 hcl sz) gX2_isGood_X2_behind rfl ⟨rfl, rfl⟩ (by decide +kernel) ⟨Nat.le_of_ble_eq_true rfl, Nat.le_of_ble_eq_true rfl⟩ rfl hl.1 rfl (Nat.le_of_ble_eq_true rfl) dX2_isGood_3 (fun H locs hS => ?_)
  refine lv_istore_n (lv' := [(3, .int r_1), (0, .ref (ad 7)), (1, .int x1), (2, .int x2)]) hx hb dX2_isGood_6 rfl hl (by decide) rfl (fun ls hl => ?_)
  refine lv_iload_n hx hb dX2_isGood_7 rfl (lv_at hl 0 rfl) ?_
  refine lv_iconst (v := (-1)) hx hb dX2_isGood_8 (by decide) ?_
  refine lv_icmp_eq (x := r_1) (y := (-1)) (tgt := 31) hx hb dX2_isGood_9 (by decide) (fun hc => ?_) (fun hc => ?_)
  · replace hf := it_t hc hf
    refine lv_iconst (v := 0) hx hb dX2_isGood_31 (by decide) ?_
    cases hf
    exact rtz C hS (by decide) dX2_isGood_32
  · replace hf := it_f hc hf
    refine lv_aload_n hx hb dX2_isGood_12 rfl (lv_at hl 1 rfl) ?_
    refine lv_iload_n hx hb dX2_isGood_13 rfl (lv_at hl 2 rfl) ?_
    obtain ⟨r_2, hcl, hf⟩ := bo_s hf
    refine rcSi (n := 2) (As := [.ref (ad 7), .int x1]) (rest := []) (w' := (wC n ad cA z)) C hS (fun sz => c_rf_keyAt_7 l D n ad cA k z x1 r_2 hcl sz) gX2_isGood_X2_keyAt rfl ⟨rfl, rfl⟩ (by decide +kernel) ⟨Nat.le_of_ble_eq_true rfl, Nat.le_of_ble_eq_true rfl⟩ rfl hl.1 rfl (Nat.le_of_ble_eq_true rfl) dX2_isGood_14 (fun H locs hS => ?_)
    obtain ⟨r_3, hcl, hf⟩ := bo_s hf
    refine rcSi (n := 1) (As := [.int r_2]) (rest := []) (w' := (wC n ad cA z)) C hS (fun sz => c_rf_isKey l D n ad cA k z r_2 r_3 hcl sz) gX2_isGood_X2_isKey rfl ⟨rfl, rfl⟩ (by decide +kernel) ⟨Nat.le_of_ble_eq_true rfl, Nat.le_of_ble_eq_true rfl⟩ rfl hl.1 rfl (Nat.le_of_ble_eq_true rfl) dX2_isGood_17 (fun H locs hS => ?_)
    refine lv_if_eq (x := r_3) (tgt := 31) hx hb dX2_isGood_20 (by decide) (fun hc => ?_) (fun hc => ?_)
    · replace hf := it_t hc hf
      refine lv_iconst (v := 0) hx hb dX2_isGood_31 (by decide) ?_
      cases hf
      exact rtz C hS (by decide) dX2_isGood_32
    · replace hf := it_f hc hf
      refine lv_aload_n hx hb dX2_isGood_23 rfl (lv_at hl 1 rfl) ?_
      refine lv_iload_n hx hb dX2_isGood_24 rfl (lv_at hl 2 rfl) ?_
      obtain ⟨r_4, hcl, hf⟩ := bo_s hf
      refine rcSi (n := 2) (As := [.ref (ad 7), .int x1]) (rest := []) (w' := (wC n ad cA z)) C hS (fun sz => c_rf_numberAt_7 l D n ad cA k z x1 r_4 hcl sz) gX2_isGood_X2_numberAt rfl ⟨rfl, rfl⟩ (by decide +kernel) ⟨Nat.le_of_ble_eq_true rfl, Nat.le_of_ble_eq_true rfl⟩ rfl hl.1 rfl (Nat.le_of_ble_eq_true rfl) dX2_isGood_25 (fun H locs hS => ?_)
      refine lv_if_gt (x := r_4) (tgt := 33) hx hb dX2_isGood_28 (by decide) (fun hc => ?_) (fun hc => ?_)
      · replace hf := it_t hc hf
        refine lv_aload_n hx hb dX2_isGood_33 rfl (lv_at hl 1 rfl) ?_
        refine lv_iload_n hx hb dX2_isGood_34 rfl (lv_at hl 2 rfl) ?_
        obtain ⟨hck, hf⟩ := cs hf
        refine lC_7 C hS (f := (z.2 7)) rfl (i := x1) hck dX2_isGood_35 ?_
        refine lv_iconst (v := 2) hx hb dX2_isGood_36 (by decide) ?_
        refine lv_icmp_ne (x := ((z.2 7) (Int32.toNatClampNeg x1))) (y := 2) (tgt := 50) hx hb dX2_isGood_37 (by decide) (fun hc => ?_) (fun hc => ?_)
        · replace hf := it_f hc hf
          exact w_rf_isGood_7_b50 C k z x1 r_1 r hf H locs ls hS (lv_sub hl [1, 2, 0] rfl)
        · replace hf := it_t hc hf
          refine lv_aload_n hx hb dX2_isGood_40 rfl (lv_at hl 1 rfl) ?_
          refine lv_iload_n hx hb dX2_isGood_41 rfl (lv_at hl 2 rfl) ?_
          obtain ⟨r_5, hcl, hf⟩ := bo_s hf
          refine rcSi (n := 2) (As := [.ref (ad 7), .int x1]) (rest := []) (w' := (wC n ad cA z)) C hS (fun sz => c_rf_contentsCountAt_7 l D n ad cA k z x1 r_5 hcl sz) gX2_isGood_X2_contentsCountAt rfl ⟨rfl, rfl⟩ (by decide +kernel) ⟨Nat.le_of_ble_eq_true rfl, Nat.le_of_ble_eq_true rfl⟩ rfl hl.1 rfl (Nat.le_of_ble_eq_true rfl) dX2_isGood_42 (fun H locs hS => ?_)
          refine lv_if_eq (x := r_5) (tgt := 50) hx hb dX2_isGood_45 (by decide) (fun hc => ?_) (fun hc => ?_)
          · replace hf := it_t hc hf
            exact w_rf_isGood_7_b50 C k z x1 r_1 r hf H locs ls hS (lv_sub hl [1, 2, 0] rfl)
          · replace hf := it_f hc hf
            refine lv_iconst (v := 0) hx hb dX2_isGood_48 (by decide) ?_
            cases hf
            exact rtz C hS (by decide) dX2_isGood_49
      · replace hf := it_f hc hf
        refine lv_iconst (v := 0) hx hb dX2_isGood_31 (by decide) ?_
        cases hf
        exact rtz C hS (by decide) dX2_isGood_32
set_option maxHeartbeats 4000000 in
set_option maxRecDepth 100000 in
theorem c_rf_isGood_7 (l : Launch) (D : va_G) (n : Nat) (ad : Nat → Nat) (cA : Nat → ClassId) (k : Nat) (z : SS) (x1 : Int32) (x2 : Int32) (r : Int32) (hf : rf_isGood_7 n k z x1 x2 = some r) (sz : Nat) : Met l yX2_isGood wsX2_isGood R_rf_isGood_7 (kP D (tC cA) [.ref (ad 7), .int x1, .int x2] (wC n ad cA z) sz) (kI D (tC cA) r (wC n ad cA z) (wC n ad cA z) sz) 0 0 (va_A (wC n ad cA z) sz) := by
  refine ent (by decide) rfl rfl (Nat.le_of_ble_eq_true rfl) (fun p e s m args below meth c hsz C hS ls hl => ?_)
  subst hsz
  exact w_rf_isGood_7_0 C k z x1 x2 r hf s.heap [] ls hS hl
