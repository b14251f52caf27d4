-- rm_thrown: public int thrown();
theorem lk_X6_thrown_67 : Cond.fieldLink RX6 67 (TX6 1).1 (TX6 1).2.1 (TX6 1).2.2.1 ∈ wsX6_thrown := by decide +kernel
theorem in_X6_thrown_X6 : ∀ x ∈ u_ws RX6 TX6 29, x ∈ wsX6_thrown := by decide +kernel
def R_rm_thrown : Room := { frames := 0, cells := 0, slots := 0, locals := 0 }
def rm_thrown (k : Nat) (z : SS) : Option Int32 :=
  some (z.1 1)
set_option maxHeartbeats 4000000 in
set_option maxRecDepth 100000 in
theorem w_rm_thrown_0 {p : Program} {l : Launch} {e : Env} {s : State} {m : MethodId} {args : Array Value} {below : List Frame} {meth : Method} {c : Code} {D : va_G} {w0 : va_W} {ad : Nat → Nat} {cA : Nat → ClassId} (C : Cx p s m args meth c cX6_thrown 1 (some .int) RX6 wsX6_thrown D (tM cA)) (k : Nat) (z : SS) (r : Int32) (hf : rm_thrown k z = some r) : ∀ (H : Heap) (locs : List Loc) (ls : Array Slot), St D (va_A w0 s.heap.size) s.heap (wM ad cA z) H locs → lv_has ls 1 [(0, .ref (ad 0))] → W p l e R_rm_thrown s m args below meth c H locs 0 0 (MQ below (kI D (tM cA) r w0 (wM ad cA z) s.heap.size) args s 0 0 (va_A w0 s.heap.size)) (F0 m 0 ls []) := by
  obtain ⟨hx, hb, hr, hml, hown, hts, hlk, hK⟩ := id C
  intro H locs ls hS hl
  have hf : some (z.1 1) = some r := hf
  refine lv_aload_n hx hb dX6_thrown_0 rfl (lv_at hl 0 rfl) ?_
  refine gM_1 C hS in_X6_thrown_X6 lk_X6_thrown_67 (v := (z.1 1)) rfl dX6_thrown_1 ?_
  cases hf
  exact rti C hS dX6_thrown_4
set_option maxHeartbeats 4000000 in
set_option maxRecDepth 100000 in
theorem c_rm_thrown (l : Launch) (D : va_G) (ad : Nat → Nat) (cA : Nat → ClassId) (k : Nat) (z : SS) (r : Int32) (hf : rm_thrown k z = some r) (sz : Nat) : Met l yX6_thrown wsX6_thrown R_rm_thrown (kP D (tM cA) [.ref (ad 0)] (wM ad cA z) sz) (kI D (tM cA) r (wM ad cA z) (wM ad cA z) sz) 0 0 (va_A (wM ad cA z) sz) := by
  refine ent (by decide) rfl rfl (Nat.le_of_ble_eq_true rfl) (fun p e s m args below meth c hsz C hS ls hl => ?_)
  subst hsz
  exact w_rm_thrown_0 C k z r hf s.heap [] ls hS hl
-- rm_in: private static boolean in(int, int, int);
def R_rm_in : Room := { frames := 0, cells := 0, slots := 0, locals := 0 }
def rm_in (k : Nat) (z : SS) (x0 : Int32) (x1 : Int32) (x2 : Int32) : Option Int32 :=
  (if x0 < x1 then some 0 else (if x2 < x0 then some 0 else some 1))
set_option maxHeartbeats 4000000 in
set_option maxRecDepth 100000 in
theorem w_rm_in_0 {p : Program} {l : Launch} {e : Env} {s : State} {m : MethodId} {args : Array Value} {below : List Frame} {meth : Method} {c : Code} {D : va_G} {w0 : va_W} {ad : Nat → Nat} {cA : Nat → ClassId} (C : Cx p s m args meth c cX6_in 3 (some .boolean) RX6 wsX6_in D (tM cA)) (k : Nat) (z : SS) (x0 : Int32) (x1 : Int32) (x2 : Int32) (r : Int32) (hf : rm_in k z x0 x1 x2 = some r) : ∀ (H : Heap) (locs : List Loc) (ls : Array Slot), St D (va_A w0 s.heap.size) s.heap (wM ad cA z) H locs → lv_has ls 3 [(0, .int x0), (1, .int x1), (2, .int x2)] → W p l e R_rm_in s m args below meth c H locs 0 0 (MQ below (kI D (tM cA) r w0 (wM ad cA z) s.heap.size) args s 0 0 (va_A w0 s.heap.size)) (F0 m 0 ls []) := by
  obtain ⟨hx, hb, hr, hml, hown, hts, hlk, hK⟩ := id C
  intro H locs ls hS hl
  have hf : (if x0 < x1 then some 0 else (if x2 < x0 then some 0 else some 1)) = some r := hf
  refine lv_iload_n hx hb dX6_in_0 rfl (lv_at hl 0 rfl) ?_
  refine lv_iload_n hx hb dX6_in_1 rfl (lv_at hl 1 rfl) ?_
  refine lv_icmp_lt (x := x0) (y := x1) (tgt := 14) hx hb dX6_in_2 (by decide) (fun hc => ?_) (fun hc => ?_)
  · replace hf := it_t hc hf
    refine lv_iconst (v := 0) hx hb dX6_in_14 (by decide) ?_
    cases hf
    exact rtz C hS (by decide) dX6_in_15
  · replace hf := it_f hc hf
    refine lv_iload_n hx hb dX6_in_5 rfl (lv_at hl 0 rfl) ?_
    refine lv_iload_n hx hb dX6_in_6 rfl (lv_at hl 2 rfl) ?_
    refine lv_icmp_gt (x := x0) (y := x2) (tgt := 14) hx hb dX6_in_7 (by decide) (fun hc => ?_) (fun hc => ?_)
    · replace hf := it_t hc hf
      refine lv_iconst (v := 0) hx hb dX6_in_14 (by decide) ?_
      cases hf
      exact rtz C hS (by decide) dX6_in_15
    · replace hf := it_f hc hf
      refine lv_iconst (v := 1) hx hb dX6_in_10 (by decide) ?_
      refine lv_goto (tgt := 15) hx hb dX6_in_11 (by decide) ?_
      cases hf
      exact rtz C hS (by decide) dX6_in_15
set_option maxHeartbeats 4000000 in
set_option maxRecDepth 100000 in
theorem c_rm_in (l : Launch) (D : va_G) (ad : Nat → Nat) (cA : Nat → ClassId) (k : Nat) (z : SS) (x0 : Int32) (x1 : Int32) (x2 : Int32) (r : Int32) (hf : rm_in k z x0 x1 x2 = some r) (sz : Nat) : Met l yX6_in wsX6_in R_rm_in (kP D (tM cA) [.int x0, .int x1, .int x2] (wM ad cA z) sz) (kI D (tM cA) r (wM ad cA z) (wM ad cA z) sz) 0 0 (va_A (wM ad cA z) sz) := by
  refine ent (by decide) rfl rfl (Nat.le_of_ble_eq_true rfl) (fun p e s m args below meth c hsz C hS ls hl => ?_)
  subst hsz
  exact w_rm_in_0 C k z x0 x1 x2 r hf s.heap [] ls hS hl
-- rm_number: private int number(int, int);
theorem lk_X6_number_7 : Cond.fieldLink RX6 7 (TX6 2).1 (TX6 2).2.1 (TX6 2).2.2.1 ∈ wsX6_number := by decide +kernel
theorem in_X6_number_X6 : ∀ x ∈ u_ws RX6 TX6 29, x ∈ wsX6_number := by decide +kernel
def R_rm_number : Room := { frames := 0, cells := 0, slots := 0, locals := 0 }
def rm_number_b5 (k : Nat) (z : SS) : Nat → Int32 → Int32 → Int32 → Int32 → Option Int32
  | 0, _, _, _, _ => none
  | fu + 1, x1, x2, x3, x4 => (if (x1 + x2) ≤ x4 then some x3 else (if ck x4 2400 = true then rm_number_b5 k z fu x1 x2 ((x3 <<< (8 &&& 31)) ||| ((z.2 1) (Int32.toNatClampNeg x4))) (x4 + 1) else none))
def rm_number (k : Nat) (z : SS) (x1 : Int32) (x2 : Int32) : Option Int32 :=
  rm_number_b5 k z k x1 x2 0 x1
set_option maxHeartbeats 4000000 in
set_option maxRecDepth 100000 in
theorem w_rm_number_b5 {p : Program} {l : Launch} {e : Env} {s : State} {m : MethodId} {args : Array Value} {below : List Frame} {meth : Method} {c : Code} {D : va_G} {w0 : va_W} {ad : Nat → Nat} {cA : Nat → ClassId} (C : Cx p s m args meth c cX6_number 5 (some .int) RX6 wsX6_number D (tM cA)) (k : Nat) (z : SS) : ∀ (fu : Nat) (x1 : Int32) (x2 : Int32) (x3 : Int32) (x4 : Int32) (r : Int32), rm_number_b5 k z fu x1 x2 x3 x4 = some r → ∀ (H : Heap) (locs : List Loc) (ls : Array Slot), St D (va_A w0 s.heap.size) s.heap (wM ad cA z) H locs → lv_has ls 5 [(0, .ref (ad 0)), (1, .int x1), (2, .int x2), (3, .int x3), (4, .int x4)] → W p l e R_rm_number s m args below meth c H locs 0 0 (MQ below (kI D (tM cA) r w0 (wM ad cA z) s.heap.size) args s 0 0 (va_A w0 s.heap.size)) (F0 m 5 ls []) := by
  obtain ⟨hx, hb, hr, hml, hown, hts, hlk, hK⟩ := id C
  intro fu
  induction fu with
  | zero =>
    intro x1 x2 x3 x4 r hf
    cases (show (none : Option Int32) = some r from hf)
  | succ fu ih =>
    intro x1 x2 x3 x4 r hf H locs ls hS hl
    have hf : (if (x1 + x2) ≤ x4 then some x3 else (if ck x4 2400 = true then rm_number_b5 k z fu x1 x2 ((x3 <<< (8 &&& 31)) ||| ((z.2 1) (Int32.toNatClampNeg x4))) (x4 + 1) else none)) = some r := hf
    refine lv_iload hx hb dX6_number_5 (lv_at hl 4 rfl) ?_
    refine lv_iload_n hx hb dX6_number_7 rfl (lv_at hl 1 rfl) ?_
    refine lv_iload_n hx hb dX6_number_8 rfl (lv_at hl 2 rfl) ?_
    refine lv_iadd (x := x1) (y := x2) hx hb dX6_number_9 ?_
    refine lv_icmp_ge (x := x4) (y := (x1 + x2)) (tgt := 32) hx hb dX6_number_10 (by decide) (fun hc => ?_) (fun hc => ?_)
    · replace hf := it_t hc hf
      refine lv_iload_n hx hb dX6_number_32 rfl (lv_at hl 3 rfl) ?_
      cases hf
      exact rti C hS dX6_number_33
    · replace hf := it_f hc hf
      refine lv_iload_n hx hb dX6_number_13 rfl (lv_at hl 3 rfl) ?_
      refine lv_bipush (v := 8) hx hb dX6_number_14 (by decide) ?_
      refine lv_ishl (x := x3) (y := 8) hx hb dX6_number_16 ?_
      refine lv_aload_n hx hb dX6_number_17 rfl (lv_at hl 0 rfl) ?_
      refine hM_1 C hS in_X6_number_X6 lk_X6_number_7 dX6_number_18 ?_
      refine lv_iload hx hb dX6_number_21 (lv_at hl 4 rfl) ?_
      obtain ⟨hck, hf⟩ := cs hf
      refine lM_1 C hS (f := (z.2 1)) rfl (i := x4) hck dX6_number_23 ?_
      refine lv_ior (x := (x3 <<< (8 &&& 31))) (y := ((z.2 1) (Int32.toNatClampNeg x4))) hx hb dX6_number_24 ?_
      refine lv_istore_n (lv' := [(3, .int ((x3 <<< (8 &&& 31)) ||| ((z.2 1) (Int32.toNatClampNeg x4)))), (0, .ref (ad 0)), (1, .int x1), (2, .int x2), (4, .int x4)]) hx hb dX6_number_25 rfl hl (by decide) rfl (fun ls hl => ?_)
      refine lv_iinc (v := (x4 + 1)) (lv' := [(4, .int (x4 + 1)), (3, .int ((x3 <<< (8 &&& 31)) ||| ((z.2 1) (Int32.toNatClampNeg x4)))), (0, .ref (ad 0)), (1, .int x1), (2, .int x2)]) hx hb dX6_number_26 hl (k := 4) rfl (congrArg (fun q => x4 + q) (by decide : Int32.ofInt 1 = (1 : Int32))) (by decide) rfl (fun ls hl => ?_)
      refine lv_goto (tgt := 5) hx hb dX6_number_29 (by decide) ?_
      exact ih x1 x2 ((x3 <<< (8 &&& 31)) ||| ((z.2 1) (Int32.toNatClampNeg x4))) (x4 + 1) r hf H locs ls hS (lv_sub hl [2, 3, 4, 1, 0] rfl)
set_option maxHeartbeats 4000000 in
set_option maxRecDepth 100000 in
theorem w_rm_number_0 {p : Program} {l : Launch} {e : Env} {s : State} {m : MethodId} {args : Array Value} {below : List Frame} {meth : Method} {c : Code} {D : va_G} {w0 : va_W} {ad : Nat → Nat} {cA : Nat → ClassId} (C : Cx p s m args meth c cX6_number 5 (some .int) RX6 wsX6_number D (tM cA)) (k : Nat) (z : SS) (x1 : Int32) (x2 : Int32) (r : Int32) (hf : rm_number k z x1 x2 = some r) : ∀ (H : Heap) (locs : List Loc) (ls : Array Slot), St D (va_A w0 s.heap.size) s.heap (wM ad cA z) H locs → lv_has ls 5 [(0, .ref (ad 0)), (1, .int x1), (2, .int x2)] → W p l e R_rm_number s m args below meth c H locs 0 0 (MQ below (kI D (tM cA) r w0 (wM ad cA z) s.heap.size) args s 0 0 (va_A w0 s.heap.size)) (F0 m 0 ls []) := by
  obtain ⟨hx, hb, hr, hml, hown, hts, hlk, hK⟩ := id C
  intro H locs ls hS hl
  have hf : rm_number_b5 k z k x1 x2 0 x1 = some r := hf
  refine lv_iconst (v := 0) hx hb dX6_number_0 (by decide) ?_
  refine lv_istore_n (lv' := [(3, .int 0), (0, .ref (ad 0)), (1, .int x1), (2, .int x2)]) hx hb dX6_number_1 rfl hl (by decide) rfl (fun ls hl => ?_)
  refine lv_iload_n hx hb dX6_number_2 rfl (lv_at hl 2 rfl) ?_
  refine lv_istore (lv' := [(4, .int x1), (3, .int 0), (0, .ref (ad 0)), (1, .int x1), (2, .int x2)]) hx hb dX6_number_3 hl (by decide) rfl (fun ls hl => ?_)
  exact w_rm_number_b5 C k z k x1 x2 0 x1 r hf H locs ls hS (lv_sub hl [2, 3, 4, 1, 0] rfl)
set_option maxHeartbeats 4000000 in
set_option maxRecDepth 100000 in
theorem c_rm_number (l : Launch) (D : va_G) (ad : Nat → Nat) (cA : Nat → ClassId) (k : Nat) (z : SS) (x1 : Int32) (x2 : Int32) (r : Int32) (hf : rm_number k z x1 x2 = some r) (sz : Nat) : Met l yX6_number wsX6_number R_rm_number (kP D (tM cA) [.ref (ad 0), .int x1, .int x2] (wM ad cA z) sz) (kI D (tM cA) r (wM ad cA z) (wM ad cA z) sz) 0 0 (va_A (wM ad cA z) sz) := by
  refine ent (by decide) rfl rfl (Nat.le_of_ble_eq_true rfl) (fun p e s m args below meth c hsz C hS ls hl => ?_)
  subst hsz
  exact w_rm_number_0 C k z x1 x2 r hf s.heap [] ls hS hl
-- rm_step: private static long step(long, int);
theorem lc_X6_step_70 : Cond.constantLong RX6 70 (-7046029254386353131) ∈ wsX6_step := by decide +kernel
def R_rm_step : Room := { frames := 0, cells := 0, slots := 0, locals := 0 }
def rm_step (k : Nat) (z : SS) (x0 : Int64) (x2 : Int32) : Option Int64 :=
  some (((jlshl (x0 ^^^ (Int32.toInt64 x2)) 45) ||| (jlushr (x0 ^^^ (Int32.toInt64 x2)) 19)) * (-7046029254386353131))
set_option maxHeartbeats 4000000 in
set_option maxRecDepth 100000 in
theorem w_rm_step_0 {p : Program} {l : Launch} {e : Env} {s : State} {m : MethodId} {args : Array Value} {below : List Frame} {meth : Method} {c : Code} {D : va_G} {w0 : va_W} {ad : Nat → Nat} {cA : Nat → ClassId} (C : Cx p s m args meth c cX6_step 5 (some .long) RX6 wsX6_step D (tM cA)) (k : Nat) (z : SS) (x0 : Int64) (x2 : Int32) (r : Int64) (hf : rm_step k z x0 x2 = some r) : ∀ (H : Heap) (locs : List Loc) (ls : Array Slot), St D (va_A w0 s.heap.size) s.heap (wM ad cA z) H locs → lv_has ls 5 [(0, .long x0), (2, .int x2)] → W p l e R_rm_step s m args below meth c H locs 0 0 (MQ below (kL D (tM cA) r w0 (wM ad cA z) s.heap.size) args s 0 0 (va_A w0 s.heap.size)) (F0 m 0 ls []) := by
  obtain ⟨hx, hb, hr, hml, hown, hts, hlk, hK⟩ := id C
  intro H locs ls hS hl
  have hf : some (((jlshl (x0 ^^^ (Int32.toInt64 x2)) 45) ||| (jlushr (x0 ^^^ (Int32.toInt64 x2)) 19)) * (-7046029254386353131)) = some r := hf
  refine lv_lload_n hx hb dX6_step_0 rfl (lv_at hl 0 rfl) ?_
  refine lv_iload_n hx hb dX6_step_1 rfl (lv_at hl 1 rfl) ?_
  refine lv_i2l (x := x2) (v := (Int32.toInt64 x2)) hx hb dX6_step_2 rfl ?_
  refine lv_lxor (x := x0) (y := (Int32.toInt64 x2)) hx hb dX6_step_3 ?_
  refine lv_lstore_n (lv' := [(3, .long (x0 ^^^ (Int32.toInt64 x2))), (0, .long x0), (2, .int x2)]) hx hb dX6_step_4 rfl hl (by decide) rfl (fun ls hl => ?_)
  refine lv_lload_n hx hb dX6_step_5 rfl (lv_at hl 0 rfl) ?_
  refine lv_bipush (v := 45) hx hb dX6_step_6 (by decide) ?_
  refine lv_lshl (x := (x0 ^^^ (Int32.toInt64 x2))) (y := 45) (v := (jlshl (x0 ^^^ (Int32.toInt64 x2)) 45)) hx hb dX6_step_8 rfl ?_
  refine lv_lload_n hx hb dX6_step_9 rfl (lv_at hl 0 rfl) ?_
  refine lv_bipush (v := 19) hx hb dX6_step_10 (by decide) ?_
  refine lv_lushr (x := (x0 ^^^ (Int32.toInt64 x2))) (y := 19) (v := (jlushr (x0 ^^^ (Int32.toInt64 x2)) 19)) hx hb dX6_step_12 rfl ?_
  refine lv_lor (x := (jlshl (x0 ^^^ (Int32.toInt64 x2)) 45)) (y := (jlushr (x0 ^^^ (Int32.toInt64 x2)) 19)) hx hb dX6_step_13 ?_
  refine lv_ldc2 (v := (-7046029254386353131)) hx hb hown (hts _ lc_X6_step_70) dX6_step_14 ?_
  refine lv_lmul (x := ((jlshl (x0 ^^^ (Int32.toInt64 x2)) 45) ||| (jlushr (x0 ^^^ (Int32.toInt64 x2)) 19))) (y := (-7046029254386353131)) hx hb dX6_step_17 ?_
  cases hf
  exact rtl C hS dX6_step_18
set_option maxHeartbeats 4000000 in
set_option maxRecDepth 100000 in
theorem c_rm_step (l : Launch) (D : va_G) (ad : Nat → Nat) (cA : Nat → ClassId) (k : Nat) (z : SS) (x0 : Int64) (x2 : Int32) (r : Int64) (hf : rm_step k z x0 x2 = some r) (sz : Nat) : Met l yX6_step wsX6_step R_rm_step (kP D (tM cA) [.long x0, .int x2] (wM ad cA z) sz) (kL D (tM cA) r (wM ad cA z) (wM ad cA z) sz) 0 0 (va_A (wM ad cA z) sz) := by
  refine ent (by decide) rfl rfl (Nat.le_of_ble_eq_true rfl) (fun p e s m args below meth c hsz C hS ls hl => ?_)
  subst hsz
  exact w_rm_step_0 C k z x0 x2 r hf s.heap [] ls hS hl
-- rm_hasSum: private boolean hasSum(int, int);
theorem lk_X6_hasSum_7 : Cond.fieldLink RX6 7 (TX6 2).1 (TX6 2).2.1 (TX6 2).2.2.1 ∈ wsX6_hasSum := by decide +kernel
theorem in_X6_hasSum_X6 : ∀ x ∈ u_ws RX6 TX6 29, x ∈ wsX6_hasSum := by decide +kernel
theorem lc_X6_hasSum_76 : Cond.constantLong RX6 76 255 ∈ wsX6_hasSum := by decide +kernel
def R_rm_hasSum : Room := { frames := 1, cells := 0, slots := 0, locals := 24 }
def rm_hasSum_b37 (k : Nat) (z : SS) : Nat → Int32 → Int32 → Int64 → Int32 → Int32 → Option Int32
  | 0, _, _, _, _, _ => none
  | fu + 1, x1, x2, x3, x5, x6 => (if 8 ≤ x6 then (if bk x5 = true then some x5 else none) else (if x5 = 0 then rm_hasSum_b37 k z fu x1 x2 x3 0 (x6 + 1) else (if ck ((x1 + x2) + x6) 2400 = true then (if ((z.2 1) (Int32.toNatClampNeg ((x1 + x2) + x6))) = (Int64.toInt32 ((jlushr x3 (56 - (8 * x6))) &&& 255)) then rm_hasSum_b37 k z fu x1 x2 x3 1 (x6 + 1) else rm_hasSum_b37 k z fu x1 x2 x3 0 (x6 + 1)) else none)))
def rm_hasSum_b5 (k : Nat) (z : SS) : Nat → Int32 → Int32 → Int64 → Int32 → Option Int32
  | 0, _, _, _, _ => none
  | fu + 1, x1, x2, x3, x5 => (if (x1 + x2) ≤ x5 then rm_hasSum_b37 k z k x1 x2 x3 1 0 else (if ck x5 2400 = true then (bo (rm_step k z x3 ((z.2 1) (Int32.toNatClampNeg x5))) fun r_1 => rm_hasSum_b5 k z fu x1 x2 r_1 (x5 + 1)) else none))
def rm_hasSum (k : Nat) (z : SS) (x1 : Int32) (x2 : Int32) : Option Int32 :=
  rm_hasSum_b5 k z k x1 x2 0 x1
set_option maxHeartbeats 4000000 in
set_option maxRecDepth 100000 in
theorem w_rm_hasSum_b37 {p : Program} {l : Launch} {e : Env} {s : State} {m : MethodId} {args : Array Value} {below : List Frame} {meth : Method} {c : Code} {D : va_G} {w0 : va_W} {ad : Nat → Nat} {cA : Nat → ClassId} (C : Cx p s m args meth c cX6_hasSum 7 (some .boolean) RX6 wsX6_hasSum D (tM cA)) (k : Nat) (z : SS) : ∀ (fu : Nat) (x1 : Int32) (x2 : Int32) (x3 : Int64) (x5 : Int32) (x6 : Int32) (r : Int32), rm_hasSum_b37 k z fu x1 x2 x3 x5 x6 = some r → ∀ (H : Heap) (locs : List Loc) (ls : Array Slot), St D (va_A w0 s.heap.size) s.heap (wM ad cA z) H locs → lv_has ls 7 [(0, .ref (ad 0)), (1, .int x1), (2, .int x2), (3, .long x3), (5, .int x5), (6, .int x6)] → W p l e R_rm_hasSum s m args below meth c H locs 0 0 (MQ below (kI D (tM cA) r w0 (wM ad cA z) s.heap.size) args s 0 0 (va_A w0 s.heap.size)) (F0 m 37 ls []) := by
  obtain ⟨hx, hb, hr, hml, hown, hts, hlk, hK⟩ := id C
  intro fu
  induction fu with
  | zero =>
    intro x1 x2 x3 x5 x6 r hf
    cases (show (none : Option Int32) = some r from hf)
  | succ fu ih =>
    intro x1 x2 x3 x5 x6 r hf H locs ls hS hl
    have hf : (if 8 ≤ x6 then (if bk x5 = true then some x5 else none) else (if x5 = 0 then rm_hasSum_b37 k z fu x1 x2 x3 0 (x6 + 1) else (if ck ((x1 + x2) + x6) 2400 = true then (if ((z.2 1) (Int32.toNatClampNeg ((x1 + x2) + x6))) = (Int64.toInt32 ((jlushr x3 (56 - (8 * x6))) &&& 255)) then rm_hasSum_b37 k z fu x1 x2 x3 1 (x6 + 1) else rm_hasSum_b37 k z fu x1 x2 x3 0 (x6 + 1)) else none))) = some r := hf
    refine lv_iload hx hb dX6_hasSum_37 (lv_at hl 5 rfl) ?_
    refine lv_bipush (v := 8) hx hb dX6_hasSum_39 (by decide) ?_
    refine lv_icmp_ge (x := x6) (y := 8) (tgt := 91) hx hb dX6_hasSum_41 (by decide) (fun hc => ?_) (fun hc => ?_)
    · replace hf := it_t hc hf
      refine lv_iload hx hb dX6_hasSum_91 (lv_at hl 4 rfl) ?_
      obtain ⟨hck, hf⟩ := cs hf
      cases hf
      exact rtz C hS hck dX6_hasSum_93
    · replace hf := it_f hc hf
      refine lv_iload hx hb dX6_hasSum_44 (lv_at hl 4 rfl) ?_
      refine lv_if_eq (x := x5) (tgt := 82) hx hb dX6_hasSum_46 (by decide) (fun hc => ?_) (fun hc => ?_)
      · replace hf := it_t hc hf
        refine lv_iconst (v := 0) hx hb dX6_hasSum_82 (by decide) ?_
        refine lv_istore (lv' := [(5, .int 0), (0, .ref (ad 0)), (1, .int x1), (2, .int x2), (3, .long x3), (6, .int x6)]) hx hb dX6_hasSum_83 hl (by decide) rfl (fun ls hl => ?_)
        refine lv_iinc (v := (x6 + 1)) (lv' := [(6, .int (x6 + 1)), (5, .int 0), (0, .ref (ad 0)), (1, .int x1), (2, .int x2), (3, .long x3)]) hx hb dX6_hasSum_85 hl (k := 5) rfl (congrArg (fun q => x6 + q) (by decide : Int32.ofInt 1 = (1 : Int32))) (by decide) rfl (fun ls hl => ?_)
        refine lv_goto (tgt := 37) hx hb dX6_hasSum_88 (by decide) ?_
        exact ih x1 x2 x3 0 (x6 + 1) r hf H locs ls hS (lv_sub hl [2, 3, 4, 5, 1, 0] rfl)
      · replace hf := it_f hc hf
        refine lv_aload_n hx hb dX6_hasSum_49 rfl (lv_at hl 0 rfl) ?_
        refine hM_1 C hS in_X6_hasSum_X6 lk_X6_hasSum_7 dX6_hasSum_50 ?_
        refine lv_iload_n hx hb dX6_hasSum_53 rfl (lv_at hl 1 rfl) ?_
        refine lv_iload_n hx hb dX6_hasSum_54 rfl (lv_at hl 2 rfl) ?_
        refine lv_iadd (x := x1) (y := x2) hx hb dX6_hasSum_55 ?_
        refine lv_iload hx hb dX6_hasSum_56 (lv_at hl 5 rfl) ?_
        refine lv_iadd (x := (x1 + x2)) (y := x6) hx hb dX6_hasSum_58 ?_
        obtain ⟨hck, hf⟩ := cs hf
        refine lM_1 C hS (f := (z.2 1)) rfl (i := ((x1 + x2) + x6)) hck dX6_hasSum_59 ?_
        refine lv_lload_n hx hb dX6_hasSum_60 rfl (lv_at hl 3 rfl) ?_
        refine lv_bipush (v := 56) hx hb dX6_hasSum_61 (by decide) ?_
        refine lv_bipush (v := 8) hx hb dX6_hasSum_63 (by decide) ?_
        refine lv_iload hx hb dX6_hasSum_65 (lv_at hl 5 rfl) ?_
        refine lv_imul (x := 8) (y := x6) hx hb dX6_hasSum_67 ?_
        refine lv_isub (x := 56) (y := (8 * x6)) hx hb dX6_hasSum_68 ?_
        refine lv_lushr (x := x3) (y := (56 - (8 * x6))) (v := (jlushr x3 (56 - (8 * x6)))) hx hb dX6_hasSum_69 rfl ?_
        refine lv_ldc2 (v := 255) hx hb hown (hts _ lc_X6_hasSum_76) dX6_hasSum_70 ?_
        refine lv_land (x := (jlushr x3 (56 - (8 * x6)))) (y := 255) hx hb dX6_hasSum_73 ?_
        refine lv_l2i (x := ((jlushr x3 (56 - (8 * x6))) &&& 255)) (v := (Int64.toInt32 ((jlushr x3 (56 - (8 * x6))) &&& 255))) hx hb dX6_hasSum_74 rfl ?_
        refine lv_icmp_ne (x := ((z.2 1) (Int32.toNatClampNeg ((x1 + x2) + x6)))) (y := (Int64.toInt32 ((jlushr x3 (56 - (8 * x6))) &&& 255))) (tgt := 82) hx hb dX6_hasSum_75 (by decide) (fun hc => ?_) (fun hc => ?_)
        · replace hf := it_f hc hf
          refine lv_iconst (v := 0) hx hb dX6_hasSum_82 (by decide) ?_
          refine lv_istore (lv' := [(5, .int 0), (0, .ref (ad 0)), (1, .int x1), (2, .int x2), (3, .long x3), (6, .int x6)]) hx hb dX6_hasSum_83 hl (by decide) rfl (fun ls hl => ?_)
          refine lv_iinc (v := (x6 + 1)) (lv' := [(6, .int (x6 + 1)), (5, .int 0), (0, .ref (ad 0)), (1, .int x1), (2, .int x2), (3, .long x3)]) hx hb dX6_hasSum_85 hl (k := 5) rfl (congrArg (fun q => x6 + q) (by decide : Int32.ofInt 1 = (1 : Int32))) (by decide) rfl (fun ls hl => ?_)
          refine lv_goto (tgt := 37) hx hb dX6_hasSum_88 (by decide) ?_
          exact ih x1 x2 x3 0 (x6 + 1) r hf H locs ls hS (lv_sub hl [2, 3, 4, 5, 1, 0] rfl)
        · replace hf := it_t hc hf
          refine lv_iconst (v := 1) hx hb dX6_hasSum_78 (by decide) ?_
          refine lv_goto (tgt := 83) hx hb dX6_hasSum_79 (by decide) ?_
          refine lv_istore (lv' := [(5, .int 1), (0, .ref (ad 0)), (1, .int x1), (2, .int x2), (3, .long x3), (6, .int x6)]) hx hb dX6_hasSum_83 hl (by decide) rfl (fun ls hl => ?_)
          refine lv_iinc (v := (x6 + 1)) (lv' := [(6, .int (x6 + 1)), (5, .int 1), (0, .ref (ad 0)), (1, .int x1), (2, .int x2), (3, .long x3)]) hx hb dX6_hasSum_85 hl (k := 5) rfl (congrArg (fun q => x6 + q) (by decide : Int32.ofInt 1 = (1 : Int32))) (by decide) rfl (fun ls hl => ?_)
          refine lv_goto (tgt := 37) hx hb dX6_hasSum_88 (by decide) ?_
          exact ih x1 x2 x3 1 (x6 + 1) r hf H locs ls hS (lv_sub hl [2, 3, 4, 5, 1, 0] rfl)
set_option maxHeartbeats 4000000 in
set_option maxRecDepth 100000 in
theorem w_rm_hasSum_b5 {p : Program} {l : Launch} {e : Env} {s : State} {m : MethodId} {args : Array Value} {below : List Frame} {meth : Method} {c : Code} {D : va_G} {w0 : va_W} {ad : Nat → Nat} {cA : Nat → ClassId} (C : Cx p s m args meth c cX6_hasSum 7 (some .boolean) RX6 wsX6_hasSum D (tM cA)) (k : Nat) (z : SS) : ∀ (fu : Nat) (x1 : Int32) (x2 : Int32) (x3 : Int64) (x5 : Int32) (r : Int32), rm_hasSum_b5 k z fu x1 x2 x3 x5 = some r → ∀ (H : Heap) (locs : List Loc) (ls : Array Slot), St D (va_A w0 s.heap.size) s.heap (wM ad cA z) H locs → lv_has ls 7 [(0, .ref (ad 0)), (1, .int x1), (2, .int x2), (3, .long x3), (5, .int x5)] → W p l e R_rm_hasSum s m args below meth c H locs 0 0 (MQ below (kI D (tM cA) r w0 (wM ad cA z) s.heap.size) args s 0 0 (va_A w0 s.heap.size)) (F0 m 5 ls []) := by
  obtain ⟨hx, hb, hr, hml, hown, hts, hlk, hK⟩ := id C
  intro fu
  induction fu with
  | zero =>
    intro x1 x2 x3 x5 r hf
    cases (show (none : Option Int32) = some r from hf)
  | succ fu ih =>
    intro x1 x2 x3 x5 r hf H locs ls hS hl
    have hf : (if (x1 + x2) ≤ x5 then rm_hasSum_b37 k z k x1 x2 x3 1 0 else (if ck x5 2400 = true then (bo (rm_step k z x3 ((z.2 1) (Int32.toNatClampNeg x5))) fun r_1 => rm_hasSum_b5 k z fu x1 x2 r_1 (x5 + 1)) else none)) = some r := hf
    refine lv_iload hx hb dX6_hasSum_5 (lv_at hl 4 rfl) ?_
    refine lv_iload_n hx hb dX6_hasSum_7 rfl (lv_at hl 1 rfl) ?_
    refine lv_iload_n hx hb dX6_hasSum_8 rfl (lv_at hl 2 rfl) ?_
    refine lv_iadd (x := x1) (y := x2) hx hb dX6_hasSum_9 ?_
    refine lv_icmp_ge (x := x5) (y := (x1 + x2)) (tgt := 31) hx hb dX6_hasSum_10 (by decide) (fun hc => ?_) (fun hc => ?_)
    · replace hf := it_t hc hf
      refine lv_iconst (v := 1) hx hb dX6_hasSum_31 (by decide) ?_
      refine lv_istore (lv' := [(5, .int 1), (0, .ref (ad 0)), (1, .int x1), (2, .int x2), (3, .long x3)]) hx hb dX6_hasSum_32 hl (by decide) rfl (fun ls hl => ?_)
      refine lv_iconst (v := 0) hx hb dX6_hasSum_34 (by decide) ?_
      refine lv_istore (lv' := [(6, .int 0), (5, .int 1), (0, .ref (ad 0)), (1, .int x1), (2, .int x2), (3, .long x3)]) hx hb dX6_hasSum_35 hl (by decide) rfl (fun ls hl => ?_)
      exact w_rm_hasSum_b37 C k z k x1 x2 x3 1 0 r hf H locs ls hS (lv_sub hl [2, 3, 4, 5, 1, 0] rfl)
    · replace hf := it_f hc hf
      refine lv_lload_n hx hb dX6_hasSum_13 rfl (lv_at hl 3 rfl) ?_
      refine lv_aload_n hx hb dX6_hasSum_14 rfl (lv_at hl 0 rfl) ?_
      refine hM_1 C hS in_X6_hasSum_X6 lk_X6_hasSum_7 dX6_hasSum_15 ?_
      refine lv_iload hx hb dX6_hasSum_18 (lv_at hl 4 rfl) ?_
      obtain ⟨hck, hf⟩ := cs hf
      refine lM_1 C hS (f := (z.2 1)) rfl (i := x5) hck dX6_hasSum_20 ?_
      obtain ⟨r_1, hcl, hf⟩ := bo_s hf
      refine rcSl (n := 2) (As := [.long x3, .int ((z.2 1) (Int32.toNatClampNeg x5))]) (rest := []) (w' := (wM ad cA z)) C hS (fun sz => c_rm_step l D ad cA k z x3 ((z.2 1) (Int32.toNatClampNeg x5)) r_1 hcl sz) gX6_hasSum_X6_step rfl ⟨rfl, rfl⟩ (by decide +kernel) ⟨Nat.le_of_ble_eq_true rfl, Nat.le_of_ble_eq_true rfl⟩ rfl hl.1 rfl (Nat.le_of_ble_eq_true rfl) dX6_hasSum_21 (fun H locs hS => ?_)
      refine lv_lstore_n (lv' := [(3, .long r_1), (0, .ref (ad 0)), (1, .int x1), (2, .int x2), (5, .int x5)]) hx hb dX6_hasSum_24 rfl hl (by decide) rfl (fun ls hl => ?_)
      refine lv_iinc (v := (x5 + 1)) (lv' := [(5, .int (x5 + 1)), (3, .long r_1), (0, .ref (ad 0)), (1, .int x1), (2, .int x2)]) hx hb dX6_hasSum_25 hl (k := 4) rfl (congrArg (fun q => x5 + q) (by decide : Int32.ofInt 1 = (1 : Int32))) (by decide) rfl (fun ls hl => ?_)
      refine lv_goto (tgt := 5) hx hb dX6_hasSum_28 (by decide) ?_
      exact ih x1 x2 r_1 (x5 + 1) r hf H locs ls hS (lv_sub hl [2, 3, 4, 1, 0] rfl)
set_option maxHeartbeats 4000000 in
set_option maxRecDepth 100000 in
theorem w_rm_hasSum_0 {p : Program} {l : Launch} {e : Env} {s : State} {m : MethodId} {args : Array Value} {below : List Frame} {meth : Method} {c : Code} {D : va_G} {w0 : va_W} {ad : Nat → Nat} {cA : Nat → ClassId} (C : Cx p s m args meth c cX6_hasSum 7 (some .boolean) RX6 wsX6_hasSum D (tM cA)) (k : Nat) (z : SS) (x1 : Int32) (x2 : Int32) (r : Int32) (hf : rm_hasSum k z x1 x2 = some r) : ∀ (H : Heap) (locs : List Loc) (ls : Array Slot), St D (va_A w0 s.heap.size) s.heap (wM ad cA z) H locs → lv_has ls 7 [(0, .ref (ad 0)), (1, .int x1), (2, .int x2)] → W p l e R_rm_hasSum s m args below meth c H locs 0 0 (MQ below (kI D (tM cA) r w0 (wM ad cA z) s.heap.size) args s 0 0 (va_A w0 s.heap.size)) (F0 m 0 ls []) := by
  obtain ⟨hx, hb, hr, hml, hown, hts, hlk, hK⟩ := id C
  intro H locs ls hS hl
  have hf : rm_hasSum_b5 k z k x1 x2 0 x1 = some r := hf
  refine lv_lconst (v := 0) hx hb dX6_hasSum_0 (by decide) ?_
  refine lv_lstore_n (lv' := [(3, .long 0), (0, .ref (ad 0)), (1, .int x1), (2, .int x2)]) hx hb dX6_hasSum_1 rfl hl (by decide) rfl (fun ls hl => ?_)
  refine lv_iload_n hx hb dX6_hasSum_2 rfl (lv_at hl 2 rfl) ?_
  refine lv_istore (lv' := [(5, .int x1), (3, .long 0), (0, .ref (ad 0)), (1, .int x1), (2, .int x2)]) hx hb dX6_hasSum_3 hl (by decide) rfl (fun ls hl => ?_)
  exact w_rm_hasSum_b5 C k z k x1 x2 0 x1 r hf H locs ls hS (lv_sub hl [2, 3, 4, 1, 0] rfl)
set_option maxHeartbeats 4000000 in
set_option maxRecDepth 100000 in
theorem c_rm_hasSum (l : Launch) (D : va_G) (ad : Nat → Nat) (cA : Nat → ClassId) (k : Nat) (z : SS) (x1 : Int32) (x2 : Int32) (r : Int32) (hf : rm_hasSum k z x1 x2 = some r) (sz : Nat) : Met l yX6_hasSum wsX6_hasSum R_rm_hasSum (kP D (tM cA) [.ref (ad 0), .int x1, .int x2] (wM ad cA z) sz) (kI D (tM cA) r (wM ad cA z) (wM ad cA z) sz) 0 0 (va_A (wM ad cA z) sz) := by
  refine ent (by decide) rfl rfl (Nat.le_of_ble_eq_true rfl) (fun p e s m args below meth c hsz C hS ls hl => ?_)
  subst hsz
  exact w_rm_hasSum_0 C k z x1 x2 r hf s.heap [] ls hS hl
-- rm_sizeAt: private int sizeAt(int, int);
theorem lk_X6_sizeAt_7 : Cond.fieldLink RX6 7 (TX6 2).1 (TX6 2).2.1 (TX6 2).2.2.1 ∈ wsX6_sizeAt := by decide +kernel
theorem in_X6_sizeAt_X6 : ∀ x ∈ u_ws RX6 TX6 29, x ∈ wsX6_sizeAt := by decide +kernel
def R_rm_sizeAt : Room := { frames := 1, cells := 0, slots := 0, locals := 22 }
def rm_sizeAt (k : Nat) (z : SS) (x1 : Int32) (x2 : Int32) : Option Int32 :=
  (if ck ((200 * x1) + x2) 2400 = true then (bo (rm_in k z ((z.2 1) (Int32.toNatClampNeg ((200 * x1) + x2))) 1 2) fun r_1 => (if r_1 = 0 then some 0 else (if 200 < (x2 + 8) then some 0 else (if ck (((200 * x1) + x2) + 7) 2400 = true then (if ((z.2 1) (Int32.toNatClampNeg (((200 * x1) + x2) + 7))) ≤ 20 then (if ck (((200 * x1) + x2) + 7) 2400 = true then (if (x2 + ((8 + ((z.2 1) (Int32.toNatClampNeg (((200 * x1) + x2) + 7)))) + 8)) ≤ 200 then some ((8 + ((z.2 1) (Int32.toNatClampNeg (((200 * x1) + x2) + 7)))) + 8) else some 0) else none) else some 0) else none)))) else none)
set_option maxHeartbeats 4000000 in
set_option maxRecDepth 100000 in
theorem w_rm_sizeAt_0 {p : Program} {l : Launch} {e : Env} {s : State} {m : MethodId} {args : Array Value} {below : List Frame} {meth : Method} {c : Code} {D : va_G} {w0 : va_W} {ad : Nat → Nat} {cA : Nat → ClassId} (C : Cx p s m args meth c cX6_sizeAt 5 (some .int) RX6 wsX6_sizeAt D (tM cA)) (k : Nat) (z : SS) (x1 : Int32) (x2 : Int32) (r : Int32) (hf : rm_sizeAt k z x1 x2 = some r) : ∀ (H : Heap) (locs : List Loc) (ls : Array Slot), St D (va_A w0 s.heap.size) s.heap (wM ad cA z) H locs → lv_has ls 5 [(0, .ref (ad 0)), (1, .int x1), (2, .int x2)] → W p l e R_rm_sizeAt s m args below meth c H locs 0 0 (MQ below (kI D (tM cA) r w0 (wM ad cA z) s.heap.size) args s 0 0 (va_A w0 s.heap.size)) (F0 m 0 ls []) := by
  obtain ⟨hx, hb, hr, hml, hown, hts, hlk, hK⟩ := id C
  intro H locs ls hS hl
  have hf : (if ck ((200 * x1) + x2) 2400 = true then (bo (rm_in k z ((z.2 1) (Int32.toNatClampNeg ((200 * x1) + x2))) 1 2) fun r_1 => (if r_1 = 0 then some 0 else (if 200 < (x2 + 8) then some 0 else (if ck (((200 * x1) + x2) + 7) 2400 = true then (if ((z.2 1) (Int32.toNatClampNeg (((200 * x1) + x2) + 7))) ≤ 20 then (if ck (((200 * x1) + x2) + 7) 2400 = true then (if (x2 + ((8 + ((z.2 1) (Int32.toNatClampNeg (((200 * x1) + x2) + 7)))) + 8)) ≤ 200 then some ((8 + ((z.2 1) (Int32.toNatClampNeg (((200 * x1) + x2) + 7)))) + 8) else some 0) else none) else some 0) else none)))) else none) = some r := hf
  refine lv_sipush (v := 200) hx hb dX6_sizeAt_0 (by decide) ?_
  refine lv_iload_n hx hb dX6_sizeAt_3 rfl (lv_at hl 1 rfl) ?_
  refine lv_imul (x := 200) (y := x1) hx hb dX6_sizeAt_4 ?_
  refine lv_iload_n hx hb dX6_sizeAt_5 rfl (lv_at hl 2 rfl) ?_
  refine lv_iadd (x := (200 * x1)) (y := x2) hx hb dX6_sizeAt_6 ?_
  refine lv_istore_n (lv' := [(3, .int ((200 * x1) + x2)), (0, .ref (ad 0)), (1, .int x1), (2, .int x2)]) hx hb dX6_sizeAt_7 rfl hl (by decide) rfl (fun ls hl => ?_)
  refine lv_aload_n hx hb dX6_sizeAt_8 rfl (lv_at hl 1 rfl) ?_
  refine hM_1 C hS in_X6_sizeAt_X6 lk_X6_sizeAt_7 dX6_sizeAt_9 ?_
  refine lv_iload_n hx hb dX6_sizeAt_12 rfl (lv_at hl 0 rfl) ?_
  obtain ⟨hck, hf⟩ := cs hf
  refine lM_1 C hS (f := (z.2 1)) rfl (i := ((200 * x1) + x2)) hck dX6_sizeAt_13 ?_
  refine lv_iconst (v := 1) hx hb dX6_sizeAt_14 (by decide) ?_
  refine lv_iconst (v := 2) hx hb dX6_sizeAt_15 (by decide) ?_
  obtain ⟨r_1, hcl, hf⟩ := bo_s hf
  refine rcSi (n := 3) (As := [.int ((z.2 1) (Int32.toNatClampNeg ((200 * x1) + x2))), .int 1, .int 2]) (rest := []) (w' := (wM ad cA z)) C hS (fun sz => c_rm_in l D ad cA k z ((z.2 1) (Int32.toNatClampNeg ((200 * x1) + x2))) 1 2 r_1 hcl sz) gX6_sizeAt_X6_in rfl ⟨rfl, rfl⟩ (by decide +kernel) ⟨Nat.le_of_ble_eq_true rfl, Nat.le_of_ble_eq_true rfl⟩ rfl hl.1 rfl (Nat.le_of_ble_eq_true rfl) dX6_sizeAt_16 (fun H locs hS => ?_)
  refine lv_if_eq (x := r_1) (tgt := 46) hx hb dX6_sizeAt_19 (by decide) (fun hc => ?_) (fun hc => ?_)
  · replace hf := it_t hc hf
    refine lv_iconst (v := 0) hx hb dX6_sizeAt_46 (by decide) ?_
    cases hf
    exact rti C hS dX6_sizeAt_47
  · replace hf := it_f hc hf
    refine lv_iload_n hx hb dX6_sizeAt_22 rfl (lv_at hl 3 rfl) ?_
    refine lv_bipush (v := 8) hx hb dX6_sizeAt_23 (by decide) ?_
    refine lv_iadd (x := x2) (y := 8) hx hb dX6_sizeAt_25 ?_
    refine lv_sipush (v := 200) hx hb dX6_sizeAt_26 (by decide) ?_
    refine lv_icmp_gt (x := (x2 + 8)) (y := 200) (tgt := 46) hx hb dX6_sizeAt_29 (by decide) (fun hc => ?_) (fun hc => ?_)
    · replace hf := it_t hc hf
      refine lv_iconst (v := 0) hx hb dX6_sizeAt_46 (by decide) ?_
      cases hf
      exact rti C hS dX6_sizeAt_47
    · replace hf := it_f hc hf
      refine lv_aload_n hx hb dX6_sizeAt_32 rfl (lv_at hl 1 rfl) ?_
      refine hM_1 C hS in_X6_sizeAt_X6 lk_X6_sizeAt_7 dX6_sizeAt_33 ?_
      refine lv_iload_n hx hb dX6_sizeAt_36 rfl (lv_at hl 0 rfl) ?_
      refine lv_bipush (v := 7) hx hb dX6_sizeAt_37 (by decide) ?_
      refine lv_iadd (x := ((200 * x1) + x2)) (y := 7) hx hb dX6_sizeAt_39 ?_
      obtain ⟨hck, hf⟩ := cs hf
      refine lM_1 C hS (f := (z.2 1)) rfl (i := (((200 * x1) + x2) + 7)) hck dX6_sizeAt_40 ?_
      refine lv_bipush (v := 20) hx hb dX6_sizeAt_41 (by decide) ?_
      refine lv_icmp_le (x := ((z.2 1) (Int32.toNatClampNeg (((200 * x1) + x2) + 7)))) (y := 20) (tgt := 48) hx hb dX6_sizeAt_43 (by decide) (fun hc => ?_) (fun hc => ?_)
      · replace hf := it_t hc hf
        refine lv_bipush (v := 8) hx hb dX6_sizeAt_48 (by decide) ?_
        refine lv_aload_n hx hb dX6_sizeAt_50 rfl (lv_at hl 1 rfl) ?_
        refine hM_1 C hS in_X6_sizeAt_X6 lk_X6_sizeAt_7 dX6_sizeAt_51 ?_
        refine lv_iload_n hx hb dX6_sizeAt_54 rfl (lv_at hl 0 rfl) ?_
        refine lv_bipush (v := 7) hx hb dX6_sizeAt_55 (by decide) ?_
        refine lv_iadd (x := ((200 * x1) + x2)) (y := 7) hx hb dX6_sizeAt_57 ?_
        obtain ⟨hck, hf⟩ := cs hf
        refine lM_1 C hS (f := (z.2 1)) rfl (i := (((200 * x1) + x2) + 7)) hck dX6_sizeAt_58 ?_
        refine lv_iadd (x := 8) (y := ((z.2 1) (Int32.toNatClampNeg (((200 * x1) + x2) + 7)))) hx hb dX6_sizeAt_59 ?_
        refine lv_bipush (v := 8) hx hb dX6_sizeAt_60 (by decide) ?_
        refine lv_iadd (x := (8 + ((z.2 1) (Int32.toNatClampNeg (((200 * x1) + x2) + 7))))) (y := 8) hx hb dX6_sizeAt_62 ?_
        refine lv_istore (lv' := [(4, .int ((8 + ((z.2 1) (Int32.toNatClampNeg (((200 * x1) + x2) + 7)))) + 8)), (3, .int ((200 * x1) + x2)), (0, .ref (ad 0)), (1, .int x1), (2, .int x2)]) hx hb dX6_sizeAt_63 hl (by decide) rfl (fun ls hl => ?_)
        refine lv_iload_n hx hb dX6_sizeAt_65 rfl (lv_at hl 4 rfl) ?_
        refine lv_iload hx hb dX6_sizeAt_66 (lv_at hl 0 rfl) ?_
        refine lv_iadd (x := x2) (y := ((8 + ((z.2 1) (Int32.toNatClampNeg (((200 * x1) + x2) + 7)))) + 8)) hx hb dX6_sizeAt_68 ?_
        refine lv_sipush (v := 200) hx hb dX6_sizeAt_69 (by decide) ?_
        refine lv_icmp_le (x := (x2 + ((8 + ((z.2 1) (Int32.toNatClampNeg (((200 * x1) + x2) + 7)))) + 8))) (y := 200) (tgt := 79) hx hb dX6_sizeAt_72 (by decide) (fun hc => ?_) (fun hc => ?_)
        · replace hf := it_t hc hf
          refine lv_iload hx hb dX6_sizeAt_79 (lv_at hl 0 rfl) ?_
          cases hf
          exact rti C hS dX6_sizeAt_81
        · replace hf := it_f hc hf
          refine lv_iconst (v := 0) hx hb dX6_sizeAt_75 (by decide) ?_
          refine lv_goto (tgt := 81) hx hb dX6_sizeAt_76 (by decide) ?_
          cases hf
          exact rti C hS dX6_sizeAt_81
      · replace hf := it_f hc hf
        refine lv_iconst (v := 0) hx hb dX6_sizeAt_46 (by decide) ?_
        cases hf
        exact rti C hS dX6_sizeAt_47
set_option maxHeartbeats 4000000 in
set_option maxRecDepth 100000 in
theorem c_rm_sizeAt (l : Launch) (D : va_G) (ad : Nat → Nat) (cA : Nat → ClassId) (k : Nat) (z : SS) (x1 : Int32) (x2 : Int32) (r : Int32) (hf : rm_sizeAt k z x1 x2 = some r) (sz : Nat) : Met l yX6_sizeAt wsX6_sizeAt R_rm_sizeAt (kP D (tM cA) [.ref (ad 0), .int x1, .int x2] (wM ad cA z) sz) (kI D (tM cA) r (wM ad cA z) (wM ad cA z) sz) 0 0 (va_A (wM ad cA z) sz) := by
  refine ent (by decide) rfl rfl (Nat.le_of_ble_eq_true rfl) (fun p e s m args below meth c hsz C hS ls hl => ?_)
  subst hsz
  exact w_rm_sizeAt_0 C k z x1 x2 r hf s.heap [] ls hS hl
-- rm_isGood: private boolean isGood(int, int);
theorem lk_X6_isGood_7 : Cond.fieldLink RX6 7 (TX6 2).1 (TX6 2).2.1 (TX6 2).2.2.1 ∈ wsX6_isGood := by decide +kernel
theorem in_X6_isGood_X6 : ∀ x ∈ u_ws RX6 TX6 29, x ∈ wsX6_isGood := by decide +kernel
def R_rm_isGood : Room := { frames := 2, cells := 0, slots := 0, locals := 50 }
def rm_isGood_b78 (k : Nat) (z : SS) (x3 : Int32) (x4 : Int32) (y0 : Int32) : Option Int32 :=
  (if y0 = 0 then some 0 else (bo (rm_hasSum k z x4 (x3 - 8)) fun r_1 => (if r_1 = 0 then some 0 else some 1)))
def rm_isGood_b77 (k : Nat) (z : SS) (x3 : Int32) (x4 : Int32) : Option Int32 :=
  rm_isGood_b78 k z x3 x4 0
def rm_isGood_b73 (k : Nat) (z : SS) (x3 : Int32) (x4 : Int32) : Option Int32 :=
  rm_isGood_b78 k z x3 x4 1
def rm_isGood (k : Nat) (z : SS) (x1 : Int32) (x2 : Int32) : Option Int32 :=
  (bo (rm_sizeAt k z x1 x2) fun r_1 => (if r_1 = 0 then some 0 else (bo (rm_number k z (((200 * x1) + x2) + 1) 2) fun r_2 => (if 1000 ≤ r_2 then rm_isGood_b77 k z r_1 ((200 * x1) + x2) else (bo (rm_number k z (((200 * x1) + x2) + 3) 4) fun r_3 => (if r_3 ≤ 0 then rm_isGood_b77 k z r_1 ((200 * x1) + x2) else (if ck ((200 * x1) + x2) 2400 = true then (if ((z.2 1) (Int32.toNatClampNeg ((200 * x1) + x2))) = 1 then rm_isGood_b73 k z r_1 ((200 * x1) + x2) else (if ck (((200 * x1) + x2) + 7) 2400 = true then (if ((z.2 1) (Int32.toNatClampNeg (((200 * x1) + x2) + 7))) = 0 then rm_isGood_b73 k z r_1 ((200 * x1) + x2) else rm_isGood_b77 k z r_1 ((200 * x1) + x2)) else none)) else none)))))))
set_option maxHeartbeats 4000000 in
set_option maxRecDepth 100000 in
theorem w_rm_isGood_b78 {p : Program} {l : Launch} {e : Env} {s : State} {m : MethodId} {args : Array Value} {below : List Frame} {meth : Method} {c : Code} {D : va_G} {w0 : va_W} {ad : Nat → Nat} {cA : Nat → ClassId} (C : Cx p s m args meth c cX6_isGood 6 (some .boolean) RX6 wsX6_isGood D (tM cA)) (k : Nat) (z : SS) (x3 : Int32) (x4 : Int32) (y0 : Int32) (r : Int32) (hf : rm_isGood_b78 k z x3 x4 y0 = some r) : ∀ (H : Heap) (locs : List Loc) (ls : Array Slot), St D (va_A w0 s.heap.size) s.heap (wM ad cA z) H locs → lv_has ls 6 [(0, .ref (ad 0)), (3, .int x3), (4, .int x4)] → W p l e R_rm_isGood s m args below meth c H locs 0 0 (MQ below (kI D (tM cA) r w0 (wM ad cA z) s.heap.size) args s 0 0 (va_A w0 s.heap.size)) (F0 m 78 ls [.int y0]) := by
  obtain ⟨hx, hb, hr, hml, hown, hts, hlk, hK⟩ := id C
  intro H locs ls hS hl
  have hf : (if y0 = 0 then some 0 else (bo (rm_hasSum k z x4 (x3 - 8)) fun r_1 => (if r_1 = 0 then some 0 else some 1))) = some r := hf
  refine lv_istore (lv' := [(5, .int y0), (0, .ref (ad 0)), (3, .int x3), (4, .int x4)]) hx hb dX6_isGood_78 hl (by decide) rfl (fun ls hl => ?_)
  refine lv_iload hx hb dX6_isGood_80 (lv_at hl 0 rfl) ?_
  refine lv_if_eq (x := y0) (tgt := 102) hx hb dX6_isGood_82 (by decide) (fun hc => ?_) (fun hc => ?_)
  · replace hf := it_t hc hf
    refine lv_iconst (v := 0) hx hb dX6_isGood_102 (by decide) ?_
    cases hf
    exact rtz C hS (by decide) dX6_isGood_103
  · replace hf := it_f hc hf
    refine lv_aload_n hx hb dX6_isGood_85 rfl (lv_at hl 1 rfl) ?_
    refine lv_iload hx hb dX6_isGood_86 (lv_at hl 3 rfl) ?_
    refine lv_iload_n hx hb dX6_isGood_88 rfl (lv_at hl 2 rfl) ?_
    refine lv_bipush (v := 8) hx hb dX6_isGood_89 (by decide) ?_
    refine lv_isub (x := x3) (y := 8) hx hb dX6_isGood_91 ?_
    obtain ⟨r_1, hcl, hf⟩ := bo_s hf
    refine rcVi (n := 2) (As := [.int x4, .int (x3 - 8)]) (rest := []) (q0 := 0) (w' := (wM ad cA z)) C hS (fun sz => c_rm_hasSum l D ad cA k z x4 (x3 - 8) r_1 hcl sz) gX6_isGood_X6_hasSum rfl ⟨rfl, rfl⟩ (by decide +kernel) ⟨Nat.le_of_ble_eq_true rfl, Nat.le_of_ble_eq_true rfl⟩ oM_0 rfl rfl hl.1 rfl (Nat.le_of_ble_eq_true rfl) dX6_isGood_92 (fun H locs hS => ?_)
    refine lv_if_eq (x := r_1) (tgt := 102) hx hb dX6_isGood_95 (by decide) (fun hc => ?_) (fun hc => ?_)
    · replace hf := it_t hc hf
      refine lv_iconst (v := 0) hx hb dX6_isGood_102 (by decide) ?_
      cases hf
      exact rtz C hS (by decide) dX6_isGood_103
    · replace hf := it_f hc hf
      refine lv_iconst (v := 1) hx hb dX6_isGood_98 (by decide) ?_
      refine lv_goto (tgt := 103) hx hb dX6_isGood_99 (by decide) ?_
      cases hf
      exact rtz C hS (by decide) dX6_isGood_103
set_option maxHeartbeats 4000000 in
set_option maxRecDepth 100000 in
theorem w_rm_isGood_b77 {p : Program} {l : Launch} {e : Env} {s : State} {m : MethodId} {args : Array Value} {below : List Frame} {meth : Method} {c : Code} {D : va_G} {w0 : va_W} {ad : Nat → Nat} {cA : Nat → ClassId} (C : Cx p s m args meth c cX6_isGood 6 (some .boolean) RX6 wsX6_isGood D (tM cA)) (k : Nat) (z : SS) (x3 : Int32) (x4 : Int32) (r : Int32) (hf : rm_isGood_b77 k z x3 x4 = some r) : ∀ (H : Heap) (locs : List Loc) (ls : Array Slot), St D (va_A w0 s.heap.size) s.heap (wM ad cA z) H locs → lv_has ls 6 [(0, .ref (ad 0)), (3, .int x3), (4, .int x4)] → W p l e R_rm_isGood s m args below meth c H locs 0 0 (MQ below (kI D (tM cA) r w0 (wM ad cA z) s.heap.size) args s 0 0 (va_A w0 s.heap.size)) (F0 m 77 ls []) := by
  obtain ⟨hx, hb, hr, hml, hown, hts, hlk, hK⟩ := id C
  intro H locs ls hS hl
  have hf : rm_isGood_b78 k z x3 x4 0 = some r := hf
  refine lv_iconst (v := 0) hx hb dX6_isGood_77 (by decide) ?_
  exact w_rm_isGood_b78 C k z x3 x4 0 r hf H locs ls hS (lv_sub hl [0, 1, 2] rfl)
set_option maxHeartbeats 4000000 in
set_option maxRecDepth 100000 in
theorem w_rm_isGood_b73 {p : Program} {l : Launch} {e : Env} {s : State} {m : MethodId} {args : Array Value} {below : List Frame} {meth : Method} {c : Code} {D : va_G} {w0 : va_W} {ad : Nat → Nat} {cA : Nat → ClassId} (C : Cx p s m args meth c cX6_isGood 6 (some .boolean) RX6 wsX6_isGood D (tM cA)) (k : Nat) (z : SS) (x3 : Int32) (x4 : Int32) (r : Int32) (hf : rm_isGood_b73 k z x3 x4 = some r) : ∀ (H : Heap) (locs : List Loc) (ls : Array Slot), St D (va_A w0 s.heap.size) s.heap (wM ad cA z) H locs → lv_has ls 6 [(0, .ref (ad 0)), (3, .int x3), (4, .int x4)] → W p l e R_rm_isGood s m args below meth c H locs 0 0 (MQ below (kI D (tM cA) r w0 (wM ad cA z) s.heap.size) args s 0 0 (va_A w0 s.heap.size)) (F0 m 73 ls []) := by
  obtain ⟨hx, hb, hr, hml, hown, hts, hlk, hK⟩ := id C
  intro H locs ls hS hl
  have hf : rm_isGood_b78 k z x3 x4 1 = some r := hf
  refine lv_iconst (v := 1) hx hb dX6_isGood_73 (by decide) ?_
  refine lv_goto (tgt := 78) hx hb dX6_isGood_74 (by decide) ?_
  exact w_rm_isGood_b78 C k z x3 x4 1 r hf H locs ls hS (lv_sub hl [0, 1, 2] rfl)
set_option maxHeartbeats 4000000 in
set_option maxRecDepth 100000 in
theorem w_rm_isGood_0 {p : Program} {l : Launch} {e : Env} {s : State} {m : MethodId} {args : Array Value} {below : List Frame} {meth : Method} {c : Code} {D : va_G} {w0 : va_W} {ad : Nat → Nat} {cA : Nat → ClassId} (C : Cx p s m args meth c cX6_isGood 6 (some .boolean) RX6 wsX6_isGood D (tM cA)) (k : Nat) (z : SS) (x1 : Int32) (x2 : Int32) (r : Int32) (hf : rm_isGood k z x1 x2 = some r) : ∀ (H : Heap) (locs : List Loc) (ls : Array Slot), St D (va_A w0 s.heap.size) s.heap (wM ad cA z) H locs → lv_has ls 6 [(0, .ref (ad 0)), (1, .int x1), (2, .int x2)] → W p l e R_rm_isGood s m args below meth c H locs 0 0 (MQ below (kI D (tM cA) r w0 (wM ad cA z) s.heap.size) args s 0 0 (va_A w0 s.heap.size)) (F0 m 0 ls []) := by
  obtain ⟨hx, hb, hr, hml, hown, hts, hlk, hK⟩ := id C
  intro H locs ls hS hl
  have hf : (bo (rm_sizeAt k z x1 x2) fun r_1 => (if r_1 = 0 then some 0 else (bo (rm_number k z (((200 * x1) + x2) + 1) 2) fun r_2 => (if 1000 ≤ r_2 then rm_isGood_b77 k z r_1 ((200 * x1) + x2) else (bo (rm_number k z (((200 * x1) + x2) + 3) 4) fun r_3 => (if r_3 ≤ 0 then rm_isGood_b77 k z r_1 ((200 * x1) + x2) else (if ck ((200 * x1) + x2) 2400 = true then (if ((z.2 1) (Int32.toNatClampNeg ((200 * x1) + x2))) = 1 then rm_isGood_b73 k z r_1 ((200 * x1) + x2) else (if ck (((200 * x1) + x2) + 7) 2400 = true then (if ((z.2 1) (Int32.toNatClampNeg (((200 * x1) + x2) + 7))) = 0 then rm_isGood_b73 k z r_1 ((200 * x1) + x2) else rm_isGood_b77 k z r_1 ((200 * x1) + x2)) else none)) else none))))))) = some r := hf
  refine lv_aload_n hx hb dX6_isGood_0 rfl (lv_at hl 0 rfl) ?_
  refine lv_iload_n hx hb dX6_isGood_1 rfl (lv_at hl 1 rfl) ?_
  refine lv_iload_n hx hb dX6_isGood_2 rfl (lv_at hl 2 rfl) ?_
  obtain ⟨r_1, hcl, hf⟩ := bo_s hf
  refine rcVi (n := 2) (As := [.int x1, .int x2]) (rest := []) (q0 := 0) (w' := (wM ad cA z)) C hS (fun sz => c_rm_sizeAt l D ad cA k z x1 x2 r_1 hcl sz) gX6_isGood_X6_sizeAt rfl ⟨rfl, rfl⟩ (by decide +kernel) ⟨Nat.le_of_ble_eq_true rfl, Nat.le_of_ble_eq_true rfl⟩ oM_0 rfl rfl hl.1 rfl (Nat.le_of_ble_eq_true rfl) dX6_isGood_3 (fun H locs hS => ?_)
  refine lv_istore_n (lv' := [(3, .int r_1), (0, .ref (ad 0)), (1, .int x1), (2, .int x2)]) hx hb dX6_isGood_6 rfl hl (by decide) rfl (fun ls hl => ?_)
  refine lv_sipush (v := 200) hx hb dX6_isGood_7 (by decide) ?_
  refine lv_iload_n hx hb dX6_isGood_10 rfl (lv_at hl 2 rfl) ?_
  refine lv_imul (x := 200) (y := x1) hx hb dX6_isGood_11 ?_
  refine lv_iload_n hx hb dX6_isGood_12 rfl (lv_at hl 3 rfl) ?_
  refine lv_iadd (x := (200 * x1)) (y := x2) hx hb dX6_isGood_13 ?_
  refine lv_istore (lv' := [(4, .int ((200 * x1) + x2)), (3, .int r_1), (0, .ref (ad 0)), (1, .int x1), (2, .int x2)]) hx hb dX6_isGood_14 hl (by decide) rfl (fun ls hl => ?_)
  refine lv_iload_n hx hb dX6_isGood_16 rfl (lv_at hl 1 rfl) ?_
  refine lv_if_ne (x := r_1) (tgt := 22) hx hb dX6_isGood_17 (by decide) (fun hc => ?_) (fun hc => ?_)
  · replace hf := it_f hc hf
    refine lv_aload_n hx hb dX6_isGood_22 rfl (lv_at hl 2 rfl) ?_
    refine lv_iload hx hb dX6_isGood_23 (lv_at hl 0 rfl) ?_
    refine lv_iconst (v := 1) hx hb dX6_isGood_25 (by decide) ?_
    refine lv_iadd (x := ((200 * x1) + x2)) (y := 1) hx hb dX6_isGood_26 ?_
    refine lv_iconst (v := 2) hx hb dX6_isGood_27 (by decide) ?_
    obtain ⟨r_2, hcl, hf⟩ := bo_s hf
    refine rcVi (n := 2) (As := [.int (((200 * x1) + x2) + 1), .int 2]) (rest := []) (q0 := 0) (w' := (wM ad cA z)) C hS (fun sz => c_rm_number l D ad cA k z (((200 * x1) + x2) + 1) 2 r_2 hcl sz) gX6_isGood_X6_number rfl ⟨rfl, rfl⟩ (by decide +kernel) ⟨Nat.le_of_ble_eq_true rfl, Nat.le_of_ble_eq_true rfl⟩ oM_0 rfl rfl hl.1 rfl (Nat.le_of_ble_eq_true rfl) dX6_isGood_28 (fun H locs hS => ?_)
    refine lv_sipush (v := 1000) hx hb dX6_isGood_31 (by decide) ?_
    refine lv_icmp_ge (x := r_2) (y := 1000) (tgt := 77) hx hb dX6_isGood_34 (by decide) (fun hc => ?_) (fun hc => ?_)
    · replace hf := it_t hc hf
      exact w_rm_isGood_b77 C k z r_1 ((200 * x1) + x2) r hf H locs ls hS (lv_sub hl [2, 1, 0] rfl)
    · replace hf := it_f hc hf
      refine lv_aload_n hx hb dX6_isGood_37 rfl (lv_at hl 2 rfl) ?_
      refine lv_iload hx hb dX6_isGood_38 (lv_at hl 0 rfl) ?_
      refine lv_iconst (v := 3) hx hb dX6_isGood_40 (by decide) ?_
      refine lv_iadd (x := ((200 * x1) + x2)) (y := 3) hx hb dX6_isGood_41 ?_
      refine lv_iconst (v := 4) hx hb dX6_isGood_42 (by decide) ?_
      obtain ⟨r_3, hcl, hf⟩ := bo_s hf
      refine rcVi (n := 2) (As := [.int (((200 * x1) + x2) + 3), .int 4]) (rest := []) (q0 := 0) (w' := (wM ad cA z)) C hS (fun sz => c_rm_number l D ad cA k z (((200 * x1) + x2) + 3) 4 r_3 hcl sz) gX6_isGood_X6_number rfl ⟨rfl, rfl⟩ (by decide +kernel) ⟨Nat.le_of_ble_eq_true rfl, Nat.le_of_ble_eq_true rfl⟩ oM_0 rfl rfl hl.1 rfl (Nat.le_of_ble_eq_true rfl) dX6_isGood_43 (fun H locs hS => ?_)
      refine lv_if_le (x := r_3) (tgt := 77) hx hb dX6_isGood_46 (by decide) (fun hc => ?_) (fun hc => ?_)
      · replace hf := it_t hc hf
        exact w_rm_isGood_b77 C k z r_1 ((200 * x1) + x2) r hf H locs ls hS (lv_sub hl [2, 1, 0] rfl)
      · replace hf := it_f hc hf
        refine lv_aload_n hx hb dX6_isGood_49 rfl (lv_at hl 2 rfl) ?_
        refine hM_1 C hS in_X6_isGood_X6 lk_X6_isGood_7 dX6_isGood_50 ?_
        refine lv_iload hx hb dX6_isGood_53 (lv_at hl 0 rfl) ?_
        obtain ⟨hck, hf⟩ := cs hf
        refine lM_1 C hS (f := (z.2 1)) rfl (i := ((200 * x1) + x2)) hck dX6_isGood_55 ?_
        refine lv_iconst (v := 1) hx hb dX6_isGood_56 (by decide) ?_
        refine lv_icmp_eq (x := ((z.2 1) (Int32.toNatClampNeg ((200 * x1) + x2)))) (y := 1) (tgt := 73) hx hb dX6_isGood_57 (by decide) (fun hc => ?_) (fun hc => ?_)
        · replace hf := it_t hc hf
          exact w_rm_isGood_b73 C k z r_1 ((200 * x1) + x2) r hf H locs ls hS (lv_sub hl [2, 1, 0] rfl)
        · replace hf := it_f hc hf
          refine lv_aload_n hx hb dX6_isGood_60 rfl (lv_at hl 2 rfl) ?_
          refine hM_1 C hS in_X6_isGood_X6 lk_X6_isGood_7 dX6_isGood_61 ?_
          refine lv_iload hx hb dX6_isGood_64 (lv_at hl 0 rfl) ?_
          refine lv_bipush (v := 7) hx hb dX6_isGood_66 (by decide) ?_
          refine lv_iadd (x := ((200 * x1) + x2)) (y := 7) hx hb dX6_isGood_68 ?_
          obtain ⟨hck, hf⟩ := cs hf
          refine lM_1 C hS (f := (z.2 1)) rfl (i := (((200 * x1) + x2) + 7)) hck dX6_isGood_69 ?_
          refine lv_if_ne (x := ((z.2 1) (Int32.toNatClampNeg (((200 * x1) + x2) + 7)))) (tgt := 77) hx hb dX6_isGood_70 (by decide) (fun hc => ?_) (fun hc => ?_)
          · replace hf := it_f hc hf
            exact w_rm_isGood_b77 C k z r_1 ((200 * x1) + x2) r hf H locs ls hS (lv_sub hl [2, 1, 0] rfl)
          · replace hf := it_t hc hf
            exact w_rm_isGood_b73 C k z r_1 ((200 * x1) + x2) r hf H locs ls hS (lv_sub hl [2, 1, 0] rfl)
  · replace hf := it_t hc hf
    refine lv_iconst (v := 0) hx hb dX6_isGood_20 (by decide) ?_
    cases hf
    exact rtz C hS (by decide) dX6_isGood_21
set_option maxHeartbeats 4000000 in
set_option maxRecDepth 100000 in
theorem c_rm_isGood (l : Launch) (D : va_G) (ad : Nat → Nat) (cA : Nat → ClassId) (k : Nat) (z : SS) (x1 : Int32) (x2 : Int32) (r : Int32) (hf : rm_isGood k z x1 x2 = some r) (sz : Nat) : Met l yX6_isGood wsX6_isGood R_rm_isGood (kP D (tM cA) [.ref (ad 0), .int x1, .int x2] (wM ad cA z) sz) (kI D (tM cA) r (wM ad cA z) (wM ad cA z) sz) 0 0 (va_A (wM ad cA z) sz) := by
  refine ent (by decide) rfl rfl (Nat.le_of_ble_eq_true rfl) (fun p e s m args below meth c hsz C hS ls hl => ?_)
  subst hsz
  exact w_rm_isGood_0 C k z x1 x2 r hf s.heap [] ls hS hl
