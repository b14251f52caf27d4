-- sg_has: boolean has(int);
theorem lk_X3_has_15 : Cond.fieldLink RX3 15 (TX3 0).1 (TX3 0).2.1 (TX3 0).2.2.1 ∈ wsX3_has := by decide +kernel
theorem in_X3_has_X3 : ∀ x ∈ u_ws RX3 TX3 6, x ∈ wsX3_has := by decide +kernel
def R_sg_has : Room := { frames := 0, cells := 0, slots := 0, locals := 0 }
def sg_has (n : Nat) (k : Nat) (z : SS) (x1 : Int32) : Option Int32 :=
  (if x1 < 0 then some 0 else (if (z.1 20) ≤ x1 then some 0 else some 1))
set_option maxHeartbeats 4000000 in
set_option maxRecDepth 100000 in
theorem w_sg_has_0 {p : Program} {l : Launch} {e : Env} {s : State} {m : MethodId} {args : Array Value} {below : List Frame} {meth : Method} {c : Code} {D : va_G} {w0 : va_W} {n : Nat} {ad : Nat → Nat} {cA : Nat → ClassId} (C : Cx p s m args meth c cX3_has 2 (some .boolean) RX3 wsX3_has D (tC cA)) (k : Nat) (z : SS) (x1 : Int32) (r : Int32) (hf : sg_has n k z x1 = some r) : ∀ (H : Heap) (locs : List Loc) (ls : Array Slot), St D (va_A w0 s.heap.size) s.heap (wC n ad cA z) H locs → lv_has ls 2 [(0, .ref (ad 1)), (1, .int x1)] → W p l e R_sg_has s m args below meth c H locs 0 0 (MQ below (kI D (tC cA) r w0 (wC n ad cA z) s.heap.size) args s 0 0 (va_A w0 s.heap.size)) (F0 m 0 ls []) := by
  obtain ⟨hx, hb, hr, hml, hown, hts, hlk, hK⟩ := id C
  intro H locs ls hS hl
  have hf : (if x1 < 0 then some 0 else (if (z.1 20) ≤ x1 then some 0 else some 1)) = some r := hf
  refine lv_iload_n hx hb dX3_has_0 rfl (lv_at hl 1 rfl) ?_
  refine lv_if_lt (x := x1) (tgt := 16) hx hb dX3_has_1 (by decide) (fun hc => ?_) (fun hc => ?_)
  · replace hf := it_t hc hf
    refine lv_iconst (v := 0) hx hb dX3_has_16 (by decide) ?_
    cases hf
    exact rtz C hS (by decide) dX3_has_17
  · replace hf := it_f hc hf
    refine lv_iload_n hx hb dX3_has_4 rfl (lv_at hl 1 rfl) ?_
    refine lv_aload_n hx hb dX3_has_5 rfl (lv_at hl 0 rfl) ?_
    refine gC_20 C hS in_X3_has_X3 lk_X3_has_15 (v := (z.1 20)) rfl dX3_has_6 ?_
    refine lv_icmp_ge (x := x1) (y := (z.1 20)) (tgt := 16) hx hb dX3_has_9 (by decide) (fun hc => ?_) (fun hc => ?_)
    · replace hf := it_t hc hf
      refine lv_iconst (v := 0) hx hb dX3_has_16 (by decide) ?_
      cases hf
      exact rtz C hS (by decide) dX3_has_17
    · replace hf := it_f hc hf
      refine lv_iconst (v := 1) hx hb dX3_has_12 (by decide) ?_
      refine lv_goto (tgt := 17) hx hb dX3_has_13 (by decide) ?_
      cases hf
      exact rtz C hS (by decide) dX3_has_17
set_option maxHeartbeats 4000000 in
set_option maxRecDepth 100000 in
theorem c_sg_has (l : Launch) (D : va_G) (n : Nat) (ad : Nat → Nat) (cA : Nat → ClassId) (k : Nat) (z : SS) (x1 : Int32) (r : Int32) (hf : sg_has n k z x1 = some r) (sz : Nat) : Met l yX3_has wsX3_has R_sg_has (kP D (tC cA) [.ref (ad 1), .int x1] (wC n ad cA z) sz) (kI D (tC cA) r (wC n ad cA z) (wC n ad cA z) sz) 0 0 (va_A (wC n ad cA z) sz) := by
  refine ent (by decide) rfl rfl (Nat.le_of_ble_eq_true rfl) (fun p e s m args below meth c hsz C hS ls hl => ?_)
  subst hsz
  exact w_sg_has_0 C k z x1 r hf s.heap [] ls hS hl
-- sg_isFree: boolean isFree(int);
theorem lk_X3_isFree_18 : Cond.fieldLink RX3 18 (TX3 1).1 (TX3 1).2.1 (TX3 1).2.2.1 ∈ wsX3_isFree := by decide +kernel
theorem in_X3_isFree_X3 : ∀ x ∈ u_ws RX3 TX3 6, x ∈ wsX3_isFree := by decide +kernel
def R_sg_isFree : Room := { frames := 0, cells := 0, slots := 0, locals := 0 }
def sg_isFree (n : Nat) (k : Nat) (z : SS) (x1 : Int32) : Option Int32 :=
  (if ck (x1 * 200) (n * 200) = true then (if ((z.2 7) (Int32.toNatClampNeg (x1 * 200))) = 0 then some 1 else some 0) else none)
set_option maxHeartbeats 4000000 in
set_option maxRecDepth 100000 in
theorem w_sg_isFree_0 {p : Program} {l : Launch} {e : Env} {s : State} {m : MethodId} {args : Array Value} {below : List Frame} {meth : Method} {c : Code} {D : va_G} {w0 : va_W} {n : Nat} {ad : Nat → Nat} {cA : Nat → ClassId} (C : Cx p s m args meth c cX3_isFree 2 (some .boolean) RX3 wsX3_isFree D (tC cA)) (k : Nat) (z : SS) (x1 : Int32) (r : Int32) (hf : sg_isFree n k z x1 = some r) : ∀ (H : Heap) (locs : List Loc) (ls : Array Slot), St D (va_A w0 s.heap.size) s.heap (wC n ad cA z) H locs → lv_has ls 2 [(0, .ref (ad 1)), (1, .int x1)] → W p l e R_sg_isFree s m args below meth c H locs 0 0 (MQ below (kI D (tC cA) r w0 (wC n ad cA z) s.heap.size) args s 0 0 (va_A w0 s.heap.size)) (F0 m 0 ls []) := by
  obtain ⟨hx, hb, hr, hml, hown, hts, hlk, hK⟩ := id C
  intro H locs ls hS hl
  have hf : (if ck (x1 * 200) (n * 200) = true then (if ((z.2 7) (Int32.toNatClampNeg (x1 * 200))) = 0 then some 1 else some 0) else none) = some r := hf
  refine lv_aload_n hx hb dX3_isFree_0 rfl (lv_at hl 0 rfl) ?_
  refine hC_7 C hS in_X3_isFree_X3 lk_X3_isFree_18 dX3_isFree_1 ?_
  refine lv_iload_n hx hb dX3_isFree_4 rfl (lv_at hl 1 rfl) ?_
  refine lv_sipush (v := 200) hx hb dX3_isFree_5 (by decide) ?_
  refine lv_imul (x := x1) (y := 200) hx hb dX3_isFree_8 ?_
  obtain ⟨hck, hf⟩ := cs hf
  refine lC_7 C hS (f := (z.2 7)) rfl (i := (x1 * 200)) hck dX3_isFree_9 ?_
  refine lv_if_ne (x := ((z.2 7) (Int32.toNatClampNeg (x1 * 200)))) (tgt := 17) hx hb dX3_isFree_10 (by decide) (fun hc => ?_) (fun hc => ?_)
  · replace hf := it_f hc hf
    refine lv_iconst (v := 0) hx hb dX3_isFree_17 (by decide) ?_
    cases hf
    exact rtz C hS (by decide) dX3_isFree_18
  · replace hf := it_t hc hf
    refine lv_iconst (v := 1) hx hb dX3_isFree_13 (by decide) ?_
    refine lv_goto (tgt := 18) hx hb dX3_isFree_14 (by decide) ?_
    cases hf
    exact rtz C hS (by decide) dX3_isFree_18
set_option maxHeartbeats 4000000 in
set_option maxRecDepth 100000 in
theorem c_sg_isFree (l : Launch) (D : va_G) (n : Nat) (ad : Nat → Nat) (cA : Nat → ClassId) (k : Nat) (z : SS) (x1 : Int32) (r : Int32) (hf : sg_isFree n k z x1 = some r) (sz : Nat) : Met l yX3_isFree wsX3_isFree R_sg_isFree (kP D (tC cA) [.ref (ad 1), .int x1] (wC n ad cA z) sz) (kI D (tC cA) r (wC n ad cA z) (wC n ad cA z) sz) 0 0 (va_A (wC n ad cA z) sz) := by
  refine ent (by decide) rfl rfl (Nat.le_of_ble_eq_true rfl) (fun p e s m args below meth c hsz C hS ls hl => ?_)
  subst hsz
  exact w_sg_isFree_0 C k z x1 r hf s.heap [] ls hS hl
-- sg_leastFree: int leastFree();
theorem lk_X3_leastFree_15 : Cond.fieldLink RX3 15 (TX3 0).1 (TX3 0).2.1 (TX3 0).2.2.1 ∈ wsX3_leastFree := by decide +kernel
theorem in_X3_leastFree_X3 : ∀ x ∈ u_ws RX3 TX3 6, x ∈ wsX3_leastFree := by decide +kernel
def R_sg_leastFree : Room := { frames := 1, cells := 0, slots := 0, locals := 21 }
def sg_leastFree_b2 (n : Nat) (k : Nat) (z : SS) : Nat → Int32 → Option Int32
  | 0, _ => none
  | fu + 1, x1 => (if (z.1 20) ≤ x1 then some (-1) else (bo (sg_isFree n k z x1) fun r_1 => (if r_1 = 0 then sg_leastFree_b2 n k z fu (x1 + 1) else some x1)))
def sg_leastFree (n : Nat) (k : Nat) (z : SS) : Option Int32 :=
  sg_leastFree_b2 n k z k 0
set_option maxHeartbeats 4000000 in
set_option maxRecDepth 100000 in
theorem w_sg_leastFree_b2 {p : Program} {l : Launch} {e : Env} {s : State} {m : MethodId} {args : Array Value} {below : List Frame} {meth : Method} {c : Code} {D : va_G} {w0 : va_W} {n : Nat} {ad : Nat → Nat} {cA : Nat → ClassId} (C : Cx p s m args meth c cX3_leastFree 2 (some .int) RX3 wsX3_leastFree D (tC cA)) (k : Nat) (z : SS) : ∀ (fu : Nat) (x1 : Int32) (r : Int32), sg_leastFree_b2 n k z fu x1 = some r → ∀ (H : Heap) (locs : List Loc) (ls : Array Slot), St D (va_A w0 s.heap.size) s.heap (wC n ad cA z) H locs → lv_has ls 2 [(0, .ref (ad 1)), (1, .int x1)] → W p l e R_sg_leastFree s m args below meth c H locs 0 0 (MQ below (kI D (tC cA) r w0 (wC n ad cA z) s.heap.size) args s 0 0 (va_A w0 s.heap.size)) (F0 m 2 ls []) := by
  obtain ⟨hx, hb, hr, hml, hown, hts, hlk, hK⟩ := id C
  intro fu
  induction fu with
  | zero =>
    intro x1 r hf
    cases (show (none : Option Int32) = some r from hf)
  | succ fu ih =>
    intro x1 r hf H locs ls hS hl
    have hf : (if (z.1 20) ≤ x1 then some (-1) else (bo (sg_isFree n k z x1) fun r_1 => (if r_1 = 0 then sg_leastFree_b2 n k z fu (x1 + 1) else some x1))) = some r := hf
    refine lv_iload_n hx hb dX3_leastFree_2 rfl (lv_at hl 1 rfl) ?_
    refine lv_aload_n hx hb dX3_leastFree_3 rfl (lv_at hl 0 rfl) ?_
    refine gC_20 C hS in_X3_leastFree_X3 lk_X3_leastFree_15 (v := (z.1 20)) rfl dX3_leastFree_4 ?_
    refine lv_icmp_ge (x := x1) (y := (z.1 20)) (tgt := 26) hx hb dX3_leastFree_7 (by decide) (fun hc => ?_) (fun hc => ?_)
    · replace hf := it_t hc hf
      refine lv_iconst (v := (-1)) hx hb dX3_leastFree_26 (by decide) ?_
      cases hf
      exact rti C hS dX3_leastFree_27
    · replace hf := it_f hc hf
      refine lv_aload_n hx hb dX3_leastFree_10 rfl (lv_at hl 0 rfl) ?_
      refine lv_iload_n hx hb dX3_leastFree_11 rfl (lv_at hl 1 rfl) ?_
      obtain ⟨r_1, hcl, hf⟩ := bo_s hf
      refine rcVi (n := 1) (As := [.int x1]) (rest := []) (q0 := 1) (w' := (wC n ad cA z)) C hS (fun sz => c_sg_isFree l D n ad cA k z x1 r_1 hcl sz) gX3_leastFree_X3_isFree rfl ⟨rfl, rfl⟩ (by decide +kernel) ⟨Nat.le_of_ble_eq_true rfl, Nat.le_of_ble_eq_true rfl⟩ oC_1 rfl rfl hl.1 rfl (Nat.le_of_ble_eq_true rfl) dX3_leastFree_12 (fun H locs hS => ?_)
      refine lv_if_eq (x := r_1) (tgt := 20) hx hb dX3_leastFree_15 (by decide) (fun hc => ?_) (fun hc => ?_)
      · replace hf := it_t hc hf
        refine lv_iinc (v := (x1 + 1)) (lv' := [(1, .int (x1 + 1)), (0, .ref (ad 1))]) hx hb dX3_leastFree_20 hl (k := 1) rfl (congrArg (fun q => x1 + q) (by decide : Int32.ofInt 1 = (1 : Int32))) (by decide) rfl (fun ls hl => ?_)
        refine lv_goto (tgt := 2) hx hb dX3_leastFree_23 (by decide) ?_
        exact ih (x1 + 1) r hf H locs ls hS (lv_sub hl [1, 0] rfl)
      · replace hf := it_f hc hf
        refine lv_iload_n hx hb dX3_leastFree_18 rfl (lv_at hl 1 rfl) ?_
        cases hf
        exact rti C hS dX3_leastFree_19
set_option maxHeartbeats 4000000 in
set_option maxRecDepth 100000 in
theorem w_sg_leastFree_0 {p : Program} {l : Launch} {e : Env} {s : State} {m : MethodId} {args : Array Value} {below : List Frame} {meth : Method} {c : Code} {D : va_G} {w0 : va_W} {n : Nat} {ad : Nat → Nat} {cA : Nat → ClassId} (C : Cx p s m args meth c cX3_leastFree 2 (some .int) RX3 wsX3_leastFree D (tC cA)) (k : Nat) (z : SS) (r : Int32) (hf : sg_leastFree n k z = some r) : ∀ (H : Heap) (locs : List Loc) (ls : Array Slot), St D (va_A w0 s.heap.size) s.heap (wC n ad cA z) H locs → lv_has ls 2 [(0, .ref (ad 1))] → W p l e R_sg_leastFree s m args below meth c H locs 0 0 (MQ below (kI D (tC cA) r w0 (wC n ad cA z) s.heap.size) args s 0 0 (va_A w0 s.heap.size)) (F0 m 0 ls []) := by
  obtain ⟨hx, hb, hr, hml, hown, hts, hlk, hK⟩ := id C
  intro H locs ls hS hl
  have hf : sg_leastFree_b2 n k z k 0 = some r := hf
  refine lv_iconst (v := 0) hx hb dX3_leastFree_0 (by decide) ?_
  refine lv_istore_n (lv' := [(1, .int 0), (0, .ref (ad 1))]) hx hb dX3_leastFree_1 rfl hl (by decide) rfl (fun ls hl => ?_)
  exact w_sg_leastFree_b2 C k z k 0 r hf H locs ls hS (lv_sub hl [1, 0] rfl)
set_option maxHeartbeats 4000000 in
set_option maxRecDepth 100000 in
theorem c_sg_leastFree (l : Launch) (D : va_G) (n : Nat) (ad : Nat → Nat) (cA : Nat → ClassId) (k : Nat) (z : SS) (r : Int32) (hf : sg_leastFree n k z = some r) (sz : Nat) : Met l yX3_leastFree wsX3_leastFree R_sg_leastFree (kP D (tC cA) [.ref (ad 1)] (wC n ad cA z) sz) (kI D (tC cA) r (wC n ad cA z) (wC n ad cA z) sz) 0 0 (va_A (wC n ad cA z) sz) := by
  refine ent (by decide) rfl rfl (Nat.le_of_ble_eq_true rfl) (fun p e s m args below meth c hsz C hS ls hl => ?_)
  subst hsz
  exact w_sg_leastFree_0 C k z r hf s.heap [] ls hS hl
-- sg_inUseCount: int inUseCount();
theorem lk_X3_inUseCount_15 : Cond.fieldLink RX3 15 (TX3 0).1 (TX3 0).2.1 (TX3 0).2.2.1 ∈ wsX3_inUseCount := by decide +kernel
theorem in_X3_inUseCount_X3 : ∀ x ∈ u_ws RX3 TX3 6, x ∈ wsX3_inUseCount := by decide +kernel
def R_sg_inUseCount : Room := { frames := 1, cells := 0, slots := 0, locals := 21 }
def sg_inUseCount_b4 (n : Nat) (k : Nat) (z : SS) : Nat → Int32 → Int32 → Option Int32
  | 0, _, _ => none
  | fu + 1, x1, x2 => (if (z.1 20) ≤ x2 then some x1 else (bo (sg_isFree n k z x2) fun r_1 => (if r_1 = 0 then sg_inUseCount_b4 n k z fu (x1 + 1) (x2 + 1) else sg_inUseCount_b4 n k z fu x1 (x2 + 1))))
def sg_inUseCount (n : Nat) (k : Nat) (z : SS) : Option Int32 :=
  sg_inUseCount_b4 n k z k 0 0
set_option maxHeartbeats 4000000 in
set_option maxRecDepth 100000 in
theorem w_sg_inUseCount_b4 {p : Program} {l : Launch} {e : Env} {s : State} {m : MethodId} {args : Array Value} {below : List Frame} {meth : Method} {c : Code} {D : va_G} {w0 : va_W} {n : Nat} {ad : Nat → Nat} {cA : Nat → ClassId} (C : Cx p s m args meth c cX3_inUseCount 3 (some .int) RX3 wsX3_inUseCount D (tC cA)) (k : Nat) (z : SS) : ∀ (fu : Nat) (x1 : Int32) (x2 : Int32) (r : Int32), sg_inUseCount_b4 n k z fu x1 x2 = some r → ∀ (H : Heap) (locs : List Loc) (ls : Array Slot), St D (va_A w0 s.heap.size) s.heap (wC n ad cA z) H locs → lv_has ls 3 [(0, .ref (ad 1)), (1, .int x1), (2, .int x2)] → W p l e R_sg_inUseCount s m args below meth c H locs 0 0 (MQ below (kI D (tC cA) r w0 (wC n ad cA z) s.heap.size) args s 0 0 (va_A w0 s.heap.size)) (F0 m 4 ls []) := by
  obtain ⟨hx, hb, hr, hml, hown, hts, hlk, hK⟩ := id C
  intro fu
  induction fu with
  | zero =>
    intro x1 x2 r hf
    cases (show (none : Option Int32) = some r from hf)
  | succ fu ih =>
    intro x1 x2 r hf H locs ls hS hl
    have hf : (if (z.1 20) ≤ x2 then some x1 else (bo (sg_isFree n k z x2) fun r_1 => (if r_1 = 0 then sg_inUseCount_b4 n k z fu (x1 + 1) (x2 + 1) else sg_inUseCount_b4 n k z fu x1 (x2 + 1)))) = some r := hf
    refine lv_iload_n hx hb dX3_inUseCount_4 rfl (lv_at hl 2 rfl) ?_
    refine lv_aload_n hx hb dX3_inUseCount_5 rfl (lv_at hl 0 rfl) ?_
    refine gC_20 C hS in_X3_inUseCount_X3 lk_X3_inUseCount_15 (v := (z.1 20)) rfl dX3_inUseCount_6 ?_
    refine lv_icmp_ge (x := x2) (y := (z.1 20)) (tgt := 29) hx hb dX3_inUseCount_9 (by decide) (fun hc => ?_) (fun hc => ?_)
    · replace hf := it_t hc hf
      refine lv_iload_n hx hb dX3_inUseCount_29 rfl (lv_at hl 1 rfl) ?_
      cases hf
      exact rti C hS dX3_inUseCount_30
    · replace hf := it_f hc hf
      refine lv_aload_n hx hb dX3_inUseCount_12 rfl (lv_at hl 0 rfl) ?_
      refine lv_iload_n hx hb dX3_inUseCount_13 rfl (lv_at hl 2 rfl) ?_
      obtain ⟨r_1, hcl, hf⟩ := bo_s hf
      refine rcVi (n := 1) (As := [.int x2]) (rest := []) (q0 := 1) (w' := (wC n ad cA z)) C hS (fun sz => c_sg_isFree l D n ad cA k z x2 r_1 hcl sz) gX3_inUseCount_X3_isFree rfl ⟨rfl, rfl⟩ (by decide +kernel) ⟨Nat.le_of_ble_eq_true rfl, Nat.le_of_ble_eq_true rfl⟩ oC_1 rfl rfl hl.1 rfl (Nat.le_of_ble_eq_true rfl) dX3_inUseCount_14 (fun H locs hS => ?_)
      refine lv_if_ne (x := r_1) (tgt := 23) hx hb dX3_inUseCount_17 (by decide) (fun hc => ?_) (fun hc => ?_)
      · replace hf := it_f hc hf
        refine lv_iinc (v := (x2 + 1)) (lv' := [(2, .int (x2 + 1)), (0, .ref (ad 1)), (1, .int x1)]) hx hb dX3_inUseCount_23 hl (k := 2) rfl (congrArg (fun q => x2 + q) (by decide : Int32.ofInt 1 = (1 : Int32))) (by decide) rfl (fun ls hl => ?_)
        refine lv_goto (tgt := 4) hx hb dX3_inUseCount_26 (by decide) ?_
        exact ih x1 (x2 + 1) r hf H locs ls hS (lv_sub hl [1, 2, 0] rfl)
      · replace hf := it_t hc hf
        refine lv_iinc (v := (x1 + 1)) (lv' := [(1, .int (x1 + 1)), (0, .ref (ad 1)), (2, .int x2)]) hx hb dX3_inUseCount_20 hl (k := 1) rfl (congrArg (fun q => x1 + q) (by decide : Int32.ofInt 1 = (1 : Int32))) (by decide) rfl (fun ls hl => ?_)
        refine lv_iinc (v := (x2 + 1)) (lv' := [(2, .int (x2 + 1)), (1, .int (x1 + 1)), (0, .ref (ad 1))]) hx hb dX3_inUseCount_23 hl (k := 2) rfl (congrArg (fun q => x2 + q) (by decide : Int32.ofInt 1 = (1 : Int32))) (by decide) rfl (fun ls hl => ?_)
        refine lv_goto (tgt := 4) hx hb dX3_inUseCount_26 (by decide) ?_
        exact ih (x1 + 1) (x2 + 1) r hf H locs ls hS (lv_sub hl [2, 1, 0] rfl)
set_option maxHeartbeats 4000000 in
set_option maxRecDepth 100000 in
theorem w_sg_inUseCount_0 {p : Program} {l : Launch} {e : Env} {s : State} {m : MethodId} {args : Array Value} {below : List Frame} {meth : Method} {c : Code} {D : va_G} {w0 : va_W} {n : Nat} {ad : Nat → Nat} {cA : Nat → ClassId} (C : Cx p s m args meth c cX3_inUseCount 3 (some .int) RX3 wsX3_inUseCount D (tC cA)) (k : Nat) (z : SS) (r : Int32) (hf : sg_inUseCount n k z = some r) : ∀ (H : Heap) (locs : List Loc) (ls : Array Slot), St D (va_A w0 s.heap.size) s.heap (wC n ad cA z) H locs → lv_has ls 3 [(0, .ref (ad 1))] → W p l e R_sg_inUseCount s m args below meth c H locs 0 0 (MQ below (kI D (tC cA) r w0 (wC n ad cA z) s.heap.size) args s 0 0 (va_A w0 s.heap.size)) (F0 m 0 ls []) := by
  obtain ⟨hx, hb, hr, hml, hown, hts, hlk, hK⟩ := id C
  intro H locs ls hS hl
  have hf : sg_inUseCount_b4 n k z k 0 0 = some r := hf
  refine lv_iconst (v := 0) hx hb dX3_inUseCount_0 (by decide) ?_
  refine lv_istore_n (lv' := [(1, .int 0), (0, .ref (ad 1))]) hx hb dX3_inUseCount_1 rfl hl (by decide) rfl (fun ls hl => ?_)
  refine lv_iconst (v := 0) hx hb dX3_inUseCount_2 (by decide) ?_
  refine lv_istore_n (lv' := [(2, .int 0), (1, .int 0), (0, .ref (ad 1))]) hx hb dX3_inUseCount_3 rfl hl (by decide) rfl (fun ls hl => ?_)
  exact w_sg_inUseCount_b4 C k z k 0 0 r hf H locs ls hS (lv_sub hl [2, 1, 0] rfl)
set_option maxHeartbeats 4000000 in
set_option maxRecDepth 100000 in
theorem c_sg_inUseCount (l : Launch) (D : va_G) (n : Nat) (ad : Nat → Nat) (cA : Nat → ClassId) (k : Nat) (z : SS) (r : Int32) (hf : sg_inUseCount n k z = some r) (sz : Nat) : Met l yX3_inUseCount wsX3_inUseCount R_sg_inUseCount (kP D (tC cA) [.ref (ad 1)] (wC n ad cA z) sz) (kI D (tC cA) r (wC n ad cA z) (wC n ad cA z) sz) 0 0 (va_A (wC n ad cA z) sz) := by
  refine ent (by decide) rfl rfl (Nat.le_of_ble_eq_true rfl) (fun p e s m args below meth c hsz C hS ls hl => ?_)
  subst hsz
  exact w_sg_inUseCount_0 C k z r hf s.heap [] ls hS hl
-- sg_endOf: int endOf(int);
theorem lk_X3_endOf_22 : Cond.fieldLink RX3 22 (TX3 2).1 (TX3 2).2.1 (TX3 2).2.2.1 ∈ wsX3_endOf := by decide +kernel
theorem in_X3_endOf_X3 : ∀ x ∈ u_ws RX3 TX3 6, x ∈ wsX3_endOf := by decide +kernel
def R_sg_endOf : Room := { frames := 0, cells := 0, slots := 0, locals := 0 }
def sg_endOf (n : Nat) (k : Nat) (z : SS) (x1 : Int32) : Option Int32 :=
  (if ck x1 n = true then some ((x1 * 200) + ((z.2 8) (Int32.toNatClampNeg x1))) else none)
set_option maxHeartbeats 4000000 in
set_option maxRecDepth 100000 in
theorem w_sg_endOf_0 {p : Program} {l : Launch} {e : Env} {s : State} {m : MethodId} {args : Array Value} {below : List Frame} {meth : Method} {c : Code} {D : va_G} {w0 : va_W} {n : Nat} {ad : Nat → Nat} {cA : Nat → ClassId} (C : Cx p s m args meth c cX3_endOf 2 (some .int) RX3 wsX3_endOf D (tC cA)) (k : Nat) (z : SS) (x1 : Int32) (r : Int32) (hf : sg_endOf n k z x1 = some r) : ∀ (H : Heap) (locs : List Loc) (ls : Array Slot), St D (va_A w0 s.heap.size) s.heap (wC n ad cA z) H locs → lv_has ls 2 [(0, .ref (ad 1)), (1, .int x1)] → W p l e R_sg_endOf s m args below meth c H locs 0 0 (MQ below (kI D (tC cA) r w0 (wC n ad cA z) s.heap.size) args s 0 0 (va_A w0 s.heap.size)) (F0 m 0 ls []) := by
  obtain ⟨hx, hb, hr, hml, hown, hts, hlk, hK⟩ := id C
  intro H locs ls hS hl
  have hf : (if ck x1 n = true then some ((x1 * 200) + ((z.2 8) (Int32.toNatClampNeg x1))) else none) = some r := hf
  refine lv_iload_n hx hb dX3_endOf_0 rfl (lv_at hl 1 rfl) ?_
  refine lv_sipush (v := 200) hx hb dX3_endOf_1 (by decide) ?_
  refine lv_imul (x := x1) (y := 200) hx hb dX3_endOf_4 ?_
  refine lv_aload_n hx hb dX3_endOf_5 rfl (lv_at hl 0 rfl) ?_
  refine hC_8 C hS in_X3_endOf_X3 lk_X3_endOf_22 dX3_endOf_6 ?_
  refine lv_iload_n hx hb dX3_endOf_9 rfl (lv_at hl 1 rfl) ?_
  obtain ⟨hck, hf⟩ := cs hf
  refine lC_8 C hS (f := (z.2 8)) rfl (i := x1) hck dX3_endOf_10 ?_
  refine lv_iadd (x := (x1 * 200)) (y := ((z.2 8) (Int32.toNatClampNeg x1))) hx hb dX3_endOf_11 ?_
  cases hf
  exact rti C hS dX3_endOf_12
set_option maxHeartbeats 4000000 in
set_option maxRecDepth 100000 in
theorem c_sg_endOf (l : Launch) (D : va_G) (n : Nat) (ad : Nat → Nat) (cA : Nat → ClassId) (k : Nat) (z : SS) (x1 : Int32) (r : Int32) (hf : sg_endOf n k z x1 = some r) (sz : Nat) : Met l yX3_endOf wsX3_endOf R_sg_endOf (kP D (tC cA) [.ref (ad 1), .int x1] (wC n ad cA z) sz) (kI D (tC cA) r (wC n ad cA z) (wC n ad cA z) sz) 0 0 (va_A (wC n ad cA z) sz) := by
  refine ent (by decide) rfl rfl (Nat.le_of_ble_eq_true rfl) (fun p e s m args below meth c hsz C hS ls hl => ?_)
  subst hsz
  exact w_sg_endOf_0 C k z x1 r hf s.heap [] ls hS hl
-- sg_roomInWritten: int roomInWritten();
theorem lk_X3_roomInWritten_9 : Cond.fieldLink RX3 9 (TX3 5).1 (TX3 5).2.1 (TX3 5).2.2.1 ∈ wsX3_roomInWritten := by decide +kernel
theorem in_X3_roomInWritten_X3 : ∀ x ∈ u_ws RX3 TX3 6, x ∈ wsX3_roomInWritten := by decide +kernel
theorem lk_X3_roomInWritten_22 : Cond.fieldLink RX3 22 (TX3 2).1 (TX3 2).2.1 (TX3 2).2.2.1 ∈ wsX3_roomInWritten := by decide +kernel
def R_sg_roomInWritten : Room := { frames := 0, cells := 0, slots := 0, locals := 0 }
def sg_roomInWritten (n : Nat) (k : Nat) (z : SS) : Option Int32 :=
  (if (z.1 25) = (-1) then some 0 else (if ck (z.1 25) n = true then some (200 - ((z.2 8) (Int32.toNatClampNeg (z.1 25)))) else none))
set_option maxHeartbeats 4000000 in
set_option maxRecDepth 100000 in
theorem w_sg_roomInWritten_0 {p : Program} {l : Launch} {e : Env} {s : State} {m : MethodId} {args : Array Value} {below : List Frame} {meth : Method} {c : Code} {D : va_G} {w0 : va_W} {n : Nat} {ad : Nat → Nat} {cA : Nat → ClassId} (C : Cx p s m args meth c cX3_roomInWritten 1 (some .int) RX3 wsX3_roomInWritten D (tC cA)) (k : Nat) (z : SS) (r : Int32) (hf : sg_roomInWritten n k z = some r) : ∀ (H : Heap) (locs : List Loc) (ls : Array Slot), St D (va_A w0 s.heap.size) s.heap (wC n ad cA z) H locs → lv_has ls 1 [(0, .ref (ad 1))] → W p l e R_sg_roomInWritten s m args below meth c H locs 0 0 (MQ below (kI D (tC cA) r w0 (wC n ad cA z) s.heap.size) args s 0 0 (va_A w0 s.heap.size)) (F0 m 0 ls []) := by
  obtain ⟨hx, hb, hr, hml, hown, hts, hlk, hK⟩ := id C
  intro H locs ls hS hl
  have hf : (if (z.1 25) = (-1) then some 0 else (if ck (z.1 25) n = true then some (200 - ((z.2 8) (Int32.toNatClampNeg (z.1 25)))) else none)) = some r := hf
  refine lv_aload_n hx hb dX3_roomInWritten_0 rfl (lv_at hl 0 rfl) ?_
  refine gC_25 C hS in_X3_roomInWritten_X3 lk_X3_roomInWritten_9 (v := (z.1 25)) rfl dX3_roomInWritten_1 ?_
  refine lv_iconst (v := (-1)) hx hb dX3_roomInWritten_4 (by decide) ?_
  refine lv_icmp_ne (x := (z.1 25)) (y := (-1)) (tgt := 12) hx hb dX3_roomInWritten_5 (by decide) (fun hc => ?_) (fun hc => ?_)
  · replace hf := it_f hc hf
    refine lv_sipush (v := 200) hx hb dX3_roomInWritten_12 (by decide) ?_
    refine lv_aload_n hx hb dX3_roomInWritten_15 rfl (lv_at hl 0 rfl) ?_
    refine hC_8 C hS in_X3_roomInWritten_X3 lk_X3_roomInWritten_22 dX3_roomInWritten_16 ?_
    refine lv_aload_n hx hb dX3_roomInWritten_19 rfl (lv_at hl 0 rfl) ?_
    refine gC_25 C hS in_X3_roomInWritten_X3 lk_X3_roomInWritten_9 (v := (z.1 25)) rfl dX3_roomInWritten_20 ?_
    obtain ⟨hck, hf⟩ := cs hf
    refine lC_8 C hS (f := (z.2 8)) rfl (i := (z.1 25)) hck dX3_roomInWritten_23 ?_
    refine lv_isub (x := 200) (y := ((z.2 8) (Int32.toNatClampNeg (z.1 25)))) hx hb dX3_roomInWritten_24 ?_
    cases hf
    exact rti C hS dX3_roomInWritten_25
  · replace hf := it_t hc hf
    refine lv_iconst (v := 0) hx hb dX3_roomInWritten_8 (by decide) ?_
    refine lv_goto (tgt := 25) hx hb dX3_roomInWritten_9 (by decide) ?_
    cases hf
    exact rti C hS dX3_roomInWritten_25
set_option maxHeartbeats 4000000 in
set_option maxRecDepth 100000 in
theorem c_sg_roomInWritten (l : Launch) (D : va_G) (n : Nat) (ad : Nat → Nat) (cA : Nat → ClassId) (k : Nat) (z : SS) (r : Int32) (hf : sg_roomInWritten n k z = some r) (sz : Nat) : Met l yX3_roomInWritten wsX3_roomInWritten R_sg_roomInWritten (kP D (tC cA) [.ref (ad 1)] (wC n ad cA z) sz) (kI D (tC cA) r (wC n ad cA z) (wC n ad cA z) sz) 0 0 (va_A (wC n ad cA z) sz) := by
  refine ent (by decide) rfl rfl (Nat.le_of_ble_eq_true rfl) (fun p e s m args below meth c hsz C hS ls hl => ?_)
  subst hsz
  exact w_sg_roomInWritten_0 C k z r hf s.heap [] ls hS hl
-- sg_segmentFor: int segmentFor(int);
theorem lk_X3_segmentFor_9 : Cond.fieldLink RX3 9 (TX3 5).1 (TX3 5).2.1 (TX3 5).2.2.1 ∈ wsX3_segmentFor := by decide +kernel
theorem in_X3_segmentFor_X3 : ∀ x ∈ u_ws RX3 TX3 6, x ∈ wsX3_segmentFor := by decide +kernel
def R_sg_segmentFor : Room := { frames := 2, cells := 0, slots := 0, locals := 42 }
def sg_segmentFor (n : Nat) (k : Nat) (z : SS) (x1 : Int32) : Option Int32 :=
  (bo (sg_roomInWritten n k z) fun r_1 => (if r_1 < x1 then (bo (sg_leastFree n k z) fun r_2 => some r_2) else some (z.1 25)))
set_option maxHeartbeats 4000000 in
set_option maxRecDepth 100000 in
theorem w_sg_segmentFor_0 {p : Program} {l : Launch} {e : Env} {s : State} {m : MethodId} {args : Array Value} {below : List Frame} {meth : Method} {c : Code} {D : va_G} {w0 : va_W} {n : Nat} {ad : Nat → Nat} {cA : Nat → ClassId} (C : Cx p s m args meth c cX3_segmentFor 2 (some .int) RX3 wsX3_segmentFor D (tC cA)) (k : Nat) (z : SS) (x1 : Int32) (r : Int32) (hf : sg_segmentFor n k z x1 = some r) : ∀ (H : Heap) (locs : List Loc) (ls : Array Slot), St D (va_A w0 s.heap.size) s.heap (wC n ad cA z) H locs → lv_has ls 2 [(0, .ref (ad 1)), (1, .int x1)] → W p l e R_sg_segmentFor s m args below meth c H locs 0 0 (MQ below (kI D (tC cA) r w0 (wC n ad cA z) s.heap.size) args s 0 0 (va_A w0 s.heap.size)) (F0 m 0 ls []) := by
  obtain ⟨hx, hb, hr, hml, hown, hts, hlk, hK⟩ := id C
  intro H locs ls hS hl
  have hf : (bo (sg_roomInWritten n k z) fun r_1 => (if r_1 < x1 then (bo (sg_leastFree n k z) fun r_2 => some r_2) else some (z.1 25))) = some r := hf
  refine lv_iload_n hx hb dX3_segmentFor_0 rfl (lv_at hl 1 rfl) ?_
  refine lv_aload_n hx hb dX3_segmentFor_1 rfl (lv_at hl 0 rfl) ?_
  obtain ⟨r_1, hcl, hf⟩ := bo_s hf
  refine rcVi (n := 0) (As := []) (rest := [.int x1]) (q0 := 1) (w' := (wC n ad cA z)) C hS (fun sz => c_sg_roomInWritten l D n ad cA k z r_1 hcl sz) gX3_segmentFor_X3_roomInWritten rfl ⟨rfl, rfl⟩ (by decide +kernel) ⟨Nat.le_of_ble_eq_true rfl, Nat.le_of_ble_eq_true rfl⟩ oC_1 rfl rfl hl.1 rfl (Nat.le_of_ble_eq_true rfl) dX3_segmentFor_2 (fun H locs hS => ?_)
  refine lv_icmp_gt (x := x1) (y := r_1) (tgt := 15) hx hb dX3_segmentFor_5 (by decide) (fun hc => ?_) (fun hc => ?_)
  · replace hf := it_t hc hf
    refine lv_aload_n hx hb dX3_segmentFor_15 rfl (lv_at hl 0 rfl) ?_
    obtain ⟨r_2, hcl, hf⟩ := bo_s hf
    refine rcVi (n := 0) (As := []) (rest := []) (q0 := 1) (w' := (wC n ad cA z)) C hS (fun sz => c_sg_leastFree l D n ad cA k z r_2 hcl sz) gX3_segmentFor_X3_leastFree rfl ⟨rfl, rfl⟩ (by decide +kernel) ⟨Nat.le_of_ble_eq_true rfl, Nat.le_of_ble_eq_true rfl⟩ oC_1 rfl rfl hl.1 rfl (Nat.le_of_ble_eq_true rfl) dX3_segmentFor_16 (fun H locs hS => ?_)
    cases hf
    exact rti C hS dX3_segmentFor_19
  · replace hf := it_f hc hf
    refine lv_aload_n hx hb dX3_segmentFor_8 rfl (lv_at hl 0 rfl) ?_
    refine gC_25 C hS in_X3_segmentFor_X3 lk_X3_segmentFor_9 (v := (z.1 25)) rfl dX3_segmentFor_9 ?_
    refine lv_goto (tgt := 19) hx hb dX3_segmentFor_12 (by decide) ?_
    cases hf
    exact rti C hS dX3_segmentFor_19
set_option maxHeartbeats 4000000 in
set_option maxRecDepth 100000 in
theorem c_sg_segmentFor (l : Launch) (D : va_G) (n : Nat) (ad : Nat → Nat) (cA : Nat → ClassId) (k : Nat) (z : SS) (x1 : Int32) (r : Int32) (hf : sg_segmentFor n k z x1 = some r) (sz : Nat) : Met l yX3_segmentFor wsX3_segmentFor R_sg_segmentFor (kP D (tC cA) [.ref (ad 1), .int x1] (wC n ad cA z) sz) (kI D (tC cA) r (wC n ad cA z) (wC n ad cA z) sz) 0 0 (va_A (wC n ad cA z) sz) := by
  refine ent (by decide) rfl rfl (Nat.le_of_ble_eq_true rfl) (fun p e s m args below meth c hsz C hS ls hl => ?_)
  subst hsz
  exact w_sg_segmentFor_0 C k z x1 r hf s.heap [] ls hS hl
-- sg_append: void append(int);
theorem lk_X3_append_39 : Cond.fieldLink RX3 39 (TX3 4).1 (TX3 4).2.1 (TX3 4).2.2.1 ∈ wsX3_append := by decide +kernel
theorem in_X3_append_X3 : ∀ x ∈ u_ws RX3 TX3 6, x ∈ wsX3_append := by decide +kernel
theorem lk_X3_append_25 : Cond.fieldLink RX3 25 (TX3 3).1 (TX3 3).2.1 (TX3 3).2.2.1 ∈ wsX3_append := by decide +kernel
theorem lk_X3_append_9 : Cond.fieldLink RX3 9 (TX3 5).1 (TX3 5).2.1 (TX3 5).2.2.1 ∈ wsX3_append := by decide +kernel
theorem lk_X3_append_18 : Cond.fieldLink RX3 18 (TX3 1).1 (TX3 1).2.1 (TX3 1).2.2.1 ∈ wsX3_append := by decide +kernel
theorem lk_X3_append_22 : Cond.fieldLink RX3 22 (TX3 2).1 (TX3 2).2.1 (TX3 2).2.2.1 ∈ wsX3_append := by decide +kernel
def R_sg_append : Room := { frames := 1, cells := 0, slots := 0, locals := 21 }
def sg_append (n : Nat) (k : Nat) (z : SS) (x1 : Int32) : Option SS :=
  (bo (sg_roomInWritten n k z) fun r_1 => (if r_1 = 0 then some z else (if (z.1 24) = (nI (n * 200)) then some z else (bo (sg_endOf n k z (z.1 25)) fun r_2 => (if ck r_2 (n * 200) = true then (if ck (z.1 24) (n * 200) = true then (if ck (z.1 25) n = true then (if ck (z.1 25) n = true then some (sa (si (sa (sa z 7 (Int32.toNatClampNeg r_2) x1) 9 (Int32.toNatClampNeg (z.1 24)) r_2) 24 ((z.1 24) + 1)) 8 (Int32.toNatClampNeg (z.1 25)) (((z.2 8) (Int32.toNatClampNeg (z.1 25))) + 1)) else none) else none) else none) else none)))))
set_option maxHeartbeats 4000000 in
set_option maxRecDepth 100000 in
theorem w_sg_append_0 {p : Program} {l : Launch} {e : Env} {s : State} {m : MethodId} {args : Array Value} {below : List Frame} {meth : Method} {c : Code} {D : va_G} {w0 : va_W} {n : Nat} {ad : Nat → Nat} {cA : Nat → ClassId} (C : Cx p s m args meth c cX3_append 3 none RX3 wsX3_append D (tC cA)) (k : Nat) (z : SS) (x1 : Int32) (z' : SS) (hf : sg_append n k z x1 = some z') : ∀ (H : Heap) (locs : List Loc) (ls : Array Slot), St D (va_A w0 s.heap.size) s.heap (wC n ad cA z) H locs → lv_has ls 3 [(0, .ref (ad 1)), (1, .int x1)] → W p l e R_sg_append s m args below meth c H locs 0 0 (MQ below (kV D (tC cA) w0 (wC n ad cA z') s.heap.size) args s 0 0 (va_A w0 s.heap.size)) (F0 m 0 ls []) := by
  obtain ⟨hx, hb, hr, hml, hown, hts, hlk, hK⟩ := id C
  intro H locs ls hS hl
  have hf : (bo (sg_roomInWritten n k z) fun r_1 => (if r_1 = 0 then some z else (if (z.1 24) = (nI (n * 200)) then some z else (bo (sg_endOf n k z (z.1 25)) fun r_2 => (if ck r_2 (n * 200) = true then (if ck (z.1 24) (n * 200) = true then (if ck (z.1 25) n = true then (if ck (z.1 25) n = true then some (sa (si (sa (sa z 7 (Int32.toNatClampNeg r_2) x1) 9 (Int32.toNatClampNeg (z.1 24)) r_2) 24 ((z.1 24) + 1)) 8 (Int32.toNatClampNeg (z.1 25)) (((z.2 8) (Int32.toNatClampNeg (z.1 25))) + 1)) else none) else none) else none) else none))))) = some z' := hf
  refine lv_aload_n hx hb dX3_append_0 rfl (lv_at hl 0 rfl) ?_
  obtain ⟨r_1, hcl, hf⟩ := bo_s hf
  refine rcVi (n := 0) (As := []) (rest := []) (q0 := 1) (w' := (wC n ad cA z)) C hS (fun sz => c_sg_roomInWritten l D n ad cA k z r_1 hcl sz) gX3_append_X3_roomInWritten rfl ⟨rfl, rfl⟩ (by decide +kernel) ⟨Nat.le_of_ble_eq_true rfl, Nat.le_of_ble_eq_true rfl⟩ oC_1 rfl rfl hl.1 rfl (Nat.le_of_ble_eq_true rfl) dX3_append_1 (fun H locs hS => ?_)
  refine lv_if_eq (x := r_1) (tgt := 19) hx hb dX3_append_4 (by decide) (fun hc => ?_) (fun hc => ?_)
  · replace hf := it_t hc hf
    cases hf
    exact rtv C hS dX3_append_19
  · replace hf := it_f hc hf
    refine lv_aload_n hx hb dX3_append_7 rfl (lv_at hl 0 rfl) ?_
    refine gC_24 C hS in_X3_append_X3 lk_X3_append_39 (v := (z.1 24)) rfl dX3_append_8 ?_
    refine lv_aload_n hx hb dX3_append_11 rfl (lv_at hl 0 rfl) ?_
    refine hC_9 C hS in_X3_append_X3 lk_X3_append_25 dX3_append_12 ?_
    refine nC_9 C hS dX3_append_15 ?_
    refine lv_icmp_ne (x := (z.1 24)) (y := (nI (n * 200))) (tgt := 20) hx hb dX3_append_16 (by decide) (fun hc => ?_) (fun hc => ?_)
    · replace hf := it_f hc hf
      refine lv_aload_n hx hb dX3_append_20 rfl (lv_at hl 0 rfl) ?_
      refine lv_aload_n hx hb dX3_append_21 rfl (lv_at hl 0 rfl) ?_
      refine gC_25 C hS in_X3_append_X3 lk_X3_append_9 (v := (z.1 25)) rfl dX3_append_22 ?_
      obtain ⟨r_2, hcl, hf⟩ := bo_s hf
      refine rcVi (n := 1) (As := [.int (z.1 25)]) (rest := []) (q0 := 1) (w' := (wC n ad cA z)) C hS (fun sz => c_sg_endOf l D n ad cA k z (z.1 25) r_2 hcl sz) gX3_append_X3_endOf rfl ⟨rfl, rfl⟩ (by decide +kernel) ⟨Nat.le_of_ble_eq_true rfl, Nat.le_of_ble_eq_true rfl⟩ oC_1 rfl rfl hl.1 rfl (Nat.le_of_ble_eq_true rfl) dX3_append_25 (fun H locs hS => ?_)
      refine lv_istore_n (lv' := [(2, .int r_2), (0, .ref (ad 1)), (1, .int x1)]) hx hb dX3_append_28 rfl hl (by decide) rfl (fun ls hl => ?_)
      refine lv_aload_n hx hb dX3_append_29 rfl (lv_at hl 1 rfl) ?_
      refine hC_7 C hS in_X3_append_X3 lk_X3_append_18 dX3_append_30 ?_
      refine lv_iload_n hx hb dX3_append_33 rfl (lv_at hl 0 rfl) ?_
      refine lv_iload_n hx hb dX3_append_34 rfl (lv_at hl 2 rfl) ?_
      obtain ⟨hck, hf⟩ := cs hf
      refine sC_7 C hS (i := r_2) (x := x1) hck dX3_append_35 (fun H locs hS => ?_)
      refine lv_aload_n hx hb dX3_append_36 rfl (lv_at hl 1 rfl) ?_
      refine hC_9 C hS in_X3_append_X3 lk_X3_append_25 dX3_append_37 ?_
      refine lv_aload_n hx hb dX3_append_40 rfl (lv_at hl 1 rfl) ?_
      refine gC_24 C hS in_X3_append_X3 lk_X3_append_39 (v := (z.1 24)) (sa_i.trans rfl) dX3_append_41 ?_
      refine lv_iload_n hx hb dX3_append_44 rfl (lv_at hl 0 rfl) ?_
      obtain ⟨hck, hf⟩ := cs hf
      refine sC_9 C hS (i := (z.1 24)) (x := r_2) hck dX3_append_45 (fun H locs hS => ?_)
      refine lv_aload_n hx hb dX3_append_46 rfl (lv_at hl 1 rfl) ?_
      refine lv_dup hx hb dX3_append_47 rfl ?_
      refine gC_24 C hS in_X3_append_X3 lk_X3_append_39 (v := (z.1 24)) (sa_i.trans (sa_i.trans rfl)) dX3_append_48 ?_
      refine lv_iconst (v := 1) hx hb dX3_append_51 (by decide) ?_
      refine lv_iadd (x := (z.1 24)) (y := 1) hx hb dX3_append_52 ?_
      refine pC_24 C hS in_X3_append_X3 lk_X3_append_39 (v := ((z.1 24) + 1)) rfl rfl dX3_append_53 (fun H locs hS => ?_)
      refine lv_aload_n hx hb dX3_append_56 rfl (lv_at hl 1 rfl) ?_
      refine hC_8 C hS in_X3_append_X3 lk_X3_append_22 dX3_append_57 ?_
      refine lv_aload_n hx hb dX3_append_60 rfl (lv_at hl 1 rfl) ?_
      refine gC_25 C hS in_X3_append_X3 lk_X3_append_9 (v := (z.1 25)) ((si_o (by decide)).trans (sa_i.trans (sa_i.trans rfl))) dX3_append_61 ?_
      refine lv_dup2_11 hx hb dX3_append_64 rfl rfl ?_
      obtain ⟨hck, hf⟩ := cs hf
      refine lC_8 C hS (f := (z.2 8)) (si_a.trans ((sa_o (by decide)).trans ((sa_o (by decide)).trans rfl))) (i := (z.1 25)) hck dX3_append_65 ?_
      refine lv_iconst (v := 1) hx hb dX3_append_66 (by decide) ?_
      refine lv_iadd (x := ((z.2 8) (Int32.toNatClampNeg (z.1 25)))) (y := 1) hx hb dX3_append_67 ?_
      obtain ⟨hck, hf⟩ := cs hf
      refine sC_8 C hS (i := (z.1 25)) (x := (((z.2 8) (Int32.toNatClampNeg (z.1 25))) + 1)) hck dX3_append_68 (fun H locs hS => ?_)
      cases hf
      exact rtv C hS dX3_append_69
    · replace hf := it_t hc hf
      cases hf
      exact rtv C hS dX3_append_19
set_option maxHeartbeats 4000000 in
set_option maxRecDepth 100000 in
theorem c_sg_append (l : Launch) (D : va_G) (n : Nat) (ad : Nat → Nat) (cA : Nat → ClassId) (k : Nat) (z : SS) (x1 : Int32) (z' : SS) (hf : sg_append n k z x1 = some z') (sz : Nat) : Met l yX3_append wsX3_append R_sg_append (kP D (tC cA) [.ref (ad 1), .int x1] (wC n ad cA z) sz) (kV D (tC cA) (wC n ad cA z) (wC n ad cA z') sz) 0 0 (va_A (wC n ad cA z) sz) := by
  refine ent (by decide) rfl rfl (Nat.le_of_ble_eq_true rfl) (fun p e s m args below meth c hsz C hS ls hl => ?_)
  subst hsz
  exact w_sg_append_0 C k z x1 z' hf s.heap [] ls hS hl
-- sg_settle: int settle();
theorem lk_X3_settle_39 : Cond.fieldLink RX3 39 (TX3 4).1 (TX3 4).2.1 (TX3 4).2.2.1 ∈ wsX3_settle := by decide +kernel
theorem in_X3_settle_X3 : ∀ x ∈ u_ws RX3 TX3 6, x ∈ wsX3_settle := by decide +kernel
def R_sg_settle : Room := { frames := 0, cells := 0, slots := 0, locals := 0 }
def sg_settle (n : Nat) (k : Nat) (z : SS) : Option (Int32 × SS) :=
  some ((z.1 24), (si z 24 0))
set_option maxHeartbeats 4000000 in
set_option maxRecDepth 100000 in
theorem w_sg_settle_0 {p : Program} {l : Launch} {e : Env} {s : State} {m : MethodId} {args : Array Value} {below : List Frame} {meth : Method} {c : Code} {D : va_G} {w0 : va_W} {n : Nat} {ad : Nat → Nat} {cA : Nat → ClassId} (C : Cx p s m args meth c cX3_settle 2 (some .int) RX3 wsX3_settle D (tC cA)) (k : Nat) (z : SS) (r : Int32) (z' : SS) (hf : sg_settle n k z = some (r, z')) : ∀ (H : Heap) (locs : List Loc) (ls : Array Slot), St D (va_A w0 s.heap.size) s.heap (wC n ad cA z) H locs → lv_has ls 2 [(0, .ref (ad 1))] → W p l e R_sg_settle s m args below meth c H locs 0 0 (MQ below (kI D (tC cA) r w0 (wC n ad cA z') s.heap.size) args s 0 0 (va_A w0 s.heap.size)) (F0 m 0 ls []) := by
  obtain ⟨hx, hb, hr, hml, hown, hts, hlk, hK⟩ := id C
  intro H locs ls hS hl
  have hf : some ((z.1 24), (si z 24 0)) = some (r, z') := hf
  refine lv_aload_n hx hb dX3_settle_0 rfl (lv_at hl 0 rfl) ?_
  refine gC_24 C hS in_X3_settle_X3 lk_X3_settle_39 (v := (z.1 24)) rfl dX3_settle_1 ?_
  refine lv_istore_n (lv' := [(1, .int (z.1 24)), (0, .ref (ad 1))]) hx hb dX3_settle_4 rfl hl (by decide) rfl (fun ls hl => ?_)
  refine lv_aload_n hx hb dX3_settle_5 rfl (lv_at hl 1 rfl) ?_
  refine lv_iconst (v := 0) hx hb dX3_settle_6 (by decide) ?_
  refine pC_24 C hS in_X3_settle_X3 lk_X3_settle_39 (v := 0) rfl rfl dX3_settle_7 (fun H locs hS => ?_)
  refine lv_iload_n hx hb dX3_settle_10 rfl (lv_at hl 0 rfl) ?_
  cases hf
  exact rti C hS dX3_settle_11
set_option maxHeartbeats 4000000 in
set_option maxRecDepth 100000 in
theorem c_sg_settle (l : Launch) (D : va_G) (n : Nat) (ad : Nat → Nat) (cA : Nat → ClassId) (k : Nat) (z : SS) (r : Int32) (z' : SS) (hf : sg_settle n k z = some (r, z')) (sz : Nat) : Met l yX3_settle wsX3_settle R_sg_settle (kP D (tC cA) [.ref (ad 1)] (wC n ad cA z) sz) (kI D (tC cA) r (wC n ad cA z) (wC n ad cA z') sz) 0 0 (va_A (wC n ad cA z) sz) := by
  refine ent (by decide) rfl rfl (Nat.le_of_ble_eq_true rfl) (fun p e s m args below meth c hsz C hS ls hl => ?_)
  subst hsz
  exact w_sg_settle_0 C k z r z' hf s.heap [] ls hS hl
-- sg_loseBehind: int loseBehind(int);
theorem lk_X3_loseBehind_39 : Cond.fieldLink RX3 39 (TX3 4).1 (TX3 4).2.1 (TX3 4).2.2.1 ∈ wsX3_loseBehind := by decide +kernel
theorem in_X3_loseBehind_X3 : ∀ x ∈ u_ws RX3 TX3 6, x ∈ wsX3_loseBehind := by decide +kernel
theorem lk_X3_loseBehind_18 : Cond.fieldLink RX3 18 (TX3 1).1 (TX3 1).2.1 (TX3 1).2.2.1 ∈ wsX3_loseBehind := by decide +kernel
theorem lk_X3_loseBehind_25 : Cond.fieldLink RX3 25 (TX3 3).1 (TX3 3).2.1 (TX3 3).2.2.1 ∈ wsX3_loseBehind := by decide +kernel
def R_sg_loseBehind : Room := { frames := 0, cells := 0, slots := 0, locals := 0 }
def sg_loseBehind_b4 (n : Nat) (k : Nat) : Nat → SS → Int32 → Int32 → Option (Int32 × SS)
  | 0, _, _, _ => none
  | fu + 1, z, x2, x3 => (if (z.1 24) ≤ x3 then some (x2, z) else (if ck x3 (n * 200) = true then (if ck ((z.2 9) (Int32.toNatClampNeg x3)) (n * 200) = true then sg_loseBehind_b4 n k fu (sa z 7 (Int32.toNatClampNeg ((z.2 9) (Int32.toNatClampNeg x3))) 0) (x2 + 1) (x3 + 1) else none) else none))
def sg_loseBehind (n : Nat) (k : Nat) (z : SS) (x1 : Int32) : Option (Int32 × SS) :=
  sg_loseBehind_b4 n k k z 0 x1
set_option maxHeartbeats 4000000 in
set_option maxRecDepth 100000 in
theorem w_sg_loseBehind_b4 {p : Program} {l : Launch} {e : Env} {s : State} {m : MethodId} {args : Array Value} {below : List Frame} {meth : Method} {c : Code} {D : va_G} {w0 : va_W} {n : Nat} {ad : Nat → Nat} {cA : Nat → ClassId} (C : Cx p s m args meth c cX3_loseBehind 4 (some .int) RX3 wsX3_loseBehind D (tC cA)) (k : Nat) : ∀ (fu : Nat) (z : SS) (x2 : Int32) (x3 : Int32) (r : Int32) (z' : SS), sg_loseBehind_b4 n k fu z x2 x3 = some (r, z') → ∀ (H : Heap) (locs : List Loc) (ls : Array Slot), St D (va_A w0 s.heap.size) s.heap (wC n ad cA z) H locs → lv_has ls 4 [(0, .ref (ad 1)), (2, .int x2), (3, .int x3)] → W p l e R_sg_loseBehind s m args below meth c H locs 0 0 (MQ below (kI D (tC cA) r w0 (wC n ad cA z') s.heap.size) args s 0 0 (va_A w0 s.heap.size)) (F0 m 4 ls []) := by
  obtain ⟨hx, hb, hr, hml, hown, hts, hlk, hK⟩ := id C
  intro fu
  induction fu with
  | zero =>
    intro z x2 x3 r z' hf
    cases (show (none : Option (Int32 × SS)) = some (r, z') from hf)
  | succ fu ih =>
    intro z x2 x3 r z' hf H locs ls hS hl
    have hf : (if (z.1 24) ≤ x3 then some (x2, z) else (if ck x3 (n * 200) = true then (if ck ((z.2 9) (Int32.toNatClampNeg x3)) (n * 200) = true then sg_loseBehind_b4 n k fu (sa z 7 (Int32.toNatClampNeg ((z.2 9) (Int32.toNatClampNeg x3))) 0) (x2 + 1) (x3 + 1) else none) else none)) = some (r, z') := hf
    refine lv_iload_n hx hb dX3_loseBehind_4 rfl (lv_at hl 2 rfl) ?_
    refine lv_aload_n hx hb dX3_loseBehind_5 rfl (lv_at hl 0 rfl) ?_
    refine gC_24 C hS in_X3_loseBehind_X3 lk_X3_loseBehind_39 (v := (z.1 24)) rfl dX3_loseBehind_6 ?_
    refine lv_icmp_ge (x := x3) (y := (z.1 24)) (tgt := 33) hx hb dX3_loseBehind_9 (by decide) (fun hc => ?_) (fun hc => ?_)
    · replace hf := it_t hc hf
      refine lv_iload_n hx hb dX3_loseBehind_33 rfl (lv_at hl 1 rfl) ?_
      cases hf
      exact rti C hS dX3_loseBehind_34
    · replace hf := it_f hc hf
      refine lv_aload_n hx hb dX3_loseBehind_12 rfl (lv_at hl 0 rfl) ?_
      refine hC_7 C hS in_X3_loseBehind_X3 lk_X3_loseBehind_18 dX3_loseBehind_13 ?_
      refine lv_aload_n hx hb dX3_loseBehind_16 rfl (lv_at hl 0 rfl) ?_
      refine hC_9 C hS in_X3_loseBehind_X3 lk_X3_loseBehind_25 dX3_loseBehind_17 ?_
      refine lv_iload_n hx hb dX3_loseBehind_20 rfl (lv_at hl 2 rfl) ?_
      obtain ⟨hck, hf⟩ := cs hf
      refine lC_9 C hS (f := (z.2 9)) rfl (i := x3) hck dX3_loseBehind_21 ?_
      refine lv_iconst (v := 0) hx hb dX3_loseBehind_22 (by decide) ?_
      obtain ⟨hck, hf⟩ := cs hf
      refine sC_7 C hS (i := ((z.2 9) (Int32.toNatClampNeg x3))) (x := 0) hck dX3_loseBehind_23 (fun H locs hS => ?_)
      refine lv_iinc (v := (x2 + 1)) (lv' := [(2, .int (x2 + 1)), (0, .ref (ad 1)), (3, .int x3)]) hx hb dX3_loseBehind_24 hl (k := 1) rfl (congrArg (fun q => x2 + q) (by decide : Int32.ofInt 1 = (1 : Int32))) (by decide) rfl (fun ls hl => ?_)
      refine lv_iinc (v := (x3 + 1)) (lv' := [(3, .int (x3 + 1)), (2, .int (x2 + 1)), (0, .ref (ad 1))]) hx hb dX3_loseBehind_27 hl (k := 2) rfl (congrArg (fun q => x3 + q) (by decide : Int32.ofInt 1 = (1 : Int32))) (by decide) rfl (fun ls hl => ?_)
      refine lv_goto (tgt := 4) hx hb dX3_loseBehind_30 (by decide) ?_
      exact ih (sa z 7 (Int32.toNatClampNeg ((z.2 9) (Int32.toNatClampNeg x3))) 0) (x2 + 1) (x3 + 1) r z' hf H locs ls hS (lv_sub hl [2, 1, 0] rfl)
set_option maxHeartbeats 4000000 in
set_option maxRecDepth 100000 in
theorem w_sg_loseBehind_0 {p : Program} {l : Launch} {e : Env} {s : State} {m : MethodId} {args : Array Value} {below : List Frame} {meth : Method} {c : Code} {D : va_G} {w0 : va_W} {n : Nat} {ad : Nat → Nat} {cA : Nat → ClassId} (C : Cx p s m args meth c cX3_loseBehind 4 (some .int) RX3 wsX3_loseBehind D (tC cA)) (k : Nat) (z : SS) (x1 : Int32) (r : Int32) (z' : SS) (hf : sg_loseBehind n k z x1 = some (r, z')) : ∀ (H : Heap) (locs : List Loc) (ls : Array Slot), St D (va_A w0 s.heap.size) s.heap (wC n ad cA z) H locs → lv_has ls 4 [(0, .ref (ad 1)), (1, .int x1)] → W p l e R_sg_loseBehind s m args below meth c H locs 0 0 (MQ below (kI D (tC cA) r w0 (wC n ad cA z') s.heap.size) args s 0 0 (va_A w0 s.heap.size)) (F0 m 0 ls []) := by
  obtain ⟨hx, hb, hr, hml, hown, hts, hlk, hK⟩ := id C
  intro H locs ls hS hl
  have hf : sg_loseBehind_b4 n k k z 0 x1 = some (r, z') := hf
  refine lv_iconst (v := 0) hx hb dX3_loseBehind_0 (by decide) ?_
  refine lv_istore_n (lv' := [(2, .int 0), (0, .ref (ad 1)), (1, .int x1)]) hx hb dX3_loseBehind_1 rfl hl (by decide) rfl (fun ls hl => ?_)
  refine lv_iload_n hx hb dX3_loseBehind_2 rfl (lv_at hl 2 rfl) ?_
  refine lv_istore_n (lv' := [(3, .int x1), (2, .int 0), (0, .ref (ad 1)), (1, .int x1)]) hx hb dX3_loseBehind_3 rfl hl (by decide) rfl (fun ls hl => ?_)
  exact w_sg_loseBehind_b4 C k k z 0 x1 r z' hf H locs ls hS (lv_sub hl [2, 1, 0] rfl)
set_option maxHeartbeats 4000000 in
set_option maxRecDepth 100000 in
theorem c_sg_loseBehind (l : Launch) (D : va_G) (n : Nat) (ad : Nat → Nat) (cA : Nat → ClassId) (k : Nat) (z : SS) (x1 : Int32) (r : Int32) (z' : SS) (hf : sg_loseBehind n k z x1 = some (r, z')) (sz : Nat) : Met l yX3_loseBehind wsX3_loseBehind R_sg_loseBehind (kP D (tC cA) [.ref (ad 1), .int x1] (wC n ad cA z) sz) (kI D (tC cA) r (wC n ad cA z) (wC n ad cA z') sz) 0 0 (va_A (wC n ad cA z) sz) := by
  refine ent (by decide) rfl rfl (Nat.le_of_ble_eq_true rfl) (fun p e s m args below meth c hsz C hS ls hl => ?_)
  subst hsz
  exact w_sg_loseBehind_0 C k z x1 r z' hf s.heap [] ls hS hl
-- sg_wipe: void wipe(int);
theorem lk_X3_wipe_22 : Cond.fieldLink RX3 22 (TX3 2).1 (TX3 2).2.1 (TX3 2).2.2.1 ∈ wsX3_wipe := by decide +kernel
theorem in_X3_wipe_X3 : ∀ x ∈ u_ws RX3 TX3 6, x ∈ wsX3_wipe := by decide +kernel
theorem lk_X3_wipe_18 : Cond.fieldLink RX3 18 (TX3 1).1 (TX3 1).2.1 (TX3 1).2.2.1 ∈ wsX3_wipe := by decide +kernel
def R_sg_wipe : Room := { frames := 0, cells := 0, slots := 0, locals := 0 }
def sg_wipe_b2 (n : Nat) (k : Nat) : Nat → SS → Int32 → Int32 → Option SS
  | 0, _, _, _ => none
  | fu + 1, z, x1, x2 => (if 200 ≤ x2 then (if ck x1 n = true then some (sa z 8 (Int32.toNatClampNeg x1) 0) else none) else (if ck ((x1 * 200) + x2) (n * 200) = true then sg_wipe_b2 n k fu (sa z 7 (Int32.toNatClampNeg ((x1 * 200) + x2)) 0) x1 (x2 + 1) else none))
def sg_wipe (n : Nat) (k : Nat) (z : SS) (x1 : Int32) : Option SS :=
  sg_wipe_b2 n k k z x1 0
set_option maxHeartbeats 4000000 in
set_option maxRecDepth 100000 in
theorem w_sg_wipe_b2 {p : Program} {l : Launch} {e : Env} {s : State} {m : MethodId} {args : Array Value} {below : List Frame} {meth : Method} {c : Code} {D : va_G} {w0 : va_W} {n : Nat} {ad : Nat → Nat} {cA : Nat → ClassId} (C : Cx p s m args meth c cX3_wipe 3 none RX3 wsX3_wipe D (tC cA)) (k : Nat) : ∀ (fu : Nat) (z : SS) (x1 : Int32) (x2 : Int32) (z' : SS), sg_wipe_b2 n k fu z x1 x2 = some z' → ∀ (H : Heap) (locs : List Loc) (ls : Array Slot), St D (va_A w0 s.heap.size) s.heap (wC n ad cA z) H locs → lv_has ls 3 [(0, .ref (ad 1)), (1, .int x1), (2, .int x2)] → W p l e R_sg_wipe s m args below meth c H locs 0 0 (MQ below (kV D (tC cA) w0 (wC n ad cA z') s.heap.size) args s 0 0 (va_A w0 s.heap.size)) (F0 m 2 ls []) := by
  obtain ⟨hx, hb, hr, hml, hown, hts, hlk, hK⟩ := id C
  intro fu
  induction fu with
  | zero =>
    intro z x1 x2 z' hf
    cases (show (none : Option SS) = some z' from hf)
  | succ fu ih =>
    intro z x1 x2 z' hf H locs ls hS hl
    have hf : (if 200 ≤ x2 then (if ck x1 n = true then some (sa z 8 (Int32.toNatClampNeg x1) 0) else none) else (if ck ((x1 * 200) + x2) (n * 200) = true then sg_wipe_b2 n k fu (sa z 7 (Int32.toNatClampNeg ((x1 * 200) + x2)) 0) x1 (x2 + 1) else none)) = some z' := hf
    refine lv_iload_n hx hb dX3_wipe_2 rfl (lv_at hl 2 rfl) ?_
    refine lv_sipush (v := 200) hx hb dX3_wipe_3 (by decide) ?_
    refine lv_icmp_ge (x := x2) (y := 200) (tgt := 28) hx hb dX3_wipe_6 (by decide) (fun hc => ?_) (fun hc => ?_)
    · replace hf := it_t hc hf
      refine lv_aload_n hx hb dX3_wipe_28 rfl (lv_at hl 0 rfl) ?_
      refine hC_8 C hS in_X3_wipe_X3 lk_X3_wipe_22 dX3_wipe_29 ?_
      refine lv_iload_n hx hb dX3_wipe_32 rfl (lv_at hl 1 rfl) ?_
      refine lv_iconst (v := 0) hx hb dX3_wipe_33 (by decide) ?_
      obtain ⟨hck, hf⟩ := cs hf
      refine sC_8 C hS (i := x1) (x := 0) hck dX3_wipe_34 (fun H locs hS => ?_)
      cases hf
      exact rtv C hS dX3_wipe_35
    · replace hf := it_f hc hf
      refine lv_aload_n hx hb dX3_wipe_9 rfl (lv_at hl 0 rfl) ?_
      refine hC_7 C hS in_X3_wipe_X3 lk_X3_wipe_18 dX3_wipe_10 ?_
      refine lv_iload_n hx hb dX3_wipe_13 rfl (lv_at hl 1 rfl) ?_
      refine lv_sipush (v := 200) hx hb dX3_wipe_14 (by decide) ?_
      refine lv_imul (x := x1) (y := 200) hx hb dX3_wipe_17 ?_
      refine lv_iload_n hx hb dX3_wipe_18 rfl (lv_at hl 2 rfl) ?_
      refine lv_iadd (x := (x1 * 200)) (y := x2) hx hb dX3_wipe_19 ?_
      refine lv_iconst (v := 0) hx hb dX3_wipe_20 (by decide) ?_
      obtain ⟨hck, hf⟩ := cs hf
      refine sC_7 C hS (i := ((x1 * 200) + x2)) (x := 0) hck dX3_wipe_21 (fun H locs hS => ?_)
      refine lv_iinc (v := (x2 + 1)) (lv' := [(2, .int (x2 + 1)), (0, .ref (ad 1)), (1, .int x1)]) hx hb dX3_wipe_22 hl (k := 2) rfl (congrArg (fun q => x2 + q) (by decide : Int32.ofInt 1 = (1 : Int32))) (by decide) rfl (fun ls hl => ?_)
      refine lv_goto (tgt := 2) hx hb dX3_wipe_25 (by decide) ?_
      exact ih (sa z 7 (Int32.toNatClampNeg ((x1 * 200) + x2)) 0) x1 (x2 + 1) z' hf H locs ls hS (lv_sub hl [1, 2, 0] rfl)
set_option maxHeartbeats 4000000 in
set_option maxRecDepth 100000 in
theorem w_sg_wipe_0 {p : Program} {l : Launch} {e : Env} {s : State} {m : MethodId} {args : Array Value} {below : List Frame} {meth : Method} {c : Code} {D : va_G} {w0 : va_W} {n : Nat} {ad : Nat → Nat} {cA : Nat → ClassId} (C : Cx p s m args meth c cX3_wipe 3 none RX3 wsX3_wipe D (tC cA)) (k : Nat) (z : SS) (x1 : Int32) (z' : SS) (hf : sg_wipe n k z x1 = some z') : ∀ (H : Heap) (locs : List Loc) (ls : Array Slot), St D (va_A w0 s.heap.size) s.heap (wC n ad cA z) H locs → lv_has ls 3 [(0, .ref (ad 1)), (1, .int x1)] → W p l e R_sg_wipe s m args below meth c H locs 0 0 (MQ below (kV D (tC cA) w0 (wC n ad cA z') s.heap.size) args s 0 0 (va_A w0 s.heap.size)) (F0 m 0 ls []) := by
  obtain ⟨hx, hb, hr, hml, hown, hts, hlk, hK⟩ := id C
  intro H locs ls hS hl
  have hf : sg_wipe_b2 n k k z x1 0 = some z' := hf
  refine lv_iconst (v := 0) hx hb dX3_wipe_0 (by decide) ?_
  refine lv_istore_n (lv' := [(2, .int 0), (0, .ref (ad 1)), (1, .int x1)]) hx hb dX3_wipe_1 rfl hl (by decide) rfl (fun ls hl => ?_)
  exact w_sg_wipe_b2 C k k z x1 0 z' hf H locs ls hS (lv_sub hl [1, 2, 0] rfl)
set_option maxHeartbeats 4000000 in
set_option maxRecDepth 100000 in
theorem c_sg_wipe (l : Launch) (D : va_G) (n : Nat) (ad : Nat → Nat) (cA : Nat → ClassId) (k : Nat) (z : SS) (x1 : Int32) (z' : SS) (hf : sg_wipe n k z x1 = some z') (sz : Nat) : Met l yX3_wipe wsX3_wipe R_sg_wipe (kP D (tC cA) [.ref (ad 1), .int x1] (wC n ad cA z) sz) (kV D (tC cA) (wC n ad cA z) (wC n ad cA z') sz) 0 0 (va_A (wC n ad cA z) sz) := by
  refine ent (by decide) rfl rfl (Nat.le_of_ble_eq_true rfl) (fun p e s m args below meth c hsz C hS ls hl => ?_)
  subst hsz
  exact w_sg_wipe_0 C k z x1 z' hf s.heap [] ls hS hl
