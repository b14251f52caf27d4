-- sn_isOpen: boolean isOpen(int);
theorem lk_X4_isOpen_11 : Cond.fieldLink RX4 11 (TX4 0).1 (TX4 0).2.1 (TX4 0).2.2.1 ∈ wsX4_isOpen := by decide +kernel
theorem in_X4_isOpen_X4 : ∀ x ∈ u_ws RX4 TX4 2, x ∈ wsX4_isOpen := by decide +kernel
def R_sn_isOpen : Room := { frames := 0, cells := 0, slots := 0, locals := 0 }
def sn_isOpen (n : Nat) (k : Nat) (z : SS) (x1 : Int32) : Option Int32 :=
  (if x1 < 0 then some 0 else (if 4 ≤ x1 then some 0 else (if ck x1 4 = true then (if ((z.2 16) (Int32.toNatClampNeg x1)) = 0 then some 0 else some 1) else none)))
set_option maxHeartbeats 4000000 in
set_option maxRecDepth 100000 in
theorem w_sn_isOpen_0 {p : Program} {l : Launch} {e : Env} {s : State} {m : MethodId} {args : Array Value} {below : List Frame} {meth : Method} {c : Code} {D : va_G} {w0 : va_W} {n : Nat} {ad : Nat → Nat} {cA : Nat → ClassId} (C : Cx p s m args meth c cX4_isOpen 2 (some .boolean) RX4 wsX4_isOpen D (tC cA)) (k : Nat) (z : SS) (x1 : Int32) (r : Int32) (hf : sn_isOpen n k z x1 = some r) : ∀ (H : Heap) (locs : List Loc) (ls : Array Slot), St D (va_A w0 s.heap.size) s.heap (wC n ad cA z) H locs → lv_has ls 2 [(0, .ref (ad 3)), (1, .int x1)] → W p l e R_sn_isOpen s m args below meth c H locs 0 0 (MQ below (kI D (tC cA) r w0 (wC n ad cA z) s.heap.size) args s 0 0 (va_A w0 s.heap.size)) (F0 m 0 ls []) := by
  obtain ⟨hx, hb, hr, hml, hown, hts, hlk, hK⟩ := id C
  intro H locs ls hS hl
  have hf : (if x1 < 0 then some 0 else (if 4 ≤ x1 then some 0 else (if ck x1 4 = true then (if ((z.2 16) (Int32.toNatClampNeg x1)) = 0 then some 0 else some 1) else none))) = some r := hf
  refine lv_iload_n hx hb dX4_isOpen_0 rfl (lv_at hl 1 rfl) ?_
  refine lv_if_lt (x := x1) (tgt := 22) hx hb dX4_isOpen_1 (by decide) (fun hc => ?_) (fun hc => ?_)
  · replace hf := it_t hc hf
    refine lv_iconst (v := 0) hx hb dX4_isOpen_22 (by decide) ?_
    cases hf
    exact rtz C hS (by decide) dX4_isOpen_23
  · replace hf := it_f hc hf
    refine lv_iload_n hx hb dX4_isOpen_4 rfl (lv_at hl 1 rfl) ?_
    refine lv_iconst (v := 4) hx hb dX4_isOpen_5 (by decide) ?_
    refine lv_icmp_ge (x := x1) (y := 4) (tgt := 22) hx hb dX4_isOpen_6 (by decide) (fun hc => ?_) (fun hc => ?_)
    · replace hf := it_t hc hf
      refine lv_iconst (v := 0) hx hb dX4_isOpen_22 (by decide) ?_
      cases hf
      exact rtz C hS (by decide) dX4_isOpen_23
    · replace hf := it_f hc hf
      refine lv_aload_n hx hb dX4_isOpen_9 rfl (lv_at hl 0 rfl) ?_
      refine hC_16 C hS in_X4_isOpen_X4 lk_X4_isOpen_11 dX4_isOpen_10 ?_
      refine lv_iload_n hx hb dX4_isOpen_13 rfl (lv_at hl 1 rfl) ?_
      obtain ⟨hck, hf⟩ := cs hf
      refine lC_16 C hS (f := (z.2 16)) rfl (i := x1) hck dX4_isOpen_14 ?_
      refine lv_if_eq (x := ((z.2 16) (Int32.toNatClampNeg x1))) (tgt := 22) hx hb dX4_isOpen_15 (by decide) (fun hc => ?_) (fun hc => ?_)
      · replace hf := it_t hc hf
        refine lv_iconst (v := 0) hx hb dX4_isOpen_22 (by decide) ?_
        cases hf
        exact rtz C hS (by decide) dX4_isOpen_23
      · replace hf := it_f hc hf
        refine lv_iconst (v := 1) hx hb dX4_isOpen_18 (by decide) ?_
        refine lv_goto (tgt := 23) hx hb dX4_isOpen_19 (by decide) ?_
        cases hf
        exact rtz C hS (by decide) dX4_isOpen_23
set_option maxHeartbeats 4000000 in
set_option maxRecDepth 100000 in
theorem c_sn_isOpen (l : Launch) (D : va_G) (n : Nat) (ad : Nat → Nat) (cA : Nat → ClassId) (k : Nat) (z : SS) (x1 : Int32) (r : Int32) (hf : sn_isOpen n k z x1 = some r) (sz : Nat) : Met l yX4_isOpen wsX4_isOpen R_sn_isOpen (kP D (tC cA) [.ref (ad 3), .int x1] (wC n ad cA z) sz) (kI D (tC cA) r (wC n ad cA z) (wC n ad cA z) sz) 0 0 (va_A (wC n ad cA z) sz) := by
  refine ent (by decide) rfl rfl (Nat.le_of_ble_eq_true rfl) (fun p e s m args below meth c hsz C hS ls hl => ?_)
  subst hsz
  exact w_sn_isOpen_0 C k z x1 r hf s.heap [] ls hS hl
-- sn_leastNotOpen: int leastNotOpen();
theorem lk_X4_leastNotOpen_11 : Cond.fieldLink RX4 11 (TX4 0).1 (TX4 0).2.1 (TX4 0).2.2.1 ∈ wsX4_leastNotOpen := by decide +kernel
theorem in_X4_leastNotOpen_X4 : ∀ x ∈ u_ws RX4 TX4 2, x ∈ wsX4_leastNotOpen := by decide +kernel
def R_sn_leastNotOpen : Room := { frames := 0, cells := 0, slots := 0, locals := 0 }
def sn_leastNotOpen_b2 (n : Nat) (k : Nat) (z : SS) : Nat → Int32 → Option Int32
  | 0, _ => none
  | fu + 1, x1 => (if 4 ≤ x1 then some (-1) else (if ck x1 4 = true then (if ((z.2 16) (Int32.toNatClampNeg x1)) = 0 then some x1 else sn_leastNotOpen_b2 n k z fu (x1 + 1)) else none))
def sn_leastNotOpen (n : Nat) (k : Nat) (z : SS) : Option Int32 :=
  sn_leastNotOpen_b2 n k z k 0
set_option maxHeartbeats 4000000 in
set_option maxRecDepth 100000 in
theorem w_sn_leastNotOpen_b2 {p : Program} {l : Launch} {e : Env} {s : State} {m : MethodId} {args : Array Value} {below : List Frame} {meth : Method} {c : Code} {D : va_G} {w0 : va_W} {n : Nat} {ad : Nat → Nat} {cA : Nat → ClassId} (C : Cx p s m args meth c cX4_leastNotOpen 2 (some .int) RX4 wsX4_leastNotOpen D (tC cA)) (k : Nat) (z : SS) : ∀ (fu : Nat) (x1 : Int32) (r : Int32), sn_leastNotOpen_b2 n k z fu x1 = some r → ∀ (H : Heap) (locs : List Loc) (ls : Array Slot), St D (va_A w0 s.heap.size) s.heap (wC n ad cA z) H locs → lv_has ls 2 [(0, .ref (ad 3)), (1, .int x1)] → W p l e R_sn_leastNotOpen s m args below meth c H locs 0 0 (MQ below (kI D (tC cA) r w0 (wC n ad cA z) s.heap.size) args s 0 0 (va_A w0 s.heap.size)) (F0 m 2 ls []) := by
  obtain ⟨hx, hb, hr, hml, hown, hts, hlk, hK⟩ := id C
  intro fu
  induction fu with
  | zero =>
    intro x1 r hf
    cases (show (none : Option Int32) = some r from hf)
  | succ fu ih =>
    intro x1 r hf H locs ls hS hl
    have hf : (if 4 ≤ x1 then some (-1) else (if ck x1 4 = true then (if ((z.2 16) (Int32.toNatClampNeg x1)) = 0 then some x1 else sn_leastNotOpen_b2 n k z fu (x1 + 1)) else none)) = some r := hf
    refine lv_iload_n hx hb dX4_leastNotOpen_2 rfl (lv_at hl 1 rfl) ?_
    refine lv_iconst (v := 4) hx hb dX4_leastNotOpen_3 (by decide) ?_
    refine lv_icmp_ge (x := x1) (y := 4) (tgt := 24) hx hb dX4_leastNotOpen_4 (by decide) (fun hc => ?_) (fun hc => ?_)
    · replace hf := it_t hc hf
      refine lv_iconst (v := (-1)) hx hb dX4_leastNotOpen_24 (by decide) ?_
      cases hf
      exact rti C hS dX4_leastNotOpen_25
    · replace hf := it_f hc hf
      refine lv_aload_n hx hb dX4_leastNotOpen_7 rfl (lv_at hl 0 rfl) ?_
      refine hC_16 C hS in_X4_leastNotOpen_X4 lk_X4_leastNotOpen_11 dX4_leastNotOpen_8 ?_
      refine lv_iload_n hx hb dX4_leastNotOpen_11 rfl (lv_at hl 1 rfl) ?_
      obtain ⟨hck, hf⟩ := cs hf
      refine lC_16 C hS (f := (z.2 16)) rfl (i := x1) hck dX4_leastNotOpen_12 ?_
      refine lv_if_ne (x := ((z.2 16) (Int32.toNatClampNeg x1))) (tgt := 18) hx hb dX4_leastNotOpen_13 (by decide) (fun hc => ?_) (fun hc => ?_)
      · replace hf := it_f hc hf
        refine lv_iinc (v := (x1 + 1)) (lv' := [(1, .int (x1 + 1)), (0, .ref (ad 3))]) hx hb dX4_leastNotOpen_18 hl (k := 1) rfl (congrArg (fun q => x1 + q) (by decide : Int32.ofInt 1 = (1 : Int32))) (by decide) rfl (fun ls hl => ?_)
        refine lv_goto (tgt := 2) hx hb dX4_leastNotOpen_21 (by decide) ?_
        exact ih (x1 + 1) r hf H locs ls hS (lv_sub hl [1, 0] rfl)
      · replace hf := it_t hc hf
        refine lv_iload_n hx hb dX4_leastNotOpen_16 rfl (lv_at hl 1 rfl) ?_
        cases hf
        exact rti C hS dX4_leastNotOpen_17
set_option maxHeartbeats 4000000 in
set_option maxRecDepth 100000 in
theorem w_sn_leastNotOpen_0 {p : Program} {l : Launch} {e : Env} {s : State} {m : MethodId} {args : Array Value} {below : List Frame} {meth : Method} {c : Code} {D : va_G} {w0 : va_W} {n : Nat} {ad : Nat → Nat} {cA : Nat → ClassId} (C : Cx p s m args meth c cX4_leastNotOpen 2 (some .int) RX4 wsX4_leastNotOpen D (tC cA)) (k : Nat) (z : SS) (r : Int32) (hf : sn_leastNotOpen n k z = some r) : ∀ (H : Heap) (locs : List Loc) (ls : Array Slot), St D (va_A w0 s.heap.size) s.heap (wC n ad cA z) H locs → lv_has ls 2 [(0, .ref (ad 3))] → W p l e R_sn_leastNotOpen s m args below meth c H locs 0 0 (MQ below (kI D (tC cA) r w0 (wC n ad cA z) s.heap.size) args s 0 0 (va_A w0 s.heap.size)) (F0 m 0 ls []) := by
  obtain ⟨hx, hb, hr, hml, hown, hts, hlk, hK⟩ := id C
  intro H locs ls hS hl
  have hf : sn_leastNotOpen_b2 n k z k 0 = some r := hf
  refine lv_iconst (v := 0) hx hb dX4_leastNotOpen_0 (by decide) ?_
  refine lv_istore_n (lv' := [(1, .int 0), (0, .ref (ad 3))]) hx hb dX4_leastNotOpen_1 rfl hl (by decide) rfl (fun ls hl => ?_)
  exact w_sn_leastNotOpen_b2 C k z k 0 r hf H locs ls hS (lv_sub hl [1, 0] rfl)
set_option maxHeartbeats 4000000 in
set_option maxRecDepth 100000 in
theorem c_sn_leastNotOpen (l : Launch) (D : va_G) (n : Nat) (ad : Nat → Nat) (cA : Nat → ClassId) (k : Nat) (z : SS) (r : Int32) (hf : sn_leastNotOpen n k z = some r) (sz : Nat) : Met l yX4_leastNotOpen wsX4_leastNotOpen R_sn_leastNotOpen (kP D (tC cA) [.ref (ad 3)] (wC n ad cA z) sz) (kI D (tC cA) r (wC n ad cA z) (wC n ad cA z) sz) 0 0 (va_A (wC n ad cA z) sz) := by
  refine ent (by decide) rfl rfl (Nat.le_of_ble_eq_true rfl) (fun p e s m args below meth c hsz C hS ls hl => ?_)
  subst hsz
  exact w_sn_leastNotOpen_0 C k z r hf s.heap [] ls hS hl
-- sn_openCount: int openCount();
theorem lk_X4_openCount_11 : Cond.fieldLink RX4 11 (TX4 0).1 (TX4 0).2.1 (TX4 0).2.2.1 ∈ wsX4_openCount := by decide +kernel
theorem in_X4_openCount_X4 : ∀ x ∈ u_ws RX4 TX4 2, x ∈ wsX4_openCount := by decide +kernel
def R_sn_openCount : Room := { frames := 0, cells := 0, slots := 0, locals := 0 }
def sn_openCount_b4 (n : Nat) (k : Nat) (z : SS) : Nat → Int32 → Int32 → Option Int32
  | 0, _, _ => none
  | fu + 1, x1, x2 => (if 4 ≤ x2 then some x1 else (if ck x2 4 = true then (if ((z.2 16) (Int32.toNatClampNeg x2)) = 0 then sn_openCount_b4 n k z fu x1 (x2 + 1) else sn_openCount_b4 n k z fu (x1 + 1) (x2 + 1)) else none))
def sn_openCount (n : Nat) (k : Nat) (z : SS) : Option Int32 :=
  sn_openCount_b4 n k z k 0 0
set_option maxHeartbeats 4000000 in
set_option maxRecDepth 100000 in
theorem w_sn_openCount_b4 {p : Program} {l : Launch} {e : Env} {s : State} {m : MethodId} {args : Array Value} {below : List Frame} {meth : Method} {c : Code} {D : va_G} {w0 : va_W} {n : Nat} {ad : Nat → Nat} {cA : Nat → ClassId} (C : Cx p s m args meth c cX4_openCount 3 (some .int) RX4 wsX4_openCount D (tC cA)) (k : Nat) (z : SS) : ∀ (fu : Nat) (x1 : Int32) (x2 : Int32) (r : Int32), sn_openCount_b4 n k z fu x1 x2 = some r → ∀ (H : Heap) (locs : List Loc) (ls : Array Slot), St D (va_A w0 s.heap.size) s.heap (wC n ad cA z) H locs → lv_has ls 3 [(0, .ref (ad 3)), (1, .int x1), (2, .int x2)] → W p l e R_sn_openCount s m args below meth c H locs 0 0 (MQ below (kI D (tC cA) r w0 (wC n ad cA z) s.heap.size) args s 0 0 (va_A w0 s.heap.size)) (F0 m 4 ls []) := by
  obtain ⟨hx, hb, hr, hml, hown, hts, hlk, hK⟩ := id C
  intro fu
  induction fu with
  | zero =>
    intro x1 x2 r hf
    cases (show (none : Option Int32) = some r from hf)
  | succ fu ih =>
    intro x1 x2 r hf H locs ls hS hl
    have hf : (if 4 ≤ x2 then some x1 else (if ck x2 4 = true then (if ((z.2 16) (Int32.toNatClampNeg x2)) = 0 then sn_openCount_b4 n k z fu x1 (x2 + 1) else sn_openCount_b4 n k z fu (x1 + 1) (x2 + 1)) else none)) = some r := hf
    refine lv_iload_n hx hb dX4_openCount_4 rfl (lv_at hl 2 rfl) ?_
    refine lv_iconst (v := 4) hx hb dX4_openCount_5 (by decide) ?_
    refine lv_icmp_ge (x := x2) (y := 4) (tgt := 27) hx hb dX4_openCount_6 (by decide) (fun hc => ?_) (fun hc => ?_)
    · replace hf := it_t hc hf
      refine lv_iload_n hx hb dX4_openCount_27 rfl (lv_at hl 1 rfl) ?_
      cases hf
      exact rti C hS dX4_openCount_28
    · replace hf := it_f hc hf
      refine lv_aload_n hx hb dX4_openCount_9 rfl (lv_at hl 0 rfl) ?_
      refine hC_16 C hS in_X4_openCount_X4 lk_X4_openCount_11 dX4_openCount_10 ?_
      refine lv_iload_n hx hb dX4_openCount_13 rfl (lv_at hl 2 rfl) ?_
      obtain ⟨hck, hf⟩ := cs hf
      refine lC_16 C hS (f := (z.2 16)) rfl (i := x2) hck dX4_openCount_14 ?_
      refine lv_if_eq (x := ((z.2 16) (Int32.toNatClampNeg x2))) (tgt := 21) hx hb dX4_openCount_15 (by decide) (fun hc => ?_) (fun hc => ?_)
      · replace hf := it_t hc hf
        refine lv_iinc (v := (x2 + 1)) (lv' := [(2, .int (x2 + 1)), (0, .ref (ad 3)), (1, .int x1)]) hx hb dX4_openCount_21 hl (k := 2) rfl (congrArg (fun q => x2 + q) (by decide : Int32.ofInt 1 = (1 : Int32))) (by decide) rfl (fun ls hl => ?_)
        refine lv_goto (tgt := 4) hx hb dX4_openCount_24 (by decide) ?_
        exact ih x1 (x2 + 1) r hf H locs ls hS (lv_sub hl [1, 2, 0] rfl)
      · replace hf := it_f hc hf
        refine lv_iinc (v := (x1 + 1)) (lv' := [(1, .int (x1 + 1)), (0, .ref (ad 3)), (2, .int x2)]) hx hb dX4_openCount_18 hl (k := 1) rfl (congrArg (fun q => x1 + q) (by decide : Int32.ofInt 1 = (1 : Int32))) (by decide) rfl (fun ls hl => ?_)
        refine lv_iinc (v := (x2 + 1)) (lv' := [(2, .int (x2 + 1)), (1, .int (x1 + 1)), (0, .ref (ad 3))]) hx hb dX4_openCount_21 hl (k := 2) rfl (congrArg (fun q => x2 + q) (by decide : Int32.ofInt 1 = (1 : Int32))) (by decide) rfl (fun ls hl => ?_)
        refine lv_goto (tgt := 4) hx hb dX4_openCount_24 (by decide) ?_
        exact ih (x1 + 1) (x2 + 1) r hf H locs ls hS (lv_sub hl [2, 1, 0] rfl)
set_option maxHeartbeats 4000000 in
set_option maxRecDepth 100000 in
theorem w_sn_openCount_0 {p : Program} {l : Launch} {e : Env} {s : State} {m : MethodId} {args : Array Value} {below : List Frame} {meth : Method} {c : Code} {D : va_G} {w0 : va_W} {n : Nat} {ad : Nat → Nat} {cA : Nat → ClassId} (C : Cx p s m args meth c cX4_openCount 3 (some .int) RX4 wsX4_openCount D (tC cA)) (k : Nat) (z : SS) (r : Int32) (hf : sn_openCount n k z = some r) : ∀ (H : Heap) (locs : List Loc) (ls : Array Slot), St D (va_A w0 s.heap.size) s.heap (wC n ad cA z) H locs → lv_has ls 3 [(0, .ref (ad 3))] → W p l e R_sn_openCount s m args below meth c H locs 0 0 (MQ below (kI D (tC cA) r w0 (wC n ad cA z) s.heap.size) args s 0 0 (va_A w0 s.heap.size)) (F0 m 0 ls []) := by
  obtain ⟨hx, hb, hr, hml, hown, hts, hlk, hK⟩ := id C
  intro H locs ls hS hl
  have hf : sn_openCount_b4 n k z k 0 0 = some r := hf
  refine lv_iconst (v := 0) hx hb dX4_openCount_0 (by decide) ?_
  refine lv_istore_n (lv' := [(1, .int 0), (0, .ref (ad 3))]) hx hb dX4_openCount_1 rfl hl (by decide) rfl (fun ls hl => ?_)
  refine lv_iconst (v := 0) hx hb dX4_openCount_2 (by decide) ?_
  refine lv_istore_n (lv' := [(2, .int 0), (1, .int 0), (0, .ref (ad 3))]) hx hb dX4_openCount_3 rfl hl (by decide) rfl (fun ls hl => ?_)
  exact w_sn_openCount_b4 C k z k 0 0 r hf H locs ls hS (lv_sub hl [2, 1, 0] rfl)
set_option maxHeartbeats 4000000 in
set_option maxRecDepth 100000 in
theorem c_sn_openCount (l : Launch) (D : va_G) (n : Nat) (ad : Nat → Nat) (cA : Nat → ClassId) (k : Nat) (z : SS) (r : Int32) (hf : sn_openCount n k z = some r) (sz : Nat) : Met l yX4_openCount wsX4_openCount R_sn_openCount (kP D (tC cA) [.ref (ad 3)] (wC n ad cA z) sz) (kI D (tC cA) r (wC n ad cA z) (wC n ad cA z) sz) 0 0 (va_A (wC n ad cA z) sz) := by
  refine ent (by decide) rfl rfl (Nat.le_of_ble_eq_true rfl) (fun p e s m args below meth c hsz C hS ls hl => ?_)
  subst hsz
  exact w_sn_openCount_0 C k z r hf s.heap [] ls hS hl
-- sn_anyWithin: boolean anyWithin(int, int);
theorem lk_X4_anyWithin_11 : Cond.fieldLink RX4 11 (TX4 0).1 (TX4 0).2.1 (TX4 0).2.2.1 ∈ wsX4_anyWithin := by decide +kernel
theorem in_X4_anyWithin_X4 : ∀ x ∈ u_ws RX4 TX4 2, x ∈ wsX4_anyWithin := by decide +kernel
theorem lk_X4_anyWithin_15 : Cond.fieldLink RX4 15 (TX4 1).1 (TX4 1).2.1 (TX4 1).2.2.1 ∈ wsX4_anyWithin := by decide +kernel
def R_sn_anyWithin : Room := { frames := 0, cells := 0, slots := 0, locals := 0 }
def sn_anyWithin_b2 (n : Nat) (k : Nat) (z : SS) : Nat → Int32 → Int32 → Int32 → Option Int32
  | 0, _, _, _ => none
  | fu + 1, x1, x2, x3 => (if 4 ≤ x3 then some 0 else (if ck x3 4 = true then (if ((z.2 16) (Int32.toNatClampNeg x3)) = 0 then sn_anyWithin_b2 n k z fu x1 x2 (x3 + 1) else (if ck x3 4 = true then (if ((z.2 17) (Int32.toNatClampNeg x3)) < x1 then sn_anyWithin_b2 n k z fu x1 x2 (x3 + 1) else (if ck x3 4 = true then (if x2 ≤ ((z.2 17) (Int32.toNatClampNeg x3)) then sn_anyWithin_b2 n k z fu x1 x2 (x3 + 1) else some 1) else none)) else none)) else none))
def sn_anyWithin (n : Nat) (k : Nat) (z : SS) (x1 : Int32) (x2 : Int32) : Option Int32 :=
  sn_anyWithin_b2 n k z k x1 x2 0
set_option maxHeartbeats 4000000 in
set_option maxRecDepth 100000 in
theorem w_sn_anyWithin_b2 {p : Program} {l : Launch} {e : Env} {s : State} {m : MethodId} {args : Array Value} {below : List Frame} {meth : Method} {c : Code} {D : va_G} {w0 : va_W} {n : Nat} {ad : Nat → Nat} {cA : Nat → ClassId} (C : Cx p s m args meth c cX4_anyWithin 4 (some .boolean) RX4 wsX4_anyWithin D (tC cA)) (k : Nat) (z : SS) : ∀ (fu : Nat) (x1 : Int32) (x2 : Int32) (x3 : Int32) (r : Int32), sn_anyWithin_b2 n k z fu x1 x2 x3 = some r → ∀ (H : Heap) (locs : List Loc) (ls : Array Slot), St D (va_A w0 s.heap.size) s.heap (wC n ad cA z) H locs → lv_has ls 4 [(0, .ref (ad 3)), (1, .int x1), (2, .int x2), (3, .int x3)] → W p l e R_sn_anyWithin s m args below meth c H locs 0 0 (MQ below (kI D (tC cA) r w0 (wC n ad cA z) s.heap.size) args s 0 0 (va_A w0 s.heap.size)) (F0 m 2 ls []) := by
  obtain ⟨hx, hb, hr, hml, hown, hts, hlk, hK⟩ := id C
  intro fu
  induction fu with
  | zero =>
    intro x1 x2 x3 r hf
    cases (show (none : Option Int32) = some r from hf)
  | succ fu ih =>
    intro x1 x2 x3 r hf H locs ls hS hl
    have hf : (if 4 ≤ x3 then some 0 else (if ck x3 4 = true then (if ((z.2 16) (Int32.toNatClampNeg x3)) = 0 then sn_anyWithin_b2 n k z fu x1 x2 (x3 + 1) else (if ck x3 4 = true then (if ((z.2 17) (Int32.toNatClampNeg x3)) < x1 then sn_anyWithin_b2 n k z fu x1 x2 (x3 + 1) else (if ck x3 4 = true then (if x2 ≤ ((z.2 17) (Int32.toNatClampNeg x3)) then sn_anyWithin_b2 n k z fu x1 x2 (x3 + 1) else some 1) else none)) else none)) else none)) = some r := hf
    refine lv_iload_n hx hb dX4_anyWithin_2 rfl (lv_at hl 3 rfl) ?_
    refine lv_iconst (v := 4) hx hb dX4_anyWithin_3 (by decide) ?_
    refine lv_icmp_ge (x := x3) (y := 4) (tgt := 44) hx hb dX4_anyWithin_4 (by decide) (fun hc => ?_) (fun hc => ?_)
    · replace hf := it_t hc hf
      refine lv_iconst (v := 0) hx hb dX4_anyWithin_44 (by decide) ?_
      cases hf
      exact rtz C hS (by decide) dX4_anyWithin_45
    · replace hf := it_f hc hf
      refine lv_aload_n hx hb dX4_anyWithin_7 rfl (lv_at hl 0 rfl) ?_
      refine hC_16 C hS in_X4_anyWithin_X4 lk_X4_anyWithin_11 dX4_anyWithin_8 ?_
      refine lv_iload_n hx hb dX4_anyWithin_11 rfl (lv_at hl 3 rfl) ?_
      obtain ⟨hck, hf⟩ := cs hf
      refine lC_16 C hS (f := (z.2 16)) rfl (i := x3) hck dX4_anyWithin_12 ?_
      refine lv_if_eq (x := ((z.2 16) (Int32.toNatClampNeg x3))) (tgt := 38) hx hb dX4_anyWithin_13 (by decide) (fun hc => ?_) (fun hc => ?_)
      · replace hf := it_t hc hf
        refine lv_iinc (v := (x3 + 1)) (lv' := [(3, .int (x3 + 1)), (0, .ref (ad 3)), (1, .int x1), (2, .int x2)]) hx hb dX4_anyWithin_38 hl (k := 3) rfl (congrArg (fun q => x3 + q) (by decide : Int32.ofInt 1 = (1 : Int32))) (by decide) rfl (fun ls hl => ?_)
        refine lv_goto (tgt := 2) hx hb dX4_anyWithin_41 (by decide) ?_
        exact ih x1 x2 (x3 + 1) r hf H locs ls hS (lv_sub hl [1, 2, 3, 0] rfl)
      · replace hf := it_f hc hf
        refine lv_aload_n hx hb dX4_anyWithin_16 rfl (lv_at hl 0 rfl) ?_
        refine hC_17 C hS in_X4_anyWithin_X4 lk_X4_anyWithin_15 dX4_anyWithin_17 ?_
        refine lv_iload_n hx hb dX4_anyWithin_20 rfl (lv_at hl 3 rfl) ?_
        obtain ⟨hck, hf⟩ := cs hf
        refine lC_17 C hS (f := (z.2 17)) rfl (i := x3) hck dX4_anyWithin_21 ?_
        refine lv_iload_n hx hb dX4_anyWithin_22 rfl (lv_at hl 1 rfl) ?_
        refine lv_icmp_lt (x := ((z.2 17) (Int32.toNatClampNeg x3))) (y := x1) (tgt := 38) hx hb dX4_anyWithin_23 (by decide) (fun hc => ?_) (fun hc => ?_)
        · replace hf := it_t hc hf
          refine lv_iinc (v := (x3 + 1)) (lv' := [(3, .int (x3 + 1)), (0, .ref (ad 3)), (1, .int x1), (2, .int x2)]) hx hb dX4_anyWithin_38 hl (k := 3) rfl (congrArg (fun q => x3 + q) (by decide : Int32.ofInt 1 = (1 : Int32))) (by decide) rfl (fun ls hl => ?_)
          refine lv_goto (tgt := 2) hx hb dX4_anyWithin_41 (by decide) ?_
          exact ih x1 x2 (x3 + 1) r hf H locs ls hS (lv_sub hl [1, 2, 3, 0] rfl)
        · replace hf := it_f hc hf
          refine lv_aload_n hx hb dX4_anyWithin_26 rfl (lv_at hl 0 rfl) ?_
          refine hC_17 C hS in_X4_anyWithin_X4 lk_X4_anyWithin_15 dX4_anyWithin_27 ?_
          refine lv_iload_n hx hb dX4_anyWithin_30 rfl (lv_at hl 3 rfl) ?_
          obtain ⟨hck, hf⟩ := cs hf
          refine lC_17 C hS (f := (z.2 17)) rfl (i := x3) hck dX4_anyWithin_31 ?_
          refine lv_iload_n hx hb dX4_anyWithin_32 rfl (lv_at hl 2 rfl) ?_
          refine lv_icmp_ge (x := ((z.2 17) (Int32.toNatClampNeg x3))) (y := x2) (tgt := 38) hx hb dX4_anyWithin_33 (by decide) (fun hc => ?_) (fun hc => ?_)
          · replace hf := it_t hc hf
            refine lv_iinc (v := (x3 + 1)) (lv' := [(3, .int (x3 + 1)), (0, .ref (ad 3)), (1, .int x1), (2, .int x2)]) hx hb dX4_anyWithin_38 hl (k := 3) rfl (congrArg (fun q => x3 + q) (by decide : Int32.ofInt 1 = (1 : Int32))) (by decide) rfl (fun ls hl => ?_)
            refine lv_goto (tgt := 2) hx hb dX4_anyWithin_41 (by decide) ?_
            exact ih x1 x2 (x3 + 1) r hf H locs ls hS (lv_sub hl [1, 2, 3, 0] rfl)
          · replace hf := it_f hc hf
            refine lv_iconst (v := 1) hx hb dX4_anyWithin_36 (by decide) ?_
            cases hf
            exact rtz C hS (by decide) dX4_anyWithin_37
set_option maxHeartbeats 4000000 in
set_option maxRecDepth 100000 in
theorem w_sn_anyWithin_0 {p : Program} {l : Launch} {e : Env} {s : State} {m : MethodId} {args : Array Value} {below : List Frame} {meth : Method} {c : Code} {D : va_G} {w0 : va_W} {n : Nat} {ad : Nat → Nat} {cA : Nat → ClassId} (C : Cx p s m args meth c cX4_anyWithin 4 (some .boolean) RX4 wsX4_anyWithin D (tC cA)) (k : Nat) (z : SS) (x1 : Int32) (x2 : Int32) (r : Int32) (hf : sn_anyWithin n k z x1 x2 = some r) : ∀ (H : Heap) (locs : List Loc) (ls : Array Slot), St D (va_A w0 s.heap.size) s.heap (wC n ad cA z) H locs → lv_has ls 4 [(0, .ref (ad 3)), (1, .int x1), (2, .int x2)] → W p l e R_sn_anyWithin s m args below meth c H locs 0 0 (MQ below (kI D (tC cA) r w0 (wC n ad cA z) s.heap.size) args s 0 0 (va_A w0 s.heap.size)) (F0 m 0 ls []) := by
  obtain ⟨hx, hb, hr, hml, hown, hts, hlk, hK⟩ := id C
  intro H locs ls hS hl
  have hf : sn_anyWithin_b2 n k z k x1 x2 0 = some r := hf
  refine lv_iconst (v := 0) hx hb dX4_anyWithin_0 (by decide) ?_
  refine lv_istore_n (lv' := [(3, .int 0), (0, .ref (ad 3)), (1, .int x1), (2, .int x2)]) hx hb dX4_anyWithin_1 rfl hl (by decide) rfl (fun ls hl => ?_)
  exact w_sn_anyWithin_b2 C k z k x1 x2 0 r hf H locs ls hS (lv_sub hl [1, 2, 3, 0] rfl)
set_option maxHeartbeats 4000000 in
set_option maxRecDepth 100000 in
theorem c_sn_anyWithin (l : Launch) (D : va_G) (n : Nat) (ad : Nat → Nat) (cA : Nat → ClassId) (k : Nat) (z : SS) (x1 : Int32) (x2 : Int32) (r : Int32) (hf : sn_anyWithin n k z x1 x2 = some r) (sz : Nat) : Met l yX4_anyWithin wsX4_anyWithin R_sn_anyWithin (kP D (tC cA) [.ref (ad 3), .int x1, .int x2] (wC n ad cA z) sz) (kI D (tC cA) r (wC n ad cA z) (wC n ad cA z) sz) 0 0 (va_A (wC n ad cA z) sz) := by
  refine ent (by decide) rfl rfl (Nat.le_of_ble_eq_true rfl) (fun p e s m args below meth c hsz C hS ls hl => ?_)
  subst hsz
  exact w_sn_anyWithin_0 C k z x1 x2 r hf s.heap [] ls hS hl
-- sn_open: void open(int, int);
theorem lk_X4_open_11 : Cond.fieldLink RX4 11 (TX4 0).1 (TX4 0).2.1 (TX4 0).2.2.1 ∈ wsX4_open := by decide +kernel
theorem in_X4_open_X4 : ∀ x ∈ u_ws RX4 TX4 2, x ∈ wsX4_open := by decide +kernel
theorem lk_X4_open_15 : Cond.fieldLink RX4 15 (TX4 1).1 (TX4 1).2.1 (TX4 1).2.2.1 ∈ wsX4_open := by decide +kernel
def R_sn_open : Room := { frames := 0, cells := 0, slots := 0, locals := 0 }
def sn_open (n : Nat) (k : Nat) (z : SS) (x1 : Int32) (x2 : Int32) : Option SS :=
  (if ck x1 4 = true then (if ck x1 4 = true then some (sa (sa z 16 (Int32.toNatClampNeg x1) (vp_nar .boolean 1)) 17 (Int32.toNatClampNeg x1) x2) else none) else none)
set_option maxHeartbeats 4000000 in
set_option maxRecDepth 100000 in
theorem w_sn_open_0 {p : Program} {l : Launch} {e : Env} {s : State} {m : MethodId} {args : Array Value} {below : List Frame} {meth : Method} {c : Code} {D : va_G} {w0 : va_W} {n : Nat} {ad : Nat → Nat} {cA : Nat → ClassId} (C : Cx p s m args meth c cX4_open 3 none RX4 wsX4_open D (tC cA)) (k : Nat) (z : SS) (x1 : Int32) (x2 : Int32) (z' : SS) (hf : sn_open n k z x1 x2 = some z') : ∀ (H : Heap) (locs : List Loc) (ls : Array Slot), St D (va_A w0 s.heap.size) s.heap (wC n ad cA z) H locs → lv_has ls 3 [(0, .ref (ad 3)), (1, .int x1), (2, .int x2)] → W p l e R_sn_open s m args below meth c H locs 0 0 (MQ below (kV D (tC cA) w0 (wC n ad cA z') s.heap.size) args s 0 0 (va_A w0 s.heap.size)) (F0 m 0 ls []) := by
  obtain ⟨hx, hb, hr, hml, hown, hts, hlk, hK⟩ := id C
  intro H locs ls hS hl
  have hf : (if ck x1 4 = true then (if ck x1 4 = true then some (sa (sa z 16 (Int32.toNatClampNeg x1) (vp_nar .boolean 1)) 17 (Int32.toNatClampNeg x1) x2) else none) else none) = some z' := hf
  refine lv_aload_n hx hb dX4_open_0 rfl (lv_at hl 0 rfl) ?_
  refine hC_16 C hS in_X4_open_X4 lk_X4_open_11 dX4_open_1 ?_
  refine lv_iload_n hx hb dX4_open_4 rfl (lv_at hl 1 rfl) ?_
  refine lv_iconst (v := 1) hx hb dX4_open_5 (by decide) ?_
  obtain ⟨hck, hf⟩ := cs hf
  refine sC_16 C hS (i := x1) (x := 1) hck dX4_open_6 (fun H locs hS => ?_)
  refine lv_aload_n hx hb dX4_open_7 rfl (lv_at hl 0 rfl) ?_
  refine hC_17 C hS in_X4_open_X4 lk_X4_open_15 dX4_open_8 ?_
  refine lv_iload_n hx hb dX4_open_11 rfl (lv_at hl 1 rfl) ?_
  refine lv_iload_n hx hb dX4_open_12 rfl (lv_at hl 2 rfl) ?_
  obtain ⟨hck, hf⟩ := cs hf
  refine sC_17 C hS (i := x1) (x := x2) hck dX4_open_13 (fun H locs hS => ?_)
  cases hf
  exact rtv C hS dX4_open_14
set_option maxHeartbeats 4000000 in
set_option maxRecDepth 100000 in
theorem c_sn_open (l : Launch) (D : va_G) (n : Nat) (ad : Nat → Nat) (cA : Nat → ClassId) (k : Nat) (z : SS) (x1 : Int32) (x2 : Int32) (z' : SS) (hf : sn_open n k z x1 x2 = some z') (sz : Nat) : Met l yX4_open wsX4_open R_sn_open (kP D (tC cA) [.ref (ad 3), .int x1, .int x2] (wC n ad cA z) sz) (kV D (tC cA) (wC n ad cA z) (wC n ad cA z') sz) 0 0 (va_A (wC n ad cA z) sz) := by
  refine ent (by decide) rfl rfl (Nat.le_of_ble_eq_true rfl) (fun p e s m args below meth c hsz C hS ls hl => ?_)
  subst hsz
  exact w_sn_open_0 C k z x1 x2 z' hf s.heap [] ls hS hl
-- sn_close: void close(int);
theorem lk_X4_close_11 : Cond.fieldLink RX4 11 (TX4 0).1 (TX4 0).2.1 (TX4 0).2.2.1 ∈ wsX4_close := by decide +kernel
theorem in_X4_close_X4 : ∀ x ∈ u_ws RX4 TX4 2, x ∈ wsX4_close := by decide +kernel
def R_sn_close : Room := { frames := 0, cells := 0, slots := 0, locals := 0 }
def sn_close (n : Nat) (k : Nat) (z : SS) (x1 : Int32) : Option SS :=
  (if ck x1 4 = true then some (sa z 16 (Int32.toNatClampNeg x1) (vp_nar .boolean 0)) else none)
set_option maxHeartbeats 4000000 in
set_option maxRecDepth 100000 in
theorem w_sn_close_0 {p : Program} {l : Launch} {e : Env} {s : State} {m : MethodId} {args : Array Value} {below : List Frame} {meth : Method} {c : Code} {D : va_G} {w0 : va_W} {n : Nat} {ad : Nat → Nat} {cA : Nat → ClassId} (C : Cx p s m args meth c cX4_close 2 none RX4 wsX4_close D (tC cA)) (k : Nat) (z : SS) (x1 : Int32) (z' : SS) (hf : sn_close n k z x1 = some z') : ∀ (H : Heap) (locs : List Loc) (ls : Array Slot), St D (va_A w0 s.heap.size) s.heap (wC n ad cA z) H locs → lv_has ls 2 [(0, .ref (ad 3)), (1, .int x1)] → W p l e R_sn_close s m args below meth c H locs 0 0 (MQ below (kV D (tC cA) w0 (wC n ad cA z') s.heap.size) args s 0 0 (va_A w0 s.heap.size)) (F0 m 0 ls []) := by
  obtain ⟨hx, hb, hr, hml, hown, hts, hlk, hK⟩ := id C
  intro H locs ls hS hl
  have hf : (if ck x1 4 = true then some (sa z 16 (Int32.toNatClampNeg x1) (vp_nar .boolean 0)) else none) = some z' := hf
  refine lv_aload_n hx hb dX4_close_0 rfl (lv_at hl 0 rfl) ?_
  refine hC_16 C hS in_X4_close_X4 lk_X4_close_11 dX4_close_1 ?_
  refine lv_iload_n hx hb dX4_close_4 rfl (lv_at hl 1 rfl) ?_
  refine lv_iconst (v := 0) hx hb dX4_close_5 (by decide) ?_
  obtain ⟨hck, hf⟩ := cs hf
  refine sC_16 C hS (i := x1) (x := 0) hck dX4_close_6 (fun H locs hS => ?_)
  cases hf
  exact rtv C hS dX4_close_7
set_option maxHeartbeats 4000000 in
set_option maxRecDepth 100000 in
theorem c_sn_close (l : Launch) (D : va_G) (n : Nat) (ad : Nat → Nat) (cA : Nat → ClassId) (k : Nat) (z : SS) (x1 : Int32) (z' : SS) (hf : sn_close n k z x1 = some z') (sz : Nat) : Met l yX4_close wsX4_close R_sn_close (kP D (tC cA) [.ref (ad 3), .int x1] (wC n ad cA z) sz) (kV D (tC cA) (wC n ad cA z) (wC n ad cA z') sz) 0 0 (va_A (wC n ad cA z) sz) := by
  refine ent (by decide) rfl rfl (Nat.le_of_ble_eq_true rfl) (fun p e s m args below meth c hsz C hS ls hl => ?_)
  subst hsz
  exact w_sn_close_0 C k z x1 z' hf s.heap [] ls hS hl
-- sn_closeAll: void closeAll();
def R_sn_closeAll : Room := { frames := 1, cells := 0, slots := 0, locals := 21 }
def sn_closeAll_b2 (n : Nat) (k : Nat) : Nat → SS → Int32 → Option SS
  | 0, _, _ => none
  | fu + 1, z, x1 => (if 4 ≤ x1 then some z else (bo (sn_close n k z x1) fun z_1 => sn_closeAll_b2 n k fu z_1 (x1 + 1)))
def sn_closeAll (n : Nat) (k : Nat) (z : SS) : Option SS :=
  sn_closeAll_b2 n k k z 0
set_option maxHeartbeats 4000000 in
set_option maxRecDepth 100000 in
theorem w_sn_closeAll_b2 {p : Program} {l : Launch} {e : Env} {s : State} {m : MethodId} {args : Array Value} {below : List Frame} {meth : Method} {c : Code} {D : va_G} {w0 : va_W} {n : Nat} {ad : Nat → Nat} {cA : Nat → ClassId} (C : Cx p s m args meth c cX4_closeAll 2 none RX4 wsX4_closeAll D (tC cA)) (k : Nat) : ∀ (fu : Nat) (z : SS) (x1 : Int32) (z' : SS), sn_closeAll_b2 n k fu z x1 = some z' → ∀ (H : Heap) (locs : List Loc) (ls : Array Slot), St D (va_A w0 s.heap.size) s.heap (wC n ad cA z) H locs → lv_has ls 2 [(0, .ref (ad 3)), (1, .int x1)] → W p l e R_sn_closeAll s m args below meth c H locs 0 0 (MQ below (kV D (tC cA) w0 (wC n ad cA z') s.heap.size) args s 0 0 (va_A w0 s.heap.size)) (F0 m 2 ls []) := by
  obtain ⟨hx, hb, hr, hml, hown, hts, hlk, hK⟩ := id C
  intro fu
  induction fu with
  | zero =>
    intro z x1 z' hf
    cases (show (none : Option SS) = some z' from hf)
  | succ fu ih =>
    intro z x1 z' hf H locs ls hS hl
    have hf : (if 4 ≤ x1 then some z else (bo (sn_close n k z x1) fun z_1 => sn_closeAll_b2 n k fu z_1 (x1 + 1))) = some z' := hf
    refine lv_iload_n hx hb dX4_closeAll_2 rfl (lv_at hl 1 rfl) ?_
    refine lv_iconst (v := 4) hx hb dX4_closeAll_3 (by decide) ?_
    refine lv_icmp_ge (x := x1) (y := 4) (tgt := 18) hx hb dX4_closeAll_4 (by decide) (fun hc => ?_) (fun hc => ?_)
    · replace hf := it_t hc hf
      cases hf
      exact rtv C hS dX4_closeAll_18
    · replace hf := it_f hc hf
      refine lv_aload_n hx hb dX4_closeAll_7 rfl (lv_at hl 0 rfl) ?_
      refine lv_iload_n hx hb dX4_closeAll_8 rfl (lv_at hl 1 rfl) ?_
      obtain ⟨z_1, hcl, hf⟩ := bo_s hf
      refine rcVv (n := 1) (As := [.int x1]) (rest := []) (q0 := 3) (w' := (wC n ad cA z_1)) C hS (fun sz => c_sn_close l D n ad cA k z x1 z_1 hcl sz) gX4_closeAll_X4_close rfl ⟨rfl, rfl⟩ (by decide +kernel) ⟨Nat.le_of_ble_eq_true rfl, Nat.le_of_ble_eq_true rfl⟩ oC_3 rfl rfl hl.1 rfl (Nat.le_of_ble_eq_true rfl) dX4_closeAll_9 (fun H locs hS => ?_)
      refine lv_iinc (v := (x1 + 1)) (lv' := [(1, .int (x1 + 1)), (0, .ref (ad 3))]) hx hb dX4_closeAll_12 hl (k := 1) rfl (congrArg (fun q => x1 + q) (by decide : Int32.ofInt 1 = (1 : Int32))) (by decide) rfl (fun ls hl => ?_)
      refine lv_goto (tgt := 2) hx hb dX4_closeAll_15 (by decide) ?_
      exact ih z_1 (x1 + 1) z' hf H locs ls hS (lv_sub hl [1, 0] rfl)
set_option maxHeartbeats 4000000 in
set_option maxRecDepth 100000 in
theorem w_sn_closeAll_0 {p : Program} {l : Launch} {e : Env} {s : State} {m : MethodId} {args : Array Value} {below : List Frame} {meth : Method} {c : Code} {D : va_G} {w0 : va_W} {n : Nat} {ad : Nat → Nat} {cA : Nat → ClassId} (C : Cx p s m args meth c cX4_closeAll 2 none RX4 wsX4_closeAll D (tC cA)) (k : Nat) (z : SS) (z' : SS) (hf : sn_closeAll n k z = some z') : ∀ (H : Heap) (locs : List Loc) (ls : Array Slot), St D (va_A w0 s.heap.size) s.heap (wC n ad cA z) H locs → lv_has ls 2 [(0, .ref (ad 3))] → W p l e R_sn_closeAll s m args below meth c H locs 0 0 (MQ below (kV D (tC cA) w0 (wC n ad cA z') s.heap.size) args s 0 0 (va_A w0 s.heap.size)) (F0 m 0 ls []) := by
  obtain ⟨hx, hb, hr, hml, hown, hts, hlk, hK⟩ := id C
  intro H locs ls hS hl
  have hf : sn_closeAll_b2 n k k z 0 = some z' := hf
  refine lv_iconst (v := 0) hx hb dX4_closeAll_0 (by decide) ?_
  refine lv_istore_n (lv' := [(1, .int 0), (0, .ref (ad 3))]) hx hb dX4_closeAll_1 rfl hl (by decide) rfl (fun ls hl => ?_)
  exact w_sn_closeAll_b2 C k k z 0 z' hf H locs ls hS (lv_sub hl [1, 0] rfl)
set_option maxHeartbeats 4000000 in
set_option maxRecDepth 100000 in
theorem c_sn_closeAll (l : Launch) (D : va_G) (n : Nat) (ad : Nat → Nat) (cA : Nat → ClassId) (k : Nat) (z : SS) (z' : SS) (hf : sn_closeAll n k z = some z') (sz : Nat) : Met l yX4_closeAll wsX4_closeAll R_sn_closeAll (kP D (tC cA) [.ref (ad 3)] (wC n ad cA z) sz) (kV D (tC cA) (wC n ad cA z) (wC n ad cA z') sz) 0 0 (va_A (wC n ad cA z) sz) := by
  refine ent (by decide) rfl rfl (Nat.le_of_ble_eq_true rfl) (fun p e s m args below meth c hsz C hS ls hl => ?_)
  subst hsz
  exact w_sn_closeAll_0 C k z z' hf s.heap [] ls hS hl
-- dr_add: void add(int);
theorem lk_X0_add_9 : Cond.fieldLink RX0 9 (TX0 0).1 (TX0 0).2.1 (TX0 0).2.2.1 ∈ wsX0_add := by decide +kernel
theorem in_X0_add_X0 : ∀ x ∈ u_ws RX0 TX0 2, x ∈ wsX0_add := by decide +kernel
theorem lk_X0_add_15 : Cond.fieldLink RX0 15 (TX0 1).1 (TX0 1).2.1 (TX0 1).2.2.1 ∈ wsX0_add := by decide +kernel
def R_dr_add : Room := { frames := 0, cells := 0, slots := 0, locals := 0 }
def dr_add (n : Nat) (k : Nat) (z : SS) (x1 : Int32) : Option SS :=
  (if ck (z.1 41) 36 = true then some (si (sa z 18 (Int32.toNatClampNeg (z.1 41)) (x1 &&& 255)) 41 ((z.1 41) + 1)) else none)
set_option maxHeartbeats 4000000 in
set_option maxRecDepth 100000 in
theorem w_dr_add_0 {p : Program} {l : Launch} {e : Env} {s : State} {m : MethodId} {args : Array Value} {below : List Frame} {meth : Method} {c : Code} {D : va_G} {w0 : va_W} {n : Nat} {ad : Nat → Nat} {cA : Nat → ClassId} (C : Cx p s m args meth c cX0_add 2 none RX0 wsX0_add D (tC cA)) (k : Nat) (z : SS) (x1 : Int32) (z' : SS) (hf : dr_add n k z x1 = some z') : ∀ (H : Heap) (locs : List Loc) (ls : Array Slot), St D (va_A w0 s.heap.size) s.heap (wC n ad cA z) H locs → lv_has ls 2 [(0, .ref (ad 4)), (1, .int x1)] → W p l e R_dr_add s m args below meth c H locs 0 0 (MQ below (kV D (tC cA) w0 (wC n ad cA z') s.heap.size) args s 0 0 (va_A w0 s.heap.size)) (F0 m 0 ls []) := by
  obtain ⟨hx, hb, hr, hml, hown, hts, hlk, hK⟩ := id C
  intro H locs ls hS hl
  have hf : (if ck (z.1 41) 36 = true then some (si (sa z 18 (Int32.toNatClampNeg (z.1 41)) (x1 &&& 255)) 41 ((z.1 41) + 1)) else none) = some z' := hf
  refine lv_aload_n hx hb dX0_add_0 rfl (lv_at hl 0 rfl) ?_
  refine hC_18 C hS in_X0_add_X0 lk_X0_add_9 dX0_add_1 ?_
  refine lv_aload_n hx hb dX0_add_4 rfl (lv_at hl 0 rfl) ?_
  refine gC_41 C hS in_X0_add_X0 lk_X0_add_15 (v := (z.1 41)) rfl dX0_add_5 ?_
  refine lv_iload_n hx hb dX0_add_8 rfl (lv_at hl 1 rfl) ?_
  refine lv_sipush (v := 255) hx hb dX0_add_9 (by decide) ?_
  refine lv_iand (x := x1) (y := 255) hx hb dX0_add_12 ?_
  obtain ⟨hck, hf⟩ := cs hf
  refine sC_18 C hS (i := (z.1 41)) (x := (x1 &&& 255)) hck dX0_add_13 (fun H locs hS => ?_)
  refine lv_aload_n hx hb dX0_add_14 rfl (lv_at hl 0 rfl) ?_
  refine lv_dup hx hb dX0_add_15 rfl ?_
  refine gC_41 C hS in_X0_add_X0 lk_X0_add_15 (v := (z.1 41)) (sa_i.trans rfl) dX0_add_16 ?_
  refine lv_iconst (v := 1) hx hb dX0_add_19 (by decide) ?_
  refine lv_iadd (x := (z.1 41)) (y := 1) hx hb dX0_add_20 ?_
  refine pC_41 C hS in_X0_add_X0 lk_X0_add_15 (v := ((z.1 41) + 1)) rfl rfl dX0_add_21 (fun H locs hS => ?_)
  cases hf
  exact rtv C hS dX0_add_24
set_option maxHeartbeats 4000000 in
set_option maxRecDepth 100000 in
theorem c_dr_add (l : Launch) (D : va_G) (n : Nat) (ad : Nat → Nat) (cA : Nat → ClassId) (k : Nat) (z : SS) (x1 : Int32) (z' : SS) (hf : dr_add n k z x1 = some z') (sz : Nat) : Met l yX0_add wsX0_add R_dr_add (kP D (tC cA) [.ref (ad 4), .int x1] (wC n ad cA z) sz) (kV D (tC cA) (wC n ad cA z) (wC n ad cA z') sz) 0 0 (va_A (wC n ad cA z) sz) := by
  refine ent (by decide) rfl rfl (Nat.le_of_ble_eq_true rfl) (fun p e s m args below meth c hsz C hS ls hl => ?_)
  subst hsz
  exact w_dr_add_0 C k z x1 z' hf s.heap [] ls hS hl
-- rf_sumOf_18: static long sumOf(int[], int, int);
def R_rf_sumOf_18 : Room := { frames := 0, cells := 0, slots := 0, locals := 0 }
def rf_sumOf_18_b5 (n : Nat) (k : Nat) (z : SS) : Nat → Int32 → Int64 → Int32 → Option Int64
  | 0, _, _, _ => none
  | fu + 1, x2, x3, x5 => (if x2 ≤ x5 then some x3 else (if ck x5 36 = true then rf_sumOf_18_b5 n k z fu x2 (((jlshl (x3 ^^^ (Int32.toInt64 ((z.2 18) (Int32.toNatClampNeg x5)))) 45) ||| (jlushr (x3 ^^^ (Int32.toInt64 ((z.2 18) (Int32.toNatClampNeg x5)))) 19)) * (-7046029254386353131)) (x5 + 1) else none))
def rf_sumOf_18 (n : Nat) (k : Nat) (z : SS) (x1 : Int32) (x2 : Int32) : Option Int64 :=
  rf_sumOf_18_b5 n k z k x2 0 x1
set_option maxHeartbeats 4000000 in
set_option maxRecDepth 100000 in
theorem w_rf_sumOf_18_b5 {p : Program} {l : Launch} {e : Env} {s : State} {m : MethodId} {args : Array Value} {below : List Frame} {meth : Method} {c : Code} {D : va_G} {w0 : va_W} {n : Nat} {ad : Nat → Nat} {cA : Nat → ClassId} (C : Cx p s m args meth c cX2_sumOf 8 (some .long) RX2 wsX2_sumOf D (tC cA)) (k : Nat) (z : SS) : ∀ (fu : Nat) (x2 : Int32) (x3 : Int64) (x5 : Int32) (r : Int64), rf_sumOf_18_b5 n k z fu x2 x3 x5 = some r → ∀ (H : Heap) (locs : List Loc) (ls : Array Slot), St D (va_A w0 s.heap.size) s.heap (wC n ad cA z) H locs → lv_has ls 8 [(0, .ref (ad 18)), (2, .int x2), (3, .long x3), (5, .int x5)] → W p l e R_rf_sumOf_18 s m args below meth c H locs 0 0 (MQ below (kL D (tC cA) r w0 (wC n ad cA z) s.heap.size) args s 0 0 (va_A w0 s.heap.size)) (F0 m 5 ls []) := by
  obtain ⟨hx, hb, hr, hml, hown, hts, hlk, hK⟩ := id C
  intro fu
  induction fu with
  | zero =>
    intro x2 x3 x5 r hf
    cases (show (none : Option Int64) = some r from hf)
  | succ fu ih =>
    intro x2 x3 x5 r hf H locs ls hS hl
    have hf : (if x2 ≤ x5 then some x3 else (if ck x5 36 = true then rf_sumOf_18_b5 n k z fu x2 (((jlshl (x3 ^^^ (Int32.toInt64 ((z.2 18) (Int32.toNatClampNeg x5)))) 45) ||| (jlushr (x3 ^^^ (Int32.toInt64 ((z.2 18) (Int32.toNatClampNeg x5)))) 19)) * (-7046029254386353131)) (x5 + 1) else none)) = some r := hf
    refine lv_iload hx hb dX2_sumOf_5 (lv_at hl 3 rfl) ?_
    refine lv_iload_n hx hb dX2_sumOf_7 rfl (lv_at hl 1 rfl) ?_
    refine lv_icmp_ge (x := x5) (y := x2) (tgt := 42) hx hb dX2_sumOf_8 (by decide) (fun hc => ?_) (fun hc => ?_)
    · replace hf := it_t hc hf
      refine lv_lload_n hx hb dX2_sumOf_42 rfl (lv_at hl 2 rfl) ?_
      cases hf
      exact rtl C hS dX2_sumOf_43
    · replace hf := it_f hc hf
      refine lv_lload_n hx hb dX2_sumOf_11 rfl (lv_at hl 2 rfl) ?_
      refine lv_aload_n hx hb dX2_sumOf_12 rfl (lv_at hl 0 rfl) ?_
      refine lv_iload hx hb dX2_sumOf_13 (lv_at hl 3 rfl) ?_
      obtain ⟨hck, hf⟩ := cs hf
      refine lC_18 C hS (f := (z.2 18)) rfl (i := x5) hck dX2_sumOf_15 ?_
      refine lv_i2l (x := ((z.2 18) (Int32.toNatClampNeg x5))) (v := (Int32.toInt64 ((z.2 18) (Int32.toNatClampNeg x5)))) hx hb dX2_sumOf_16 rfl ?_
      refine lv_lxor (x := x3) (y := (Int32.toInt64 ((z.2 18) (Int32.toNatClampNeg x5)))) hx hb dX2_sumOf_17 ?_
      refine lv_lstore (lv' := [(6, .long (x3 ^^^ (Int32.toInt64 ((z.2 18) (Int32.toNatClampNeg x5))))), (0, .ref (ad 18)), (2, .int x2), (3, .long x3), (5, .int x5)]) hx hb dX2_sumOf_18 hl (by decide) rfl (fun ls hl => ?_)
      refine lv_lload hx hb dX2_sumOf_20 (lv_at hl 0 rfl) ?_
      refine lv_bipush (v := 45) hx hb dX2_sumOf_22 (by decide) ?_
      refine lv_lshl (x := (x3 ^^^ (Int32.toInt64 ((z.2 18) (Int32.toNatClampNeg x5))))) (y := 45) (v := (jlshl (x3 ^^^ (Int32.toInt64 ((z.2 18) (Int32.toNatClampNeg x5)))) 45)) hx hb dX2_sumOf_24 rfl ?_
      refine lv_lload hx hb dX2_sumOf_25 (lv_at hl 0 rfl) ?_
      refine lv_bipush (v := 19) hx hb dX2_sumOf_27 (by decide) ?_
      refine lv_lushr (x := (x3 ^^^ (Int32.toInt64 ((z.2 18) (Int32.toNatClampNeg x5))))) (y := 19) (v := (jlushr (x3 ^^^ (Int32.toInt64 ((z.2 18) (Int32.toNatClampNeg x5)))) 19)) hx hb dX2_sumOf_29 rfl ?_
      refine lv_lor (x := (jlshl (x3 ^^^ (Int32.toInt64 ((z.2 18) (Int32.toNatClampNeg x5)))) 45)) (y := (jlushr (x3 ^^^ (Int32.toInt64 ((z.2 18) (Int32.toNatClampNeg x5)))) 19)) hx hb dX2_sumOf_30 ?_
      refine lv_ldc2 (v := (-7046029254386353131)) hx hb hown (hts _ lc_X2_sumOf_11) dX2_sumOf_31 ?_
      refine lv_lmul (x := ((jlshl (x3 ^^^ (Int32.toInt64 ((z.2 18) (Int32.toNatClampNeg x5)))) 45) ||| (jlushr (x3 ^^^ (Int32.toInt64 ((z.2 18) (Int32.toNatClampNeg x5)))) 19))) (y := (-7046029254386353131)) hx hb dX2_sumOf_34 ?_
      refine lv_lstore_n (lv' := [(3, .long (((jlshl (x3 ^^^ (Int32.toInt64 ((z.2 18) (Int32.toNatClampNeg x5)))) 45) ||| (jlushr (x3 ^^^ (Int32.toInt64 ((z.2 18) (Int32.toNatClampNeg x5)))) 19)) * (-7046029254386353131))), (6, .long (x3 ^^^ (Int32.toInt64 ((z.2 18) (Int32.toNatClampNeg x5))))), (0, .ref (ad 18)), (2, .int x2), (5, .int x5)]) hx hb dX2_sumOf_35 rfl hl (by decide) rfl (fun ls hl => ?_)
      refine lv_iinc (v := (x5 + 1)) (lv' := [(5, .int (x5 + 1)), (3, .long (((jlshl (x3 ^^^ (Int32.toInt64 ((z.2 18) (Int32.toNatClampNeg x5)))) 45) ||| (jlushr (x3 ^^^ (Int32.toInt64 ((z.2 18) (Int32.toNatClampNeg x5)))) 19)) * (-7046029254386353131))), (6, .long (x3 ^^^ (Int32.toInt64 ((z.2 18) (Int32.toNatClampNeg x5))))), (0, .ref (ad 18)), (2, .int x2)]) hx hb dX2_sumOf_36 hl (k := 4) rfl (congrArg (fun q => x5 + q) (by decide : Int32.ofInt 1 = (1 : Int32))) (by decide) rfl (fun ls hl => ?_)
      refine lv_goto (tgt := 5) hx hb dX2_sumOf_39 (by decide) ?_
      exact ih x2 (((jlshl (x3 ^^^ (Int32.toInt64 ((z.2 18) (Int32.toNatClampNeg x5)))) 45) ||| (jlushr (x3 ^^^ (Int32.toInt64 ((z.2 18) (Int32.toNatClampNeg x5)))) 19)) * (-7046029254386353131)) (x5 + 1) r hf H locs ls hS (lv_sub hl [3, 4, 1, 0] rfl)
set_option maxHeartbeats 4000000 in
set_option maxRecDepth 100000 in
theorem w_rf_sumOf_18_0 {p : Program} {l : Launch} {e : Env} {s : State} {m : MethodId} {args : Array Value} {below : List Frame} {meth : Method} {c : Code} {D : va_G} {w0 : va_W} {n : Nat} {ad : Nat → Nat} {cA : Nat → ClassId} (C : Cx p s m args meth c cX2_sumOf 8 (some .long) RX2 wsX2_sumOf D (tC cA)) (k : Nat) (z : SS) (x1 : Int32) (x2 : Int32) (r : Int64) (hf : rf_sumOf_18 n k z x1 x2 = some r) : ∀ (H : Heap) (locs : List Loc) (ls : Array Slot), St D (va_A w0 s.heap.size) s.heap (wC n ad cA z) H locs → lv_has ls 8 [(0, .ref (ad 18)), (1, .int x1), (2, .int x2)] → W p l e R_rf_sumOf_18 s m args below meth c H locs 0 0 (MQ below (kL D (tC cA) r w0 (wC n ad cA z) s.heap.size) args s 0 0 (va_A w0 s.heap.size)) (F0 m 0 ls []) := by
  obtain ⟨hx, hb, hr, hml, hown, hts, hlk, hK⟩ := id C
  intro H locs ls hS hl
  have hf : rf_sumOf_18_b5 n k z k x2 0 x1 = some r := hf
  refine lv_lconst (v := 0) hx hb dX2_sumOf_0 (by decide) ?_
  refine lv_lstore_n (lv' := [(3, .long 0), (0, .ref (ad 18)), (1, .int x1), (2, .int x2)]) hx hb dX2_sumOf_1 rfl hl (by decide) rfl (fun ls hl => ?_)
  refine lv_iload_n hx hb dX2_sumOf_2 rfl (lv_at hl 2 rfl) ?_
  refine lv_istore (lv' := [(5, .int x1), (3, .long 0), (0, .ref (ad 18)), (1, .int x1), (2, .int x2)]) hx hb dX2_sumOf_3 hl (by decide) rfl (fun ls hl => ?_)
  exact w_rf_sumOf_18_b5 C k z k x2 0 x1 r hf H locs ls hS (lv_sub hl [2, 4, 1, 0] rfl)
set_option maxHeartbeats 4000000 in
set_option maxRecDepth 100000 in
theorem c_rf_sumOf_18 (l : Launch) (D : va_G) (n : Nat) (ad : Nat → Nat) (cA : Nat → ClassId) (k : Nat) (z : SS) (x1 : Int32) (x2 : Int32) (r : Int64) (hf : rf_sumOf_18 n k z x1 x2 = some r) (sz : Nat) : Met l yX2_sumOf wsX2_sumOf R_rf_sumOf_18 (kP D (tC cA) [.ref (ad 18), .int x1, .int x2] (wC n ad cA z) sz) (kL D (tC cA) r (wC n ad cA z) (wC n ad cA z) sz) 0 0 (va_A (wC n ad cA z) sz) := by
  refine ent (by decide) rfl rfl (Nat.le_of_ble_eq_true rfl) (fun p e s m args below meth c hsz C hS ls hl => ?_)
  subst hsz
  exact w_rf_sumOf_18_0 C k z x1 x2 r hf s.heap [] ls hS hl
-- dr_make_5: void make(int, int, int, int[], int);
theorem lk_X0_make_9 : Cond.fieldLink RX0 9 (TX0 0).1 (TX0 0).2.1 (TX0 0).2.2.1 ∈ wsX0_make := by decide +kernel
theorem in_X0_make_X0 : ∀ x ∈ u_ws RX0 TX0 2, x ∈ wsX0_make := by decide +kernel
theorem lk_X0_make_15 : Cond.fieldLink RX0 15 (TX0 1).1 (TX0 1).2.1 (TX0 1).2.2.1 ∈ wsX0_make := by decide +kernel
def R_dr_make_5 : Room := { frames := 1, cells := 0, slots := 0, locals := 27 }
def dr_make_5_b100 (n : Nat) (k : Nat) : Nat → SS → Int64 → Int32 → Option SS
  | 0, _, _, _ => none
  | fu + 1, z, x6, x8 => (if 8 ≤ x8 then some z else (bo (rf_sumByte n k z x6 x8) fun r_1 => (bo (dr_add n k z r_1) fun z_2 => dr_make_5_b100 n k fu z_2 x6 (x8 + 1))))
def dr_make_5_b61 (n : Nat) (k : Nat) : Nat → SS → Int32 → Int32 → Option SS
  | 0, _, _, _ => none
  | fu + 1, z, x5, x6 => (if x5 ≤ x6 then (bo (rf_sumOf_18 n k z 0 (z.1 41)) fun r_1 => dr_make_5_b100 n k k z r_1 0) else (if ck x6 20 = true then (bo (dr_add n k z ((z.2 5) (Int32.toNatClampNeg x6))) fun z_2 => dr_make_5_b61 n k fu z_2 x5 (x6 + 1)) else none))
def dr_make_5 (n : Nat) (k : Nat) (z : SS) (x1 : Int32) (x2 : Int32) (x3 : Int32) (x5 : Int32) : Option SS :=
  (bo (dr_add n k (si z 41 0) x1) fun z_1 => (bo (dr_add n k z_1 (jushr x2 8)) fun z_2 => (bo (dr_add n k z_2 x2) fun z_3 => (bo (dr_add n k z_3 (jushr x3 24)) fun z_4 => (bo (dr_add n k z_4 (jushr x3 16)) fun z_5 => (bo (dr_add n k z_5 (jushr x3 8)) fun z_6 => (bo (dr_add n k z_6 x3) fun z_7 => (bo (dr_add n k z_7 x5) fun z_8 => dr_make_5_b61 n k k z_8 x5 0))))))))
set_option maxHeartbeats 4000000 in
set_option maxRecDepth 100000 in
theorem w_dr_make_5_b100 {p : Program} {l : Launch} {e : Env} {s : State} {m : MethodId} {args : Array Value} {below : List Frame} {meth : Method} {c : Code} {D : va_G} {w0 : va_W} {n : Nat} {ad : Nat → Nat} {cA : Nat → ClassId} (C : Cx p s m args meth c cX0_make 9 none RX0 wsX0_make D (tC cA)) (k : Nat) : ∀ (fu : Nat) (z : SS) (x6 : Int64) (x8 : Int32) (z' : SS), dr_make_5_b100 n k fu z x6 x8 = some z' → ∀ (H : Heap) (locs : List Loc) (ls : Array Slot), St D (va_A w0 s.heap.size) s.heap (wC n ad cA z) H locs → lv_has ls 9 [(0, .ref (ad 4)), (6, .long x6), (8, .int x8)] → W p l e R_dr_make_5 s m args below meth c H locs 0 0 (MQ below (kV D (tC cA) w0 (wC n ad cA z') s.heap.size) args s 0 0 (va_A w0 s.heap.size)) (F0 m 100 ls []) := by
  obtain ⟨hx, hb, hr, hml, hown, hts, hlk, hK⟩ := id C
  intro fu
  induction fu with
  | zero =>
    intro z x6 x8 z' hf
    cases (show (none : Option SS) = some z' from hf)
  | succ fu ih =>
    intro z x6 x8 z' hf H locs ls hS hl
    have hf : (if 8 ≤ x8 then some z else (bo (rf_sumByte n k z x6 x8) fun r_1 => (bo (dr_add n k z r_1) fun z_2 => dr_make_5_b100 n k fu z_2 x6 (x8 + 1)))) = some z' := hf
    refine lv_iload hx hb dX0_make_100 (lv_at hl 2 rfl) ?_
    refine lv_bipush (v := 8) hx hb dX0_make_102 (by decide) ?_
    refine lv_icmp_ge (x := x8) (y := 8) (tgt := 124) hx hb dX0_make_104 (by decide) (fun hc => ?_) (fun hc => ?_)
    · replace hf := it_t hc hf
      cases hf
      exact rtv C hS dX0_make_124
    · replace hf := it_f hc hf
      refine lv_aload_n hx hb dX0_make_107 rfl (lv_at hl 0 rfl) ?_
      refine lv_lload hx hb dX0_make_108 (lv_at hl 1 rfl) ?_
      refine lv_iload hx hb dX0_make_110 (lv_at hl 2 rfl) ?_
      obtain ⟨r_1, hcl, hf⟩ := bo_s hf
      refine rcSi (n := 2) (As := [.long x6, .int x8]) (rest := [.ref (ad 4)]) (w' := (wC n ad cA z)) C hS (fun sz => c_rf_sumByte l D n ad cA k z x6 x8 r_1 hcl sz) gX0_make_X2_sumByte rfl ⟨rfl, rfl⟩ (by decide +kernel) ⟨Nat.le_of_ble_eq_true rfl, Nat.le_of_ble_eq_true rfl⟩ rfl hl.1 rfl (Nat.le_of_ble_eq_true rfl) dX0_make_112 (fun H locs hS => ?_)
      obtain ⟨z_2, hcl, hf⟩ := bo_s hf
      refine rcVv (n := 1) (As := [.int r_1]) (rest := []) (q0 := 4) (w' := (wC n ad cA z_2)) C hS (fun sz => c_dr_add l D n ad cA k z r_1 z_2 hcl sz) gX0_make_X0_add rfl ⟨rfl, rfl⟩ (by decide +kernel) ⟨Nat.le_of_ble_eq_true rfl, Nat.le_of_ble_eq_true rfl⟩ oC_4 rfl rfl hl.1 rfl (Nat.le_of_ble_eq_true rfl) dX0_make_115 (fun H locs hS => ?_)
      refine lv_iinc (v := (x8 + 1)) (lv' := [(8, .int (x8 + 1)), (0, .ref (ad 4)), (6, .long x6)]) hx hb dX0_make_118 hl (k := 2) rfl (congrArg (fun q => x8 + q) (by decide : Int32.ofInt 1 = (1 : Int32))) (by decide) rfl (fun ls hl => ?_)
      refine lv_goto (tgt := 100) hx hb dX0_make_121 (by decide) ?_
      exact ih z_2 x6 (x8 + 1) z' hf H locs ls hS (lv_sub hl [1, 2, 0] rfl)
set_option maxHeartbeats 4000000 in
set_option maxRecDepth 100000 in
theorem w_dr_make_5_b61 {p : Program} {l : Launch} {e : Env} {s : State} {m : MethodId} {args : Array Value} {below : List Frame} {meth : Method} {c : Code} {D : va_G} {w0 : va_W} {n : Nat} {ad : Nat → Nat} {cA : Nat → ClassId} (C : Cx p s m args meth c cX0_make 9 none RX0 wsX0_make D (tC cA)) (k : Nat) : ∀ (fu : Nat) (z : SS) (x5 : Int32) (x6 : Int32) (z' : SS), dr_make_5_b61 n k fu z x5 x6 = some z' → ∀ (H : Heap) (locs : List Loc) (ls : Array Slot), St D (va_A w0 s.heap.size) s.heap (wC n ad cA z) H locs → lv_has ls 9 [(0, .ref (ad 4)), (4, .ref (ad 5)), (5, .int x5), (6, .int x6)] → W p l e R_dr_make_5 s m args below meth c H locs 0 0 (MQ below (kV D (tC cA) w0 (wC n ad cA z') s.heap.size) args s 0 0 (va_A w0 s.heap.size)) (F0 m 61 ls []) := by
  obtain ⟨hx, hb, hr, hml, hown, hts, hlk, hK⟩ := id C
  intro fu
  induction fu with
  | zero =>
    intro z x5 x6 z' hf
    cases (show (none : Option SS) = some z' from hf)
  | succ fu ih =>
    intro z x5 x6 z' hf H locs ls hS hl
    have hf : (if x5 ≤ x6 then (bo (rf_sumOf_18 n k z 0 (z.1 41)) fun r_1 => dr_make_5_b100 n k k z r_1 0) else (if ck x6 20 = true then (bo (dr_add n k z ((z.2 5) (Int32.toNatClampNeg x6))) fun z_2 => dr_make_5_b61 n k fu z_2 x5 (x6 + 1)) else none)) = some z' := hf
    refine lv_iload hx hb dX0_make_61 (lv_at hl 3 rfl) ?_
    refine lv_iload hx hb dX0_make_63 (lv_at hl 2 rfl) ?_
    refine lv_icmp_ge (x := x6) (y := x5) (tgt := 83) hx hb dX0_make_65 (by decide) (fun hc => ?_) (fun hc => ?_)
    · replace hf := it_t hc hf
      refine lv_aload_n hx hb dX0_make_83 rfl (lv_at hl 0 rfl) ?_
      refine hC_18 C hS in_X0_make_X0 lk_X0_make_9 dX0_make_84 ?_
      refine lv_iconst (v := 0) hx hb dX0_make_87 (by decide) ?_
      refine lv_aload_n hx hb dX0_make_88 rfl (lv_at hl 0 rfl) ?_
      refine gC_41 C hS in_X0_make_X0 lk_X0_make_15 (v := (z.1 41)) rfl dX0_make_89 ?_
      obtain ⟨r_1, hcl, hf⟩ := bo_s hf
      refine rcSl (n := 3) (As := [.ref (ad 18), .int 0, .int (z.1 41)]) (rest := []) (w' := (wC n ad cA z)) C hS (fun sz => c_rf_sumOf_18 l D n ad cA k z 0 (z.1 41) r_1 hcl sz) gX0_make_X2_sumOf rfl ⟨rfl, rfl⟩ (by decide +kernel) ⟨Nat.le_of_ble_eq_true rfl, Nat.le_of_ble_eq_true rfl⟩ rfl hl.1 rfl (Nat.le_of_ble_eq_true rfl) dX0_make_92 (fun H locs hS => ?_)
      refine lv_lstore (lv' := [(6, .long r_1), (0, .ref (ad 4)), (4, .ref (ad 5)), (5, .int x5)]) hx hb dX0_make_95 hl (by decide) rfl (fun ls hl => ?_)
      refine lv_iconst (v := 0) hx hb dX0_make_97 (by decide) ?_
      refine lv_istore (lv' := [(8, .int 0), (6, .long r_1), (0, .ref (ad 4)), (4, .ref (ad 5)), (5, .int x5)]) hx hb dX0_make_98 hl (by decide) rfl (fun ls hl => ?_)
      exact w_dr_make_5_b100 C k k z r_1 0 z' hf H locs ls hS (lv_sub hl [2, 1, 0] rfl)
    · replace hf := it_f hc hf
      refine lv_aload_n hx hb dX0_make_68 rfl (lv_at hl 0 rfl) ?_
      refine lv_aload hx hb dX0_make_69 (lv_at hl 1 rfl) ?_
      refine lv_iload hx hb dX0_make_71 (lv_at hl 3 rfl) ?_
      obtain ⟨hck, hf⟩ := cs hf
      refine lC_5 C hS (f := (z.2 5)) rfl (i := x6) hck dX0_make_73 ?_
      obtain ⟨z_2, hcl, hf⟩ := bo_s hf
      refine rcVv (n := 1) (As := [.int ((z.2 5) (Int32.toNatClampNeg x6))]) (rest := []) (q0 := 4) (w' := (wC n ad cA z_2)) C hS (fun sz => c_dr_add l D n ad cA k z ((z.2 5) (Int32.toNatClampNeg x6)) z_2 hcl sz) gX0_make_X0_add rfl ⟨rfl, rfl⟩ (by decide +kernel) ⟨Nat.le_of_ble_eq_true rfl, Nat.le_of_ble_eq_true rfl⟩ oC_4 rfl rfl hl.1 rfl (Nat.le_of_ble_eq_true rfl) dX0_make_74 (fun H locs hS => ?_)
      refine lv_iinc (v := (x6 + 1)) (lv' := [(6, .int (x6 + 1)), (0, .ref (ad 4)), (4, .ref (ad 5)), (5, .int x5)]) hx hb dX0_make_77 hl (k := 3) rfl (congrArg (fun q => x6 + q) (by decide : Int32.ofInt 1 = (1 : Int32))) (by decide) rfl (fun ls hl => ?_)
      refine lv_goto (tgt := 61) hx hb dX0_make_80 (by decide) ?_
      exact ih z_2 x5 (x6 + 1) z' hf H locs ls hS (lv_sub hl [1, 2, 3, 0] rfl)
set_option maxHeartbeats 4000000 in
set_option maxRecDepth 100000 in
theorem w_dr_make_5_0 {p : Program} {l : Launch} {e : Env} {s : State} {m : MethodId} {args : Array Value} {below : List Frame} {meth : Method} {c : Code} {D : va_G} {w0 : va_W} {n : Nat} {ad : Nat → Nat} {cA : Nat → ClassId} (C : Cx p s m args meth c cX0_make 9 none RX0 wsX0_make D (tC cA)) (k : Nat) (z : SS) (x1 : Int32) (x2 : Int32) (x3 : Int32) (x5 : Int32) (z' : SS) (hf : dr_make_5 n k z x1 x2 x3 x5 = some z') : ∀ (H : Heap) (locs : List Loc) (ls : Array Slot), St D (va_A w0 s.heap.size) s.heap (wC n ad cA z) H locs → lv_has ls 9 [(0, .ref (ad 4)), (1, .int x1), (2, .int x2), (3, .int x3), (4, .ref (ad 5)), (5, .int x5)] → W p l e R_dr_make_5 s m args below meth c H locs 0 0 (MQ below (kV D (tC cA) w0 (wC n ad cA z') s.heap.size) args s 0 0 (va_A w0 s.heap.size)) (F0 m 0 ls []) := by
  obtain ⟨hx, hb, hr, hml, hown, hts, hlk, hK⟩ := id C
  intro H locs ls hS hl
  have hf : (bo (dr_add n k (si z 41 0) x1) fun z_1 => (bo (dr_add n k z_1 (jushr x2 8)) fun z_2 => (bo (dr_add n k z_2 x2) fun z_3 => (bo (dr_add n k z_3 (jushr x3 24)) fun z_4 => (bo (dr_add n k z_4 (jushr x3 16)) fun z_5 => (bo (dr_add n k z_5 (jushr x3 8)) fun z_6 => (bo (dr_add n k z_6 x3) fun z_7 => (bo (dr_add n k z_7 x5) fun z_8 => dr_make_5_b61 n k k z_8 x5 0)))))))) = some z' := hf
  refine lv_aload_n hx hb dX0_make_0 rfl (lv_at hl 0 rfl) ?_
  refine lv_iconst (v := 0) hx hb dX0_make_1 (by decide) ?_
  refine pC_41 C hS in_X0_make_X0 lk_X0_make_15 (v := 0) rfl rfl dX0_make_2 (fun H locs hS => ?_)
  refine lv_aload_n hx hb dX0_make_5 rfl (lv_at hl 0 rfl) ?_
  refine lv_iload_n hx hb dX0_make_6 rfl (lv_at hl 1 rfl) ?_
  obtain ⟨z_1, hcl, hf⟩ := bo_s hf
  refine rcVv (n := 1) (As := [.int x1]) (rest := []) (q0 := 4) (w' := (wC n ad cA z_1)) C hS (fun sz => c_dr_add l D n ad cA k (si z 41 0) x1 z_1 hcl sz) gX0_make_X0_add rfl ⟨rfl, rfl⟩ (by decide +kernel) ⟨Nat.le_of_ble_eq_true rfl, Nat.le_of_ble_eq_true rfl⟩ oC_4 rfl rfl hl.1 rfl (Nat.le_of_ble_eq_true rfl) dX0_make_7 (fun H locs hS => ?_)
  refine lv_aload_n hx hb dX0_make_10 rfl (lv_at hl 0 rfl) ?_
  refine lv_iload_n hx hb dX0_make_11 rfl (lv_at hl 2 rfl) ?_
  refine lv_bipush (v := 8) hx hb dX0_make_12 (by decide) ?_
  refine lv_iushr (x := x2) (y := 8) (v := (jushr x2 8)) hx hb dX0_make_14 rfl ?_
  obtain ⟨z_2, hcl, hf⟩ := bo_s hf
  refine rcVv (n := 1) (As := [.int (jushr x2 8)]) (rest := []) (q0 := 4) (w' := (wC n ad cA z_2)) C hS (fun sz => c_dr_add l D n ad cA k z_1 (jushr x2 8) z_2 hcl sz) gX0_make_X0_add rfl ⟨rfl, rfl⟩ (by decide +kernel) ⟨Nat.le_of_ble_eq_true rfl, Nat.le_of_ble_eq_true rfl⟩ oC_4 rfl rfl hl.1 rfl (Nat.le_of_ble_eq_true rfl) dX0_make_15 (fun H locs hS => ?_)
  refine lv_aload_n hx hb dX0_make_18 rfl (lv_at hl 0 rfl) ?_
  refine lv_iload_n hx hb dX0_make_19 rfl (lv_at hl 2 rfl) ?_
  obtain ⟨z_3, hcl, hf⟩ := bo_s hf
  refine rcVv (n := 1) (As := [.int x2]) (rest := []) (q0 := 4) (w' := (wC n ad cA z_3)) C hS (fun sz => c_dr_add l D n ad cA k z_2 x2 z_3 hcl sz) gX0_make_X0_add rfl ⟨rfl, rfl⟩ (by decide +kernel) ⟨Nat.le_of_ble_eq_true rfl, Nat.le_of_ble_eq_true rfl⟩ oC_4 rfl rfl hl.1 rfl (Nat.le_of_ble_eq_true rfl) dX0_make_20 (fun H locs hS => ?_)
  refine lv_aload_n hx hb dX0_make_23 rfl (lv_at hl 0 rfl) ?_
  refine lv_iload_n hx hb dX0_make_24 rfl (lv_at hl 3 rfl) ?_
  refine lv_bipush (v := 24) hx hb dX0_make_25 (by decide) ?_
  refine lv_iushr (x := x3) (y := 24) (v := (jushr x3 24)) hx hb dX0_make_27 rfl ?_
  obtain ⟨z_4, hcl, hf⟩ := bo_s hf
  refine rcVv (n := 1) (As := [.int (jushr x3 24)]) (rest := []) (q0 := 4) (w' := (wC n ad cA z_4)) C hS (fun sz => c_dr_add l D n ad cA k z_3 (jushr x3 24) z_4 hcl sz) gX0_make_X0_add rfl ⟨rfl, rfl⟩ (by decide +kernel) ⟨Nat.le_of_ble_eq_true rfl, Nat.le_of_ble_eq_true rfl⟩ oC_4 rfl rfl hl.1 rfl (Nat.le_of_ble_eq_true rfl) dX0_make_28 (fun H locs hS => ?_)
  refine lv_aload_n hx hb dX0_make_31 rfl (lv_at hl 0 rfl) ?_
  refine lv_iload_n hx hb dX0_make_32 rfl (lv_at hl 3 rfl) ?_
  refine lv_bipush (v := 16) hx hb dX0_make_33 (by decide) ?_
  refine lv_iushr (x := x3) (y := 16) (v := (jushr x3 16)) hx hb dX0_make_35 rfl ?_
  obtain ⟨z_5, hcl, hf⟩ := bo_s hf
  refine rcVv (n := 1) (As := [.int (jushr x3 16)]) (rest := []) (q0 := 4) (w' := (wC n ad cA z_5)) C hS (fun sz => c_dr_add l D n ad cA k z_4 (jushr x3 16) z_5 hcl sz) gX0_make_X0_add rfl ⟨rfl, rfl⟩ (by decide +kernel) ⟨Nat.le_of_ble_eq_true rfl, Nat.le_of_ble_eq_true rfl⟩ oC_4 rfl rfl hl.1 rfl (Nat.le_of_ble_eq_true rfl) dX0_make_36 (fun H locs hS => ?_)
  refine lv_aload_n hx hb dX0_make_39 rfl (lv_at hl 0 rfl) ?_
  refine lv_iload_n hx hb dX0_make_40 rfl (lv_at hl 3 rfl) ?_
  refine lv_bipush (v := 8) hx hb dX0_make_41 (by decide) ?_
  refine lv_iushr (x := x3) (y := 8) (v := (jushr x3 8)) hx hb dX0_make_43 rfl ?_
  obtain ⟨z_6, hcl, hf⟩ := bo_s hf
  refine rcVv (n := 1) (As := [.int (jushr x3 8)]) (rest := []) (q0 := 4) (w' := (wC n ad cA z_6)) C hS (fun sz => c_dr_add l D n ad cA k z_5 (jushr x3 8) z_6 hcl sz) gX0_make_X0_add rfl ⟨rfl, rfl⟩ (by decide +kernel) ⟨Nat.le_of_ble_eq_true rfl, Nat.le_of_ble_eq_true rfl⟩ oC_4 rfl rfl hl.1 rfl (Nat.le_of_ble_eq_true rfl) dX0_make_44 (fun H locs hS => ?_)
  refine lv_aload_n hx hb dX0_make_47 rfl (lv_at hl 0 rfl) ?_
  refine lv_iload_n hx hb dX0_make_48 rfl (lv_at hl 3 rfl) ?_
  obtain ⟨z_7, hcl, hf⟩ := bo_s hf
  refine rcVv (n := 1) (As := [.int x3]) (rest := []) (q0 := 4) (w' := (wC n ad cA z_7)) C hS (fun sz => c_dr_add l D n ad cA k z_6 x3 z_7 hcl sz) gX0_make_X0_add rfl ⟨rfl, rfl⟩ (by decide +kernel) ⟨Nat.le_of_ble_eq_true rfl, Nat.le_of_ble_eq_true rfl⟩ oC_4 rfl rfl hl.1 rfl (Nat.le_of_ble_eq_true rfl) dX0_make_49 (fun H locs hS => ?_)
  refine lv_aload_n hx hb dX0_make_52 rfl (lv_at hl 0 rfl) ?_
  refine lv_iload hx hb dX0_make_53 (lv_at hl 5 rfl) ?_
  obtain ⟨z_8, hcl, hf⟩ := bo_s hf
  refine rcVv (n := 1) (As := [.int x5]) (rest := []) (q0 := 4) (w' := (wC n ad cA z_8)) C hS (fun sz => c_dr_add l D n ad cA k z_7 x5 z_8 hcl sz) gX0_make_X0_add rfl ⟨rfl, rfl⟩ (by decide +kernel) ⟨Nat.le_of_ble_eq_true rfl, Nat.le_of_ble_eq_true rfl⟩ oC_4 rfl rfl hl.1 rfl (Nat.le_of_ble_eq_true rfl) dX0_make_55 (fun H locs hS => ?_)
  refine lv_iconst (v := 0) hx hb dX0_make_58 (by decide) ?_
  refine lv_istore (lv' := [(6, .int 0), (0, .ref (ad 4)), (1, .int x1), (2, .int x2), (3, .int x3), (4, .ref (ad 5)), (5, .int x5)]) hx hb dX0_make_59 hl (by decide) rfl (fun ls hl => ?_)
  exact w_dr_make_5_b61 C k k z_8 x5 0 z' hf H locs ls hS (lv_sub hl [1, 5, 6, 0] rfl)
set_option maxHeartbeats 4000000 in
set_option maxRecDepth 100000 in
theorem c_dr_make_5 (l : Launch) (D : va_G) (n : Nat) (ad : Nat → Nat) (cA : Nat → ClassId) (k : Nat) (z : SS) (x1 : Int32) (x2 : Int32) (x3 : Int32) (x5 : Int32) (z' : SS) (hf : dr_make_5 n k z x1 x2 x3 x5 = some z') (sz : Nat) : Met l yX0_make wsX0_make R_dr_make_5 (kP D (tC cA) [.ref (ad 4), .int x1, .int x2, .int x3, .ref (ad 5), .int x5] (wC n ad cA z) sz) (kV D (tC cA) (wC n ad cA z) (wC n ad cA z') sz) 0 0 (va_A (wC n ad cA z) sz) := by
  refine ent (by decide) rfl rfl (Nat.le_of_ble_eq_true rfl) (fun p e s m args below meth c hsz C hS ls hl => ?_)
  subst hsz
  exact w_dr_make_5_0 C k z x1 x2 x3 x5 z' hf s.heap [] ls hS hl
