-- gs_reopen: public int reopen();
theorem lk_X5_reopen_23 : Cond.fieldLink RX5 23 (TX5 0).1 (TX5 0).2.1 (TX5 0).2.2.1 ∈ wsX5_reopen := by decide +kernel
theorem in_X5_reopen_X5 : ∀ x ∈ u_ws RX5 TX5 12, x ∈ wsX5_reopen := by decide +kernel
theorem lk_X5_reopen_111 : Cond.fieldLink RX5 111 (TX3 0).1 (TX3 0).2.1 (TX3 0).2.2.1 ∈ wsX5_reopen := by decide +kernel
theorem in_X5_reopen_X3 : ∀ x ∈ u_ws RX3 TX3 6, x ∈ wsX5_reopen := by decide +kernel
theorem lk_X5_reopen_30 : Cond.fieldLink RX5 30 (TX5 1).1 (TX5 1).2.1 (TX5 1).2.2.1 ∈ wsX5_reopen := by decide +kernel
theorem lk_X5_reopen_88 : Cond.fieldLink RX5 88 (TX5 8).1 (TX5 8).2.1 (TX5 8).2.2.1 ∈ wsX5_reopen := by decide +kernel
theorem lk_X5_reopen_61 : Cond.fieldLink RX5 61 (TX5 9).1 (TX5 9).2.1 (TX5 9).2.2.1 ∈ wsX5_reopen := by decide +kernel
theorem lk_X5_reopen_134 : Cond.fieldLink RX5 134 (TX5 10).1 (TX5 10).2.1 (TX5 10).2.2.1 ∈ wsX5_reopen := by decide +kernel
def R_gs_reopen : Room := { frames := 4, cells := 0, slots := 0, locals := 100 }
def gs_reopen_b27 (n : Nat) (k : Nat) : Nat → SS → Int32 → Option (Int32 × SS)
  | 0, _, _ => none
  | fu + 1, z, x1 => (if (z.1 20) ≤ x1 then (bo (ix_keysWithSomething n k z (z.1 8)) fun r_1 => some (r_1, z)) else (bo (gs_readSegment n k z x1) fun z_2 => gs_reopen_b27 n k fu z_2 (x1 + 1)))
def gs_reopen (n : Nat) (k : Nat) (z : SS) : Option (Int32 × SS) :=
  (if (z.1 9) = 0 then some ((-3), z) else gs_reopen_b27 n k k (si (si (si z 9 0) 10 0) 8 0) 0)
set_option maxHeartbeats 4000000 in
set_option maxRecDepth 100000 in
theorem w_gs_reopen_b27 {p : Program} {l : Launch} {e : Env} {s : State} {m : MethodId} {args : Array Value} {below : List Frame} {meth : Method} {c : Code} {D : va_G} {w0 : va_W} {n : Nat} {ad : Nat → Nat} {cA : Nat → ClassId} (C : Cx p s m args meth c cX5_reopen 2 (some .int) RX5 wsX5_reopen D (tC cA)) (k : Nat) : ∀ (fu : Nat) (z : SS) (x1 : Int32) (r : Int32) (z' : SS), gs_reopen_b27 n k fu z x1 = some (r, z') → ∀ (H : Heap) (locs : List Loc) (ls : Array Slot), St D (va_A w0 s.heap.size) s.heap (wC n ad cA z) H locs → lv_has ls 2 [(0, .ref (ad 0)), (1, .int x1)] → W p l e R_gs_reopen s m args below meth c H locs 0 0 (MQ below (kI D (tC cA) r w0 (wC n ad cA z') s.heap.size) args s 0 0 (va_A w0 s.heap.size)) (F0 m 27 ls []) := by
  obtain ⟨hx, hb, hr, hml, hown, hts, hlk, hK⟩ := id C
  intro fu
  induction fu with
  | zero =>
    intro z x1 r z' hf
    cases (show (none : Option (Int32 × SS)) = some (r, z') from hf)
  | succ fu ih =>
    intro z x1 r z' hf H locs ls hS hl
    have hf : (if (z.1 20) ≤ x1 then (bo (ix_keysWithSomething n k z (z.1 8)) fun r_1 => some (r_1, z)) else (bo (gs_readSegment n k z x1) fun z_2 => gs_reopen_b27 n k fu z_2 (x1 + 1))) = some (r, z') := hf
    refine lv_iload_n hx hb dX5_reopen_27 rfl (lv_at hl 1 rfl) ?_
    refine lv_aload_n hx hb dX5_reopen_28 rfl (lv_at hl 0 rfl) ?_
    refine hC_1 C hS in_X5_reopen_X5 lk_X5_reopen_23 dX5_reopen_29 ?_
    refine gC_20 C hS in_X5_reopen_X3 lk_X5_reopen_111 (v := (z.1 20)) rfl dX5_reopen_32 ?_
    refine lv_icmp_ge (x := x1) (y := (z.1 20)) (tgt := 49) hx hb dX5_reopen_35 (by decide) (fun hc => ?_) (fun hc => ?_)
    · replace hf := it_t hc hf
      refine lv_aload_n hx hb dX5_reopen_49 rfl (lv_at hl 0 rfl) ?_
      refine hC_2 C hS in_X5_reopen_X5 lk_X5_reopen_30 dX5_reopen_50 ?_
      refine lv_aload_n hx hb dX5_reopen_53 rfl (lv_at hl 0 rfl) ?_
      refine gC_8 C hS in_X5_reopen_X5 lk_X5_reopen_88 (v := (z.1 8)) rfl dX5_reopen_54 ?_
      obtain ⟨r_1, hcl, hf⟩ := bo_s hf
      refine rcVi (n := 1) (As := [.int (z.1 8)]) (rest := []) (q0 := 2) (w' := (wC n ad cA z)) C hS (fun sz => c_ix_keysWithSomething l D n ad cA k z (z.1 8) r_1 hcl sz) gX5_reopen_X1_keysWithSomething rfl ⟨rfl, rfl⟩ (by decide +kernel) ⟨Nat.le_of_ble_eq_true rfl, Nat.le_of_ble_eq_true rfl⟩ oC_2 rfl rfl hl.1 rfl (Nat.le_of_ble_eq_true rfl) dX5_reopen_57 (fun H locs hS => ?_)
      cases hf
      exact rti C hS dX5_reopen_60
    · replace hf := it_f hc hf
      refine lv_aload_n hx hb dX5_reopen_38 rfl (lv_at hl 0 rfl) ?_
      refine lv_iload_n hx hb dX5_reopen_39 rfl (lv_at hl 1 rfl) ?_
      obtain ⟨z_2, hcl, hf⟩ := bo_s hf
      refine rcVv (n := 1) (As := [.int x1]) (rest := []) (q0 := 0) (w' := (wC n ad cA z_2)) C hS (fun sz => c_gs_readSegment l D n ad cA k z x1 z_2 hcl sz) gX5_reopen_X5_readSegment rfl ⟨rfl, rfl⟩ (by decide +kernel) ⟨Nat.le_of_ble_eq_true rfl, Nat.le_of_ble_eq_true rfl⟩ oC_0 rfl rfl hl.1 rfl (Nat.le_of_ble_eq_true rfl) dX5_reopen_40 (fun H locs hS => ?_)
      refine lv_iinc (v := (x1 + 1)) (lv' := [(1, .int (x1 + 1)), (0, .ref (ad 0))]) hx hb dX5_reopen_43 hl (k := 1) rfl (congrArg (fun q => x1 + q) (by decide : Int32.ofInt 1 = (1 : Int32))) (by decide) rfl (fun ls hl => ?_)
      refine lv_goto (tgt := 27) hx hb dX5_reopen_46 (by decide) ?_
      exact ih z_2 (x1 + 1) r z' hf H locs ls hS (lv_sub hl [1, 0] rfl)
set_option maxHeartbeats 4000000 in
set_option maxRecDepth 100000 in
theorem w_gs_reopen_0 {p : Program} {l : Launch} {e : Env} {s : State} {m : MethodId} {args : Array Value} {below : List Frame} {meth : Method} {c : Code} {D : va_G} {w0 : va_W} {n : Nat} {ad : Nat → Nat} {cA : Nat → ClassId} (C : Cx p s m args meth c cX5_reopen 2 (some .int) RX5 wsX5_reopen D (tC cA)) (k : Nat) (z : SS) (r : Int32) (z' : SS) (hf : gs_reopen n k z = some (r, z')) : ∀ (H : Heap) (locs : List Loc) (ls : Array Slot), St D (va_A w0 s.heap.size) s.heap (wC n ad cA z) H locs → lv_has ls 2 [(0, .ref (ad 0))] → W p l e R_gs_reopen s m args below meth c H locs 0 0 (MQ below (kI D (tC cA) r w0 (wC n ad cA z') s.heap.size) args s 0 0 (va_A w0 s.heap.size)) (F0 m 0 ls []) := by
  obtain ⟨hx, hb, hr, hml, hown, hts, hlk, hK⟩ := id C
  intro H locs ls hS hl
  have hf : (if (z.1 9) = 0 then some ((-3), z) else gs_reopen_b27 n k k (si (si (si z 9 0) 10 0) 8 0) 0) = some (r, z') := hf
  refine lv_aload_n hx hb dX5_reopen_0 rfl (lv_at hl 0 rfl) ?_
  refine gC_9 C hS in_X5_reopen_X5 lk_X5_reopen_61 (v := (z.1 9)) rfl dX5_reopen_1 ?_
  refine lv_if_ne (x := (z.1 9)) (tgt := 10) hx hb dX5_reopen_4 (by decide) (fun hc => ?_) (fun hc => ?_)
  · replace hf := it_f hc hf
    refine lv_aload_n hx hb dX5_reopen_10 rfl (lv_at hl 0 rfl) ?_
    refine lv_iconst (v := 0) hx hb dX5_reopen_11 (by decide) ?_
    refine pC_9 C hS in_X5_reopen_X5 lk_X5_reopen_61 (v := 0) rfl rfl dX5_reopen_12 (fun H locs hS => ?_)
    refine lv_aload_n hx hb dX5_reopen_15 rfl (lv_at hl 0 rfl) ?_
    refine lv_iconst (v := 0) hx hb dX5_reopen_16 (by decide) ?_
    refine pC_10 C hS in_X5_reopen_X5 lk_X5_reopen_134 (v := 0) rfl rfl dX5_reopen_17 (fun H locs hS => ?_)
    refine lv_aload_n hx hb dX5_reopen_20 rfl (lv_at hl 0 rfl) ?_
    refine lv_iconst (v := 0) hx hb dX5_reopen_21 (by decide) ?_
    refine pC_8 C hS in_X5_reopen_X5 lk_X5_reopen_88 (v := 0) rfl rfl dX5_reopen_22 (fun H locs hS => ?_)
    refine lv_iconst (v := 0) hx hb dX5_reopen_25 (by decide) ?_
    refine lv_istore_n (lv' := [(1, .int 0), (0, .ref (ad 0))]) hx hb dX5_reopen_26 rfl hl (by decide) rfl (fun ls hl => ?_)
    exact w_gs_reopen_b27 C k k (si (si (si z 9 0) 10 0) 8 0) 0 r z' hf H locs ls hS (lv_sub hl [1, 0] rfl)
  · replace hf := it_t hc hf
    refine lv_bipush (v := (-3)) hx hb dX5_reopen_7 (by decide) ?_
    cases hf
    exact rti C hS dX5_reopen_9
set_option maxHeartbeats 4000000 in
set_option maxRecDepth 100000 in
theorem c_gs_reopen (l : Launch) (D : va_G) (n : Nat) (ad : Nat → Nat) (cA : Nat → ClassId) (k : Nat) (z : SS) (r : Int32) (z' : SS) (hf : gs_reopen n k z = some (r, z')) (sz : Nat) : Met l yX5_reopen wsX5_reopen R_gs_reopen (kP D (tC cA) [.ref (ad 0)] (wC n ad cA z) sz) (kI D (tC cA) r (wC n ad cA z) (wC n ad cA z') sz) 0 0 (va_A (wC n ad cA z) sz) := by
  refine ent (by decide) rfl rfl (Nat.le_of_ble_eq_true rfl) (fun p e s m args below meth c hsz C hS ls hl => ?_)
  subst hsz
  exact w_gs_reopen_0 C k z r z' hf s.heap [] ls hS hl
-- gs_badAt: public int badAt();
theorem lk_X5_badAt_134 : Cond.fieldLink RX5 134 (TX5 10).1 (TX5 10).2.1 (TX5 10).2.2.1 ∈ wsX5_badAt := by decide +kernel
theorem in_X5_badAt_X5 : ∀ x ∈ u_ws RX5 TX5 12, x ∈ wsX5_badAt := by decide +kernel
theorem lk_X5_badAt_143 : Cond.fieldLink RX5 143 (TX5 11).1 (TX5 11).2.1 (TX5 11).2.2.1 ∈ wsX5_badAt := by decide +kernel
def R_gs_badAt : Room := { frames := 0, cells := 0, slots := 0, locals := 0 }
def gs_badAt (n : Nat) (k : Nat) (z : SS) : Option Int32 :=
  (if (z.1 10) = 0 then some (-1) else some (z.1 11))
set_option maxHeartbeats 4000000 in
set_option maxRecDepth 100000 in
theorem w_gs_badAt_0 {p : Program} {l : Launch} {e : Env} {s : State} {m : MethodId} {args : Array Value} {below : List Frame} {meth : Method} {c : Code} {D : va_G} {w0 : va_W} {n : Nat} {ad : Nat → Nat} {cA : Nat → ClassId} (C : Cx p s m args meth c cX5_badAt 1 (some .int) RX5 wsX5_badAt D (tC cA)) (k : Nat) (z : SS) (r : Int32) (hf : gs_badAt n k z = some r) : ∀ (H : Heap) (locs : List Loc) (ls : Array Slot), St D (va_A w0 s.heap.size) s.heap (wC n ad cA z) H locs → lv_has ls 1 [(0, .ref (ad 0))] → W p l e R_gs_badAt s m args below meth c H locs 0 0 (MQ below (kI D (tC cA) r w0 (wC n ad cA z) s.heap.size) args s 0 0 (va_A w0 s.heap.size)) (F0 m 0 ls []) := by
  obtain ⟨hx, hb, hr, hml, hown, hts, hlk, hK⟩ := id C
  intro H locs ls hS hl
  have hf : (if (z.1 10) = 0 then some (-1) else some (z.1 11)) = some r := hf
  refine lv_aload_n hx hb dX5_badAt_0 rfl (lv_at hl 0 rfl) ?_
  refine gC_10 C hS in_X5_badAt_X5 lk_X5_badAt_134 (v := (z.1 10)) rfl dX5_badAt_1 ?_
  refine lv_if_eq (x := (z.1 10)) (tgt := 14) hx hb dX5_badAt_4 (by decide) (fun hc => ?_) (fun hc => ?_)
  · replace hf := it_t hc hf
    refine lv_iconst (v := (-1)) hx hb dX5_badAt_14 (by decide) ?_
    cases hf
    exact rti C hS dX5_badAt_15
  · replace hf := it_f hc hf
    refine lv_aload_n hx hb dX5_badAt_7 rfl (lv_at hl 0 rfl) ?_
    refine gC_11 C hS in_X5_badAt_X5 lk_X5_badAt_143 (v := (z.1 11)) rfl dX5_badAt_8 ?_
    refine lv_goto (tgt := 15) hx hb dX5_badAt_11 (by decide) ?_
    cases hf
    exact rti C hS dX5_badAt_15
set_option maxHeartbeats 4000000 in
set_option maxRecDepth 100000 in
theorem c_gs_badAt (l : Launch) (D : va_G) (n : Nat) (ad : Nat → Nat) (cA : Nat → ClassId) (k : Nat) (z : SS) (r : Int32) (hf : gs_badAt n k z = some r) (sz : Nat) : Met l yX5_badAt wsX5_badAt R_gs_badAt (kP D (tC cA) [.ref (ad 0)] (wC n ad cA z) sz) (kI D (tC cA) r (wC n ad cA z) (wC n ad cA z) sz) 0 0 (va_A (wC n ad cA z) sz) := by
  refine ent (by decide) rfl rfl (Nat.le_of_ble_eq_true rfl) (fun p e s m args below meth c hsz C hS ls hl => ?_)
  subst hsz
  exact w_gs_badAt_0 C k z r hf s.heap [] ls hS hl
-- gs_cellOf: private int cellOf(int, int);
theorem lk_X5_cellOf_23 : Cond.fieldLink RX5 23 (TX5 0).1 (TX5 0).2.1 (TX5 0).2.2.1 ∈ wsX5_cellOf := by decide +kernel
theorem in_X5_cellOf_X5 : ∀ x ∈ u_ws RX5 TX5 12, x ∈ wsX5_cellOf := by decide +kernel
def R_gs_cellOf : Room := { frames := 1, cells := 0, slots := 0, locals := 21 }
def gs_cellOf_b22 (n : Nat) (k : Nat) (z : SS) : Option Int32 :=
  none
def gs_cellOf (n : Nat) (k : Nat) (z : SS) (x1 : Int32) (x2 : Int32) : Option Int32 :=
  (bo (sg_has n k z x1) fun r_1 => (if r_1 = 0 then gs_cellOf_b22 n k z else (if x2 < 0 then gs_cellOf_b22 n k z else (if x2 < 200 then some ((x1 * 200) + x2) else gs_cellOf_b22 n k z))))
set_option maxHeartbeats 4000000 in
set_option maxRecDepth 100000 in
theorem w_gs_cellOf_b22 {p : Program} {l : Launch} {e : Env} {s : State} {m : MethodId} {args : Array Value} {below : List Frame} {meth : Method} {c : Code} {D : va_G} {w0 : va_W} {n : Nat} {ad : Nat → Nat} {cA : Nat → ClassId} (C : Cx p s m args meth c cX5_cellOf 3 (some .int) RX5 wsX5_cellOf D (tC cA)) (k : Nat) (z : SS) (r : Int32) (hf : gs_cellOf_b22 n k z = some r) : ∀ (H : Heap) (locs : List Loc) (ls : Array Slot), St D (va_A w0 s.heap.size) s.heap (wC n ad cA z) H locs → lv_has ls 3 [] → W p l e R_gs_cellOf s m args below meth c H locs 0 0 (MQ below (kI D (tC cA) r w0 (wC n ad cA z) s.heap.size) args s 0 0 (va_A w0 s.heap.size)) (F0 m 22 ls []) := by
  obtain ⟨hx, hb, hr, hml, hown, hts, hlk, hK⟩ := id C
  intro H locs ls hS hl
  have hf : none = some r := hf
  cases hf
set_option maxHeartbeats 4000000 in
set_option maxRecDepth 100000 in
theorem w_gs_cellOf_0 {p : Program} {l : Launch} {e : Env} {s : State} {m : MethodId} {args : Array Value} {below : List Frame} {meth : Method} {c : Code} {D : va_G} {w0 : va_W} {n : Nat} {ad : Nat → Nat} {cA : Nat → ClassId} (C : Cx p s m args meth c cX5_cellOf 3 (some .int) RX5 wsX5_cellOf D (tC cA)) (k : Nat) (z : SS) (x1 : Int32) (x2 : Int32) (r : Int32) (hf : gs_cellOf n k z x1 x2 = some r) : ∀ (H : Heap) (locs : List Loc) (ls : Array Slot), St D (va_A w0 s.heap.size) s.heap (wC n ad cA z) H locs → lv_has ls 3 [(0, .ref (ad 0)), (1, .int x1), (2, .int x2)] → W p l e R_gs_cellOf s m args below meth c H locs 0 0 (MQ below (kI D (tC cA) r w0 (wC n ad cA z) s.heap.size) args s 0 0 (va_A w0 s.heap.size)) (F0 m 0 ls []) := by
  obtain ⟨hx, hb, hr, hml, hown, hts, hlk, hK⟩ := id C
  intro H locs ls hS hl
  have hf : (bo (sg_has n k z x1) fun r_1 => (if r_1 = 0 then gs_cellOf_b22 n k z else (if x2 < 0 then gs_cellOf_b22 n k z else (if x2 < 200 then some ((x1 * 200) + x2) else gs_cellOf_b22 n k z)))) = some r := hf
  refine lv_aload_n hx hb dX5_cellOf_0 rfl (lv_at hl 0 rfl) ?_
  refine hC_1 C hS in_X5_cellOf_X5 lk_X5_cellOf_23 dX5_cellOf_1 ?_
  refine lv_iload_n hx hb dX5_cellOf_4 rfl (lv_at hl 1 rfl) ?_
  obtain ⟨r_1, hcl, hf⟩ := bo_s hf
  refine rcVi (n := 1) (As := [.int x1]) (rest := []) (q0 := 1) (w' := (wC n ad cA z)) C hS (fun sz => c_sg_has l D n ad cA k z x1 r_1 hcl sz) gX5_cellOf_X3_has rfl ⟨rfl, rfl⟩ (by decide +kernel) ⟨Nat.le_of_ble_eq_true rfl, Nat.le_of_ble_eq_true rfl⟩ oC_1 rfl rfl hl.1 rfl (Nat.le_of_ble_eq_true rfl) dX5_cellOf_5 (fun H locs hS => ?_)
  refine lv_if_eq (x := r_1) (tgt := 22) hx hb dX5_cellOf_8 (by decide) (fun hc => ?_) (fun hc => ?_)
  · replace hf := it_t hc hf
    exact w_gs_cellOf_b22 C k z r hf H locs ls hS (lv_sub hl [] rfl)
  · replace hf := it_f hc hf
    refine lv_iload_n hx hb dX5_cellOf_11 rfl (lv_at hl 2 rfl) ?_
    refine lv_if_lt (x := x2) (tgt := 22) hx hb dX5_cellOf_12 (by decide) (fun hc => ?_) (fun hc => ?_)
    · replace hf := it_t hc hf
      exact w_gs_cellOf_b22 C k z r hf H locs ls hS (lv_sub hl [] rfl)
    · replace hf := it_f hc hf
      refine lv_iload_n hx hb dX5_cellOf_15 rfl (lv_at hl 2 rfl) ?_
      refine lv_sipush (v := 200) hx hb dX5_cellOf_16 (by decide) ?_
      refine lv_icmp_lt (x := x2) (y := 200) (tgt := 30) hx hb dX5_cellOf_19 (by decide) (fun hc => ?_) (fun hc => ?_)
      · replace hf := it_t hc hf
        refine lv_iload_n hx hb dX5_cellOf_30 rfl (lv_at hl 1 rfl) ?_
        refine lv_sipush (v := 200) hx hb dX5_cellOf_31 (by decide) ?_
        refine lv_imul (x := x1) (y := 200) hx hb dX5_cellOf_34 ?_
        refine lv_iload_n hx hb dX5_cellOf_35 rfl (lv_at hl 2 rfl) ?_
        refine lv_iadd (x := (x1 * 200)) (y := x2) hx hb dX5_cellOf_36 ?_
        cases hf
        exact rti C hS dX5_cellOf_37
      · replace hf := it_f hc hf
        exact w_gs_cellOf_b22 C k z r hf H locs ls hS (lv_sub hl [] rfl)
set_option maxHeartbeats 4000000 in
set_option maxRecDepth 100000 in
theorem c_gs_cellOf (l : Launch) (D : va_G) (n : Nat) (ad : Nat → Nat) (cA : Nat → ClassId) (k : Nat) (z : SS) (x1 : Int32) (x2 : Int32) (r : Int32) (hf : gs_cellOf n k z x1 x2 = some r) (sz : Nat) : Met l yX5_cellOf wsX5_cellOf R_gs_cellOf (kP D (tC cA) [.ref (ad 0), .int x1, .int x2] (wC n ad cA z) sz) (kI D (tC cA) r (wC n ad cA z) (wC n ad cA z) sz) 0 0 (va_A (wC n ad cA z) sz) := by
  refine ent (by decide) rfl rfl (Nat.le_of_ble_eq_true rfl) (fun p e s m args below meth c hsz C hS ls hl => ?_)
  subst hsz
  exact w_gs_cellOf_0 C k z x1 x2 r hf s.heap [] ls hS hl
-- gs_poke: public int poke(int, int, int) throws java.lang.ArrayIndexOutOfBoundsException;
theorem lk_X5_poke_61 : Cond.fieldLink RX5 61 (TX5 9).1 (TX5 9).2.1 (TX5 9).2.2.1 ∈ wsX5_poke := by decide +kernel
theorem in_X5_poke_X5 : ∀ x ∈ u_ws RX5 TX5 12, x ∈ wsX5_poke := by decide +kernel
theorem lk_X5_poke_23 : Cond.fieldLink RX5 23 (TX5 0).1 (TX5 0).2.1 (TX5 0).2.2.1 ∈ wsX5_poke := by decide +kernel
theorem lk_X5_poke_78 : Cond.fieldLink RX5 78 (TX3 1).1 (TX3 1).2.1 (TX3 1).2.2.1 ∈ wsX5_poke := by decide +kernel
theorem in_X5_poke_X3 : ∀ x ∈ u_ws RX3 TX3 6, x ∈ wsX5_poke := by decide +kernel
def R_gs_poke : Room := { frames := 2, cells := 0, slots := 0, locals := 43 }
def gs_poke (n : Nat) (k : Nat) (z : SS) (x1 : Int32) (x2 : Int32) (x3 : Int32) : Option (Int32 × SS) :=
  (bo (gs_cellOf n k z x1 x2) fun r_1 => (if (z.1 9) = 0 then some ((-3), z) else (if x3 < 0 then some ((-2), z) else (if x3 ≤ 255 then (if ck r_1 (n * 200) = true then (if ck r_1 (n * 200) = true then (if ck r_1 (n * 200) = true then some (((upd (z.2 7) (Int32.toNatClampNeg r_1) (((z.2 7) (Int32.toNatClampNeg r_1)) ^^^ x3)) (Int32.toNatClampNeg r_1)), (sa z 7 (Int32.toNatClampNeg r_1) (((z.2 7) (Int32.toNatClampNeg r_1)) ^^^ x3))) else none) else none) else none) else some ((-2), z)))))
set_option maxHeartbeats 4000000 in
set_option maxRecDepth 100000 in
theorem w_gs_poke_0 {p : Program} {l : Launch} {e : Env} {s : State} {m : MethodId} {args : Array Value} {below : List Frame} {meth : Method} {c : Code} {D : va_G} {w0 : va_W} {n : Nat} {ad : Nat → Nat} {cA : Nat → ClassId} (C : Cx p s m args meth c cX5_poke 5 (some .int) RX5 wsX5_poke D (tC cA)) (k : Nat) (z : SS) (x1 : Int32) (x2 : Int32) (x3 : Int32) (r : Int32) (z' : SS) (hf : gs_poke n k z x1 x2 x3 = some (r, z')) : ∀ (H : Heap) (locs : List Loc) (ls : Array Slot), St D (va_A w0 s.heap.size) s.heap (wC n ad cA z) H locs → lv_has ls 5 [(0, .ref (ad 0)), (1, .int x1), (2, .int x2), (3, .int x3)] → W p l e R_gs_poke s m args below meth c H locs 0 0 (MQ below (kI D (tC cA) r w0 (wC n ad cA z') s.heap.size) args s 0 0 (va_A w0 s.heap.size)) (F0 m 0 ls []) := by
  obtain ⟨hx, hb, hr, hml, hown, hts, hlk, hK⟩ := id C
  intro H locs ls hS hl
  have hf : (bo (gs_cellOf n k z x1 x2) fun r_1 => (if (z.1 9) = 0 then some ((-3), z) else (if x3 < 0 then some ((-2), z) else (if x3 ≤ 255 then (if ck r_1 (n * 200) = true then (if ck r_1 (n * 200) = true then (if ck r_1 (n * 200) = true then some (((upd (z.2 7) (Int32.toNatClampNeg r_1) (((z.2 7) (Int32.toNatClampNeg r_1)) ^^^ x3)) (Int32.toNatClampNeg r_1)), (sa z 7 (Int32.toNatClampNeg r_1) (((z.2 7) (Int32.toNatClampNeg r_1)) ^^^ x3))) else none) else none) else none) else some ((-2), z))))) = some (r, z') := hf
  refine lv_aload_n hx hb dX5_poke_0 rfl (lv_at hl 0 rfl) ?_
  refine lv_iload_n hx hb dX5_poke_1 rfl (lv_at hl 1 rfl) ?_
  refine lv_iload_n hx hb dX5_poke_2 rfl (lv_at hl 2 rfl) ?_
  obtain ⟨r_1, hcl, hf⟩ := bo_s hf
  refine rcVi (n := 2) (As := [.int x1, .int x2]) (rest := []) (q0 := 0) (w' := (wC n ad cA z)) C hS (fun sz => c_gs_cellOf l D n ad cA k z x1 x2 r_1 hcl sz) gX5_poke_X5_cellOf rfl ⟨rfl, rfl⟩ (by decide +kernel) ⟨Nat.le_of_ble_eq_true rfl, Nat.le_of_ble_eq_true rfl⟩ oC_0 rfl rfl hl.1 rfl (Nat.le_of_ble_eq_true rfl) dX5_poke_3 (fun H locs hS => ?_)
  refine lv_istore (lv' := [(4, .int r_1), (0, .ref (ad 0)), (1, .int x1), (2, .int x2), (3, .int x3)]) hx hb dX5_poke_6 hl (by decide) rfl (fun ls hl => ?_)
  refine lv_aload_n hx hb dX5_poke_8 rfl (lv_at hl 1 rfl) ?_
  refine gC_9 C hS in_X5_poke_X5 lk_X5_poke_61 (v := (z.1 9)) rfl dX5_poke_9 ?_
  refine lv_if_ne (x := (z.1 9)) (tgt := 18) hx hb dX5_poke_12 (by decide) (fun hc => ?_) (fun hc => ?_)
  · replace hf := it_f hc hf
    refine lv_iload_n hx hb dX5_poke_18 rfl (lv_at hl 4 rfl) ?_
    refine lv_if_lt (x := x3) (tgt := 29) hx hb dX5_poke_19 (by decide) (fun hc => ?_) (fun hc => ?_)
    · replace hf := it_t hc hf
      refine lv_bipush (v := (-2)) hx hb dX5_poke_29 (by decide) ?_
      cases hf
      exact rti C hS dX5_poke_31
    · replace hf := it_f hc hf
      refine lv_iload_n hx hb dX5_poke_22 rfl (lv_at hl 4 rfl) ?_
      refine lv_sipush (v := 255) hx hb dX5_poke_23 (by decide) ?_
      refine lv_icmp_le (x := x3) (y := 255) (tgt := 32) hx hb dX5_poke_26 (by decide) (fun hc => ?_) (fun hc => ?_)
      · replace hf := it_t hc hf
        refine lv_aload_n hx hb dX5_poke_32 rfl (lv_at hl 1 rfl) ?_
        refine hC_1 C hS in_X5_poke_X5 lk_X5_poke_23 dX5_poke_33 ?_
        refine hC_7 C hS in_X5_poke_X3 lk_X5_poke_78 dX5_poke_36 ?_
        refine lv_iload hx hb dX5_poke_39 (lv_at hl 0 rfl) ?_
        refine lv_dup2_11 hx hb dX5_poke_41 rfl rfl ?_
        obtain ⟨hck, hf⟩ := cs hf
        refine lC_7 C hS (f := (z.2 7)) rfl (i := r_1) hck dX5_poke_42 ?_
        refine lv_iload_n hx hb dX5_poke_43 rfl (lv_at hl 4 rfl) ?_
        refine lv_ixor (x := ((z.2 7) (Int32.toNatClampNeg r_1))) (y := x3) hx hb dX5_poke_44 ?_
        obtain ⟨hck, hf⟩ := cs hf
        refine sC_7 C hS (i := r_1) (x := (((z.2 7) (Int32.toNatClampNeg r_1)) ^^^ x3)) hck dX5_poke_45 (fun H locs hS => ?_)
        refine lv_aload_n hx hb dX5_poke_46 rfl (lv_at hl 1 rfl) ?_
        refine hC_1 C hS in_X5_poke_X5 lk_X5_poke_23 dX5_poke_47 ?_
        refine hC_7 C hS in_X5_poke_X3 lk_X5_poke_78 dX5_poke_50 ?_
        refine lv_iload hx hb dX5_poke_53 (lv_at hl 0 rfl) ?_
        obtain ⟨hck, hf⟩ := cs hf
        refine lC_7 C hS (f := (upd (z.2 7) (Int32.toNatClampNeg r_1) (((z.2 7) (Int32.toNatClampNeg r_1)) ^^^ x3))) (sa_s.trans (congrArg (fun q => upd q (Int32.toNatClampNeg r_1) (((z.2 7) (Int32.toNatClampNeg r_1)) ^^^ x3)) rfl)) (i := r_1) hck dX5_poke_55 ?_
        cases hf
        exact rti C hS dX5_poke_56
      · replace hf := it_f hc hf
        refine lv_bipush (v := (-2)) hx hb dX5_poke_29 (by decide) ?_
        cases hf
        exact rti C hS dX5_poke_31
  · replace hf := it_t hc hf
    refine lv_bipush (v := (-3)) hx hb dX5_poke_15 (by decide) ?_
    cases hf
    exact rti C hS dX5_poke_17
set_option maxHeartbeats 4000000 in
set_option maxRecDepth 100000 in
theorem c_gs_poke (l : Launch) (D : va_G) (n : Nat) (ad : Nat → Nat) (cA : Nat → ClassId) (k : Nat) (z : SS) (x1 : Int32) (x2 : Int32) (x3 : Int32) (r : Int32) (z' : SS) (hf : gs_poke n k z x1 x2 x3 = some (r, z')) (sz : Nat) : Met l yX5_poke wsX5_poke R_gs_poke (kP D (tC cA) [.ref (ad 0), .int x1, .int x2, .int x3] (wC n ad cA z) sz) (kI D (tC cA) r (wC n ad cA z) (wC n ad cA z') sz) 0 0 (va_A (wC n ad cA z) sz) := by
  refine ent (by decide) rfl rfl (Nat.le_of_ble_eq_true rfl) (fun p e s m args below meth c hsz C hS ls hl => ?_)
  subst hsz
  exact w_gs_poke_0 C k z x1 x2 x3 r z' hf s.heap [] ls hS hl
-- gs_byteAt: public int byteAt(int, int) throws java.lang.ArrayIndexOutOfBoundsException;
theorem lk_X5_byteAt_23 : Cond.fieldLink RX5 23 (TX5 0).1 (TX5 0).2.1 (TX5 0).2.2.1 ∈ wsX5_byteAt := by decide +kernel
theorem in_X5_byteAt_X5 : ∀ x ∈ u_ws RX5 TX5 12, x ∈ wsX5_byteAt := by decide +kernel
theorem lk_X5_byteAt_78 : Cond.fieldLink RX5 78 (TX3 1).1 (TX3 1).2.1 (TX3 1).2.2.1 ∈ wsX5_byteAt := by decide +kernel
theorem in_X5_byteAt_X3 : ∀ x ∈ u_ws RX3 TX3 6, x ∈ wsX5_byteAt := by decide +kernel
def R_gs_byteAt : Room := { frames := 2, cells := 0, slots := 0, locals := 43 }
def gs_byteAt (n : Nat) (k : Nat) (z : SS) (x1 : Int32) (x2 : Int32) : Option Int32 :=
  (bo (gs_cellOf n k z x1 x2) fun r_1 => (if ck r_1 (n * 200) = true then some ((z.2 7) (Int32.toNatClampNeg r_1)) else none))
set_option maxHeartbeats 4000000 in
set_option maxRecDepth 100000 in
theorem w_gs_byteAt_0 {p : Program} {l : Launch} {e : Env} {s : State} {m : MethodId} {args : Array Value} {below : List Frame} {meth : Method} {c : Code} {D : va_G} {w0 : va_W} {n : Nat} {ad : Nat → Nat} {cA : Nat → ClassId} (C : Cx p s m args meth c cX5_byteAt 3 (some .int) RX5 wsX5_byteAt D (tC cA)) (k : Nat) (z : SS) (x1 : Int32) (x2 : Int32) (r : Int32) (hf : gs_byteAt n k z x1 x2 = some r) : ∀ (H : Heap) (locs : List Loc) (ls : Array Slot), St D (va_A w0 s.heap.size) s.heap (wC n ad cA z) H locs → lv_has ls 3 [(0, .ref (ad 0)), (1, .int x1), (2, .int x2)] → W p l e R_gs_byteAt s m args below meth c H locs 0 0 (MQ below (kI D (tC cA) r w0 (wC n ad cA z) s.heap.size) args s 0 0 (va_A w0 s.heap.size)) (F0 m 0 ls []) := by
  obtain ⟨hx, hb, hr, hml, hown, hts, hlk, hK⟩ := id C
  intro H locs ls hS hl
  have hf : (bo (gs_cellOf n k z x1 x2) fun r_1 => (if ck r_1 (n * 200) = true then some ((z.2 7) (Int32.toNatClampNeg r_1)) else none)) = some r := hf
  refine lv_aload_n hx hb dX5_byteAt_0 rfl (lv_at hl 0 rfl) ?_
  refine hC_1 C hS in_X5_byteAt_X5 lk_X5_byteAt_23 dX5_byteAt_1 ?_
  refine hC_7 C hS in_X5_byteAt_X3 lk_X5_byteAt_78 dX5_byteAt_4 ?_
  refine lv_aload_n hx hb dX5_byteAt_7 rfl (lv_at hl 0 rfl) ?_
  refine lv_iload_n hx hb dX5_byteAt_8 rfl (lv_at hl 1 rfl) ?_
  refine lv_iload_n hx hb dX5_byteAt_9 rfl (lv_at hl 2 rfl) ?_
  obtain ⟨r_1, hcl, hf⟩ := bo_s hf
  refine rcVi (n := 2) (As := [.int x1, .int x2]) (rest := [.ref (ad 7)]) (q0 := 0) (w' := (wC n ad cA z)) C hS (fun sz => c_gs_cellOf l D n ad cA k z x1 x2 r_1 hcl sz) gX5_byteAt_X5_cellOf rfl ⟨rfl, rfl⟩ (by decide +kernel) ⟨Nat.le_of_ble_eq_true rfl, Nat.le_of_ble_eq_true rfl⟩ oC_0 rfl rfl hl.1 rfl (Nat.le_of_ble_eq_true rfl) dX5_byteAt_10 (fun H locs hS => ?_)
  obtain ⟨hck, hf⟩ := cs hf
  refine lC_7 C hS (f := (z.2 7)) rfl (i := r_1) hck dX5_byteAt_13 ?_
  cases hf
  exact rti C hS dX5_byteAt_14
set_option maxHeartbeats 4000000 in
set_option maxRecDepth 100000 in
theorem c_gs_byteAt (l : Launch) (D : va_G) (n : Nat) (ad : Nat → Nat) (cA : Nat → ClassId) (k : Nat) (z : SS) (x1 : Int32) (x2 : Int32) (r : Int32) (hf : gs_byteAt n k z x1 x2 = some r) (sz : Nat) : Met l yX5_byteAt wsX5_byteAt R_gs_byteAt (kP D (tC cA) [.ref (ad 0), .int x1, .int x2] (wC n ad cA z) sz) (kI D (tC cA) r (wC n ad cA z) (wC n ad cA z) sz) 0 0 (va_A (wC n ad cA z) sz) := by
  refine ent (by decide) rfl rfl (Nat.le_of_ble_eq_true rfl) (fun p e s m args below meth c hsz C hS ls hl => ?_)
  subst hsz
  exact w_gs_byteAt_0 C k z x1 x2 r hf s.heap [] ls hS hl
-- gs_living: public int living(int);
theorem lk_X5_living_61 : Cond.fieldLink RX5 61 (TX5 9).1 (TX5 9).2.1 (TX5 9).2.2.1 ∈ wsX5_living := by decide +kernel
theorem in_X5_living_X5 : ∀ x ∈ u_ws RX5 TX5 12, x ∈ wsX5_living := by decide +kernel
theorem lk_X5_living_23 : Cond.fieldLink RX5 23 (TX5 0).1 (TX5 0).2.1 (TX5 0).2.2.1 ∈ wsX5_living := by decide +kernel
theorem lk_X5_living_30 : Cond.fieldLink RX5 30 (TX5 1).1 (TX5 1).2.1 (TX5 1).2.2.1 ∈ wsX5_living := by decide +kernel
theorem lk_X5_living_37 : Cond.fieldLink RX5 37 (TX5 2).1 (TX5 2).2.1 (TX5 2).2.2.1 ∈ wsX5_living := by decide +kernel
def R_gs_living : Room := { frames := 3, cells := 0, slots := 0, locals := 73 }
def gs_living (n : Nat) (k : Nat) (z : SS) (x1 : Int32) : Option Int32 :=
  (if (z.1 9) = 0 then (bo (sg_has n k z x1) fun r_1 => (if r_1 = 0 then some (-1) else (bo (ix_livingBytes_3 n k z x1) fun r_2 => some r_2))) else some (-1))
set_option maxHeartbeats 4000000 in
set_option maxRecDepth 100000 in
theorem w_gs_living_0 {p : Program} {l : Launch} {e : Env} {s : State} {m : MethodId} {args : Array Value} {below : List Frame} {meth : Method} {c : Code} {D : va_G} {w0 : va_W} {n : Nat} {ad : Nat → Nat} {cA : Nat → ClassId} (C : Cx p s m args meth c cX5_living 2 (some .int) RX5 wsX5_living D (tC cA)) (k : Nat) (z : SS) (x1 : Int32) (r : Int32) (hf : gs_living n k z x1 = some r) : ∀ (H : Heap) (locs : List Loc) (ls : Array Slot), St D (va_A w0 s.heap.size) s.heap (wC n ad cA z) H locs → lv_has ls 2 [(0, .ref (ad 0)), (1, .int x1)] → W p l e R_gs_living s m args below meth c H locs 0 0 (MQ below (kI D (tC cA) r w0 (wC n ad cA z) s.heap.size) args s 0 0 (va_A w0 s.heap.size)) (F0 m 0 ls []) := by
  obtain ⟨hx, hb, hr, hml, hown, hts, hlk, hK⟩ := id C
  intro H locs ls hS hl
  have hf : (if (z.1 9) = 0 then (bo (sg_has n k z x1) fun r_1 => (if r_1 = 0 then some (-1) else (bo (ix_livingBytes_3 n k z x1) fun r_2 => some r_2))) else some (-1)) = some r := hf
  refine lv_aload_n hx hb dX5_living_0 rfl (lv_at hl 0 rfl) ?_
  refine gC_9 C hS in_X5_living_X5 lk_X5_living_61 (v := (z.1 9)) rfl dX5_living_1 ?_
  refine lv_if_ne (x := (z.1 9)) (tgt := 18) hx hb dX5_living_4 (by decide) (fun hc => ?_) (fun hc => ?_)
  · replace hf := it_f hc hf
    refine lv_iconst (v := (-1)) hx hb dX5_living_18 (by decide) ?_
    cases hf
    exact rti C hS dX5_living_19
  · replace hf := it_t hc hf
    refine lv_aload_n hx hb dX5_living_7 rfl (lv_at hl 0 rfl) ?_
    refine hC_1 C hS in_X5_living_X5 lk_X5_living_23 dX5_living_8 ?_
    refine lv_iload_n hx hb dX5_living_11 rfl (lv_at hl 1 rfl) ?_
    obtain ⟨r_1, hcl, hf⟩ := bo_s hf
    refine rcVi (n := 1) (As := [.int x1]) (rest := []) (q0 := 1) (w' := (wC n ad cA z)) C hS (fun sz => c_sg_has l D n ad cA k z x1 r_1 hcl sz) gX5_living_X3_has rfl ⟨rfl, rfl⟩ (by decide +kernel) ⟨Nat.le_of_ble_eq_true rfl, Nat.le_of_ble_eq_true rfl⟩ oC_1 rfl rfl hl.1 rfl (Nat.le_of_ble_eq_true rfl) dX5_living_12 (fun H locs hS => ?_)
    refine lv_if_ne (x := r_1) (tgt := 20) hx hb dX5_living_15 (by decide) (fun hc => ?_) (fun hc => ?_)
    · replace hf := it_f hc hf
      refine lv_aload_n hx hb dX5_living_20 rfl (lv_at hl 0 rfl) ?_
      refine hC_2 C hS in_X5_living_X5 lk_X5_living_30 dX5_living_21 ?_
      refine lv_iload_n hx hb dX5_living_24 rfl (lv_at hl 1 rfl) ?_
      refine lv_aload_n hx hb dX5_living_25 rfl (lv_at hl 0 rfl) ?_
      refine hC_3 C hS in_X5_living_X5 lk_X5_living_37 dX5_living_26 ?_
      obtain ⟨r_2, hcl, hf⟩ := bo_s hf
      refine rcVi (n := 2) (As := [.int x1, .ref (ad 3)]) (rest := []) (q0 := 2) (w' := (wC n ad cA z)) C hS (fun sz => c_ix_livingBytes_3 l D n ad cA k z x1 r_2 hcl sz) gX5_living_X1_livingBytes rfl ⟨rfl, rfl⟩ (by decide +kernel) ⟨Nat.le_of_ble_eq_true rfl, Nat.le_of_ble_eq_true rfl⟩ oC_2 rfl rfl hl.1 rfl (Nat.le_of_ble_eq_true rfl) dX5_living_29 (fun H locs hS => ?_)
      cases hf
      exact rti C hS dX5_living_32
    · replace hf := it_t hc hf
      refine lv_iconst (v := (-1)) hx hb dX5_living_18 (by decide) ?_
      cases hf
      exact rti C hS dX5_living_19
set_option maxHeartbeats 4000000 in
set_option maxRecDepth 100000 in
theorem c_gs_living (l : Launch) (D : va_G) (n : Nat) (ad : Nat → Nat) (cA : Nat → ClassId) (k : Nat) (z : SS) (x1 : Int32) (r : Int32) (hf : gs_living n k z x1 = some r) (sz : Nat) : Met l yX5_living wsX5_living R_gs_living (kP D (tC cA) [.ref (ad 0), .int x1] (wC n ad cA z) sz) (kI D (tC cA) r (wC n ad cA z) (wC n ad cA z) sz) 0 0 (va_A (wC n ad cA z) sz) := by
  refine ent (by decide) rfl rfl (Nat.le_of_ble_eq_true rfl) (fun p e s m args below meth c hsz C hS ls hl => ?_)
  subst hsz
  exact w_gs_living_0 C k z x1 r hf s.heap [] ls hS hl
-- gs_used: public int used(int);
theorem lk_X5_used_23 : Cond.fieldLink RX5 23 (TX5 0).1 (TX5 0).2.1 (TX5 0).2.2.1 ∈ wsX5_used := by decide +kernel
theorem in_X5_used_X5 : ∀ x ∈ u_ws RX5 TX5 12, x ∈ wsX5_used := by decide +kernel
theorem lk_X5_used_156 : Cond.fieldLink RX5 156 (TX3 2).1 (TX3 2).2.1 (TX3 2).2.2.1 ∈ wsX5_used := by decide +kernel
theorem in_X5_used_X3 : ∀ x ∈ u_ws RX3 TX3 6, x ∈ wsX5_used := by decide +kernel
def R_gs_used : Room := { frames := 1, cells := 0, slots := 0, locals := 21 }
def gs_used (n : Nat) (k : Nat) (z : SS) (x1 : Int32) : Option Int32 :=
  (bo (sg_has n k z x1) fun r_1 => (if r_1 = 0 then some (-1) else (if ck x1 n = true then some ((z.2 8) (Int32.toNatClampNeg x1)) else none)))
set_option maxHeartbeats 4000000 in
set_option maxRecDepth 100000 in
theorem w_gs_used_0 {p : Program} {l : Launch} {e : Env} {s : State} {m : MethodId} {args : Array Value} {below : List Frame} {meth : Method} {c : Code} {D : va_G} {w0 : va_W} {n : Nat} {ad : Nat → Nat} {cA : Nat → ClassId} (C : Cx p s m args meth c cX5_used 2 (some .int) RX5 wsX5_used D (tC cA)) (k : Nat) (z : SS) (x1 : Int32) (r : Int32) (hf : gs_used n k z x1 = some r) : ∀ (H : Heap) (locs : List Loc) (ls : Array Slot), St D (va_A w0 s.heap.size) s.heap (wC n ad cA z) H locs → lv_has ls 2 [(0, .ref (ad 0)), (1, .int x1)] → W p l e R_gs_used s m args below meth c H locs 0 0 (MQ below (kI D (tC cA) r w0 (wC n ad cA z) s.heap.size) args s 0 0 (va_A w0 s.heap.size)) (F0 m 0 ls []) := by
  obtain ⟨hx, hb, hr, hml, hown, hts, hlk, hK⟩ := id C
  intro H locs ls hS hl
  have hf : (bo (sg_has n k z x1) fun r_1 => (if r_1 = 0 then some (-1) else (if ck x1 n = true then some ((z.2 8) (Int32.toNatClampNeg x1)) else none))) = some r := hf
  refine lv_aload_n hx hb dX5_used_0 rfl (lv_at hl 0 rfl) ?_
  refine hC_1 C hS in_X5_used_X5 lk_X5_used_23 dX5_used_1 ?_
  refine lv_iload_n hx hb dX5_used_4 rfl (lv_at hl 1 rfl) ?_
  obtain ⟨r_1, hcl, hf⟩ := bo_s hf
  refine rcVi (n := 1) (As := [.int x1]) (rest := []) (q0 := 1) (w' := (wC n ad cA z)) C hS (fun sz => c_sg_has l D n ad cA k z x1 r_1 hcl sz) gX5_used_X3_has rfl ⟨rfl, rfl⟩ (by decide +kernel) ⟨Nat.le_of_ble_eq_true rfl, Nat.le_of_ble_eq_true rfl⟩ oC_1 rfl rfl hl.1 rfl (Nat.le_of_ble_eq_true rfl) dX5_used_5 (fun H locs hS => ?_)
  refine lv_if_eq (x := r_1) (tgt := 23) hx hb dX5_used_8 (by decide) (fun hc => ?_) (fun hc => ?_)
  · replace hf := it_t hc hf
    refine lv_iconst (v := (-1)) hx hb dX5_used_23 (by decide) ?_
    cases hf
    exact rti C hS dX5_used_24
  · replace hf := it_f hc hf
    refine lv_aload_n hx hb dX5_used_11 rfl (lv_at hl 0 rfl) ?_
    refine hC_1 C hS in_X5_used_X5 lk_X5_used_23 dX5_used_12 ?_
    refine hC_8 C hS in_X5_used_X3 lk_X5_used_156 dX5_used_15 ?_
    refine lv_iload_n hx hb dX5_used_18 rfl (lv_at hl 1 rfl) ?_
    obtain ⟨hck, hf⟩ := cs hf
    refine lC_8 C hS (f := (z.2 8)) rfl (i := x1) hck dX5_used_19 ?_
    refine lv_goto (tgt := 24) hx hb dX5_used_20 (by decide) ?_
    cases hf
    exact rti C hS dX5_used_24
set_option maxHeartbeats 4000000 in
set_option maxRecDepth 100000 in
theorem c_gs_used (l : Launch) (D : va_G) (n : Nat) (ad : Nat → Nat) (cA : Nat → ClassId) (k : Nat) (z : SS) (x1 : Int32) (r : Int32) (hf : gs_used n k z x1 = some r) (sz : Nat) : Met l yX5_used wsX5_used R_gs_used (kP D (tC cA) [.ref (ad 0), .int x1] (wC n ad cA z) sz) (kI D (tC cA) r (wC n ad cA z) (wC n ad cA z) sz) 0 0 (va_A (wC n ad cA z) sz) := by
  refine ent (by decide) rfl rfl (Nat.le_of_ble_eq_true rfl) (fun p e s m args below meth c hsz C hS ls hl => ?_)
  subst hsz
  exact w_gs_used_0 C k z x1 r hf s.heap [] ls hS hl
-- gs_count: public int count(int) throws java.lang.ArrayIndexOutOfBoundsException;
theorem lk_X5_count_30 : Cond.fieldLink RX5 30 (TX5 1).1 (TX5 1).2.1 (TX5 1).2.2.1 ∈ wsX5_count := by decide +kernel
theorem in_X5_count_X5 : ∀ x ∈ u_ws RX5 TX5 12, x ∈ wsX5_count := by decide +kernel
theorem lk_X5_count_88 : Cond.fieldLink RX5 88 (TX5 8).1 (TX5 8).2.1 (TX5 8).2.2.1 ∈ wsX5_count := by decide +kernel
theorem lk_X5_count_23 : Cond.fieldLink RX5 23 (TX5 0).1 (TX5 0).2.1 (TX5 0).2.2.1 ∈ wsX5_count := by decide +kernel
theorem lk_X5_count_162 : Cond.fieldLink RX5 162 (TX3 4).1 (TX3 4).2.1 (TX3 4).2.2.1 ∈ wsX5_count := by decide +kernel
theorem in_X5_count_X3 : ∀ x ∈ u_ws RX3 TX3 6, x ∈ wsX5_count := by decide +kernel
theorem lk_X5_count_61 : Cond.fieldLink RX5 61 (TX5 9).1 (TX5 9).2.1 (TX5 9).2.2.1 ∈ wsX5_count := by decide +kernel
theorem lk_X5_count_37 : Cond.fieldLink RX5 37 (TX5 2).1 (TX5 2).2.1 (TX5 2).2.2.1 ∈ wsX5_count := by decide +kernel
theorem lk_X5_count_57 : Cond.fieldLink RX5 57 (TX5 5).1 (TX5 5).2.1 (TX5 5).2.2.1 ∈ wsX5_count := by decide +kernel
theorem lk_X5_count_168 : Cond.fieldLink RX5 168 (TX3 5).1 (TX3 5).2.1 (TX3 5).2.2.1 ∈ wsX5_count := by decide +kernel
def R_gs_count : Room := { frames := 2, cells := 0, slots := 0, locals := 47 }
def gs_count (n : Nat) (k : Nat) (z : SS) (x1 : Int32) : Option Int32 :=
  (if x1 = 0 then (bo (ix_keysWithSomething n k z (z.1 8)) fun r_1 => some r_1) else (if x1 = 1 then (bo (sg_inUseCount n k z) fun r_2 => some r_2) else (if x1 = 2 then some (z.1 8) else (if x1 = 3 then some (z.1 24) else (if x1 = 4 then (if (z.1 9) = 0 then some 0 else some 1) else (if x1 = 5 then (bo (sn_openCount n k z) fun r_3 => some r_3) else (if x1 = 6 then some (z.1 5) else (if x1 = 7 then some (z.1 25) else none))))))))
set_option maxHeartbeats 4000000 in
set_option maxRecDepth 100000 in
theorem w_gs_count_0 {p : Program} {l : Launch} {e : Env} {s : State} {m : MethodId} {args : Array Value} {below : List Frame} {meth : Method} {c : Code} {D : va_G} {w0 : va_W} {n : Nat} {ad : Nat → Nat} {cA : Nat → ClassId} (C : Cx p s m args meth c cX5_count 2 (some .int) RX5 wsX5_count D (tC cA)) (k : Nat) (z : SS) (x1 : Int32) (r : Int32) (hf : gs_count n k z x1 = some r) : ∀ (H : Heap) (locs : List Loc) (ls : Array Slot), St D (va_A w0 s.heap.size) s.heap (wC n ad cA z) H locs → lv_has ls 2 [(0, .ref (ad 0)), (1, .int x1)] → W p l e R_gs_count s m args below meth c H locs 0 0 (MQ below (kI D (tC cA) r w0 (wC n ad cA z) s.heap.size) args s 0 0 (va_A w0 s.heap.size)) (F0 m 0 ls []) := by
  obtain ⟨hx, hb, hr, hml, hown, hts, hlk, hK⟩ := id C
  intro H locs ls hS hl
  have hf : (if x1 = 0 then (bo (ix_keysWithSomething n k z (z.1 8)) fun r_1 => some r_1) else (if x1 = 1 then (bo (sg_inUseCount n k z) fun r_2 => some r_2) else (if x1 = 2 then some (z.1 8) else (if x1 = 3 then some (z.1 24) else (if x1 = 4 then (if (z.1 9) = 0 then some 0 else some 1) else (if x1 = 5 then (bo (sn_openCount n k z) fun r_3 => some r_3) else (if x1 = 6 then some (z.1 5) else (if x1 = 7 then some (z.1 25) else none)))))))) = some r := hf
  refine lv_iload_n hx hb dX5_count_0 rfl (lv_at hl 1 rfl) ?_
  by_cases hc : x1 = 0
  · replace hf := it_t hc hf
    subst hc
    refine lv_tableIn (x := 0) (off := 47) (tgt := 48) hx hb dX5_count_1 (by decide) (by decide) (by decide) (by decide) ?_
    refine lv_aload_n hx hb dX5_count_48 rfl (lv_at hl 0 rfl) ?_
    refine hC_2 C hS in_X5_count_X5 lk_X5_count_30 dX5_count_49 ?_
    refine lv_aload_n hx hb dX5_count_52 rfl (lv_at hl 0 rfl) ?_
    refine gC_8 C hS in_X5_count_X5 lk_X5_count_88 (v := (z.1 8)) rfl dX5_count_53 ?_
    obtain ⟨r_1, hcl, hf⟩ := bo_s hf
    refine rcVi (n := 1) (As := [.int (z.1 8)]) (rest := []) (q0 := 2) (w' := (wC n ad cA z)) C hS (fun sz => c_ix_keysWithSomething l D n ad cA k z (z.1 8) r_1 hcl sz) gX5_count_X1_keysWithSomething rfl ⟨rfl, rfl⟩ (by decide +kernel) ⟨Nat.le_of_ble_eq_true rfl, Nat.le_of_ble_eq_true rfl⟩ oC_2 rfl rfl hl.1 rfl (Nat.le_of_ble_eq_true rfl) dX5_count_56 (fun H locs hS => ?_)
    cases hf
    exact rti C hS dX5_count_59
  · replace hf := it_f hc hf
    by_cases hc : x1 = 1
    · replace hf := it_t hc hf
      subst hc
      refine lv_tableIn (x := 1) (off := 59) (tgt := 60) hx hb dX5_count_1 (by decide) (by decide) (by decide) (by decide) ?_
      refine lv_aload_n hx hb dX5_count_60 rfl (lv_at hl 0 rfl) ?_
      refine hC_1 C hS in_X5_count_X5 lk_X5_count_23 dX5_count_61 ?_
      obtain ⟨r_2, hcl, hf⟩ := bo_s hf
      refine rcVi (n := 0) (As := []) (rest := []) (q0 := 1) (w' := (wC n ad cA z)) C hS (fun sz => c_sg_inUseCount l D n ad cA k z r_2 hcl sz) gX5_count_X3_inUseCount rfl ⟨rfl, rfl⟩ (by decide +kernel) ⟨Nat.le_of_ble_eq_true rfl, Nat.le_of_ble_eq_true rfl⟩ oC_1 rfl rfl hl.1 rfl (Nat.le_of_ble_eq_true rfl) dX5_count_64 (fun H locs hS => ?_)
      cases hf
      exact rti C hS dX5_count_67
    · replace hf := it_f hc hf
      by_cases hc : x1 = 2
      · replace hf := it_t hc hf
        subst hc
        refine lv_tableIn (x := 2) (off := 67) (tgt := 68) hx hb dX5_count_1 (by decide) (by decide) (by decide) (by decide) ?_
        refine lv_aload_n hx hb dX5_count_68 rfl (lv_at hl 0 rfl) ?_
        refine gC_8 C hS in_X5_count_X5 lk_X5_count_88 (v := (z.1 8)) rfl dX5_count_69 ?_
        cases hf
        exact rti C hS dX5_count_72
      · replace hf := it_f hc hf
        by_cases hc : x1 = 3
        · replace hf := it_t hc hf
          subst hc
          refine lv_tableIn (x := 3) (off := 72) (tgt := 73) hx hb dX5_count_1 (by decide) (by decide) (by decide) (by decide) ?_
          refine lv_aload_n hx hb dX5_count_73 rfl (lv_at hl 0 rfl) ?_
          refine hC_1 C hS in_X5_count_X5 lk_X5_count_23 dX5_count_74 ?_
          refine gC_24 C hS in_X5_count_X3 lk_X5_count_162 (v := (z.1 24)) rfl dX5_count_77 ?_
          cases hf
          exact rti C hS dX5_count_80
        · replace hf := it_f hc hf
          by_cases hc : x1 = 4
          · replace hf := it_t hc hf
            subst hc
            refine lv_tableIn (x := 4) (off := 80) (tgt := 81) hx hb dX5_count_1 (by decide) (by decide) (by decide) (by decide) ?_
            refine lv_aload_n hx hb dX5_count_81 rfl (lv_at hl 0 rfl) ?_
            refine gC_9 C hS in_X5_count_X5 lk_X5_count_61 (v := (z.1 9)) rfl dX5_count_82 ?_
            refine lv_if_eq (x := (z.1 9)) (tgt := 92) hx hb dX5_count_85 (by decide) (fun hc => ?_) (fun hc => ?_)
            · replace hf := it_t hc hf
              refine lv_iconst (v := 0) hx hb dX5_count_92 (by decide) ?_
              cases hf
              exact rti C hS dX5_count_93
            · replace hf := it_f hc hf
              refine lv_iconst (v := 1) hx hb dX5_count_88 (by decide) ?_
              refine lv_goto (tgt := 93) hx hb dX5_count_89 (by decide) ?_
              cases hf
              exact rti C hS dX5_count_93
          · replace hf := it_f hc hf
            by_cases hc : x1 = 5
            · replace hf := it_t hc hf
              subst hc
              refine lv_tableIn (x := 5) (off := 93) (tgt := 94) hx hb dX5_count_1 (by decide) (by decide) (by decide) (by decide) ?_
              refine lv_aload_n hx hb dX5_count_94 rfl (lv_at hl 0 rfl) ?_
              refine hC_3 C hS in_X5_count_X5 lk_X5_count_37 dX5_count_95 ?_
              obtain ⟨r_3, hcl, hf⟩ := bo_s hf
              refine rcVi (n := 0) (As := []) (rest := []) (q0 := 3) (w' := (wC n ad cA z)) C hS (fun sz => c_sn_openCount l D n ad cA k z r_3 hcl sz) gX5_count_X4_openCount rfl ⟨rfl, rfl⟩ (by decide +kernel) ⟨Nat.le_of_ble_eq_true rfl, Nat.le_of_ble_eq_true rfl⟩ oC_3 rfl rfl hl.1 rfl (Nat.le_of_ble_eq_true rfl) dX5_count_98 (fun H locs hS => ?_)
              cases hf
              exact rti C hS dX5_count_101
            · replace hf := it_f hc hf
              by_cases hc : x1 = 6
              · replace hf := it_t hc hf
                subst hc
                refine lv_tableIn (x := 6) (off := 101) (tgt := 102) hx hb dX5_count_1 (by decide) (by decide) (by decide) (by decide) ?_
                refine lv_aload_n hx hb dX5_count_102 rfl (lv_at hl 0 rfl) ?_
                refine gC_5 C hS in_X5_count_X5 lk_X5_count_57 (v := (z.1 5)) rfl dX5_count_103 ?_
                cases hf
                exact rti C hS dX5_count_106
              · replace hf := it_f hc hf
                by_cases hc : x1 = 7
                · replace hf := it_t hc hf
                  subst hc
                  refine lv_tableIn (x := 7) (off := 106) (tgt := 107) hx hb dX5_count_1 (by decide) (by decide) (by decide) (by decide) ?_
                  refine lv_aload_n hx hb dX5_count_107 rfl (lv_at hl 0 rfl) ?_
                  refine hC_1 C hS in_X5_count_X5 lk_X5_count_23 dX5_count_108 ?_
                  refine gC_25 C hS in_X5_count_X3 lk_X5_count_168 (v := (z.1 25)) rfl dX5_count_111 ?_
                  cases hf
                  exact rti C hS dX5_count_114
                · replace hf := it_f hc hf
                  cases hf
set_option maxHeartbeats 4000000 in
set_option maxRecDepth 100000 in
theorem c_gs_count (l : Launch) (D : va_G) (n : Nat) (ad : Nat → Nat) (cA : Nat → ClassId) (k : Nat) (z : SS) (x1 : Int32) (r : Int32) (hf : gs_count n k z x1 = some r) (sz : Nat) : Met l yX5_count wsX5_count R_gs_count (kP D (tC cA) [.ref (ad 0), .int x1] (wC n ad cA z) sz) (kI D (tC cA) r (wC n ad cA z) (wC n ad cA z) sz) 0 0 (va_A (wC n ad cA z) sz) := by
  refine ent (by decide) rfl rfl (Nat.le_of_ble_eq_true rfl) (fun p e s m args below meth c hsz C hS ls hl => ?_)
  subst hsz
  exact w_gs_count_0 C k z x1 r hf s.heap [] ls hS hl
