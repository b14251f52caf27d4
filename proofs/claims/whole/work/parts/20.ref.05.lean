-- rm_crash: public int crash(int);
theorem lk_X6_crash_129 : Cond.fieldLink RX6 129 (TX6 8).1 (TX6 8).2.1 (TX6 8).2.2.1 ∈ wsX6_crash := by decide +kernel
theorem in_X6_crash_X6 : ∀ x ∈ u_ws RX6 TX6 29, x ∈ wsX6_crash := by decide +kernel
theorem lk_X6_crash_7 : Cond.fieldLink RX6 7 (TX6 2).1 (TX6 2).2.1 (TX6 2).2.2.1 ∈ wsX6_crash := by decide +kernel
theorem lk_X6_crash_23 : Cond.fieldLink RX6 23 (TX6 9).1 (TX6 9).2.1 (TX6 9).2.2.1 ∈ wsX6_crash := by decide +kernel
theorem lk_X6_crash_67 : Cond.fieldLink RX6 67 (TX6 1).1 (TX6 1).2.1 (TX6 1).2.2.1 ∈ wsX6_crash := by decide +kernel
theorem lk_X6_crash_149 : Cond.fieldLink RX6 149 (TX6 12).1 (TX6 12).2.1 (TX6 12).2.2.1 ∈ wsX6_crash := by decide +kernel
def R_rm_crash : Room := { frames := 1, cells := 0, slots := 0, locals := 21 }
def rm_crash_b26 (k : Nat) : Nat → SS → Int32 → Int32 → Option (Int32 × SS)
  | 0, _, _, _ => none
  | fu + 1, z, x2, x3 => (if (z.1 8) ≤ x3 then (bo (rm_close k z) fun z_1 => some (x2, z_1)) else (if ck x3 2400 = true then (if ck ((z.2 4) (Int32.toNatClampNeg x3)) 2400 = true then rm_crash_b26 k fu (sa z 1 (Int32.toNatClampNeg ((z.2 4) (Int32.toNatClampNeg x3))) 0) (x2 + 1) (x3 + 1) else none) else none))
def rm_crash (k : Nat) (z : SS) (x1 : Int32) : Option (Int32 × SS) :=
  (if (z.1 12) = 0 then (if 0 ≤ x1 then rm_crash_b26 k k (si z 1 0) 0 x1 else some ((-2), (si z 1 0))) else some ((-3), (si z 1 0)))
set_option maxHeartbeats 4000000 in
set_option maxRecDepth 100000 in
theorem w_rm_crash_b26 {p : Program} {l : Launch} {e : Env} {s : State} {m : MethodId} {args : Array Value} {below : List Frame} {meth : Method} {c : Code} {D : va_G} {w0 : va_W} {ad : Nat → Nat} {cA : Nat → ClassId} (C : Cx p s m args meth c cX6_crash 4 (some .int) RX6 wsX6_crash D (tM cA)) (k : Nat) : ∀ (fu : Nat) (z : SS) (x2 : Int32) (x3 : Int32) (r : Int32) (z' : SS), rm_crash_b26 k fu z x2 x3 = some (r, z') → ∀ (H : Heap) (locs : List Loc) (ls : Array Slot), St D (va_A w0 s.heap.size) s.heap (wM ad cA z) H locs → lv_has ls 4 [(0, .ref (ad 0)), (2, .int x2), (3, .int x3)] → W p l e R_rm_crash s m args below meth c H locs 0 0 (MQ below (kI D (tM cA) r w0 (wM ad cA z') s.heap.size) args s 0 0 (va_A w0 s.heap.size)) (F0 m 26 ls []) := by
  obtain ⟨hx, hb, hr, hml, hown, hts, hlk, hK⟩ := id C
  intro fu
  induction fu with
  | zero =>
    intro z x2 x3 r z' hf
    cases (show (none : Option (Int32 × SS)) = some (r, z') from hf)
  | succ fu ih =>
    intro z x2 x3 r z' hf H locs ls hS hl
    have hf : (if (z.1 8) ≤ x3 then (bo (rm_close k z) fun z_1 => some (x2, z_1)) else (if ck x3 2400 = true then (if ck ((z.2 4) (Int32.toNatClampNeg x3)) 2400 = true then rm_crash_b26 k fu (sa z 1 (Int32.toNatClampNeg ((z.2 4) (Int32.toNatClampNeg x3))) 0) (x2 + 1) (x3 + 1) else none) else none)) = some (r, z') := hf
    refine lv_iload_n hx hb dX6_crash_26 rfl (lv_at hl 2 rfl) ?_
    refine lv_aload_n hx hb dX6_crash_27 rfl (lv_at hl 0 rfl) ?_
    refine gM_8 C hS in_X6_crash_X6 lk_X6_crash_129 (v := (z.1 8)) rfl dX6_crash_28 ?_
    refine lv_icmp_ge (x := x3) (y := (z.1 8)) (tgt := 55) hx hb dX6_crash_31 (by decide) (fun hc => ?_) (fun hc => ?_)
    · replace hf := it_t hc hf
      refine lv_aload_n hx hb dX6_crash_55 rfl (lv_at hl 0 rfl) ?_
      obtain ⟨z_1, hcl, hf⟩ := bo_s hf
      refine rcVv (n := 0) (As := []) (rest := []) (q0 := 0) (w' := (wM ad cA z_1)) C hS (fun sz => c_rm_close l D ad cA k z z_1 hcl sz) gX6_crash_X6_close rfl ⟨rfl, rfl⟩ (by decide +kernel) ⟨Nat.le_of_ble_eq_true rfl, Nat.le_of_ble_eq_true rfl⟩ oM_0 rfl rfl hl.1 rfl (Nat.le_of_ble_eq_true rfl) dX6_crash_56 (fun H locs hS => ?_)
      refine lv_iload_n hx hb dX6_crash_59 rfl (lv_at hl 1 rfl) ?_
      cases hf
      exact rti C hS dX6_crash_60
    · replace hf := it_f hc hf
      refine lv_aload_n hx hb dX6_crash_34 rfl (lv_at hl 0 rfl) ?_
      refine hM_1 C hS in_X6_crash_X6 lk_X6_crash_7 dX6_crash_35 ?_
      refine lv_aload_n hx hb dX6_crash_38 rfl (lv_at hl 0 rfl) ?_
      refine hM_4 C hS in_X6_crash_X6 lk_X6_crash_23 dX6_crash_39 ?_
      refine lv_iload_n hx hb dX6_crash_42 rfl (lv_at hl 2 rfl) ?_
      obtain ⟨hck, hf⟩ := cs hf
      refine lM_4 C hS (f := (z.2 4)) rfl (i := x3) hck dX6_crash_43 ?_
      refine lv_iconst (v := 0) hx hb dX6_crash_44 (by decide) ?_
      obtain ⟨hck, hf⟩ := cs hf
      refine sM_1 C hS (i := ((z.2 4) (Int32.toNatClampNeg x3))) (x := 0) hck dX6_crash_45 (fun H locs hS => ?_)
      refine lv_iinc (v := (x2 + 1)) (lv' := [(2, .int (x2 + 1)), (0, .ref (ad 0)), (3, .int x3)]) hx hb dX6_crash_46 hl (k := 1) rfl (congrArg (fun q => x2 + q) (by decide : Int32.ofInt 1 = (1 : Int32))) (by decide) rfl (fun ls hl => ?_)
      refine lv_iinc (v := (x3 + 1)) (lv' := [(3, .int (x3 + 1)), (2, .int (x2 + 1)), (0, .ref (ad 0))]) hx hb dX6_crash_49 hl (k := 2) rfl (congrArg (fun q => x3 + q) (by decide : Int32.ofInt 1 = (1 : Int32))) (by decide) rfl (fun ls hl => ?_)
      refine lv_goto (tgt := 26) hx hb dX6_crash_52 (by decide) ?_
      exact ih (sa z 1 (Int32.toNatClampNeg ((z.2 4) (Int32.toNatClampNeg x3))) 0) (x2 + 1) (x3 + 1) r z' hf H locs ls hS (lv_sub hl [2, 1, 0] rfl)
set_option maxHeartbeats 4000000 in
set_option maxRecDepth 100000 in
theorem w_rm_crash_0 {p : Program} {l : Launch} {e : Env} {s : State} {m : MethodId} {args : Array Value} {below : List Frame} {meth : Method} {c : Code} {D : va_G} {w0 : va_W} {ad : Nat → Nat} {cA : Nat → ClassId} (C : Cx p s m args meth c cX6_crash 4 (some .int) RX6 wsX6_crash D (tM cA)) (k : Nat) (z : SS) (x1 : Int32) (r : Int32) (z' : SS) (hf : rm_crash k z x1 = some (r, z')) : ∀ (H : Heap) (locs : List Loc) (ls : Array Slot), St D (va_A w0 s.heap.size) s.heap (wM ad cA z) H locs → lv_has ls 4 [(0, .ref (ad 0)), (1, .int x1)] → W p l e R_rm_crash s m args below meth c H locs 0 0 (MQ below (kI D (tM cA) r w0 (wM ad cA z') s.heap.size) args s 0 0 (va_A w0 s.heap.size)) (F0 m 0 ls []) := by
  obtain ⟨hx, hb, hr, hml, hown, hts, hlk, hK⟩ := id C
  intro H locs ls hS hl
  have hf : (if (z.1 12) = 0 then (if 0 ≤ x1 then rm_crash_b26 k k (si z 1 0) 0 x1 else some ((-2), (si z 1 0))) else some ((-3), (si z 1 0))) = some (r, z') := hf
  refine lv_aload_n hx hb dX6_crash_0 rfl (lv_at hl 0 rfl) ?_
  refine lv_iconst (v := 0) hx hb dX6_crash_1 (by decide) ?_
  refine pM_1 C hS in_X6_crash_X6 lk_X6_crash_67 (v := 0) rfl rfl dX6_crash_2 (fun H locs hS => ?_)
  refine lv_aload_n hx hb dX6_crash_5 rfl (lv_at hl 0 rfl) ?_
  refine gM_12 C hS in_X6_crash_X6 lk_X6_crash_149 (v := (z.1 12)) ((si_o (by decide)).trans rfl) dX6_crash_6 ?_
  refine lv_if_eq (x := (z.1 12)) (tgt := 15) hx hb dX6_crash_9 (by decide) (fun hc => ?_) (fun hc => ?_)
  · replace hf := it_t hc hf
    refine lv_iload_n hx hb dX6_crash_15 rfl (lv_at hl 1 rfl) ?_
    refine lv_if_ge (x := x1) (tgt := 22) hx hb dX6_crash_16 (by decide) (fun hc => ?_) (fun hc => ?_)
    · replace hf := it_t hc hf
      refine lv_iconst (v := 0) hx hb dX6_crash_22 (by decide) ?_
      refine lv_istore_n (lv' := [(2, .int 0), (0, .ref (ad 0)), (1, .int x1)]) hx hb dX6_crash_23 rfl hl (by decide) rfl (fun ls hl => ?_)
      refine lv_iload_n hx hb dX6_crash_24 rfl (lv_at hl 2 rfl) ?_
      refine lv_istore_n (lv' := [(3, .int x1), (2, .int 0), (0, .ref (ad 0)), (1, .int x1)]) hx hb dX6_crash_25 rfl hl (by decide) rfl (fun ls hl => ?_)
      exact w_rm_crash_b26 C k k (si z 1 0) 0 x1 r z' hf H locs ls hS (lv_sub hl [2, 1, 0] rfl)
    · replace hf := it_f hc hf
      refine lv_bipush (v := (-2)) hx hb dX6_crash_19 (by decide) ?_
      cases hf
      exact rti C hS dX6_crash_21
  · replace hf := it_f hc hf
    refine lv_bipush (v := (-3)) hx hb dX6_crash_12 (by decide) ?_
    cases hf
    exact rti C hS dX6_crash_14
set_option maxHeartbeats 4000000 in
set_option maxRecDepth 100000 in
theorem c_rm_crash (l : Launch) (D : va_G) (ad : Nat → Nat) (cA : Nat → ClassId) (k : Nat) (z : SS) (x1 : Int32) (r : Int32) (z' : SS) (hf : rm_crash k z x1 = some (r, z')) (sz : Nat) : Met l yX6_crash wsX6_crash R_rm_crash (kP D (tM cA) [.ref (ad 0), .int x1] (wM ad cA z) sz) (kI D (tM cA) r (wM ad cA z) (wM ad cA z') sz) 0 0 (va_A (wM ad cA z) sz) := by
  refine ent (by decide) rfl rfl (Nat.le_of_ble_eq_true rfl) (fun p e s m args below meth c hsz C hS ls hl => ?_)
  subst hsz
  exact w_rm_crash_0 C k z x1 r z' hf s.heap [] ls hS hl
-- rm_livingIn: private int livingIn(int);
theorem lk_X6_livingIn_96 : Cond.fieldLink RX6 96 (TX6 15).1 (TX6 15).2.1 (TX6 15).2.2.1 ∈ wsX6_livingIn := by decide +kernel
theorem in_X6_livingIn_X6 : ∀ x ∈ u_ws RX6 TX6 29, x ∈ wsX6_livingIn := by decide +kernel
theorem lk_X6_livingIn_36 : Cond.fieldLink RX6 36 (TX6 16).1 (TX6 16).2.1 (TX6 16).2.2.1 ∈ wsX6_livingIn := by decide +kernel
theorem lk_X6_livingIn_48 : Cond.fieldLink RX6 48 (TX6 20).1 (TX6 20).2.1 (TX6 20).2.2.1 ∈ wsX6_livingIn := by decide +kernel
def R_rm_livingIn : Room := { frames := 7, cells := 0, slots := 0, locals := 169 }
def rm_livingIn_b8 (k : Nat) : Nat → SS → Int32 → Int32 → Int32 → Option (Int32 × SS)
  | 0, _, _, _, _ => none
  | fu + 1, z, x1, x2, x3 => (if (z.1 15) ≤ x3 then some (x2, z) else (if ck x3 160 = true then (if (((z.2 7) (Int32.toNatClampNeg x3)) / 200) = x1 then (bi (rm_lives k z x3) fun r_1 z_1 => (if r_1 = 0 then rm_livingIn_b8 k fu z_1 x1 x2 (x3 + 1) else (if ck x3 160 = true then rm_livingIn_b8 k fu z_1 x1 (x2 + ((z_1.2 11) (Int32.toNatClampNeg x3))) (x3 + 1) else none))) else rm_livingIn_b8 k fu z x1 x2 (x3 + 1)) else none))
def rm_livingIn (k : Nat) (z : SS) (x1 : Int32) : Option (Int32 × SS) :=
  (bo (rm_know k z) fun z_1 => rm_livingIn_b8 k k z_1 x1 0 0)
set_option maxHeartbeats 4000000 in
set_option maxRecDepth 100000 in
theorem w_rm_livingIn_b8 {p : Program} {l : Launch} {e : Env} {s : State} {m : MethodId} {args : Array Value} {below : List Frame} {meth : Method} {c : Code} {D : va_G} {w0 : va_W} {ad : Nat → Nat} {cA : Nat → ClassId} (C : Cx p s m args meth c cX6_livingIn 4 (some .int) RX6 wsX6_livingIn D (tM cA)) (k : Nat) : ∀ (fu : Nat) (z : SS) (x1 : Int32) (x2 : Int32) (x3 : Int32) (r : Int32) (z' : SS), rm_livingIn_b8 k fu z x1 x2 x3 = some (r, z') → ∀ (H : Heap) (locs : List Loc) (ls : Array Slot), St D (va_A w0 s.heap.size) s.heap (wM ad cA z) H locs → lv_has ls 4 [(0, .ref (ad 0)), (1, .int x1), (2, .int x2), (3, .int x3)] → W p l e R_rm_livingIn s m args below meth c H locs 0 0 (MQ below (kI D (tM cA) r w0 (wM ad cA z') s.heap.size) args s 0 0 (va_A w0 s.heap.size)) (F0 m 8 ls []) := by
  obtain ⟨hx, hb, hr, hml, hown, hts, hlk, hK⟩ := id C
  intro fu
  induction fu with
  | zero =>
    intro z x1 x2 x3 r z' hf
    cases (show (none : Option (Int32 × SS)) = some (r, z') from hf)
  | succ fu ih =>
    intro z x1 x2 x3 r z' hf H locs ls hS hl
    have hf : (if (z.1 15) ≤ x3 then some (x2, z) else (if ck x3 160 = true then (if (((z.2 7) (Int32.toNatClampNeg x3)) / 200) = x1 then (bi (rm_lives k z x3) fun r_1 z_1 => (if r_1 = 0 then rm_livingIn_b8 k fu z_1 x1 x2 (x3 + 1) else (if ck x3 160 = true then rm_livingIn_b8 k fu z_1 x1 (x2 + ((z_1.2 11) (Int32.toNatClampNeg x3))) (x3 + 1) else none))) else rm_livingIn_b8 k fu z x1 x2 (x3 + 1)) else none)) = some (r, z') := hf
    refine lv_iload_n hx hb dX6_livingIn_8 rfl (lv_at hl 3 rfl) ?_
    refine lv_aload_n hx hb dX6_livingIn_9 rfl (lv_at hl 0 rfl) ?_
    refine gM_15 C hS in_X6_livingIn_X6 lk_X6_livingIn_96 (v := (z.1 15)) rfl dX6_livingIn_10 ?_
    refine lv_icmp_ge (x := x3) (y := (z.1 15)) (tgt := 57) hx hb dX6_livingIn_13 (by decide) (fun hc => ?_) (fun hc => ?_)
    · replace hf := it_t hc hf
      refine lv_iload_n hx hb dX6_livingIn_57 rfl (lv_at hl 2 rfl) ?_
      cases hf
      exact rti C hS dX6_livingIn_58
    · replace hf := it_f hc hf
      refine lv_aload_n hx hb dX6_livingIn_16 rfl (lv_at hl 0 rfl) ?_
      refine hM_7 C hS in_X6_livingIn_X6 lk_X6_livingIn_36 dX6_livingIn_17 ?_
      refine lv_iload_n hx hb dX6_livingIn_20 rfl (lv_at hl 3 rfl) ?_
      obtain ⟨hck, hf⟩ := cs hf
      refine lM_7 C hS (f := (z.2 7)) rfl (i := x3) hck dX6_livingIn_21 ?_
      refine lv_sipush (v := 200) hx hb dX6_livingIn_22 (by decide) ?_
      refine lv_idiv (x := ((z.2 7) (Int32.toNatClampNeg x3))) (y := 200) hx hb dX6_livingIn_25 (by decide) ?_
      refine lv_iload_n hx hb dX6_livingIn_26 rfl (lv_at hl 1 rfl) ?_
      refine lv_icmp_ne (x := (((z.2 7) (Int32.toNatClampNeg x3)) / 200)) (y := x1) (tgt := 49) hx hb dX6_livingIn_27 (by decide) (fun hc => ?_) (fun hc => ?_)
      · replace hf := it_f hc hf
        refine lv_iload_n hx hb dX6_livingIn_49 rfl (lv_at hl 2 rfl) ?_
        refine lv_istore_n (lv' := [(2, .int x2), (0, .ref (ad 0)), (1, .int x1), (3, .int x3)]) hx hb dX6_livingIn_50 rfl hl (by decide) rfl (fun ls hl => ?_)
        refine lv_iinc (v := (x3 + 1)) (lv' := [(3, .int (x3 + 1)), (2, .int x2), (0, .ref (ad 0)), (1, .int x1)]) hx hb dX6_livingIn_51 hl (k := 3) rfl (congrArg (fun q => x3 + q) (by decide : Int32.ofInt 1 = (1 : Int32))) (by decide) rfl (fun ls hl => ?_)
        refine lv_goto (tgt := 8) hx hb dX6_livingIn_54 (by decide) ?_
        exact ih z x1 x2 (x3 + 1) r z' hf H locs ls hS (lv_sub hl [2, 3, 1, 0] rfl)
      · replace hf := it_t hc hf
        refine lv_aload_n hx hb dX6_livingIn_30 rfl (lv_at hl 0 rfl) ?_
        refine lv_iload_n hx hb dX6_livingIn_31 rfl (lv_at hl 3 rfl) ?_
        obtain ⟨r_1, z_1, hcl, hf⟩ := bi_s hf
        refine rcVi (n := 1) (As := [.int x3]) (rest := []) (q0 := 0) (w' := (wM ad cA z_1)) C hS (fun sz => c_rm_lives l D ad cA k z x3 r_1 z_1 hcl sz) gX6_livingIn_X6_lives rfl ⟨rfl, rfl⟩ (by decide +kernel) ⟨Nat.le_of_ble_eq_true rfl, Nat.le_of_ble_eq_true rfl⟩ oM_0 rfl rfl hl.1 rfl (Nat.le_of_ble_eq_true rfl) dX6_livingIn_32 (fun H locs hS => ?_)
        refine lv_if_eq (x := r_1) (tgt := 49) hx hb dX6_livingIn_35 (by decide) (fun hc => ?_) (fun hc => ?_)
        · replace hf := it_t hc hf
          refine lv_iload_n hx hb dX6_livingIn_49 rfl (lv_at hl 2 rfl) ?_
          refine lv_istore_n (lv' := [(2, .int x2), (0, .ref (ad 0)), (1, .int x1), (3, .int x3)]) hx hb dX6_livingIn_50 rfl hl (by decide) rfl (fun ls hl => ?_)
          refine lv_iinc (v := (x3 + 1)) (lv' := [(3, .int (x3 + 1)), (2, .int x2), (0, .ref (ad 0)), (1, .int x1)]) hx hb dX6_livingIn_51 hl (k := 3) rfl (congrArg (fun q => x3 + q) (by decide : Int32.ofInt 1 = (1 : Int32))) (by decide) rfl (fun ls hl => ?_)
          refine lv_goto (tgt := 8) hx hb dX6_livingIn_54 (by decide) ?_
          exact ih z_1 x1 x2 (x3 + 1) r z' hf H locs ls hS (lv_sub hl [2, 3, 1, 0] rfl)
        · replace hf := it_f hc hf
          refine lv_iload_n hx hb dX6_livingIn_38 rfl (lv_at hl 2 rfl) ?_
          refine lv_aload_n hx hb dX6_livingIn_39 rfl (lv_at hl 0 rfl) ?_
          refine hM_11 C hS in_X6_livingIn_X6 lk_X6_livingIn_48 dX6_livingIn_40 ?_
          refine lv_iload_n hx hb dX6_livingIn_43 rfl (lv_at hl 3 rfl) ?_
          obtain ⟨hck, hf⟩ := cs hf
          refine lM_11 C hS (f := (z_1.2 11)) rfl (i := x3) hck dX6_livingIn_44 ?_
          refine lv_iadd (x := x2) (y := ((z_1.2 11) (Int32.toNatClampNeg x3))) hx hb dX6_livingIn_45 ?_
          refine lv_goto (tgt := 50) hx hb dX6_livingIn_46 (by decide) ?_
          refine lv_istore_n (lv' := [(2, .int (x2 + ((z_1.2 11) (Int32.toNatClampNeg x3)))), (0, .ref (ad 0)), (1, .int x1), (3, .int x3)]) hx hb dX6_livingIn_50 rfl hl (by decide) rfl (fun ls hl => ?_)
          refine lv_iinc (v := (x3 + 1)) (lv' := [(3, .int (x3 + 1)), (2, .int (x2 + ((z_1.2 11) (Int32.toNatClampNeg x3)))), (0, .ref (ad 0)), (1, .int x1)]) hx hb dX6_livingIn_51 hl (k := 3) rfl (congrArg (fun q => x3 + q) (by decide : Int32.ofInt 1 = (1 : Int32))) (by decide) rfl (fun ls hl => ?_)
          refine lv_goto (tgt := 8) hx hb dX6_livingIn_54 (by decide) ?_
          exact ih z_1 x1 (x2 + ((z_1.2 11) (Int32.toNatClampNeg x3))) (x3 + 1) r z' hf H locs ls hS (lv_sub hl [2, 3, 1, 0] rfl)
set_option maxHeartbeats 4000000 in
set_option maxRecDepth 100000 in
theorem w_rm_livingIn_0 {p : Program} {l : Launch} {e : Env} {s : State} {m : MethodId} {args : Array Value} {below : List Frame} {meth : Method} {c : Code} {D : va_G} {w0 : va_W} {ad : Nat → Nat} {cA : Nat → ClassId} (C : Cx p s m args meth c cX6_livingIn 4 (some .int) RX6 wsX6_livingIn D (tM cA)) (k : Nat) (z : SS) (x1 : Int32) (r : Int32) (z' : SS) (hf : rm_livingIn k z x1 = some (r, z')) : ∀ (H : Heap) (locs : List Loc) (ls : Array Slot), St D (va_A w0 s.heap.size) s.heap (wM ad cA z) H locs → lv_has ls 4 [(0, .ref (ad 0)), (1, .int x1)] → W p l e R_rm_livingIn s m args below meth c H locs 0 0 (MQ below (kI D (tM cA) r w0 (wM ad cA z') s.heap.size) args s 0 0 (va_A w0 s.heap.size)) (F0 m 0 ls []) := by
  obtain ⟨hx, hb, hr, hml, hown, hts, hlk, hK⟩ := id C
  intro H locs ls hS hl
  have hf : (bo (rm_know k z) fun z_1 => rm_livingIn_b8 k k z_1 x1 0 0) = some (r, z') := hf
  refine lv_aload_n hx hb dX6_livingIn_0 rfl (lv_at hl 0 rfl) ?_
  obtain ⟨z_1, hcl, hf⟩ := bo_s hf
  refine rcVv (n := 0) (As := []) (rest := []) (q0 := 0) (w' := (wM ad cA z_1)) C hS (fun sz => c_rm_know l D ad cA k z z_1 hcl sz) gX6_livingIn_X6_know rfl ⟨rfl, rfl⟩ (by decide +kernel) ⟨Nat.le_of_ble_eq_true rfl, Nat.le_of_ble_eq_true rfl⟩ oM_0 rfl rfl hl.1 rfl (Nat.le_of_ble_eq_true rfl) dX6_livingIn_1 (fun H locs hS => ?_)
  refine lv_iconst (v := 0) hx hb dX6_livingIn_4 (by decide) ?_
  refine lv_istore_n (lv' := [(2, .int 0), (0, .ref (ad 0)), (1, .int x1)]) hx hb dX6_livingIn_5 rfl hl (by decide) rfl (fun ls hl => ?_)
  refine lv_iconst (v := 0) hx hb dX6_livingIn_6 (by decide) ?_
  refine lv_istore_n (lv' := [(3, .int 0), (2, .int 0), (0, .ref (ad 0)), (1, .int x1)]) hx hb dX6_livingIn_7 rfl hl (by decide) rfl (fun ls hl => ?_)
  exact w_rm_livingIn_b8 C k k z_1 x1 0 0 r z' hf H locs ls hS (lv_sub hl [2, 3, 1, 0] rfl)
set_option maxHeartbeats 4000000 in
set_option maxRecDepth 100000 in
theorem c_rm_livingIn (l : Launch) (D : va_G) (ad : Nat → Nat) (cA : Nat → ClassId) (k : Nat) (z : SS) (x1 : Int32) (r : Int32) (z' : SS) (hf : rm_livingIn k z x1 = some (r, z')) (sz : Nat) : Met l yX6_livingIn wsX6_livingIn R_rm_livingIn (kP D (tM cA) [.ref (ad 0), .int x1] (wM ad cA z) sz) (kI D (tM cA) r (wM ad cA z) (wM ad cA z') sz) 0 0 (va_A (wM ad cA z) sz) := by
  refine ent (by decide) rfl rfl (Nat.le_of_ble_eq_true rfl) (fun p e s m args below meth c hsz C hS ls hl => ?_)
  subst hsz
  exact w_rm_livingIn_0 C k z x1 r z' hf s.heap [] ls hS hl
-- rm_choose: private void choose(int);
theorem lk_X6_choose_96 : Cond.fieldLink RX6 96 (TX6 15).1 (TX6 15).2.1 (TX6 15).2.2.1 ∈ wsX6_choose := by decide +kernel
theorem in_X6_choose_X6 : ∀ x ∈ u_ws RX6 TX6 29, x ∈ wsX6_choose := by decide +kernel
theorem lk_X6_choose_36 : Cond.fieldLink RX6 36 (TX6 16).1 (TX6 16).2.1 (TX6 16).2.2.1 ∈ wsX6_choose := by decide +kernel
theorem lk_X6_choose_58 : Cond.fieldLink RX6 58 (TX6 27).1 (TX6 27).2.1 (TX6 27).2.2.1 ∈ wsX6_choose := by decide +kernel
theorem lk_X6_choose_172 : Cond.fieldLink RX6 172 (TX6 26).1 (TX6 26).2.1 (TX6 26).2.2.1 ∈ wsX6_choose := by decide +kernel
theorem lk_X6_choose_61 : Cond.fieldLink RX6 61 (TX6 28).1 (TX6 28).2.1 (TX6 28).2.2.1 ∈ wsX6_choose := by decide +kernel
theorem lk_X6_choose_48 : Cond.fieldLink RX6 48 (TX6 20).1 (TX6 20).2.1 (TX6 20).2.2.1 ∈ wsX6_choose := by decide +kernel
def R_rm_choose : Room := { frames := 7, cells := 0, slots := 0, locals := 169 }
def rm_choose_b11 (k : Nat) : Nat → SS → Int32 → Int32 → Option SS
  | 0, _, _, _ => none
  | fu + 1, z, x1, x2 => (if (z.1 15) ≤ x2 then some z else (if ck x2 160 = true then (if (((z.2 7) (Int32.toNatClampNeg x2)) / 200) = x1 then (bi (rm_lives k z x2) fun r_1 z_1 => (if r_1 = 0 then rm_choose_b11 k fu z_1 x1 (x2 + 1) else (if ck x2 160 = true then (if ck (z_1.1 26) 20 = true then (if ck x2 160 = true then (if ck (z_1.1 26) 20 = true then rm_choose_b11 k fu (si (sa (sa z_1 13 (Int32.toNatClampNeg (z_1.1 26)) ((z_1.2 7) (Int32.toNatClampNeg x2))) 14 (Int32.toNatClampNeg (z_1.1 26)) ((z_1.2 11) (Int32.toNatClampNeg x2))) 26 ((z_1.1 26) + 1)) x1 (x2 + 1) else none) else none) else none) else none))) else rm_choose_b11 k fu z x1 (x2 + 1)) else none))
def rm_choose (k : Nat) (z : SS) (x1 : Int32) : Option SS :=
  (bo (rm_know k z) fun z_1 => rm_choose_b11 k k (si z_1 26 0) x1 0)
set_option maxHeartbeats 4000000 in
set_option maxRecDepth 100000 in
theorem w_rm_choose_b11 {p : Program} {l : Launch} {e : Env} {s : State} {m : MethodId} {args : Array Value} {below : List Frame} {meth : Method} {c : Code} {D : va_G} {w0 : va_W} {ad : Nat → Nat} {cA : Nat → ClassId} (C : Cx p s m args meth c cX6_choose 3 none RX6 wsX6_choose D (tM cA)) (k : Nat) : ∀ (fu : Nat) (z : SS) (x1 : Int32) (x2 : Int32) (z' : SS), rm_choose_b11 k fu z x1 x2 = some z' → ∀ (H : Heap) (locs : List Loc) (ls : Array Slot), St D (va_A w0 s.heap.size) s.heap (wM ad cA z) H locs → lv_has ls 3 [(0, .ref (ad 0)), (1, .int x1), (2, .int x2)] → W p l e R_rm_choose s m args below meth c H locs 0 0 (MQ below (kV D (tM cA) w0 (wM ad cA z') s.heap.size) args s 0 0 (va_A w0 s.heap.size)) (F0 m 11 ls []) := by
  obtain ⟨hx, hb, hr, hml, hown, hts, hlk, hK⟩ := id C
  intro fu
  induction fu with
  | zero =>
    intro z x1 x2 z' hf
    cases (show (none : Option SS) = some z' from hf)
  | succ fu ih =>
    intro z x1 x2 z' hf H locs ls hS hl
    have hf : (if (z.1 15) ≤ x2 then some z else (if ck x2 160 = true then (if (((z.2 7) (Int32.toNatClampNeg x2)) / 200) = x1 then (bi (rm_lives k z x2) fun r_1 z_1 => (if r_1 = 0 then rm_choose_b11 k fu z_1 x1 (x2 + 1) else (if ck x2 160 = true then (if ck (z_1.1 26) 20 = true then (if ck x2 160 = true then (if ck (z_1.1 26) 20 = true then rm_choose_b11 k fu (si (sa (sa z_1 13 (Int32.toNatClampNeg (z_1.1 26)) ((z_1.2 7) (Int32.toNatClampNeg x2))) 14 (Int32.toNatClampNeg (z_1.1 26)) ((z_1.2 11) (Int32.toNatClampNeg x2))) 26 ((z_1.1 26) + 1)) x1 (x2 + 1) else none) else none) else none) else none))) else rm_choose_b11 k fu z x1 (x2 + 1)) else none)) = some z' := hf
    refine lv_iload_n hx hb dX6_choose_11 rfl (lv_at hl 2 rfl) ?_
    refine lv_aload_n hx hb dX6_choose_12 rfl (lv_at hl 0 rfl) ?_
    refine gM_15 C hS in_X6_choose_X6 lk_X6_choose_96 (v := (z.1 15)) rfl dX6_choose_13 ?_
    refine lv_icmp_ge (x := x2) (y := (z.1 15)) (tgt := 87) hx hb dX6_choose_16 (by decide) (fun hc => ?_) (fun hc => ?_)
    · replace hf := it_t hc hf
      cases hf
      exact rtv C hS dX6_choose_87
    · replace hf := it_f hc hf
      refine lv_aload_n hx hb dX6_choose_19 rfl (lv_at hl 0 rfl) ?_
      refine hM_7 C hS in_X6_choose_X6 lk_X6_choose_36 dX6_choose_20 ?_
      refine lv_iload_n hx hb dX6_choose_23 rfl (lv_at hl 2 rfl) ?_
      obtain ⟨hck, hf⟩ := cs hf
      refine lM_7 C hS (f := (z.2 7)) rfl (i := x2) hck dX6_choose_24 ?_
      refine lv_sipush (v := 200) hx hb dX6_choose_25 (by decide) ?_
      refine lv_idiv (x := ((z.2 7) (Int32.toNatClampNeg x2))) (y := 200) hx hb dX6_choose_28 (by decide) ?_
      refine lv_iload_n hx hb dX6_choose_29 rfl (lv_at hl 1 rfl) ?_
      refine lv_icmp_ne (x := (((z.2 7) (Int32.toNatClampNeg x2)) / 200)) (y := x1) (tgt := 81) hx hb dX6_choose_30 (by decide) (fun hc => ?_) (fun hc => ?_)
      · replace hf := it_f hc hf
        refine lv_iinc (v := (x2 + 1)) (lv' := [(2, .int (x2 + 1)), (0, .ref (ad 0)), (1, .int x1)]) hx hb dX6_choose_81 hl (k := 2) rfl (congrArg (fun q => x2 + q) (by decide : Int32.ofInt 1 = (1 : Int32))) (by decide) rfl (fun ls hl => ?_)
        refine lv_goto (tgt := 11) hx hb dX6_choose_84 (by decide) ?_
        exact ih z x1 (x2 + 1) z' hf H locs ls hS (lv_sub hl [1, 2, 0] rfl)
      · replace hf := it_t hc hf
        refine lv_aload_n hx hb dX6_choose_33 rfl (lv_at hl 0 rfl) ?_
        refine lv_iload_n hx hb dX6_choose_34 rfl (lv_at hl 2 rfl) ?_
        obtain ⟨r_1, z_1, hcl, hf⟩ := bi_s hf
        refine rcVi (n := 1) (As := [.int x2]) (rest := []) (q0 := 0) (w' := (wM ad cA z_1)) C hS (fun sz => c_rm_lives l D ad cA k z x2 r_1 z_1 hcl sz) gX6_choose_X6_lives rfl ⟨rfl, rfl⟩ (by decide +kernel) ⟨Nat.le_of_ble_eq_true rfl, Nat.le_of_ble_eq_true rfl⟩ oM_0 rfl rfl hl.1 rfl (Nat.le_of_ble_eq_true rfl) dX6_choose_35 (fun H locs hS => ?_)
        refine lv_if_eq (x := r_1) (tgt := 81) hx hb dX6_choose_38 (by decide) (fun hc => ?_) (fun hc => ?_)
        · replace hf := it_t hc hf
          refine lv_iinc (v := (x2 + 1)) (lv' := [(2, .int (x2 + 1)), (0, .ref (ad 0)), (1, .int x1)]) hx hb dX6_choose_81 hl (k := 2) rfl (congrArg (fun q => x2 + q) (by decide : Int32.ofInt 1 = (1 : Int32))) (by decide) rfl (fun ls hl => ?_)
          refine lv_goto (tgt := 11) hx hb dX6_choose_84 (by decide) ?_
          exact ih z_1 x1 (x2 + 1) z' hf H locs ls hS (lv_sub hl [1, 2, 0] rfl)
        · replace hf := it_f hc hf
          refine lv_aload_n hx hb dX6_choose_41 rfl (lv_at hl 0 rfl) ?_
          refine hM_13 C hS in_X6_choose_X6 lk_X6_choose_58 dX6_choose_42 ?_
          refine lv_aload_n hx hb dX6_choose_45 rfl (lv_at hl 0 rfl) ?_
          refine gM_26 C hS in_X6_choose_X6 lk_X6_choose_172 (v := (z_1.1 26)) rfl dX6_choose_46 ?_
          refine lv_aload_n hx hb dX6_choose_49 rfl (lv_at hl 0 rfl) ?_
          refine hM_7 C hS in_X6_choose_X6 lk_X6_choose_36 dX6_choose_50 ?_
          refine lv_iload_n hx hb dX6_choose_53 rfl (lv_at hl 2 rfl) ?_
          obtain ⟨hck, hf⟩ := cs hf
          refine lM_7 C hS (f := (z_1.2 7)) rfl (i := x2) hck dX6_choose_54 ?_
          obtain ⟨hck, hf⟩ := cs hf
          refine sM_13 C hS (i := (z_1.1 26)) (x := ((z_1.2 7) (Int32.toNatClampNeg x2))) hck dX6_choose_55 (fun H locs hS => ?_)
          refine lv_aload_n hx hb dX6_choose_56 rfl (lv_at hl 0 rfl) ?_
          refine hM_14 C hS in_X6_choose_X6 lk_X6_choose_61 dX6_choose_57 ?_
          refine lv_aload_n hx hb dX6_choose_60 rfl (lv_at hl 0 rfl) ?_
          refine gM_26 C hS in_X6_choose_X6 lk_X6_choose_172 (v := (z_1.1 26)) (sa_i.trans rfl) dX6_choose_61 ?_
          refine lv_aload_n hx hb dX6_choose_64 rfl (lv_at hl 0 rfl) ?_
          refine hM_11 C hS in_X6_choose_X6 lk_X6_choose_48 dX6_choose_65 ?_
          refine lv_iload_n hx hb dX6_choose_68 rfl (lv_at hl 2 rfl) ?_
          obtain ⟨hck, hf⟩ := cs hf
          refine lM_11 C hS (f := (z_1.2 11)) ((sa_o (by decide)).trans rfl) (i := x2) hck dX6_choose_69 ?_
          obtain ⟨hck, hf⟩ := cs hf
          refine sM_14 C hS (i := (z_1.1 26)) (x := ((z_1.2 11) (Int32.toNatClampNeg x2))) hck dX6_choose_70 (fun H locs hS => ?_)
          refine lv_aload_n hx hb dX6_choose_71 rfl (lv_at hl 0 rfl) ?_
          refine lv_dup hx hb dX6_choose_72 rfl ?_
          refine gM_26 C hS in_X6_choose_X6 lk_X6_choose_172 (v := (z_1.1 26)) (sa_i.trans (sa_i.trans rfl)) dX6_choose_73 ?_
          refine lv_iconst (v := 1) hx hb dX6_choose_76 (by decide) ?_
          refine lv_iadd (x := (z_1.1 26)) (y := 1) hx hb dX6_choose_77 ?_
          refine pM_26 C hS in_X6_choose_X6 lk_X6_choose_172 (v := ((z_1.1 26) + 1)) rfl rfl dX6_choose_78 (fun H locs hS => ?_)
          refine lv_iinc (v := (x2 + 1)) (lv' := [(2, .int (x2 + 1)), (0, .ref (ad 0)), (1, .int x1)]) hx hb dX6_choose_81 hl (k := 2) rfl (congrArg (fun q => x2 + q) (by decide : Int32.ofInt 1 = (1 : Int32))) (by decide) rfl (fun ls hl => ?_)
          refine lv_goto (tgt := 11) hx hb dX6_choose_84 (by decide) ?_
          exact ih (si (sa (sa z_1 13 (Int32.toNatClampNeg (z_1.1 26)) ((z_1.2 7) (Int32.toNatClampNeg x2))) 14 (Int32.toNatClampNeg (z_1.1 26)) ((z_1.2 11) (Int32.toNatClampNeg x2))) 26 ((z_1.1 26) + 1)) x1 (x2 + 1) z' hf H locs ls hS (lv_sub hl [1, 2, 0] rfl)
set_option maxHeartbeats 4000000 in
set_option maxRecDepth 100000 in
theorem w_rm_choose_0 {p : Program} {l : Launch} {e : Env} {s : State} {m : MethodId} {args : Array Value} {below : List Frame} {meth : Method} {c : Code} {D : va_G} {w0 : va_W} {ad : Nat → Nat} {cA : Nat → ClassId} (C : Cx p s m args meth c cX6_choose 3 none RX6 wsX6_choose D (tM cA)) (k : Nat) (z : SS) (x1 : Int32) (z' : SS) (hf : rm_choose k z x1 = some z') : ∀ (H : Heap) (locs : List Loc) (ls : Array Slot), St D (va_A w0 s.heap.size) s.heap (wM ad cA z) H locs → lv_has ls 3 [(0, .ref (ad 0)), (1, .int x1)] → W p l e R_rm_choose s m args below meth c H locs 0 0 (MQ below (kV D (tM cA) w0 (wM ad cA z') s.heap.size) args s 0 0 (va_A w0 s.heap.size)) (F0 m 0 ls []) := by
  obtain ⟨hx, hb, hr, hml, hown, hts, hlk, hK⟩ := id C
  intro H locs ls hS hl
  have hf : (bo (rm_know k z) fun z_1 => rm_choose_b11 k k (si z_1 26 0) x1 0) = some z' := hf
  refine lv_aload_n hx hb dX6_choose_0 rfl (lv_at hl 0 rfl) ?_
  obtain ⟨z_1, hcl, hf⟩ := bo_s hf
  refine rcVv (n := 0) (As := []) (rest := []) (q0 := 0) (w' := (wM ad cA z_1)) C hS (fun sz => c_rm_know l D ad cA k z z_1 hcl sz) gX6_choose_X6_know rfl ⟨rfl, rfl⟩ (by decide +kernel) ⟨Nat.le_of_ble_eq_true rfl, Nat.le_of_ble_eq_true rfl⟩ oM_0 rfl rfl hl.1 rfl (Nat.le_of_ble_eq_true rfl) dX6_choose_1 (fun H locs hS => ?_)
  refine lv_aload_n hx hb dX6_choose_4 rfl (lv_at hl 0 rfl) ?_
  refine lv_iconst (v := 0) hx hb dX6_choose_5 (by decide) ?_
  refine pM_26 C hS in_X6_choose_X6 lk_X6_choose_172 (v := 0) rfl rfl dX6_choose_6 (fun H locs hS => ?_)
  refine lv_iconst (v := 0) hx hb dX6_choose_9 (by decide) ?_
  refine lv_istore_n (lv' := [(2, .int 0), (0, .ref (ad 0)), (1, .int x1)]) hx hb dX6_choose_10 rfl hl (by decide) rfl (fun ls hl => ?_)
  exact w_rm_choose_b11 C k k (si z_1 26 0) x1 0 z' hf H locs ls hS (lv_sub hl [1, 2, 0] rfl)
set_option maxHeartbeats 4000000 in
set_option maxRecDepth 100000 in
theorem c_rm_choose (l : Launch) (D : va_G) (ad : Nat → Nat) (cA : Nat → ClassId) (k : Nat) (z : SS) (x1 : Int32) (z' : SS) (hf : rm_choose k z x1 = some z') (sz : Nat) : Met l yX6_choose wsX6_choose R_rm_choose (kP D (tM cA) [.ref (ad 0), .int x1] (wM ad cA z) sz) (kV D (tM cA) (wM ad cA z) (wM ad cA z') sz) 0 0 (va_A (wM ad cA z) sz) := by
  refine ent (by decide) rfl rfl (Nat.le_of_ble_eq_true rfl) (fun p e s m args below meth c hsz C hS ls hl => ?_)
  subst hsz
  exact w_rm_choose_0 C k z x1 z' hf s.heap [] ls hS hl
-- rm_hasRoom: private boolean hasRoom();
theorem lk_X6_hasRoom_64 : Cond.fieldLink RX6 64 (TX6 0).1 (TX6 0).2.1 (TX6 0).2.2.1 ∈ wsX6_hasRoom := by decide +kernel
theorem in_X6_hasRoom_X6 : ∀ x ∈ u_ws RX6 TX6 29, x ∈ wsX6_hasRoom := by decide +kernel
theorem lk_X6_hasRoom_61 : Cond.fieldLink RX6 61 (TX6 28).1 (TX6 28).2.1 (TX6 28).2.2.1 ∈ wsX6_hasRoom := by decide +kernel
theorem lk_X6_hasRoom_172 : Cond.fieldLink RX6 172 (TX6 26).1 (TX6 26).2.1 (TX6 26).2.2.1 ∈ wsX6_hasRoom := by decide +kernel
theorem lk_X6_hasRoom_16 : Cond.fieldLink RX6 16 (TX6 4).1 (TX6 4).2.1 (TX6 4).2.2.1 ∈ wsX6_hasRoom := by decide +kernel
theorem lk_X6_hasRoom_13 : Cond.fieldLink RX6 13 (TX6 3).1 (TX6 3).2.1 (TX6 3).2.2.1 ∈ wsX6_hasRoom := by decide +kernel
def R_rm_hasRoom : Room := { frames := 1, cells := 0, slots := 0, locals := 21 }
def rm_hasRoom_b84 (k : Nat) (rc29 : Int32 → Int32 → Int32 → Option Int32) (z : SS) (x2 : Int32) (x3 : Int32) : Option Int32 :=
  (if x2 < (z.1 0) then (if ck x3 20 = true then rc29 (200 - ((z.2 14) (Int32.toNatClampNeg x3))) x2 (x3 + 1) else none) else some 0)
def rm_hasRoom_b62 (k : Nat) (rc29 : Int32 → Int32 → Int32 → Option Int32) (z : SS) : Nat → Int32 → Int32 → Option Int32
  | 0, _, _ => none
  | fu + 1, x2, x3 => (if (z.1 0) ≤ x2 then rm_hasRoom_b84 k rc29 z x2 x3 else (bo (rm_isFree k z x2) fun r_1 => (if r_1 = 0 then rm_hasRoom_b62 k rc29 z fu (x2 + 1) x3 else rm_hasRoom_b84 k rc29 z x2 x3)))
def rm_hasRoom_b29 (k : Nat) (z : SS) : Nat → Int32 → Int32 → Int32 → Option Int32
  | 0, _, _, _ => none
  | fu + 1, x1, x2, x3 => (if (z.1 26) ≤ x3 then some 1 else (if ck x3 20 = true then (if x1 < ((z.2 14) (Int32.toNatClampNeg x3)) then rm_hasRoom_b62 k (rm_hasRoom_b29 k z fu) z k (x2 + 1) x3 else (if ck x3 20 = true then rm_hasRoom_b29 k z fu (x1 - ((z.2 14) (Int32.toNatClampNeg x3))) x2 (x3 + 1) else none)) else none))
def rm_hasRoom_b24 (k : Nat) (z : SS) (y0 : Int32) : Option Int32 :=
  rm_hasRoom_b29 k z k y0 (-1) 0
def rm_hasRoom (k : Nat) (z : SS) : Option Int32 :=
  (if 0 ≤ (z.1 4) then (if ck (z.1 4) 12 = true then rm_hasRoom_b24 k z (200 - ((z.2 2) (Int32.toNatClampNeg (z.1 4)))) else none) else rm_hasRoom_b24 k z 0)
set_option maxHeartbeats 4000000 in
set_option maxRecDepth 100000 in
theorem w_rm_hasRoom_b84 {p : Program} {l : Launch} {e : Env} {s : State} {m : MethodId} {args : Array Value} {below : List Frame} {meth : Method} {c : Code} {D : va_G} {w0 : va_W} {ad : Nat → Nat} {cA : Nat → ClassId} (C : Cx p s m args meth c cX6_hasRoom 4 (some .boolean) RX6 wsX6_hasRoom D (tM cA)) (k : Nat) (z : SS) {rc29 : Int32 → Int32 → Int32 → Option Int32} (hrc29 : ∀ (x1 : Int32) (x2 : Int32) (x3 : Int32) (r : Int32), rc29 x1 x2 x3 = some r → ∀ (H : Heap) (locs : List Loc) (ls : Array Slot), St D (va_A w0 s.heap.size) s.heap (wM ad cA z) H locs → lv_has ls 4 [(0, .ref (ad 0)), (1, .int x1), (2, .int x2), (3, .int x3)] → W p l e R_rm_hasRoom s m args below meth c H locs 0 0 (MQ below (kI D (tM cA) r w0 (wM ad cA z) s.heap.size) args s 0 0 (va_A w0 s.heap.size)) (F0 m 29 ls [])) (x2 : Int32) (x3 : Int32) (r : Int32) (hf : rm_hasRoom_b84 k rc29 z x2 x3 = some r) : ∀ (H : Heap) (locs : List Loc) (ls : Array Slot), St D (va_A w0 s.heap.size) s.heap (wM ad cA z) H locs → lv_has ls 4 [(0, .ref (ad 0)), (2, .int x2), (3, .int x3)] → W p l e R_rm_hasRoom s m args below meth c H locs 0 0 (MQ below (kI D (tM cA) r w0 (wM ad cA z) s.heap.size) args s 0 0 (va_A w0 s.heap.size)) (F0 m 84 ls []) := by
  obtain ⟨hx, hb, hr, hml, hown, hts, hlk, hK⟩ := id C
  intro H locs ls hS hl
  have hf : (if x2 < (z.1 0) then (if ck x3 20 = true then rc29 (200 - ((z.2 14) (Int32.toNatClampNeg x3))) x2 (x3 + 1) else none) else some 0) = some r := hf
  refine lv_iload_n hx hb dX6_hasRoom_84 rfl (lv_at hl 1 rfl) ?_
  refine lv_aload_n hx hb dX6_hasRoom_85 rfl (lv_at hl 0 rfl) ?_
  refine gM_0 C hS in_X6_hasRoom_X6 lk_X6_hasRoom_64 (v := (z.1 0)) rfl dX6_hasRoom_86 ?_
  refine lv_icmp_lt (x := x2) (y := (z.1 0)) (tgt := 94) hx hb dX6_hasRoom_89 (by decide) (fun hc => ?_) (fun hc => ?_)
  · replace hf := it_t hc hf
    refine lv_sipush (v := 200) hx hb dX6_hasRoom_94 (by decide) ?_
    refine lv_aload_n hx hb dX6_hasRoom_97 rfl (lv_at hl 0 rfl) ?_
    refine hM_14 C hS in_X6_hasRoom_X6 lk_X6_hasRoom_61 dX6_hasRoom_98 ?_
    refine lv_iload_n hx hb dX6_hasRoom_101 rfl (lv_at hl 2 rfl) ?_
    obtain ⟨hck, hf⟩ := cs hf
    refine lM_14 C hS (f := (z.2 14)) rfl (i := x3) hck dX6_hasRoom_102 ?_
    refine lv_isub (x := 200) (y := ((z.2 14) (Int32.toNatClampNeg x3))) hx hb dX6_hasRoom_103 ?_
    refine lv_istore_n (lv' := [(1, .int (200 - ((z.2 14) (Int32.toNatClampNeg x3)))), (0, .ref (ad 0)), (2, .int x2), (3, .int x3)]) hx hb dX6_hasRoom_104 rfl hl (by decide) rfl (fun ls hl => ?_)
    refine lv_iinc (v := (x3 + 1)) (lv' := [(3, .int (x3 + 1)), (1, .int (200 - ((z.2 14) (Int32.toNatClampNeg x3)))), (0, .ref (ad 0)), (2, .int x2)]) hx hb dX6_hasRoom_105 hl (k := 3) rfl (congrArg (fun q => x3 + q) (by decide : Int32.ofInt 1 = (1 : Int32))) (by decide) rfl (fun ls hl => ?_)
    refine lv_goto (tgt := 29) hx hb dX6_hasRoom_108 (by decide) ?_
    exact hrc29 (200 - ((z.2 14) (Int32.toNatClampNeg x3))) x2 (x3 + 1) r hf H locs ls hS (lv_sub hl [2, 1, 3, 0] rfl)
  · replace hf := it_f hc hf
    refine lv_iconst (v := 0) hx hb dX6_hasRoom_92 (by decide) ?_
    cases hf
    exact rtz C hS (by decide) dX6_hasRoom_93
set_option maxHeartbeats 4000000 in
set_option maxRecDepth 100000 in
theorem w_rm_hasRoom_b62 {p : Program} {l : Launch} {e : Env} {s : State} {m : MethodId} {args : Array Value} {below : List Frame} {meth : Method} {c : Code} {D : va_G} {w0 : va_W} {ad : Nat → Nat} {cA : Nat → ClassId} (C : Cx p s m args meth c cX6_hasRoom 4 (some .boolean) RX6 wsX6_hasRoom D (tM cA)) (k : Nat) (z : SS) {rc29 : Int32 → Int32 → Int32 → Option Int32} (hrc29 : ∀ (x1 : Int32) (x2 : Int32) (x3 : Int32) (r : Int32), rc29 x1 x2 x3 = some r → ∀ (H : Heap) (locs : List Loc) (ls : Array Slot), St D (va_A w0 s.heap.size) s.heap (wM ad cA z) H locs → lv_has ls 4 [(0, .ref (ad 0)), (1, .int x1), (2, .int x2), (3, .int x3)] → W p l e R_rm_hasRoom s m args below meth c H locs 0 0 (MQ below (kI D (tM cA) r w0 (wM ad cA z) s.heap.size) args s 0 0 (va_A w0 s.heap.size)) (F0 m 29 ls [])) : ∀ (fu : Nat) (x2 : Int32) (x3 : Int32) (r : Int32), rm_hasRoom_b62 k rc29 z fu x2 x3 = some r → ∀ (H : Heap) (locs : List Loc) (ls : Array Slot), St D (va_A w0 s.heap.size) s.heap (wM ad cA z) H locs → lv_has ls 4 [(0, .ref (ad 0)), (2, .int x2), (3, .int x3)] → W p l e R_rm_hasRoom s m args below meth c H locs 0 0 (MQ below (kI D (tM cA) r w0 (wM ad cA z) s.heap.size) args s 0 0 (va_A w0 s.heap.size)) (F0 m 62 ls []) := by
  obtain ⟨hx, hb, hr, hml, hown, hts, hlk, hK⟩ := id C
  intro fu
  induction fu with
  | zero =>
    intro x2 x3 r hf
    cases (show (none : Option Int32) = some r from hf)
  | succ fu ih =>
    intro x2 x3 r hf H locs ls hS hl
    have hf : (if (z.1 0) ≤ x2 then rm_hasRoom_b84 k rc29 z x2 x3 else (bo (rm_isFree k z x2) fun r_1 => (if r_1 = 0 then rm_hasRoom_b62 k rc29 z fu (x2 + 1) x3 else rm_hasRoom_b84 k rc29 z x2 x3))) = some r := hf
    refine lv_iload_n hx hb dX6_hasRoom_62 rfl (lv_at hl 1 rfl) ?_
    refine lv_aload_n hx hb dX6_hasRoom_63 rfl (lv_at hl 0 rfl) ?_
    refine gM_0 C hS in_X6_hasRoom_X6 lk_X6_hasRoom_64 (v := (z.1 0)) rfl dX6_hasRoom_64 ?_
    refine lv_icmp_ge (x := x2) (y := (z.1 0)) (tgt := 84) hx hb dX6_hasRoom_67 (by decide) (fun hc => ?_) (fun hc => ?_)
    · replace hf := it_t hc hf
      exact w_rm_hasRoom_b84 C k z hrc29 x2 x3 r hf H locs ls hS (lv_sub hl [0, 1, 2] rfl)
    · replace hf := it_f hc hf
      refine lv_aload_n hx hb dX6_hasRoom_70 rfl (lv_at hl 0 rfl) ?_
      refine lv_iload_n hx hb dX6_hasRoom_71 rfl (lv_at hl 1 rfl) ?_
      obtain ⟨r_1, hcl, hf⟩ := bo_s hf
      refine rcVi (n := 1) (As := [.int x2]) (rest := []) (q0 := 0) (w' := (wM ad cA z)) C hS (fun sz => c_rm_isFree l D ad cA k z x2 r_1 hcl sz) gX6_hasRoom_X6_isFree rfl ⟨rfl, rfl⟩ (by decide +kernel) ⟨Nat.le_of_ble_eq_true rfl, Nat.le_of_ble_eq_true rfl⟩ oM_0 rfl rfl hl.1 rfl (Nat.le_of_ble_eq_true rfl) dX6_hasRoom_72 (fun H locs hS => ?_)
      refine lv_if_ne (x := r_1) (tgt := 84) hx hb dX6_hasRoom_75 (by decide) (fun hc => ?_) (fun hc => ?_)
      · replace hf := it_f hc hf
        exact w_rm_hasRoom_b84 C k z hrc29 x2 x3 r hf H locs ls hS (lv_sub hl [0, 1, 2] rfl)
      · replace hf := it_t hc hf
        refine lv_iinc (v := (x2 + 1)) (lv' := [(2, .int (x2 + 1)), (0, .ref (ad 0)), (3, .int x3)]) hx hb dX6_hasRoom_78 hl (k := 1) rfl (congrArg (fun q => x2 + q) (by decide : Int32.ofInt 1 = (1 : Int32))) (by decide) rfl (fun ls hl => ?_)
        refine lv_goto (tgt := 62) hx hb dX6_hasRoom_81 (by decide) ?_
        exact ih (x2 + 1) x3 r hf H locs ls hS (lv_sub hl [1, 0, 2] rfl)
set_option maxHeartbeats 4000000 in
set_option maxRecDepth 100000 in
theorem w_rm_hasRoom_b29 {p : Program} {l : Launch} {e : Env} {s : State} {m : MethodId} {args : Array Value} {below : List Frame} {meth : Method} {c : Code} {D : va_G} {w0 : va_W} {ad : Nat → Nat} {cA : Nat → ClassId} (C : Cx p s m args meth c cX6_hasRoom 4 (some .boolean) RX6 wsX6_hasRoom D (tM cA)) (k : Nat) (z : SS) : ∀ (fu : Nat) (x1 : Int32) (x2 : Int32) (x3 : Int32) (r : Int32), rm_hasRoom_b29 k z fu x1 x2 x3 = some r → ∀ (H : Heap) (locs : List Loc) (ls : Array Slot), St D (va_A w0 s.heap.size) s.heap (wM ad cA z) H locs → lv_has ls 4 [(0, .ref (ad 0)), (1, .int x1), (2, .int x2), (3, .int x3)] → W p l e R_rm_hasRoom s m args below meth c H locs 0 0 (MQ below (kI D (tM cA) r w0 (wM ad cA z) s.heap.size) args s 0 0 (va_A w0 s.heap.size)) (F0 m 29 ls []) := by
  obtain ⟨hx, hb, hr, hml, hown, hts, hlk, hK⟩ := id C
  intro fu
  induction fu with
  | zero =>
    intro x1 x2 x3 r hf
    cases (show (none : Option Int32) = some r from hf)
  | succ fu ih =>
    intro x1 x2 x3 r hf H locs ls hS hl
    have hf : (if (z.1 26) ≤ x3 then some 1 else (if ck x3 20 = true then (if x1 < ((z.2 14) (Int32.toNatClampNeg x3)) then rm_hasRoom_b62 k (rm_hasRoom_b29 k z fu) z k (x2 + 1) x3 else (if ck x3 20 = true then rm_hasRoom_b29 k z fu (x1 - ((z.2 14) (Int32.toNatClampNeg x3))) x2 (x3 + 1) else none)) else none)) = some r := hf
    refine lv_iload_n hx hb dX6_hasRoom_29 rfl (lv_at hl 3 rfl) ?_
    refine lv_aload_n hx hb dX6_hasRoom_30 rfl (lv_at hl 0 rfl) ?_
    refine gM_26 C hS in_X6_hasRoom_X6 lk_X6_hasRoom_172 (v := (z.1 26)) rfl dX6_hasRoom_31 ?_
    refine lv_icmp_ge (x := x3) (y := (z.1 26)) (tgt := 111) hx hb dX6_hasRoom_34 (by decide) (fun hc => ?_) (fun hc => ?_)
    · replace hf := it_t hc hf
      refine lv_iconst (v := 1) hx hb dX6_hasRoom_111 (by decide) ?_
      cases hf
      exact rtz C hS (by decide) dX6_hasRoom_112
    · replace hf := it_f hc hf
      refine lv_aload_n hx hb dX6_hasRoom_37 rfl (lv_at hl 0 rfl) ?_
      refine hM_14 C hS in_X6_hasRoom_X6 lk_X6_hasRoom_61 dX6_hasRoom_38 ?_
      refine lv_iload_n hx hb dX6_hasRoom_41 rfl (lv_at hl 3 rfl) ?_
      obtain ⟨hck, hf⟩ := cs hf
      refine lM_14 C hS (f := (z.2 14)) rfl (i := x3) hck dX6_hasRoom_42 ?_
      refine lv_iload_n hx hb dX6_hasRoom_43 rfl (lv_at hl 1 rfl) ?_
      refine lv_icmp_gt (x := ((z.2 14) (Int32.toNatClampNeg x3))) (y := x1) (tgt := 59) hx hb dX6_hasRoom_44 (by decide) (fun hc => ?_) (fun hc => ?_)
      · replace hf := it_t hc hf
        refine lv_iinc (v := (x2 + 1)) (lv' := [(2, .int (x2 + 1)), (0, .ref (ad 0)), (1, .int x1), (3, .int x3)]) hx hb dX6_hasRoom_59 hl (k := 2) rfl (congrArg (fun q => x2 + q) (by decide : Int32.ofInt 1 = (1 : Int32))) (by decide) rfl (fun ls hl => ?_)
        exact w_rm_hasRoom_b62 C k z ih k (x2 + 1) x3 r hf H locs ls hS (lv_sub hl [1, 0, 3] rfl)
      · replace hf := it_f hc hf
        refine lv_iload_n hx hb dX6_hasRoom_47 rfl (lv_at hl 1 rfl) ?_
        refine lv_aload_n hx hb dX6_hasRoom_48 rfl (lv_at hl 0 rfl) ?_
        refine hM_14 C hS in_X6_hasRoom_X6 lk_X6_hasRoom_61 dX6_hasRoom_49 ?_
        refine lv_iload_n hx hb dX6_hasRoom_52 rfl (lv_at hl 3 rfl) ?_
        obtain ⟨hck, hf⟩ := cs hf
        refine lM_14 C hS (f := (z.2 14)) rfl (i := x3) hck dX6_hasRoom_53 ?_
        refine lv_isub (x := x1) (y := ((z.2 14) (Int32.toNatClampNeg x3))) hx hb dX6_hasRoom_54 ?_
        refine lv_istore_n (lv' := [(1, .int (x1 - ((z.2 14) (Int32.toNatClampNeg x3)))), (0, .ref (ad 0)), (2, .int x2), (3, .int x3)]) hx hb dX6_hasRoom_55 rfl hl (by decide) rfl (fun ls hl => ?_)
        refine lv_goto (tgt := 105) hx hb dX6_hasRoom_56 (by decide) ?_
        refine lv_iinc (v := (x3 + 1)) (lv' := [(3, .int (x3 + 1)), (1, .int (x1 - ((z.2 14) (Int32.toNatClampNeg x3)))), (0, .ref (ad 0)), (2, .int x2)]) hx hb dX6_hasRoom_105 hl (k := 3) rfl (congrArg (fun q => x3 + q) (by decide : Int32.ofInt 1 = (1 : Int32))) (by decide) rfl (fun ls hl => ?_)
        refine lv_goto (tgt := 29) hx hb dX6_hasRoom_108 (by decide) ?_
        exact ih (x1 - ((z.2 14) (Int32.toNatClampNeg x3))) x2 (x3 + 1) r hf H locs ls hS (lv_sub hl [2, 1, 3, 0] rfl)
set_option maxHeartbeats 4000000 in
set_option maxRecDepth 100000 in
theorem w_rm_hasRoom_b24 {p : Program} {l : Launch} {e : Env} {s : State} {m : MethodId} {args : Array Value} {below : List Frame} {meth : Method} {c : Code} {D : va_G} {w0 : va_W} {ad : Nat → Nat} {cA : Nat → ClassId} (C : Cx p s m args meth c cX6_hasRoom 4 (some .boolean) RX6 wsX6_hasRoom D (tM cA)) (k : Nat) (z : SS) (y0 : Int32) (r : Int32) (hf : rm_hasRoom_b24 k z y0 = some r) : ∀ (H : Heap) (locs : List Loc) (ls : Array Slot), St D (va_A w0 s.heap.size) s.heap (wM ad cA z) H locs → lv_has ls 4 [(0, .ref (ad 0))] → W p l e R_rm_hasRoom s m args below meth c H locs 0 0 (MQ below (kI D (tM cA) r w0 (wM ad cA z) s.heap.size) args s 0 0 (va_A w0 s.heap.size)) (F0 m 24 ls [.int y0]) := by
  obtain ⟨hx, hb, hr, hml, hown, hts, hlk, hK⟩ := id C
  intro H locs ls hS hl
  have hf : rm_hasRoom_b29 k z k y0 (-1) 0 = some r := hf
  refine lv_istore_n (lv' := [(1, .int y0), (0, .ref (ad 0))]) hx hb dX6_hasRoom_24 rfl hl (by decide) rfl (fun ls hl => ?_)
  refine lv_iconst (v := (-1)) hx hb dX6_hasRoom_25 (by decide) ?_
  refine lv_istore_n (lv' := [(2, .int (-1)), (1, .int y0), (0, .ref (ad 0))]) hx hb dX6_hasRoom_26 rfl hl (by decide) rfl (fun ls hl => ?_)
  refine lv_iconst (v := 0) hx hb dX6_hasRoom_27 (by decide) ?_
  refine lv_istore_n (lv' := [(3, .int 0), (2, .int (-1)), (1, .int y0), (0, .ref (ad 0))]) hx hb dX6_hasRoom_28 rfl hl (by decide) rfl (fun ls hl => ?_)
  exact w_rm_hasRoom_b29 C k z k y0 (-1) 0 r hf H locs ls hS (lv_sub hl [3, 2, 1, 0] rfl)
set_option maxHeartbeats 4000000 in
set_option maxRecDepth 100000 in
theorem w_rm_hasRoom_0 {p : Program} {l : Launch} {e : Env} {s : State} {m : MethodId} {args : Array Value} {below : List Frame} {meth : Method} {c : Code} {D : va_G} {w0 : va_W} {ad : Nat → Nat} {cA : Nat → ClassId} (C : Cx p s m args meth c cX6_hasRoom 4 (some .boolean) RX6 wsX6_hasRoom D (tM cA)) (k : Nat) (z : SS) (r : Int32) (hf : rm_hasRoom k z = some r) : ∀ (H : Heap) (locs : List Loc) (ls : Array Slot), St D (va_A w0 s.heap.size) s.heap (wM ad cA z) H locs → lv_has ls 4 [(0, .ref (ad 0))] → W p l e R_rm_hasRoom s m args below meth c H locs 0 0 (MQ below (kI D (tM cA) r w0 (wM ad cA z) s.heap.size) args s 0 0 (va_A w0 s.heap.size)) (F0 m 0 ls []) := by
  obtain ⟨hx, hb, hr, hml, hown, hts, hlk, hK⟩ := id C
  intro H locs ls hS hl
  have hf : (if 0 ≤ (z.1 4) then (if ck (z.1 4) 12 = true then rm_hasRoom_b24 k z (200 - ((z.2 2) (Int32.toNatClampNeg (z.1 4)))) else none) else rm_hasRoom_b24 k z 0) = some r := hf
  refine lv_aload_n hx hb dX6_hasRoom_0 rfl (lv_at hl 0 rfl) ?_
  refine gM_4 C hS in_X6_hasRoom_X6 lk_X6_hasRoom_16 (v := (z.1 4)) rfl dX6_hasRoom_1 ?_
  refine lv_if_ge (x := (z.1 4)) (tgt := 11) hx hb dX6_hasRoom_4 (by decide) (fun hc => ?_) (fun hc => ?_)
  · replace hf := it_t hc hf
    refine lv_sipush (v := 200) hx hb dX6_hasRoom_11 (by decide) ?_
    refine lv_aload_n hx hb dX6_hasRoom_14 rfl (lv_at hl 0 rfl) ?_
    refine hM_2 C hS in_X6_hasRoom_X6 lk_X6_hasRoom_13 dX6_hasRoom_15 ?_
    refine lv_aload_n hx hb dX6_hasRoom_18 rfl (lv_at hl 0 rfl) ?_
    refine gM_4 C hS in_X6_hasRoom_X6 lk_X6_hasRoom_16 (v := (z.1 4)) rfl dX6_hasRoom_19 ?_
    obtain ⟨hck, hf⟩ := cs hf
    refine lM_2 C hS (f := (z.2 2)) rfl (i := (z.1 4)) hck dX6_hasRoom_22 ?_
    refine lv_isub (x := 200) (y := ((z.2 2) (Int32.toNatClampNeg (z.1 4)))) hx hb dX6_hasRoom_23 ?_
    exact w_rm_hasRoom_b24 C k z (200 - ((z.2 2) (Int32.toNatClampNeg (z.1 4)))) r hf H locs ls hS (lv_sub hl [0] rfl)
  · replace hf := it_f hc hf
    refine lv_iconst (v := 0) hx hb dX6_hasRoom_7 (by decide) ?_
    refine lv_goto (tgt := 24) hx hb dX6_hasRoom_8 (by decide) ?_
    exact w_rm_hasRoom_b24 C k z 0 r hf H locs ls hS (lv_sub hl [0] rfl)
set_option maxHeartbeats 4000000 in
set_option maxRecDepth 100000 in
theorem c_rm_hasRoom (l : Launch) (D : va_G) (ad : Nat → Nat) (cA : Nat → ClassId) (k : Nat) (z : SS) (r : Int32) (hf : rm_hasRoom k z = some r) (sz : Nat) : Met l yX6_hasRoom wsX6_hasRoom R_rm_hasRoom (kP D (tM cA) [.ref (ad 0)] (wM ad cA z) sz) (kI D (tM cA) r (wM ad cA z) (wM ad cA z) sz) 0 0 (va_A (wM ad cA z) sz) := by
  refine ent (by decide) rfl rfl (Nat.le_of_ble_eq_true rfl) (fun p e s m args below meth c hsz C hS ls hl => ?_)
  subst hsz
  exact w_rm_hasRoom_0 C k z r hf s.heap [] ls hS hl
