-- rm_copyAll: private void copyAll();
theorem lk_X6_copyAll_61 : Cond.fieldLink RX6 61 (TX6 28).1 (TX6 28).2.1 (TX6 28).2.2.1 ∈ wsX6_copyAll := by decide +kernel
theorem in_X6_copyAll_X6 : ∀ x ∈ u_ws RX6 TX6 29, x ∈ wsX6_copyAll := by decide +kernel
theorem lk_X6_copyAll_99 : Cond.fieldLink RX6 99 (TX6 14).1 (TX6 14).2.1 (TX6 14).2.2.1 ∈ wsX6_copyAll := by decide +kernel
theorem lk_X6_copyAll_51 : Cond.fieldLink RX6 51 (TX6 21).1 (TX6 21).2.1 (TX6 21).2.2.1 ∈ wsX6_copyAll := by decide +kernel
theorem lk_X6_copyAll_7 : Cond.fieldLink RX6 7 (TX6 2).1 (TX6 2).2.1 (TX6 2).2.2.1 ∈ wsX6_copyAll := by decide +kernel
theorem lk_X6_copyAll_58 : Cond.fieldLink RX6 58 (TX6 27).1 (TX6 27).2.1 (TX6 27).2.2.1 ∈ wsX6_copyAll := by decide +kernel
theorem lk_X6_copyAll_172 : Cond.fieldLink RX6 172 (TX6 26).1 (TX6 26).2.1 (TX6 26).2.2.1 ∈ wsX6_copyAll := by decide +kernel
theorem lk_X6_copyAll_120 : Cond.fieldLink RX6 120 (TX6 24).1 (TX6 24).2.1 (TX6 24).2.2.1 ∈ wsX6_copyAll := by decide +kernel
theorem lk_X6_copyAll_123 : Cond.fieldLink RX6 123 (TX6 23).1 (TX6 23).2.1 (TX6 23).2.2.1 ∈ wsX6_copyAll := by decide +kernel
theorem lk_X6_copyAll_126 : Cond.fieldLink RX6 126 (TX6 22).1 (TX6 22).2.1 (TX6 22).2.2.1 ∈ wsX6_copyAll := by decide +kernel
def R_rm_copyAll : Room := { frames := 3, cells := 0, slots := 0, locals := 64 }
def rm_copyAll_b54 (k : Nat) (rc2 : SS → Int32 → Option SS) : Nat → SS → Int32 → Int32 → Option SS
  | 0, _, _, _ => none
  | fu + 1, z, x1, x2 => (if ck x1 20 = true then (if ((z.2 14) (Int32.toNatClampNeg x1)) ≤ x2 then (if ck x1 20 = true then (bo (rm_writeRow k z ((z.2 14) (Int32.toNatClampNeg x1))) fun z_1 => rc2 (si z_1 14 0) (x1 + 1)) else none) else (if ck x1 20 = true then (if ck (((z.2 13) (Int32.toNatClampNeg x1)) + x2) 2400 = true then (if ck x2 36 = true then rm_copyAll_b54 k rc2 fu (sa z 12 (Int32.toNatClampNeg x2) ((z.2 1) (Int32.toNatClampNeg (((z.2 13) (Int32.toNatClampNeg x1)) + x2)))) x1 (x2 + 1) else none) else none) else none)) else none)
def rm_copyAll_b41 (k : Nat) (rc2 : SS → Int32 → Option SS) (z : SS) (x1 : Int32) : Option SS :=
  (if ck x1 20 = true then (bi (rm_makeRoom k z ((z.2 14) (Int32.toNatClampNeg x1))) fun r_1 z_1 => rm_copyAll_b54 k rc2 k z_1 x1 0) else none)
def rm_copyAll_b2 (k : Nat) : Nat → SS → Int32 → Option SS
  | 0, _, _ => none
  | fu + 1, z, x1 => (if (z.1 26) ≤ x1 then some z else (if (z.1 24) = 0 then (if (z.1 23) < 0 then rm_copyAll_b41 k (rm_copyAll_b2 k fu) z x1 else (if (z.1 22) = (z.1 23) then some (si z 24 1) else rm_copyAll_b41 k (rm_copyAll_b2 k fu) z x1)) else some z))
def rm_copyAll (k : Nat) (z : SS) : Option SS :=
  rm_copyAll_b2 k k z 0
set_option maxHeartbeats 4000000 in
set_option maxRecDepth 100000 in
theorem w_rm_copyAll_b54 {p : Program} {l : Launch} {e : Env} {s : State} {m : MethodId} {args : Array Value} {below : List Frame} {meth : Method} {c : Code} {D : va_G} {w0 : va_W} {ad : Nat → Nat} {cA : Nat → ClassId} (C : Cx p s m args meth c cX6_copyAll 3 none RX6 wsX6_copyAll D (tM cA)) (k : Nat) {rc2 : SS → Int32 → Option SS} (hrc2 : ∀ (z : SS) (x1 : Int32) (z' : SS), rc2 z x1 = some z' → ∀ (H : Heap) (locs : List Loc) (ls : Array Slot), St D (va_A w0 s.heap.size) s.heap (wM ad cA z) H locs → lv_has ls 3 [(0, .ref (ad 0)), (1, .int x1)] → W p l e R_rm_copyAll s m args below meth c H locs 0 0 (MQ below (kV D (tM cA) w0 (wM ad cA z') s.heap.size) args s 0 0 (va_A w0 s.heap.size)) (F0 m 2 ls [])) : ∀ (fu : Nat) (z : SS) (x1 : Int32) (x2 : Int32) (z' : SS), rm_copyAll_b54 k rc2 fu z x1 x2 = some z' → ∀ (H : Heap) (locs : List Loc) (ls : Array Slot), St D (va_A w0 s.heap.size) s.heap (wM ad cA z) H locs → lv_has ls 3 [(0, .ref (ad 0)), (1, .int x1), (2, .int x2)] → W p l e R_rm_copyAll s m args below meth c H locs 0 0 (MQ below (kV D (tM cA) w0 (wM ad cA z') s.heap.size) args s 0 0 (va_A w0 s.heap.size)) (F0 m 54 ls []) := by
  obtain ⟨hx, hb, hr, hml, hown, hts, hlk, hK⟩ := id C
  intro fu
  induction fu with
  | zero =>
    intro z x1 x2 z' hf
    cases (show (none : Option SS) = some z' from hf)
  | succ fu ih =>
    intro z x1 x2 z' hf H locs ls hS hl
    have hf : (if ck x1 20 = true then (if ((z.2 14) (Int32.toNatClampNeg x1)) ≤ x2 then (if ck x1 20 = true then (bo (rm_writeRow k z ((z.2 14) (Int32.toNatClampNeg x1))) fun z_1 => rc2 (si z_1 14 0) (x1 + 1)) else none) else (if ck x1 20 = true then (if ck (((z.2 13) (Int32.toNatClampNeg x1)) + x2) 2400 = true then (if ck x2 36 = true then rm_copyAll_b54 k rc2 fu (sa z 12 (Int32.toNatClampNeg x2) ((z.2 1) (Int32.toNatClampNeg (((z.2 13) (Int32.toNatClampNeg x1)) + x2)))) x1 (x2 + 1) else none) else none) else none)) else none) = some z' := hf
    refine lv_iload_n hx hb dX6_copyAll_54 rfl (lv_at hl 2 rfl) ?_
    refine lv_aload_n hx hb dX6_copyAll_55 rfl (lv_at hl 0 rfl) ?_
    refine hM_14 C hS in_X6_copyAll_X6 lk_X6_copyAll_61 dX6_copyAll_56 ?_
    refine lv_iload_n hx hb dX6_copyAll_59 rfl (lv_at hl 1 rfl) ?_
    obtain ⟨hck, hf⟩ := cs hf
    refine lM_14 C hS (f := (z.2 14)) rfl (i := x1) hck dX6_copyAll_60 ?_
    refine lv_icmp_ge (x := x2) (y := ((z.2 14) (Int32.toNatClampNeg x1))) (tgt := 89) hx hb dX6_copyAll_61 (by decide) (fun hc => ?_) (fun hc => ?_)
    · replace hf := it_t hc hf
      refine lv_aload_n hx hb dX6_copyAll_89 rfl (lv_at hl 0 rfl) ?_
      refine lv_aload_n hx hb dX6_copyAll_90 rfl (lv_at hl 0 rfl) ?_
      refine hM_14 C hS in_X6_copyAll_X6 lk_X6_copyAll_61 dX6_copyAll_91 ?_
      refine lv_iload_n hx hb dX6_copyAll_94 rfl (lv_at hl 1 rfl) ?_
      obtain ⟨hck, hf⟩ := cs hf
      refine lM_14 C hS (f := (z.2 14)) rfl (i := x1) hck dX6_copyAll_95 ?_
      obtain ⟨z_1, hcl, hf⟩ := bo_s hf
      refine rcVv (n := 1) (As := [.int ((z.2 14) (Int32.toNatClampNeg x1))]) (rest := []) (q0 := 0) (w' := (wM ad cA z_1)) C hS (fun sz => c_rm_writeRow l D ad cA k z ((z.2 14) (Int32.toNatClampNeg x1)) z_1 hcl sz) gX6_copyAll_X6_writeRow rfl ⟨rfl, rfl⟩ (by decide +kernel) ⟨Nat.le_of_ble_eq_true rfl, Nat.le_of_ble_eq_true rfl⟩ oM_0 rfl rfl hl.1 rfl (Nat.le_of_ble_eq_true rfl) dX6_copyAll_96 (fun H locs hS => ?_)
      refine lv_aload_n hx hb dX6_copyAll_99 rfl (lv_at hl 0 rfl) ?_
      refine lv_iconst (v := 0) hx hb dX6_copyAll_100 (by decide) ?_
      refine pM_14 C hS in_X6_copyAll_X6 lk_X6_copyAll_99 (v := 0) rfl rfl dX6_copyAll_101 (fun H locs hS => ?_)
      refine lv_iinc (v := (x1 + 1)) (lv' := [(1, .int (x1 + 1)), (0, .ref (ad 0)), (2, .int x2)]) hx hb dX6_copyAll_104 hl (k := 1) rfl (congrArg (fun q => x1 + q) (by decide : Int32.ofInt 1 = (1 : Int32))) (by decide) rfl (fun ls hl => ?_)
      refine lv_goto (tgt := 2) hx hb dX6_copyAll_107 (by decide) ?_
      exact hrc2 (si z_1 14 0) (x1 + 1) z' hf H locs ls hS (lv_sub hl [1, 0] rfl)
    · replace hf := it_f hc hf
      refine lv_aload_n hx hb dX6_copyAll_64 rfl (lv_at hl 0 rfl) ?_
      refine hM_12 C hS in_X6_copyAll_X6 lk_X6_copyAll_51 dX6_copyAll_65 ?_
      refine lv_iload_n hx hb dX6_copyAll_68 rfl (lv_at hl 2 rfl) ?_
      refine lv_aload_n hx hb dX6_copyAll_69 rfl (lv_at hl 0 rfl) ?_
      refine hM_1 C hS in_X6_copyAll_X6 lk_X6_copyAll_7 dX6_copyAll_70 ?_
      refine lv_aload_n hx hb dX6_copyAll_73 rfl (lv_at hl 0 rfl) ?_
      refine hM_13 C hS in_X6_copyAll_X6 lk_X6_copyAll_58 dX6_copyAll_74 ?_
      refine lv_iload_n hx hb dX6_copyAll_77 rfl (lv_at hl 1 rfl) ?_
      obtain ⟨hck, hf⟩ := cs hf
      refine lM_13 C hS (f := (z.2 13)) rfl (i := x1) hck dX6_copyAll_78 ?_
      refine lv_iload_n hx hb dX6_copyAll_79 rfl (lv_at hl 2 rfl) ?_
      refine lv_iadd (x := ((z.2 13) (Int32.toNatClampNeg x1))) (y := x2) hx hb dX6_copyAll_80 ?_
      obtain ⟨hck, hf⟩ := cs hf
      refine lM_1 C hS (f := (z.2 1)) rfl (i := (((z.2 13) (Int32.toNatClampNeg x1)) + x2)) hck dX6_copyAll_81 ?_
      obtain ⟨hck, hf⟩ := cs hf
      refine sM_12 C hS (i := x2) (x := ((z.2 1) (Int32.toNatClampNeg (((z.2 13) (Int32.toNatClampNeg x1)) + x2)))) hck dX6_copyAll_82 (fun H locs hS => ?_)
      refine lv_iinc (v := (x2 + 1)) (lv' := [(2, .int (x2 + 1)), (0, .ref (ad 0)), (1, .int x1)]) hx hb dX6_copyAll_83 hl (k := 2) rfl (congrArg (fun q => x2 + q) (by decide : Int32.ofInt 1 = (1 : Int32))) (by decide) rfl (fun ls hl => ?_)
      refine lv_goto (tgt := 54) hx hb dX6_copyAll_86 (by decide) ?_
      exact ih (sa z 12 (Int32.toNatClampNeg x2) ((z.2 1) (Int32.toNatClampNeg (((z.2 13) (Int32.toNatClampNeg x1)) + x2)))) x1 (x2 + 1) z' hf H locs ls hS (lv_sub hl [1, 2, 0] rfl)
set_option maxHeartbeats 4000000 in
set_option maxRecDepth 100000 in
theorem w_rm_copyAll_b41 {p : Program} {l : Launch} {e : Env} {s : State} {m : MethodId} {args : Array Value} {below : List Frame} {meth : Method} {c : Code} {D : va_G} {w0 : va_W} {ad : Nat → Nat} {cA : Nat → ClassId} (C : Cx p s m args meth c cX6_copyAll 3 none RX6 wsX6_copyAll D (tM cA)) (k : Nat) {rc2 : SS → Int32 → Option SS} (hrc2 : ∀ (z : SS) (x1 : Int32) (z' : SS), rc2 z x1 = some z' → ∀ (H : Heap) (locs : List Loc) (ls : Array Slot), St D (va_A w0 s.heap.size) s.heap (wM ad cA z) H locs → lv_has ls 3 [(0, .ref (ad 0)), (1, .int x1)] → W p l e R_rm_copyAll s m args below meth c H locs 0 0 (MQ below (kV D (tM cA) w0 (wM ad cA z') s.heap.size) args s 0 0 (va_A w0 s.heap.size)) (F0 m 2 ls [])) (z : SS) (x1 : Int32) (z' : SS) (hf : rm_copyAll_b41 k rc2 z x1 = some z') : ∀ (H : Heap) (locs : List Loc) (ls : Array Slot), St D (va_A w0 s.heap.size) s.heap (wM ad cA z) H locs → lv_has ls 3 [(0, .ref (ad 0)), (1, .int x1)] → W p l e R_rm_copyAll s m args below meth c H locs 0 0 (MQ below (kV D (tM cA) w0 (wM ad cA z') s.heap.size) args s 0 0 (va_A w0 s.heap.size)) (F0 m 41 ls []) := by
  obtain ⟨hx, hb, hr, hml, hown, hts, hlk, hK⟩ := id C
  intro H locs ls hS hl
  have hf : (if ck x1 20 = true then (bi (rm_makeRoom k z ((z.2 14) (Int32.toNatClampNeg x1))) fun r_1 z_1 => rm_copyAll_b54 k rc2 k z_1 x1 0) else none) = some z' := hf
  refine lv_aload_n hx hb dX6_copyAll_41 rfl (lv_at hl 0 rfl) ?_
  refine lv_aload_n hx hb dX6_copyAll_42 rfl (lv_at hl 0 rfl) ?_
  refine hM_14 C hS in_X6_copyAll_X6 lk_X6_copyAll_61 dX6_copyAll_43 ?_
  refine lv_iload_n hx hb dX6_copyAll_46 rfl (lv_at hl 1 rfl) ?_
  obtain ⟨hck, hf⟩ := cs hf
  refine lM_14 C hS (f := (z.2 14)) rfl (i := x1) hck dX6_copyAll_47 ?_
  obtain ⟨r_1, z_1, hcl, hf⟩ := bi_s hf
  refine rcVi (n := 1) (As := [.int ((z.2 14) (Int32.toNatClampNeg x1))]) (rest := []) (q0 := 0) (w' := (wM ad cA z_1)) C hS (fun sz => c_rm_makeRoom l D ad cA k z ((z.2 14) (Int32.toNatClampNeg x1)) r_1 z_1 hcl sz) gX6_copyAll_X6_makeRoom rfl ⟨rfl, rfl⟩ (by decide +kernel) ⟨Nat.le_of_ble_eq_true rfl, Nat.le_of_ble_eq_true rfl⟩ oM_0 rfl rfl hl.1 rfl (Nat.le_of_ble_eq_true rfl) dX6_copyAll_48 (fun H locs hS => ?_)
  refine lv_pop hx hb dX6_copyAll_51 rfl ?_
  refine lv_iconst (v := 0) hx hb dX6_copyAll_52 (by decide) ?_
  refine lv_istore_n (lv' := [(2, .int 0), (0, .ref (ad 0)), (1, .int x1)]) hx hb dX6_copyAll_53 rfl hl (by decide) rfl (fun ls hl => ?_)
  exact w_rm_copyAll_b54 C k hrc2 k z_1 x1 0 z' hf H locs ls hS (lv_sub hl [1, 2, 0] rfl)
set_option maxHeartbeats 4000000 in
set_option maxRecDepth 100000 in
theorem w_rm_copyAll_b2 {p : Program} {l : Launch} {e : Env} {s : State} {m : MethodId} {args : Array Value} {below : List Frame} {meth : Method} {c : Code} {D : va_G} {w0 : va_W} {ad : Nat → Nat} {cA : Nat → ClassId} (C : Cx p s m args meth c cX6_copyAll 3 none RX6 wsX6_copyAll D (tM cA)) (k : Nat) : ∀ (fu : Nat) (z : SS) (x1 : Int32) (z' : SS), rm_copyAll_b2 k fu z x1 = some z' → ∀ (H : Heap) (locs : List Loc) (ls : Array Slot), St D (va_A w0 s.heap.size) s.heap (wM ad cA z) H locs → lv_has ls 3 [(0, .ref (ad 0)), (1, .int x1)] → W p l e R_rm_copyAll s m args below meth c H locs 0 0 (MQ below (kV D (tM cA) w0 (wM ad cA z') s.heap.size) args s 0 0 (va_A w0 s.heap.size)) (F0 m 2 ls []) := by
  obtain ⟨hx, hb, hr, hml, hown, hts, hlk, hK⟩ := id C
  intro fu
  induction fu with
  | zero =>
    intro z x1 z' hf
    cases (show (none : Option SS) = some z' from hf)
  | succ fu ih =>
    intro z x1 z' hf H locs ls hS hl
    have hf : (if (z.1 26) ≤ x1 then some z else (if (z.1 24) = 0 then (if (z.1 23) < 0 then rm_copyAll_b41 k (rm_copyAll_b2 k fu) z x1 else (if (z.1 22) = (z.1 23) then some (si z 24 1) else rm_copyAll_b41 k (rm_copyAll_b2 k fu) z x1)) else some z)) = some z' := hf
    refine lv_iload_n hx hb dX6_copyAll_2 rfl (lv_at hl 1 rfl) ?_
    refine lv_aload_n hx hb dX6_copyAll_3 rfl (lv_at hl 0 rfl) ?_
    refine gM_26 C hS in_X6_copyAll_X6 lk_X6_copyAll_172 (v := (z.1 26)) rfl dX6_copyAll_4 ?_
    refine lv_icmp_ge (x := x1) (y := (z.1 26)) (tgt := 110) hx hb dX6_copyAll_7 (by decide) (fun hc => ?_) (fun hc => ?_)
    · replace hf := it_t hc hf
      cases hf
      exact rtv C hS dX6_copyAll_110
    · replace hf := it_f hc hf
      refine lv_aload_n hx hb dX6_copyAll_10 rfl (lv_at hl 0 rfl) ?_
      refine gM_24 C hS in_X6_copyAll_X6 lk_X6_copyAll_120 (v := (z.1 24)) rfl dX6_copyAll_11 ?_
      refine lv_if_ne (x := (z.1 24)) (tgt := 110) hx hb dX6_copyAll_14 (by decide) (fun hc => ?_) (fun hc => ?_)
      · replace hf := it_f hc hf
        cases hf
        exact rtv C hS dX6_copyAll_110
      · replace hf := it_t hc hf
        refine lv_aload_n hx hb dX6_copyAll_17 rfl (lv_at hl 0 rfl) ?_
        refine gM_23 C hS in_X6_copyAll_X6 lk_X6_copyAll_123 (v := (z.1 23)) rfl dX6_copyAll_18 ?_
        refine lv_if_lt (x := (z.1 23)) (tgt := 41) hx hb dX6_copyAll_21 (by decide) (fun hc => ?_) (fun hc => ?_)
        · replace hf := it_t hc hf
          exact w_rm_copyAll_b41 C k ih z x1 z' hf H locs ls hS (lv_sub hl [0, 1] rfl)
        · replace hf := it_f hc hf
          refine lv_aload_n hx hb dX6_copyAll_24 rfl (lv_at hl 0 rfl) ?_
          refine gM_22 C hS in_X6_copyAll_X6 lk_X6_copyAll_126 (v := (z.1 22)) rfl dX6_copyAll_25 ?_
          refine lv_aload_n hx hb dX6_copyAll_28 rfl (lv_at hl 0 rfl) ?_
          refine gM_23 C hS in_X6_copyAll_X6 lk_X6_copyAll_123 (v := (z.1 23)) rfl dX6_copyAll_29 ?_
          refine lv_icmp_ne (x := (z.1 22)) (y := (z.1 23)) (tgt := 41) hx hb dX6_copyAll_32 (by decide) (fun hc => ?_) (fun hc => ?_)
          · replace hf := it_f hc hf
            exact w_rm_copyAll_b41 C k ih z x1 z' hf H locs ls hS (lv_sub hl [0, 1] rfl)
          · replace hf := it_t hc hf
            refine lv_aload_n hx hb dX6_copyAll_35 rfl (lv_at hl 0 rfl) ?_
            refine lv_iconst (v := 1) hx hb dX6_copyAll_36 (by decide) ?_
            refine pM_24 C hS in_X6_copyAll_X6 lk_X6_copyAll_120 (v := 1) rfl rfl dX6_copyAll_37 (fun H locs hS => ?_)
            cases hf
            exact rtv C hS dX6_copyAll_40
set_option maxHeartbeats 4000000 in
set_option maxRecDepth 100000 in
theorem w_rm_copyAll_0 {p : Program} {l : Launch} {e : Env} {s : State} {m : MethodId} {args : Array Value} {below : List Frame} {meth : Method} {c : Code} {D : va_G} {w0 : va_W} {ad : Nat → Nat} {cA : Nat → ClassId} (C : Cx p s m args meth c cX6_copyAll 3 none RX6 wsX6_copyAll D (tM cA)) (k : Nat) (z : SS) (z' : SS) (hf : rm_copyAll k z = some z') : ∀ (H : Heap) (locs : List Loc) (ls : Array Slot), St D (va_A w0 s.heap.size) s.heap (wM ad cA z) H locs → lv_has ls 3 [(0, .ref (ad 0))] → W p l e R_rm_copyAll s m args below meth c H locs 0 0 (MQ below (kV D (tM cA) w0 (wM ad cA z') s.heap.size) args s 0 0 (va_A w0 s.heap.size)) (F0 m 0 ls []) := by
  obtain ⟨hx, hb, hr, hml, hown, hts, hlk, hK⟩ := id C
  intro H locs ls hS hl
  have hf : rm_copyAll_b2 k k z 0 = some z' := hf
  refine lv_iconst (v := 0) hx hb dX6_copyAll_0 (by decide) ?_
  refine lv_istore_n (lv' := [(1, .int 0), (0, .ref (ad 0))]) hx hb dX6_copyAll_1 rfl hl (by decide) rfl (fun ls hl => ?_)
  exact w_rm_copyAll_b2 C k k z 0 z' hf H locs ls hS (lv_sub hl [1, 0] rfl)
set_option maxHeartbeats 4000000 in
set_option maxRecDepth 100000 in
theorem c_rm_copyAll (l : Launch) (D : va_G) (ad : Nat → Nat) (cA : Nat → ClassId) (k : Nat) (z : SS) (z' : SS) (hf : rm_copyAll k z = some z') (sz : Nat) : Met l yX6_copyAll wsX6_copyAll R_rm_copyAll (kP D (tM cA) [.ref (ad 0)] (wM ad cA z) sz) (kV D (tM cA) (wM ad cA z) (wM ad cA z') sz) 0 0 (va_A (wM ad cA z) sz) := by
  refine ent (by decide) rfl rfl (Nat.le_of_ble_eq_true rfl) (fun p e s m args below meth c hsz C hS ls hl => ?_)
  subst hsz
  exact w_rm_copyAll_0 C k z z' hf s.heap [] ls hS hl
-- rm_clean: public int clean(int, int, int);
theorem lk_X6_clean_13 : Cond.fieldLink RX6 13 (TX6 3).1 (TX6 3).2.1 (TX6 3).2.2.1 ∈ wsX6_clean := by decide +kernel
theorem in_X6_clean_X6 : ∀ x ∈ u_ws RX6 TX6 29, x ∈ wsX6_clean := by decide +kernel
theorem lk_X6_clean_99 : Cond.fieldLink RX6 99 (TX6 14).1 (TX6 14).2.1 (TX6 14).2.2.1 ∈ wsX6_clean := by decide +kernel
theorem lk_X6_clean_7 : Cond.fieldLink RX6 7 (TX6 2).1 (TX6 2).2.1 (TX6 2).2.2.1 ∈ wsX6_clean := by decide +kernel
theorem lk_X6_clean_64 : Cond.fieldLink RX6 64 (TX6 0).1 (TX6 0).2.1 (TX6 0).2.2.1 ∈ wsX6_clean := by decide +kernel
theorem lk_X6_clean_16 : Cond.fieldLink RX6 16 (TX6 4).1 (TX6 4).2.1 (TX6 4).2.2.1 ∈ wsX6_clean := by decide +kernel
theorem lk_X6_clean_129 : Cond.fieldLink RX6 129 (TX6 8).1 (TX6 8).2.1 (TX6 8).2.2.1 ∈ wsX6_clean := by decide +kernel
theorem lk_X6_clean_120 : Cond.fieldLink RX6 120 (TX6 24).1 (TX6 24).2.1 (TX6 24).2.2.1 ∈ wsX6_clean := by decide +kernel
theorem lk_X6_clean_67 : Cond.fieldLink RX6 67 (TX6 1).1 (TX6 1).2.1 (TX6 1).2.2.1 ∈ wsX6_clean := by decide +kernel
theorem lk_X6_clean_149 : Cond.fieldLink RX6 149 (TX6 12).1 (TX6 12).2.1 (TX6 12).2.2.1 ∈ wsX6_clean := by decide +kernel
theorem lk_X6_clean_126 : Cond.fieldLink RX6 126 (TX6 22).1 (TX6 22).2.1 (TX6 22).2.2.1 ∈ wsX6_clean := by decide +kernel
theorem lk_X6_clean_123 : Cond.fieldLink RX6 123 (TX6 23).1 (TX6 23).2.1 (TX6 23).2.2.1 ∈ wsX6_clean := by decide +kernel
def R_rm_clean : Room := { frames := 8, cells := 0, slots := 0, locals := 192 }
def rm_clean_b173 (k : Nat) (rc68 : SS → Int32 → Int32 → Int32 → Int32 → Option (Int32 × SS)) : Nat → SS → Int32 → Int32 → Int32 → Int32 → Int32 → Option (Int32 × SS)
  | 0, _, _, _, _, _, _ => none
  | fu + 1, z, x1, x2, x4, x5, x6 => (if 200 ≤ x6 then (if ck x5 12 = true then rc68 (si (sa z 2 (Int32.toNatClampNeg x5) 0) 14 0) x1 x2 (x4 + 1) (x5 + 1) else none) else (if ck ((200 * x5) + x6) 2400 = true then rm_clean_b173 k rc68 fu (sa z 1 (Int32.toNatClampNeg ((200 * x5) + x6)) 0) x1 x2 x4 x5 (x6 + 1) else none))
def rm_clean_b68 (k : Nat) : Nat → SS → Int32 → Int32 → Int32 → Int32 → Option (Int32 × SS)
  | 0, _, _, _, _, _ => none
  | fu + 1, z, x1, x2, x4, x5 => (if (z.1 0) ≤ x5 then some (x4, z) else (bo (rm_isFree k z x5) fun r_1 => (if r_1 = 0 then (if x5 = (z.1 4) then rm_clean_b68 k fu z x1 x2 x4 (x5 + 1) else (if ck x5 12 = true then (bi (rm_livingIn k z x5) fun r_2 z_2 => (if ck x5 12 = true then (if (x1 * ((z_2.2 2) (Int32.toNatClampNeg x5))) ≤ ((((z.2 2) (Int32.toNatClampNeg x5)) - r_2) * x2) then (bo (rm_choose k z_2 x5) fun z_3 => (bo (rm_hasRoom k z_3) fun r_4 => (if r_4 = 0 then some (x4, z_3) else (bo (rm_copyAll k z_3) fun z_5 => (if (z_5.1 24) = 0 then rm_clean_b173 k (rm_clean_b68 k fu) k (si z_5 8 0) x1 x2 x4 x5 0 else (bo (rm_close k (si (si z_5 8 0) 24 0)) fun z_6 => some (x4, z_6))))))) else rm_clean_b68 k fu z_2 x1 x2 x4 (x5 + 1)) else none)) else none)) else rm_clean_b68 k fu z x1 x2 x4 (x5 + 1))))
def rm_clean (k : Nat) (z : SS) (x1 : Int32) (x2 : Int32) (x3 : Int32) : Option (Int32 × SS) :=
  (if (z.1 12) = 0 then (bo (rm_in k (si z 1 0) x2 1 100) fun r_1 => (if r_1 = 0 then some ((-2), (si z 1 0)) else (bo (rm_in k (si z 1 0) x1 0 x2) fun r_2 => (if r_2 = 0 then some ((-2), (si z 1 0)) else (if (-1) ≤ x3 then rm_clean_b68 k k (si (si (si (si (si z 1 0) 8 0) 22 0) 23 x3) 24 0) x1 x2 0 0 else some ((-2), (si z 1 0))))))) else some ((-3), (si z 1 0)))
set_option maxHeartbeats 4000000 in
set_option maxRecDepth 100000 in
theorem w_rm_clean_b173 {p : Program} {l : Launch} {e : Env} {s : State} {m : MethodId} {args : Array Value} {below : List Frame} {meth : Method} {c : Code} {D : va_G} {w0 : va_W} {ad : Nat → Nat} {cA : Nat → ClassId} (C : Cx p s m args meth c cX6_clean 7 (some .int) RX6 wsX6_clean D (tM cA)) (k : Nat) {rc68 : SS → Int32 → Int32 → Int32 → Int32 → Option (Int32 × SS)} (hrc68 : ∀ (z : SS) (x1 : Int32) (x2 : Int32) (x4 : Int32) (x5 : Int32) (r : Int32) (z' : SS), rc68 z x1 x2 x4 x5 = some (r, z') → ∀ (H : Heap) (locs : List Loc) (ls : Array Slot), St D (va_A w0 s.heap.size) s.heap (wM ad cA z) H locs → lv_has ls 7 [(0, .ref (ad 0)), (1, .int x1), (2, .int x2), (4, .int x4), (5, .int x5)] → W p l e R_rm_clean s m args below meth c H locs 0 0 (MQ below (kI D (tM cA) r w0 (wM ad cA z') s.heap.size) args s 0 0 (va_A w0 s.heap.size)) (F0 m 68 ls [])) : ∀ (fu : Nat) (z : SS) (x1 : Int32) (x2 : Int32) (x4 : Int32) (x5 : Int32) (x6 : Int32) (r : Int32) (z' : SS), rm_clean_b173 k rc68 fu z x1 x2 x4 x5 x6 = some (r, z') → ∀ (H : Heap) (locs : List Loc) (ls : Array Slot), St D (va_A w0 s.heap.size) s.heap (wM ad cA z) H locs → lv_has ls 7 [(0, .ref (ad 0)), (1, .int x1), (2, .int x2), (4, .int x4), (5, .int x5), (6, .int x6)] → W p l e R_rm_clean s m args below meth c H locs 0 0 (MQ below (kI D (tM cA) r w0 (wM ad cA z') s.heap.size) args s 0 0 (va_A w0 s.heap.size)) (F0 m 173 ls []) := by
  obtain ⟨hx, hb, hr, hml, hown, hts, hlk, hK⟩ := id C
  intro fu
  induction fu with
  | zero =>
    intro z x1 x2 x4 x5 x6 r z' hf
    cases (show (none : Option (Int32 × SS)) = some (r, z') from hf)
  | succ fu ih =>
    intro z x1 x2 x4 x5 x6 r z' hf H locs ls hS hl
    have hf : (if 200 ≤ x6 then (if ck x5 12 = true then rc68 (si (sa z 2 (Int32.toNatClampNeg x5) 0) 14 0) x1 x2 (x4 + 1) (x5 + 1) else none) else (if ck ((200 * x5) + x6) 2400 = true then rm_clean_b173 k rc68 fu (sa z 1 (Int32.toNatClampNeg ((200 * x5) + x6)) 0) x1 x2 x4 x5 (x6 + 1) else none)) = some (r, z') := hf
    refine lv_iload hx hb dX6_clean_173 (lv_at hl 5 rfl) ?_
    refine lv_sipush (v := 200) hx hb dX6_clean_175 (by decide) ?_
    refine lv_icmp_ge (x := x6) (y := 200) (tgt := 202) hx hb dX6_clean_178 (by decide) (fun hc => ?_) (fun hc => ?_)
    · replace hf := it_t hc hf
      refine lv_aload_n hx hb dX6_clean_202 rfl (lv_at hl 0 rfl) ?_
      refine hM_2 C hS in_X6_clean_X6 lk_X6_clean_13 dX6_clean_203 ?_
      refine lv_iload hx hb dX6_clean_206 (lv_at hl 4 rfl) ?_
      refine lv_iconst (v := 0) hx hb dX6_clean_208 (by decide) ?_
      obtain ⟨hck, hf⟩ := cs hf
      refine sM_2 C hS (i := x5) (x := 0) hck dX6_clean_209 (fun H locs hS => ?_)
      refine lv_aload_n hx hb dX6_clean_210 rfl (lv_at hl 0 rfl) ?_
      refine lv_iconst (v := 0) hx hb dX6_clean_211 (by decide) ?_
      refine pM_14 C hS in_X6_clean_X6 lk_X6_clean_99 (v := 0) rfl rfl dX6_clean_212 (fun H locs hS => ?_)
      refine lv_iinc (v := (x4 + 1)) (lv' := [(4, .int (x4 + 1)), (0, .ref (ad 0)), (1, .int x1), (2, .int x2), (5, .int x5), (6, .int x6)]) hx hb dX6_clean_215 hl (k := 3) rfl (congrArg (fun q => x4 + q) (by decide : Int32.ofInt 1 = (1 : Int32))) (by decide) rfl (fun ls hl => ?_)
      refine lv_iinc (v := (x5 + 1)) (lv' := [(5, .int (x5 + 1)), (4, .int (x4 + 1)), (0, .ref (ad 0)), (1, .int x1), (2, .int x2), (6, .int x6)]) hx hb dX6_clean_218 hl (k := 4) rfl (congrArg (fun q => x5 + q) (by decide : Int32.ofInt 1 = (1 : Int32))) (by decide) rfl (fun ls hl => ?_)
      refine lv_goto (tgt := 68) hx hb dX6_clean_221 (by decide) ?_
      exact hrc68 (si (sa z 2 (Int32.toNatClampNeg x5) 0) 14 0) x1 x2 (x4 + 1) (x5 + 1) r z' hf H locs ls hS (lv_sub hl [2, 3, 4, 1, 0] rfl)
    · replace hf := it_f hc hf
      refine lv_aload_n hx hb dX6_clean_181 rfl (lv_at hl 0 rfl) ?_
      refine hM_1 C hS in_X6_clean_X6 lk_X6_clean_7 dX6_clean_182 ?_
      refine lv_sipush (v := 200) hx hb dX6_clean_185 (by decide) ?_
      refine lv_iload hx hb dX6_clean_188 (lv_at hl 4 rfl) ?_
      refine lv_imul (x := 200) (y := x5) hx hb dX6_clean_190 ?_
      refine lv_iload hx hb dX6_clean_191 (lv_at hl 5 rfl) ?_
      refine lv_iadd (x := (200 * x5)) (y := x6) hx hb dX6_clean_193 ?_
      refine lv_iconst (v := 0) hx hb dX6_clean_194 (by decide) ?_
      obtain ⟨hck, hf⟩ := cs hf
      refine sM_1 C hS (i := ((200 * x5) + x6)) (x := 0) hck dX6_clean_195 (fun H locs hS => ?_)
      refine lv_iinc (v := (x6 + 1)) (lv' := [(6, .int (x6 + 1)), (0, .ref (ad 0)), (1, .int x1), (2, .int x2), (4, .int x4), (5, .int x5)]) hx hb dX6_clean_196 hl (k := 5) rfl (congrArg (fun q => x6 + q) (by decide : Int32.ofInt 1 = (1 : Int32))) (by decide) rfl (fun ls hl => ?_)
      refine lv_goto (tgt := 173) hx hb dX6_clean_199 (by decide) ?_
      exact ih (sa z 1 (Int32.toNatClampNeg ((200 * x5) + x6)) 0) x1 x2 x4 x5 (x6 + 1) r z' hf H locs ls hS (lv_sub hl [1, 2, 3, 4, 5, 0] rfl)
set_option maxHeartbeats 4000000 in
set_option maxRecDepth 100000 in
theorem w_rm_clean_b68 {p : Program} {l : Launch} {e : Env} {s : State} {m : MethodId} {args : Array Value} {below : List Frame} {meth : Method} {c : Code} {D : va_G} {w0 : va_W} {ad : Nat → Nat} {cA : Nat → ClassId} (C : Cx p s m args meth c cX6_clean 7 (some .int) RX6 wsX6_clean D (tM cA)) (k : Nat) : ∀ (fu : Nat) (z : SS) (x1 : Int32) (x2 : Int32) (x4 : Int32) (x5 : Int32) (r : Int32) (z' : SS), rm_clean_b68 k fu z x1 x2 x4 x5 = some (r, z') → ∀ (H : Heap) (locs : List Loc) (ls : Array Slot), St D (va_A w0 s.heap.size) s.heap (wM ad cA z) H locs → lv_has ls 7 [(0, .ref (ad 0)), (1, .int x1), (2, .int x2), (4, .int x4), (5, .int x5)] → W p l e R_rm_clean s m args below meth c H locs 0 0 (MQ below (kI D (tM cA) r w0 (wM ad cA z') s.heap.size) args s 0 0 (va_A w0 s.heap.size)) (F0 m 68 ls []) := by
  obtain ⟨hx, hb, hr, hml, hown, hts, hlk, hK⟩ := id C
  intro fu
  induction fu with
  | zero =>
    intro z x1 x2 x4 x5 r z' hf
    cases (show (none : Option (Int32 × SS)) = some (r, z') from hf)
  | succ fu ih =>
    intro z x1 x2 x4 x5 r z' hf H locs ls hS hl
    have hf : (if (z.1 0) ≤ x5 then some (x4, z) else (bo (rm_isFree k z x5) fun r_1 => (if r_1 = 0 then (if x5 = (z.1 4) then rm_clean_b68 k fu z x1 x2 x4 (x5 + 1) else (if ck x5 12 = true then (bi (rm_livingIn k z x5) fun r_2 z_2 => (if ck x5 12 = true then (if (x1 * ((z_2.2 2) (Int32.toNatClampNeg x5))) ≤ ((((z.2 2) (Int32.toNatClampNeg x5)) - r_2) * x2) then (bo (rm_choose k z_2 x5) fun z_3 => (bo (rm_hasRoom k z_3) fun r_4 => (if r_4 = 0 then some (x4, z_3) else (bo (rm_copyAll k z_3) fun z_5 => (if (z_5.1 24) = 0 then rm_clean_b173 k (rm_clean_b68 k fu) k (si z_5 8 0) x1 x2 x4 x5 0 else (bo (rm_close k (si (si z_5 8 0) 24 0)) fun z_6 => some (x4, z_6))))))) else rm_clean_b68 k fu z_2 x1 x2 x4 (x5 + 1)) else none)) else none)) else rm_clean_b68 k fu z x1 x2 x4 (x5 + 1)))) = some (r, z') := hf
    refine lv_iload hx hb dX6_clean_68 (lv_at hl 4 rfl) ?_
    refine lv_aload_n hx hb dX6_clean_70 rfl (lv_at hl 0 rfl) ?_
    refine gM_0 C hS in_X6_clean_X6 lk_X6_clean_64 (v := (z.1 0)) rfl dX6_clean_71 ?_
    refine lv_icmp_ge (x := x5) (y := (z.1 0)) (tgt := 224) hx hb dX6_clean_74 (by decide) (fun hc => ?_) (fun hc => ?_)
    · replace hf := it_t hc hf
      refine lv_iload hx hb dX6_clean_224 (lv_at hl 3 rfl) ?_
      cases hf
      exact rti C hS dX6_clean_226
    · replace hf := it_f hc hf
      refine lv_aload_n hx hb dX6_clean_77 rfl (lv_at hl 0 rfl) ?_
      refine lv_iload hx hb dX6_clean_78 (lv_at hl 4 rfl) ?_
      obtain ⟨r_1, hcl, hf⟩ := bo_s hf
      refine rcVi (n := 1) (As := [.int x5]) (rest := []) (q0 := 0) (w' := (wM ad cA z)) C hS (fun sz => c_rm_isFree l D ad cA k z x5 r_1 hcl sz) gX6_clean_X6_isFree rfl ⟨rfl, rfl⟩ (by decide +kernel) ⟨Nat.le_of_ble_eq_true rfl, Nat.le_of_ble_eq_true rfl⟩ oM_0 rfl rfl hl.1 rfl (Nat.le_of_ble_eq_true rfl) dX6_clean_80 (fun H locs hS => ?_)
      refine lv_if_ne (x := r_1) (tgt := 218) hx hb dX6_clean_83 (by decide) (fun hc => ?_) (fun hc => ?_)
      · replace hf := it_f hc hf
        refine lv_iinc (v := (x5 + 1)) (lv' := [(5, .int (x5 + 1)), (0, .ref (ad 0)), (1, .int x1), (2, .int x2), (4, .int x4)]) hx hb dX6_clean_218 hl (k := 4) rfl (congrArg (fun q => x5 + q) (by decide : Int32.ofInt 1 = (1 : Int32))) (by decide) rfl (fun ls hl => ?_)
        refine lv_goto (tgt := 68) hx hb dX6_clean_221 (by decide) ?_
        exact ih z x1 x2 x4 (x5 + 1) r z' hf H locs ls hS (lv_sub hl [1, 2, 3, 4, 0] rfl)
      · replace hf := it_t hc hf
        refine lv_iload hx hb dX6_clean_86 (lv_at hl 4 rfl) ?_
        refine lv_aload_n hx hb dX6_clean_88 rfl (lv_at hl 0 rfl) ?_
        refine gM_4 C hS in_X6_clean_X6 lk_X6_clean_16 (v := (z.1 4)) rfl dX6_clean_89 ?_
        refine lv_icmp_eq (x := x5) (y := (z.1 4)) (tgt := 218) hx hb dX6_clean_92 (by decide) (fun hc => ?_) (fun hc => ?_)
        · replace hf := it_t hc hf
          refine lv_iinc (v := (x5 + 1)) (lv' := [(5, .int (x5 + 1)), (0, .ref (ad 0)), (1, .int x1), (2, .int x2), (4, .int x4)]) hx hb dX6_clean_218 hl (k := 4) rfl (congrArg (fun q => x5 + q) (by decide : Int32.ofInt 1 = (1 : Int32))) (by decide) rfl (fun ls hl => ?_)
          refine lv_goto (tgt := 68) hx hb dX6_clean_221 (by decide) ?_
          exact ih z x1 x2 x4 (x5 + 1) r z' hf H locs ls hS (lv_sub hl [1, 2, 3, 4, 0] rfl)
        · replace hf := it_f hc hf
          refine lv_aload_n hx hb dX6_clean_95 rfl (lv_at hl 0 rfl) ?_
          refine hM_2 C hS in_X6_clean_X6 lk_X6_clean_13 dX6_clean_96 ?_
          refine lv_iload hx hb dX6_clean_99 (lv_at hl 4 rfl) ?_
          obtain ⟨hck, hf⟩ := cs hf
          refine lM_2 C hS (f := (z.2 2)) rfl (i := x5) hck dX6_clean_101 ?_
          refine lv_aload_n hx hb dX6_clean_102 rfl (lv_at hl 0 rfl) ?_
          refine lv_iload hx hb dX6_clean_103 (lv_at hl 4 rfl) ?_
          obtain ⟨r_2, z_2, hcl, hf⟩ := bi_s hf
          refine rcVi (n := 1) (As := [.int x5]) (rest := [.int ((z.2 2) (Int32.toNatClampNeg x5))]) (q0 := 0) (w' := (wM ad cA z_2)) C hS (fun sz => c_rm_livingIn l D ad cA k z x5 r_2 z_2 hcl sz) gX6_clean_X6_livingIn rfl ⟨rfl, rfl⟩ (by decide +kernel) ⟨Nat.le_of_ble_eq_true rfl, Nat.le_of_ble_eq_true rfl⟩ oM_0 rfl rfl hl.1 rfl (Nat.le_of_ble_eq_true rfl) dX6_clean_105 (fun H locs hS => ?_)
          refine lv_isub (x := ((z.2 2) (Int32.toNatClampNeg x5))) (y := r_2) hx hb dX6_clean_108 ?_
          refine lv_iload_n hx hb dX6_clean_109 rfl (lv_at hl 2 rfl) ?_
          refine lv_imul (x := (((z.2 2) (Int32.toNatClampNeg x5)) - r_2)) (y := x2) hx hb dX6_clean_110 ?_
          refine lv_iload_n hx hb dX6_clean_111 rfl (lv_at hl 1 rfl) ?_
          refine lv_aload_n hx hb dX6_clean_112 rfl (lv_at hl 0 rfl) ?_
          refine hM_2 C hS in_X6_clean_X6 lk_X6_clean_13 dX6_clean_113 ?_
          refine lv_iload hx hb dX6_clean_116 (lv_at hl 4 rfl) ?_
          obtain ⟨hck, hf⟩ := cs hf
          refine lM_2 C hS (f := (z_2.2 2)) rfl (i := x5) hck dX6_clean_118 ?_
          refine lv_imul (x := x1) (y := ((z_2.2 2) (Int32.toNatClampNeg x5))) hx hb dX6_clean_119 ?_
          refine lv_icmp_ge (x := ((((z.2 2) (Int32.toNatClampNeg x5)) - r_2) * x2)) (y := (x1 * ((z_2.2 2) (Int32.toNatClampNeg x5)))) (tgt := 126) hx hb dX6_clean_120 (by decide) (fun hc => ?_) (fun hc => ?_)
          · replace hf := it_t hc hf
            refine lv_aload_n hx hb dX6_clean_126 rfl (lv_at hl 0 rfl) ?_
            refine lv_iload hx hb dX6_clean_127 (lv_at hl 4 rfl) ?_
            obtain ⟨z_3, hcl, hf⟩ := bo_s hf
            refine rcVv (n := 1) (As := [.int x5]) (rest := []) (q0 := 0) (w' := (wM ad cA z_3)) C hS (fun sz => c_rm_choose l D ad cA k z_2 x5 z_3 hcl sz) gX6_clean_X6_choose rfl ⟨rfl, rfl⟩ (by decide +kernel) ⟨Nat.le_of_ble_eq_true rfl, Nat.le_of_ble_eq_true rfl⟩ oM_0 rfl rfl hl.1 rfl (Nat.le_of_ble_eq_true rfl) dX6_clean_129 (fun H locs hS => ?_)
            refine lv_aload_n hx hb dX6_clean_132 rfl (lv_at hl 0 rfl) ?_
            obtain ⟨r_4, hcl, hf⟩ := bo_s hf
            refine rcVi (n := 0) (As := []) (rest := []) (q0 := 0) (w' := (wM ad cA z_3)) C hS (fun sz => c_rm_hasRoom l D ad cA k z_3 r_4 hcl sz) gX6_clean_X6_hasRoom rfl ⟨rfl, rfl⟩ (by decide +kernel) ⟨Nat.le_of_ble_eq_true rfl, Nat.le_of_ble_eq_true rfl⟩ oM_0 rfl rfl hl.1 rfl (Nat.le_of_ble_eq_true rfl) dX6_clean_133 (fun H locs hS => ?_)
            refine lv_if_ne (x := r_4) (tgt := 142) hx hb dX6_clean_136 (by decide) (fun hc => ?_) (fun hc => ?_)
            · replace hf := it_f hc hf
              refine lv_aload_n hx hb dX6_clean_142 rfl (lv_at hl 0 rfl) ?_
              obtain ⟨z_5, hcl, hf⟩ := bo_s hf
              refine rcVv (n := 0) (As := []) (rest := []) (q0 := 0) (w' := (wM ad cA z_5)) C hS (fun sz => c_rm_copyAll l D ad cA k z_3 z_5 hcl sz) gX6_clean_X6_copyAll rfl ⟨rfl, rfl⟩ (by decide +kernel) ⟨Nat.le_of_ble_eq_true rfl, Nat.le_of_ble_eq_true rfl⟩ oM_0 rfl rfl hl.1 rfl (Nat.le_of_ble_eq_true rfl) dX6_clean_143 (fun H locs hS => ?_)
              refine lv_aload_n hx hb dX6_clean_146 rfl (lv_at hl 0 rfl) ?_
              refine lv_iconst (v := 0) hx hb dX6_clean_147 (by decide) ?_
              refine pM_8 C hS in_X6_clean_X6 lk_X6_clean_129 (v := 0) rfl rfl dX6_clean_148 (fun H locs hS => ?_)
              refine lv_aload_n hx hb dX6_clean_151 rfl (lv_at hl 0 rfl) ?_
              refine gM_24 C hS in_X6_clean_X6 lk_X6_clean_120 (v := (z_5.1 24)) ((si_o (by decide)).trans rfl) dX6_clean_152 ?_
              refine lv_if_eq (x := (z_5.1 24)) (tgt := 170) hx hb dX6_clean_155 (by decide) (fun hc => ?_) (fun hc => ?_)
              · replace hf := it_t hc hf
                refine lv_iconst (v := 0) hx hb dX6_clean_170 (by decide) ?_
                refine lv_istore (lv' := [(6, .int 0), (0, .ref (ad 0)), (1, .int x1), (2, .int x2), (4, .int x4), (5, .int x5)]) hx hb dX6_clean_171 hl (by decide) rfl (fun ls hl => ?_)
                exact w_rm_clean_b173 C k ih k (si z_5 8 0) x1 x2 x4 x5 0 r z' hf H locs ls hS (lv_sub hl [1, 2, 3, 4, 5, 0] rfl)
              · replace hf := it_f hc hf
                refine lv_aload_n hx hb dX6_clean_158 rfl (lv_at hl 0 rfl) ?_
                refine lv_iconst (v := 0) hx hb dX6_clean_159 (by decide) ?_
                refine pM_24 C hS in_X6_clean_X6 lk_X6_clean_120 (v := 0) rfl rfl dX6_clean_160 (fun H locs hS => ?_)
                refine lv_aload_n hx hb dX6_clean_163 rfl (lv_at hl 0 rfl) ?_
                obtain ⟨z_6, hcl, hf⟩ := bo_s hf
                refine rcVv (n := 0) (As := []) (rest := []) (q0 := 0) (w' := (wM ad cA z_6)) C hS (fun sz => c_rm_close l D ad cA k (si (si z_5 8 0) 24 0) z_6 hcl sz) gX6_clean_X6_close rfl ⟨rfl, rfl⟩ (by decide +kernel) ⟨Nat.le_of_ble_eq_true rfl, Nat.le_of_ble_eq_true rfl⟩ oM_0 rfl rfl hl.1 rfl (Nat.le_of_ble_eq_true rfl) dX6_clean_164 (fun H locs hS => ?_)
                refine lv_iload hx hb dX6_clean_167 (lv_at hl 3 rfl) ?_
                cases hf
                exact rti C hS dX6_clean_169
            · replace hf := it_t hc hf
              refine lv_iload hx hb dX6_clean_139 (lv_at hl 3 rfl) ?_
              cases hf
              exact rti C hS dX6_clean_141
          · replace hf := it_f hc hf
            refine lv_goto (tgt := 218) hx hb dX6_clean_123 (by decide) ?_
            refine lv_iinc (v := (x5 + 1)) (lv' := [(5, .int (x5 + 1)), (0, .ref (ad 0)), (1, .int x1), (2, .int x2), (4, .int x4)]) hx hb dX6_clean_218 hl (k := 4) rfl (congrArg (fun q => x5 + q) (by decide : Int32.ofInt 1 = (1 : Int32))) (by decide) rfl (fun ls hl => ?_)
            refine lv_goto (tgt := 68) hx hb dX6_clean_221 (by decide) ?_
            exact ih z_2 x1 x2 x4 (x5 + 1) r z' hf H locs ls hS (lv_sub hl [1, 2, 3, 4, 0] rfl)
set_option maxHeartbeats 4000000 in
set_option maxRecDepth 100000 in
theorem w_rm_clean_0 {p : Program} {l : Launch} {e : Env} {s : State} {m : MethodId} {args : Array Value} {below : List Frame} {meth : Method} {c : Code} {D : va_G} {w0 : va_W} {ad : Nat → Nat} {cA : Nat → ClassId} (C : Cx p s m args meth c cX6_clean 7 (some .int) RX6 wsX6_clean D (tM cA)) (k : Nat) (z : SS) (x1 : Int32) (x2 : Int32) (x3 : Int32) (r : Int32) (z' : SS) (hf : rm_clean k z x1 x2 x3 = some (r, z')) : ∀ (H : Heap) (locs : List Loc) (ls : Array Slot), St D (va_A w0 s.heap.size) s.heap (wM ad cA z) H locs → lv_has ls 7 [(0, .ref (ad 0)), (1, .int x1), (2, .int x2), (3, .int x3)] → W p l e R_rm_clean s m args below meth c H locs 0 0 (MQ below (kI D (tM cA) r w0 (wM ad cA z') s.heap.size) args s 0 0 (va_A w0 s.heap.size)) (F0 m 0 ls []) := by
  obtain ⟨hx, hb, hr, hml, hown, hts, hlk, hK⟩ := id C
  intro H locs ls hS hl
  have hf : (if (z.1 12) = 0 then (bo (rm_in k (si z 1 0) x2 1 100) fun r_1 => (if r_1 = 0 then some ((-2), (si z 1 0)) else (bo (rm_in k (si z 1 0) x1 0 x2) fun r_2 => (if r_2 = 0 then some ((-2), (si z 1 0)) else (if (-1) ≤ x3 then rm_clean_b68 k k (si (si (si (si (si z 1 0) 8 0) 22 0) 23 x3) 24 0) x1 x2 0 0 else some ((-2), (si z 1 0))))))) else some ((-3), (si z 1 0))) = some (r, z') := hf
  refine lv_aload_n hx hb dX6_clean_0 rfl (lv_at hl 0 rfl) ?_
  refine lv_iconst (v := 0) hx hb dX6_clean_1 (by decide) ?_
  refine pM_1 C hS in_X6_clean_X6 lk_X6_clean_67 (v := 0) rfl rfl dX6_clean_2 (fun H locs hS => ?_)
  refine lv_aload_n hx hb dX6_clean_5 rfl (lv_at hl 0 rfl) ?_
  refine gM_12 C hS in_X6_clean_X6 lk_X6_clean_149 (v := (z.1 12)) ((si_o (by decide)).trans rfl) dX6_clean_6 ?_
  refine lv_if_eq (x := (z.1 12)) (tgt := 15) hx hb dX6_clean_9 (by decide) (fun hc => ?_) (fun hc => ?_)
  · replace hf := it_t hc hf
    refine lv_iload_n hx hb dX6_clean_15 rfl (lv_at hl 2 rfl) ?_
    refine lv_iconst (v := 1) hx hb dX6_clean_16 (by decide) ?_
    refine lv_bipush (v := 100) hx hb dX6_clean_17 (by decide) ?_
    obtain ⟨r_1, hcl, hf⟩ := bo_s hf
    refine rcSi (n := 3) (As := [.int x2, .int 1, .int 100]) (rest := []) (w' := (wM ad cA (si z 1 0))) C hS (fun sz => c_rm_in l D ad cA k (si z 1 0) x2 1 100 r_1 hcl sz) gX6_clean_X6_in rfl ⟨rfl, rfl⟩ (by decide +kernel) ⟨Nat.le_of_ble_eq_true rfl, Nat.le_of_ble_eq_true rfl⟩ rfl hl.1 rfl (Nat.le_of_ble_eq_true rfl) dX6_clean_19 (fun H locs hS => ?_)
    refine lv_if_eq (x := r_1) (tgt := 39) hx hb dX6_clean_22 (by decide) (fun hc => ?_) (fun hc => ?_)
    · replace hf := it_t hc hf
      refine lv_bipush (v := (-2)) hx hb dX6_clean_39 (by decide) ?_
      cases hf
      exact rti C hS dX6_clean_41
    · replace hf := it_f hc hf
      refine lv_iload_n hx hb dX6_clean_25 rfl (lv_at hl 1 rfl) ?_
      refine lv_iconst (v := 0) hx hb dX6_clean_26 (by decide) ?_
      refine lv_iload_n hx hb dX6_clean_27 rfl (lv_at hl 2 rfl) ?_
      obtain ⟨r_2, hcl, hf⟩ := bo_s hf
      refine rcSi (n := 3) (As := [.int x1, .int 0, .int x2]) (rest := []) (w' := (wM ad cA (si z 1 0))) C hS (fun sz => c_rm_in l D ad cA k (si z 1 0) x1 0 x2 r_2 hcl sz) gX6_clean_X6_in rfl ⟨rfl, rfl⟩ (by decide +kernel) ⟨Nat.le_of_ble_eq_true rfl, Nat.le_of_ble_eq_true rfl⟩ rfl hl.1 rfl (Nat.le_of_ble_eq_true rfl) dX6_clean_28 (fun H locs hS => ?_)
      refine lv_if_eq (x := r_2) (tgt := 39) hx hb dX6_clean_31 (by decide) (fun hc => ?_) (fun hc => ?_)
      · replace hf := it_t hc hf
        refine lv_bipush (v := (-2)) hx hb dX6_clean_39 (by decide) ?_
        cases hf
        exact rti C hS dX6_clean_41
      · replace hf := it_f hc hf
        refine lv_iload_n hx hb dX6_clean_34 rfl (lv_at hl 3 rfl) ?_
        refine lv_iconst (v := (-1)) hx hb dX6_clean_35 (by decide) ?_
        refine lv_icmp_ge (x := x3) (y := (-1)) (tgt := 42) hx hb dX6_clean_36 (by decide) (fun hc => ?_) (fun hc => ?_)
        · replace hf := it_t hc hf
          refine lv_aload_n hx hb dX6_clean_42 rfl (lv_at hl 0 rfl) ?_
          refine lv_iconst (v := 0) hx hb dX6_clean_43 (by decide) ?_
          refine pM_8 C hS in_X6_clean_X6 lk_X6_clean_129 (v := 0) rfl rfl dX6_clean_44 (fun H locs hS => ?_)
          refine lv_aload_n hx hb dX6_clean_47 rfl (lv_at hl 0 rfl) ?_
          refine lv_iconst (v := 0) hx hb dX6_clean_48 (by decide) ?_
          refine pM_22 C hS in_X6_clean_X6 lk_X6_clean_126 (v := 0) rfl rfl dX6_clean_49 (fun H locs hS => ?_)
          refine lv_aload_n hx hb dX6_clean_52 rfl (lv_at hl 0 rfl) ?_
          refine lv_iload_n hx hb dX6_clean_53 rfl (lv_at hl 3 rfl) ?_
          refine pM_23 C hS in_X6_clean_X6 lk_X6_clean_123 (v := x3) rfl rfl dX6_clean_54 (fun H locs hS => ?_)
          refine lv_aload_n hx hb dX6_clean_57 rfl (lv_at hl 0 rfl) ?_
          refine lv_iconst (v := 0) hx hb dX6_clean_58 (by decide) ?_
          refine pM_24 C hS in_X6_clean_X6 lk_X6_clean_120 (v := 0) rfl rfl dX6_clean_59 (fun H locs hS => ?_)
          refine lv_iconst (v := 0) hx hb dX6_clean_62 (by decide) ?_
          refine lv_istore (lv' := [(4, .int 0), (0, .ref (ad 0)), (1, .int x1), (2, .int x2), (3, .int x3)]) hx hb dX6_clean_63 hl (by decide) rfl (fun ls hl => ?_)
          refine lv_iconst (v := 0) hx hb dX6_clean_65 (by decide) ?_
          refine lv_istore (lv' := [(5, .int 0), (4, .int 0), (0, .ref (ad 0)), (1, .int x1), (2, .int x2), (3, .int x3)]) hx hb dX6_clean_66 hl (by decide) rfl (fun ls hl => ?_)
          exact w_rm_clean_b68 C k k (si (si (si (si (si z 1 0) 8 0) 22 0) 23 x3) 24 0) x1 x2 0 0 r z' hf H locs ls hS (lv_sub hl [2, 3, 4, 1, 0] rfl)
        · replace hf := it_f hc hf
          refine lv_bipush (v := (-2)) hx hb dX6_clean_39 (by decide) ?_
          cases hf
          exact rti C hS dX6_clean_41
  · replace hf := it_f hc hf
    refine lv_bipush (v := (-3)) hx hb dX6_clean_12 (by decide) ?_
    cases hf
    exact rti C hS dX6_clean_14
set_option maxHeartbeats 4000000 in
set_option maxRecDepth 100000 in
theorem c_rm_clean (l : Launch) (D : va_G) (ad : Nat → Nat) (cA : Nat → ClassId) (k : Nat) (z : SS) (x1 : Int32) (x2 : Int32) (x3 : Int32) (r : Int32) (z' : SS) (hf : rm_clean k z x1 x2 x3 = some (r, z')) (sz : Nat) : Met l yX6_clean wsX6_clean R_rm_clean (kP D (tM cA) [.ref (ad 0), .int x1, .int x2, .int x3] (wM ad cA z) sz) (kI D (tM cA) r (wM ad cA z) (wM ad cA z') sz) 0 0 (va_A (wM ad cA z) sz) := by
  refine ent (by decide) rfl rfl (Nat.le_of_ble_eq_true rfl) (fun p e s m args below meth c hsz C hS ls hl => ?_)
  subst hsz
  exact w_rm_clean_0 C k z x1 x2 x3 r z' hf s.heap [] ls hS hl
-- rm_keysNow: private int keysNow();
theorem lc_X6_keysNow_111 : Cond.constant RX6 111 2147483647 ∈ wsX6_keysNow := by decide +kernel
def R_rm_keysNow : Room := { frames := 7, cells := 0, slots := 0, locals := 168 }
def rm_keysNow_b4 (k : Nat) : Nat → SS → Int32 → Int32 → Option (Int32 × SS)
  | 0, _, _, _ => none
  | fu + 1, z, x1, x2 => (if 1000 ≤ x2 then some (x1, z) else (bi (rm_has k z x2 2147483647) fun r_1 z_1 => (if r_1 < 0 then rm_keysNow_b4 k fu z_1 x1 (x2 + 1) else rm_keysNow_b4 k fu z_1 (x1 + 1) (x2 + 1))))
def rm_keysNow (k : Nat) (z : SS) : Option (Int32 × SS) :=
  rm_keysNow_b4 k k z 0 0
set_option maxHeartbeats 4000000 in
set_option maxRecDepth 100000 in
theorem w_rm_keysNow_b4 {p : Program} {l : Launch} {e : Env} {s : State} {m : MethodId} {args : Array Value} {below : List Frame} {meth : Method} {c : Code} {D : va_G} {w0 : va_W} {ad : Nat → Nat} {cA : Nat → ClassId} (C : Cx p s m args meth c cX6_keysNow 3 (some .int) RX6 wsX6_keysNow D (tM cA)) (k : Nat) : ∀ (fu : Nat) (z : SS) (x1 : Int32) (x2 : Int32) (r : Int32) (z' : SS), rm_keysNow_b4 k fu z x1 x2 = some (r, z') → ∀ (H : Heap) (locs : List Loc) (ls : Array Slot), St D (va_A w0 s.heap.size) s.heap (wM ad cA z) H locs → lv_has ls 3 [(0, .ref (ad 0)), (1, .int x1), (2, .int x2)] → W p l e R_rm_keysNow s m args below meth c H locs 0 0 (MQ below (kI D (tM cA) r w0 (wM ad cA z') s.heap.size) args s 0 0 (va_A w0 s.heap.size)) (F0 m 4 ls []) := by
  obtain ⟨hx, hb, hr, hml, hown, hts, hlk, hK⟩ := id C
  intro fu
  induction fu with
  | zero =>
    intro z x1 x2 r z' hf
    cases (show (none : Option (Int32 × SS)) = some (r, z') from hf)
  | succ fu ih =>
    intro z x1 x2 r z' hf H locs ls hS hl
    have hf : (if 1000 ≤ x2 then some (x1, z) else (bi (rm_has k z x2 2147483647) fun r_1 z_1 => (if r_1 < 0 then rm_keysNow_b4 k fu z_1 x1 (x2 + 1) else rm_keysNow_b4 k fu z_1 (x1 + 1) (x2 + 1)))) = some (r, z') := hf
    refine lv_iload_n hx hb dX6_keysNow_4 rfl (lv_at hl 2 rfl) ?_
    refine lv_sipush (v := 1000) hx hb dX6_keysNow_5 (by decide) ?_
    refine lv_icmp_ge (x := x2) (y := 1000) (tgt := 35) hx hb dX6_keysNow_8 (by decide) (fun hc => ?_) (fun hc => ?_)
    · replace hf := it_t hc hf
      refine lv_iload_n hx hb dX6_keysNow_35 rfl (lv_at hl 1 rfl) ?_
      cases hf
      exact rti C hS dX6_keysNow_36
    · replace hf := it_f hc hf
      refine lv_aload_n hx hb dX6_keysNow_11 rfl (lv_at hl 0 rfl) ?_
      refine lv_iload_n hx hb dX6_keysNow_12 rfl (lv_at hl 2 rfl) ?_
      refine lv_ldc (v := 2147483647) hx hb hown (hts _ lc_X6_keysNow_111) dX6_keysNow_13 ?_
      obtain ⟨r_1, z_1, hcl, hf⟩ := bi_s hf
      refine rcVi (n := 2) (As := [.int x2, .int 2147483647]) (rest := []) (q0 := 0) (w' := (wM ad cA z_1)) C hS (fun sz => c_rm_has l D ad cA k z x2 2147483647 r_1 z_1 hcl sz) gX6_keysNow_X6_has rfl ⟨rfl, rfl⟩ (by decide +kernel) ⟨Nat.le_of_ble_eq_true rfl, Nat.le_of_ble_eq_true rfl⟩ oM_0 rfl rfl hl.1 rfl (Nat.le_of_ble_eq_true rfl) dX6_keysNow_15 (fun H locs hS => ?_)
      refine lv_if_lt (x := r_1) (tgt := 27) hx hb dX6_keysNow_18 (by decide) (fun hc => ?_) (fun hc => ?_)
      · replace hf := it_t hc hf
        refine lv_iload_n hx hb dX6_keysNow_27 rfl (lv_at hl 1 rfl) ?_
        refine lv_istore_n (lv' := [(1, .int x1), (0, .ref (ad 0)), (2, .int x2)]) hx hb dX6_keysNow_28 rfl hl (by decide) rfl (fun ls hl => ?_)
        refine lv_iinc (v := (x2 + 1)) (lv' := [(2, .int (x2 + 1)), (1, .int x1), (0, .ref (ad 0))]) hx hb dX6_keysNow_29 hl (k := 2) rfl (congrArg (fun q => x2 + q) (by decide : Int32.ofInt 1 = (1 : Int32))) (by decide) rfl (fun ls hl => ?_)
        refine lv_goto (tgt := 4) hx hb dX6_keysNow_32 (by decide) ?_
        exact ih z_1 x1 (x2 + 1) r z' hf H locs ls hS (lv_sub hl [2, 1, 0] rfl)
      · replace hf := it_f hc hf
        refine lv_iload_n hx hb dX6_keysNow_21 rfl (lv_at hl 1 rfl) ?_
        refine lv_iconst (v := 1) hx hb dX6_keysNow_22 (by decide) ?_
        refine lv_iadd (x := x1) (y := 1) hx hb dX6_keysNow_23 ?_
        refine lv_goto (tgt := 28) hx hb dX6_keysNow_24 (by decide) ?_
        refine lv_istore_n (lv' := [(1, .int (x1 + 1)), (0, .ref (ad 0)), (2, .int x2)]) hx hb dX6_keysNow_28 rfl hl (by decide) rfl (fun ls hl => ?_)
        refine lv_iinc (v := (x2 + 1)) (lv' := [(2, .int (x2 + 1)), (1, .int (x1 + 1)), (0, .ref (ad 0))]) hx hb dX6_keysNow_29 hl (k := 2) rfl (congrArg (fun q => x2 + q) (by decide : Int32.ofInt 1 = (1 : Int32))) (by decide) rfl (fun ls hl => ?_)
        refine lv_goto (tgt := 4) hx hb dX6_keysNow_32 (by decide) ?_
        exact ih z_1 (x1 + 1) (x2 + 1) r z' hf H locs ls hS (lv_sub hl [2, 1, 0] rfl)
set_option maxHeartbeats 4000000 in
set_option maxRecDepth 100000 in
theorem w_rm_keysNow_0 {p : Program} {l : Launch} {e : Env} {s : State} {m : MethodId} {args : Array Value} {below : List Frame} {meth : Method} {c : Code} {D : va_G} {w0 : va_W} {ad : Nat → Nat} {cA : Nat → ClassId} (C : Cx p s m args meth c cX6_keysNow 3 (some .int) RX6 wsX6_keysNow D (tM cA)) (k : Nat) (z : SS) (r : Int32) (z' : SS) (hf : rm_keysNow k z = some (r, z')) : ∀ (H : Heap) (locs : List Loc) (ls : Array Slot), St D (va_A w0 s.heap.size) s.heap (wM ad cA z) H locs → lv_has ls 3 [(0, .ref (ad 0))] → W p l e R_rm_keysNow s m args below meth c H locs 0 0 (MQ below (kI D (tM cA) r w0 (wM ad cA z') s.heap.size) args s 0 0 (va_A w0 s.heap.size)) (F0 m 0 ls []) := by
  obtain ⟨hx, hb, hr, hml, hown, hts, hlk, hK⟩ := id C
  intro H locs ls hS hl
  have hf : rm_keysNow_b4 k k z 0 0 = some (r, z') := hf
  refine lv_iconst (v := 0) hx hb dX6_keysNow_0 (by decide) ?_
  refine lv_istore_n (lv' := [(1, .int 0), (0, .ref (ad 0))]) hx hb dX6_keysNow_1 rfl hl (by decide) rfl (fun ls hl => ?_)
  refine lv_iconst (v := 0) hx hb dX6_keysNow_2 (by decide) ?_
  refine lv_istore_n (lv' := [(2, .int 0), (1, .int 0), (0, .ref (ad 0))]) hx hb dX6_keysNow_3 rfl hl (by decide) rfl (fun ls hl => ?_)
  exact w_rm_keysNow_b4 C k k z 0 0 r z' hf H locs ls hS (lv_sub hl [2, 1, 0] rfl)
set_option maxHeartbeats 4000000 in
set_option maxRecDepth 100000 in
theorem c_rm_keysNow (l : Launch) (D : va_G) (ad : Nat → Nat) (cA : Nat → ClassId) (k : Nat) (z : SS) (r : Int32) (z' : SS) (hf : rm_keysNow k z = some (r, z')) (sz : Nat) : Met l yX6_keysNow wsX6_keysNow R_rm_keysNow (kP D (tM cA) [.ref (ad 0)] (wM ad cA z) sz) (kI D (tM cA) r (wM ad cA z) (wM ad cA z') sz) 0 0 (va_A (wM ad cA z) sz) := by
  refine ent (by decide) rfl rfl (Nat.le_of_ble_eq_true rfl) (fun p e s m args below meth c hsz C hS ls hl => ?_)
  subst hsz
  exact w_rm_keysNow_0 C k z r z' hf s.heap [] ls hS hl
