-- rm_makeRow: private void makeRow(int, int, int);
theorem lk_X6_makeRow_51 : Cond.fieldLink RX6 51 (TX6 21).1 (TX6 21).2.1 (TX6 21).2.2.1 ∈ wsX6_makeRow := by decide +kernel
theorem in_X6_makeRow_X6 : ∀ x ∈ u_ws RX6 TX6 29, x ∈ wsX6_makeRow := by decide +kernel
theorem lc_X6_makeRow_76 : Cond.constantLong RX6 76 255 ∈ wsX6_makeRow := by decide +kernel
theorem lk_X6_makeRow_20 : Cond.fieldLink RX6 20 (TX6 7).1 (TX6 7).2.1 (TX6 7).2.2.1 ∈ wsX6_makeRow := by decide +kernel
theorem lk_X6_makeRow_132 : Cond.fieldLink RX6 132 (TX6 5).1 (TX6 5).2.1 (TX6 5).2.2.1 ∈ wsX6_makeRow := by decide +kernel
def R_rm_makeRow : Room := { frames := 1, cells := 0, slots := 0, locals := 24 }
def rm_makeRow_b149 (k : Nat) : Nat → SS → Int32 → Int64 → Int32 → Option SS
  | 0, _, _, _, _ => none
  | fu + 1, z, x3, x4, x6 => (if 8 ≤ x6 then some z else (if ck ((8 + x3) + x6) 36 = true then rm_makeRow_b149 k fu (sa z 12 (Int32.toNatClampNeg ((8 + x3) + x6)) (Int64.toInt32 ((jlushr x4 (56 - (8 * x6))) &&& 255))) x3 x4 (x6 + 1) else none))
def rm_makeRow_b117 (k : Nat) : Nat → SS → Int32 → Int64 → Int32 → Option SS
  | 0, _, _, _, _ => none
  | fu + 1, z, x3, x4, x6 => (if (8 + x3) ≤ x6 then rm_makeRow_b149 k k z x3 x4 0 else (if ck x6 36 = true then (bo (rm_step k z x4 ((z.2 12) (Int32.toNatClampNeg x6))) fun r_1 => rm_makeRow_b117 k fu z x3 r_1 (x6 + 1)) else none))
def rm_makeRow_b82 (k : Nat) : Nat → SS → Int32 → Int32 → Option SS
  | 0, _, _, _ => none
  | fu + 1, z, x3, x4 => (if x3 ≤ x4 then rm_makeRow_b117 k k z x3 0 0 else (if ck x4 20 = true then (if ck (8 + x4) 36 = true then rm_makeRow_b82 k fu (sa z 12 (Int32.toNatClampNeg (8 + x4)) ((z.2 3) (Int32.toNatClampNeg x4))) x3 (x4 + 1) else none) else none))
def rm_makeRow_b31 (k : Nat) : Nat → SS → Int32 → Int32 → Option SS
  | 0, _, _, _ => none
  | fu + 1, z, x3, x4 => (if 4 ≤ x4 then (if ck 7 36 = true then rm_makeRow_b82 k k (sa z 12 (Int32.toNatClampNeg 7) x3) x3 0 else none) else (if ck (3 + x4) 36 = true then rm_makeRow_b31 k fu (sa z 12 (Int32.toNatClampNeg (3 + x4)) ((jushr ((z.1 5) + 1) (24 - (8 * x4))) &&& 255)) x3 (x4 + 1) else none))
def rm_makeRow (k : Nat) (z : SS) (x1 : Int32) (x2 : Int32) (x3 : Int32) : Option SS :=
  (if ck 0 36 = true then (if ck 1 36 = true then (if ck 2 36 = true then rm_makeRow_b31 k k (sa (sa (sa z 12 (Int32.toNatClampNeg 0) x1) 12 (Int32.toNatClampNeg 1) (x2 >>> (8 &&& 31))) 12 (Int32.toNatClampNeg 2) (x2 &&& 255)) x3 0 else none) else none) else none)
set_option maxHeartbeats 4000000 in
set_option maxRecDepth 100000 in
theorem w_rm_makeRow_b149 {p : Program} {l : Launch} {e : Env} {s : State} {m : MethodId} {args : Array Value} {below : List Frame} {meth : Method} {c : Code} {D : va_G} {w0 : va_W} {ad : Nat → Nat} {cA : Nat → ClassId} (C : Cx p s m args meth c cX6_makeRow 7 none RX6 wsX6_makeRow D (tM cA)) (k : Nat) : ∀ (fu : Nat) (z : SS) (x3 : Int32) (x4 : Int64) (x6 : Int32) (z' : SS), rm_makeRow_b149 k fu z x3 x4 x6 = some z' → ∀ (H : Heap) (locs : List Loc) (ls : Array Slot), St D (va_A w0 s.heap.size) s.heap (wM ad cA z) H locs → lv_has ls 7 [(0, .ref (ad 0)), (3, .int x3), (4, .long x4), (6, .int x6)] → W p l e R_rm_makeRow s m args below meth c H locs 0 0 (MQ below (kV D (tM cA) w0 (wM ad cA z') s.heap.size) args s 0 0 (va_A w0 s.heap.size)) (F0 m 149 ls []) := by
  obtain ⟨hx, hb, hr, hml, hown, hts, hlk, hK⟩ := id C
  intro fu
  induction fu with
  | zero =>
    intro z x3 x4 x6 z' hf
    cases (show (none : Option SS) = some z' from hf)
  | succ fu ih =>
    intro z x3 x4 x6 z' hf H locs ls hS hl
    have hf : (if 8 ≤ x6 then some z else (if ck ((8 + x3) + x6) 36 = true then rm_makeRow_b149 k fu (sa z 12 (Int32.toNatClampNeg ((8 + x3) + x6)) (Int64.toInt32 ((jlushr x4 (56 - (8 * x6))) &&& 255))) x3 x4 (x6 + 1) else none)) = some z' := hf
    refine lv_iload hx hb dX6_makeRow_149 (lv_at hl 3 rfl) ?_
    refine lv_bipush (v := 8) hx hb dX6_makeRow_151 (by decide) ?_
    refine lv_icmp_ge (x := x6) (y := 8) (tgt := 190) hx hb dX6_makeRow_153 (by decide) (fun hc => ?_) (fun hc => ?_)
    · replace hf := it_t hc hf
      cases hf
      exact rtv C hS dX6_makeRow_190
    · replace hf := it_f hc hf
      refine lv_aload_n hx hb dX6_makeRow_156 rfl (lv_at hl 0 rfl) ?_
      refine hM_12 C hS in_X6_makeRow_X6 lk_X6_makeRow_51 dX6_makeRow_157 ?_
      refine lv_bipush (v := 8) hx hb dX6_makeRow_160 (by decide) ?_
      refine lv_iload_n hx hb dX6_makeRow_162 rfl (lv_at hl 1 rfl) ?_
      refine lv_iadd (x := 8) (y := x3) hx hb dX6_makeRow_163 ?_
      refine lv_iload hx hb dX6_makeRow_164 (lv_at hl 3 rfl) ?_
      refine lv_iadd (x := (8 + x3)) (y := x6) hx hb dX6_makeRow_166 ?_
      refine lv_lload hx hb dX6_makeRow_167 (lv_at hl 2 rfl) ?_
      refine lv_bipush (v := 56) hx hb dX6_makeRow_169 (by decide) ?_
      refine lv_bipush (v := 8) hx hb dX6_makeRow_171 (by decide) ?_
      refine lv_iload hx hb dX6_makeRow_173 (lv_at hl 3 rfl) ?_
      refine lv_imul (x := 8) (y := x6) hx hb dX6_makeRow_175 ?_
      refine lv_isub (x := 56) (y := (8 * x6)) hx hb dX6_makeRow_176 ?_
      refine lv_lushr (x := x4) (y := (56 - (8 * x6))) (v := (jlushr x4 (56 - (8 * x6)))) hx hb dX6_makeRow_177 rfl ?_
      refine lv_ldc2 (v := 255) hx hb hown (hts _ lc_X6_makeRow_76) dX6_makeRow_178 ?_
      refine lv_land (x := (jlushr x4 (56 - (8 * x6)))) (y := 255) hx hb dX6_makeRow_181 ?_
      refine lv_l2i (x := ((jlushr x4 (56 - (8 * x6))) &&& 255)) (v := (Int64.toInt32 ((jlushr x4 (56 - (8 * x6))) &&& 255))) hx hb dX6_makeRow_182 rfl ?_
      obtain ⟨hck, hf⟩ := cs hf
      refine sM_12 C hS (i := ((8 + x3) + x6)) (x := (Int64.toInt32 ((jlushr x4 (56 - (8 * x6))) &&& 255))) hck dX6_makeRow_183 (fun H locs hS => ?_)
      refine lv_iinc (v := (x6 + 1)) (lv' := [(6, .int (x6 + 1)), (0, .ref (ad 0)), (3, .int x3), (4, .long x4)]) hx hb dX6_makeRow_184 hl (k := 3) rfl (congrArg (fun q => x6 + q) (by decide : Int32.ofInt 1 = (1 : Int32))) (by decide) rfl (fun ls hl => ?_)
      refine lv_goto (tgt := 149) hx hb dX6_makeRow_187 (by decide) ?_
      exact ih (sa z 12 (Int32.toNatClampNeg ((8 + x3) + x6)) (Int64.toInt32 ((jlushr x4 (56 - (8 * x6))) &&& 255))) x3 x4 (x6 + 1) z' hf H locs ls hS (lv_sub hl [1, 2, 3, 0] rfl)
set_option maxHeartbeats 4000000 in
set_option maxRecDepth 100000 in
theorem w_rm_makeRow_b117 {p : Program} {l : Launch} {e : Env} {s : State} {m : MethodId} {args : Array Value} {below : List Frame} {meth : Method} {c : Code} {D : va_G} {w0 : va_W} {ad : Nat → Nat} {cA : Nat → ClassId} (C : Cx p s m args meth c cX6_makeRow 7 none RX6 wsX6_makeRow D (tM cA)) (k : Nat) : ∀ (fu : Nat) (z : SS) (x3 : Int32) (x4 : Int64) (x6 : Int32) (z' : SS), rm_makeRow_b117 k fu z x3 x4 x6 = some z' → ∀ (H : Heap) (locs : List Loc) (ls : Array Slot), St D (va_A w0 s.heap.size) s.heap (wM ad cA z) H locs → lv_has ls 7 [(0, .ref (ad 0)), (3, .int x3), (4, .long x4), (6, .int x6)] → W p l e R_rm_makeRow s m args below meth c H locs 0 0 (MQ below (kV D (tM cA) w0 (wM ad cA z') s.heap.size) args s 0 0 (va_A w0 s.heap.size)) (F0 m 117 ls []) := by
  obtain ⟨hx, hb, hr, hml, hown, hts, hlk, hK⟩ := id C
  intro fu
  induction fu with
  | zero =>
    intro z x3 x4 x6 z' hf
    cases (show (none : Option SS) = some z' from hf)
  | succ fu ih =>
    intro z x3 x4 x6 z' hf H locs ls hS hl
    have hf : (if (8 + x3) ≤ x6 then rm_makeRow_b149 k k z x3 x4 0 else (if ck x6 36 = true then (bo (rm_step k z x4 ((z.2 12) (Int32.toNatClampNeg x6))) fun r_1 => rm_makeRow_b117 k fu z x3 r_1 (x6 + 1)) else none)) = some z' := hf
    refine lv_iload hx hb dX6_makeRow_117 (lv_at hl 3 rfl) ?_
    refine lv_bipush (v := 8) hx hb dX6_makeRow_119 (by decide) ?_
    refine lv_iload_n hx hb dX6_makeRow_121 rfl (lv_at hl 1 rfl) ?_
    refine lv_iadd (x := 8) (y := x3) hx hb dX6_makeRow_122 ?_
    refine lv_icmp_ge (x := x6) (y := (8 + x3)) (tgt := 146) hx hb dX6_makeRow_123 (by decide) (fun hc => ?_) (fun hc => ?_)
    · replace hf := it_t hc hf
      refine lv_iconst (v := 0) hx hb dX6_makeRow_146 (by decide) ?_
      refine lv_istore (lv' := [(6, .int 0), (0, .ref (ad 0)), (3, .int x3), (4, .long x4)]) hx hb dX6_makeRow_147 hl (by decide) rfl (fun ls hl => ?_)
      exact w_rm_makeRow_b149 C k k z x3 x4 0 z' hf H locs ls hS (lv_sub hl [1, 2, 3, 0] rfl)
    · replace hf := it_f hc hf
      refine lv_lload hx hb dX6_makeRow_126 (lv_at hl 2 rfl) ?_
      refine lv_aload_n hx hb dX6_makeRow_128 rfl (lv_at hl 0 rfl) ?_
      refine hM_12 C hS in_X6_makeRow_X6 lk_X6_makeRow_51 dX6_makeRow_129 ?_
      refine lv_iload hx hb dX6_makeRow_132 (lv_at hl 3 rfl) ?_
      obtain ⟨hck, hf⟩ := cs hf
      refine lM_12 C hS (f := (z.2 12)) rfl (i := x6) hck dX6_makeRow_134 ?_
      obtain ⟨r_1, hcl, hf⟩ := bo_s hf
      refine rcSl (n := 2) (As := [.long x4, .int ((z.2 12) (Int32.toNatClampNeg x6))]) (rest := []) (w' := (wM ad cA z)) C hS (fun sz => c_rm_step l D ad cA k z x4 ((z.2 12) (Int32.toNatClampNeg x6)) r_1 hcl sz) gX6_makeRow_X6_step rfl ⟨rfl, rfl⟩ (by decide +kernel) ⟨Nat.le_of_ble_eq_true rfl, Nat.le_of_ble_eq_true rfl⟩ rfl hl.1 rfl (Nat.le_of_ble_eq_true rfl) dX6_makeRow_135 (fun H locs hS => ?_)
      refine lv_lstore (lv' := [(4, .long r_1), (0, .ref (ad 0)), (3, .int x3), (6, .int x6)]) hx hb dX6_makeRow_138 hl (by decide) rfl (fun ls hl => ?_)
      refine lv_iinc (v := (x6 + 1)) (lv' := [(6, .int (x6 + 1)), (4, .long r_1), (0, .ref (ad 0)), (3, .int x3)]) hx hb dX6_makeRow_140 hl (k := 3) rfl (congrArg (fun q => x6 + q) (by decide : Int32.ofInt 1 = (1 : Int32))) (by decide) rfl (fun ls hl => ?_)
      refine lv_goto (tgt := 117) hx hb dX6_makeRow_143 (by decide) ?_
      exact ih z x3 r_1 (x6 + 1) z' hf H locs ls hS (lv_sub hl [2, 3, 1, 0] rfl)
set_option maxHeartbeats 4000000 in
set_option maxRecDepth 100000 in
theorem w_rm_makeRow_b82 {p : Program} {l : Launch} {e : Env} {s : State} {m : MethodId} {args : Array Value} {below : List Frame} {meth : Method} {c : Code} {D : va_G} {w0 : va_W} {ad : Nat → Nat} {cA : Nat → ClassId} (C : Cx p s m args meth c cX6_makeRow 7 none RX6 wsX6_makeRow D (tM cA)) (k : Nat) : ∀ (fu : Nat) (z : SS) (x3 : Int32) (x4 : Int32) (z' : SS), rm_makeRow_b82 k fu z x3 x4 = some z' → ∀ (H : Heap) (locs : List Loc) (ls : Array Slot), St D (va_A w0 s.heap.size) s.heap (wM ad cA z) H locs → lv_has ls 7 [(0, .ref (ad 0)), (3, .int x3), (4, .int x4)] → W p l e R_rm_makeRow s m args below meth c H locs 0 0 (MQ below (kV D (tM cA) w0 (wM ad cA z') s.heap.size) args s 0 0 (va_A w0 s.heap.size)) (F0 m 82 ls []) := by
  obtain ⟨hx, hb, hr, hml, hown, hts, hlk, hK⟩ := id C
  intro fu
  induction fu with
  | zero =>
    intro z x3 x4 z' hf
    cases (show (none : Option SS) = some z' from hf)
  | succ fu ih =>
    intro z x3 x4 z' hf H locs ls hS hl
    have hf : (if x3 ≤ x4 then rm_makeRow_b117 k k z x3 0 0 else (if ck x4 20 = true then (if ck (8 + x4) 36 = true then rm_makeRow_b82 k fu (sa z 12 (Int32.toNatClampNeg (8 + x4)) ((z.2 3) (Int32.toNatClampNeg x4))) x3 (x4 + 1) else none) else none)) = some z' := hf
    refine lv_iload hx hb dX6_makeRow_82 (lv_at hl 2 rfl) ?_
    refine lv_iload_n hx hb dX6_makeRow_84 rfl (lv_at hl 1 rfl) ?_
    refine lv_icmp_ge (x := x4) (y := x3) (tgt := 111) hx hb dX6_makeRow_85 (by decide) (fun hc => ?_) (fun hc => ?_)
    · replace hf := it_t hc hf
      refine lv_lconst (v := 0) hx hb dX6_makeRow_111 (by decide) ?_
      refine lv_lstore (lv' := [(4, .long 0), (0, .ref (ad 0)), (3, .int x3)]) hx hb dX6_makeRow_112 hl (by decide) rfl (fun ls hl => ?_)
      refine lv_iconst (v := 0) hx hb dX6_makeRow_114 (by decide) ?_
      refine lv_istore (lv' := [(6, .int 0), (4, .long 0), (0, .ref (ad 0)), (3, .int x3)]) hx hb dX6_makeRow_115 hl (by decide) rfl (fun ls hl => ?_)
      exact w_rm_makeRow_b117 C k k z x3 0 0 z' hf H locs ls hS (lv_sub hl [2, 3, 1, 0] rfl)
    · replace hf := it_f hc hf
      refine lv_aload_n hx hb dX6_makeRow_88 rfl (lv_at hl 0 rfl) ?_
      refine hM_12 C hS in_X6_makeRow_X6 lk_X6_makeRow_51 dX6_makeRow_89 ?_
      refine lv_bipush (v := 8) hx hb dX6_makeRow_92 (by decide) ?_
      refine lv_iload hx hb dX6_makeRow_94 (lv_at hl 2 rfl) ?_
      refine lv_iadd (x := 8) (y := x4) hx hb dX6_makeRow_96 ?_
      refine lv_aload_n hx hb dX6_makeRow_97 rfl (lv_at hl 0 rfl) ?_
      refine hM_3 C hS in_X6_makeRow_X6 lk_X6_makeRow_20 dX6_makeRow_98 ?_
      refine lv_iload hx hb dX6_makeRow_101 (lv_at hl 2 rfl) ?_
      obtain ⟨hck, hf⟩ := cs hf
      refine lM_3 C hS (f := (z.2 3)) rfl (i := x4) hck dX6_makeRow_103 ?_
      obtain ⟨hck, hf⟩ := cs hf
      refine sM_12 C hS (i := (8 + x4)) (x := ((z.2 3) (Int32.toNatClampNeg x4))) hck dX6_makeRow_104 (fun H locs hS => ?_)
      refine lv_iinc (v := (x4 + 1)) (lv' := [(4, .int (x4 + 1)), (0, .ref (ad 0)), (3, .int x3)]) hx hb dX6_makeRow_105 hl (k := 2) rfl (congrArg (fun q => x4 + q) (by decide : Int32.ofInt 1 = (1 : Int32))) (by decide) rfl (fun ls hl => ?_)
      refine lv_goto (tgt := 82) hx hb dX6_makeRow_108 (by decide) ?_
      exact ih (sa z 12 (Int32.toNatClampNeg (8 + x4)) ((z.2 3) (Int32.toNatClampNeg x4))) x3 (x4 + 1) z' hf H locs ls hS (lv_sub hl [1, 2, 0] rfl)
set_option maxHeartbeats 4000000 in
set_option maxRecDepth 100000 in
theorem w_rm_makeRow_b31 {p : Program} {l : Launch} {e : Env} {s : State} {m : MethodId} {args : Array Value} {below : List Frame} {meth : Method} {c : Code} {D : va_G} {w0 : va_W} {ad : Nat → Nat} {cA : Nat → ClassId} (C : Cx p s m args meth c cX6_makeRow 7 none RX6 wsX6_makeRow D (tM cA)) (k : Nat) : ∀ (fu : Nat) (z : SS) (x3 : Int32) (x4 : Int32) (z' : SS), rm_makeRow_b31 k fu z x3 x4 = some z' → ∀ (H : Heap) (locs : List Loc) (ls : Array Slot), St D (va_A w0 s.heap.size) s.heap (wM ad cA z) H locs → lv_has ls 7 [(0, .ref (ad 0)), (3, .int x3), (4, .int x4)] → W p l e R_rm_makeRow s m args below meth c H locs 0 0 (MQ below (kV D (tM cA) w0 (wM ad cA z') s.heap.size) args s 0 0 (va_A w0 s.heap.size)) (F0 m 31 ls []) := by
  obtain ⟨hx, hb, hr, hml, hown, hts, hlk, hK⟩ := id C
  intro fu
  induction fu with
  | zero =>
    intro z x3 x4 z' hf
    cases (show (none : Option SS) = some z' from hf)
  | succ fu ih =>
    intro z x3 x4 z' hf H locs ls hS hl
    have hf : (if 4 ≤ x4 then (if ck 7 36 = true then rm_makeRow_b82 k k (sa z 12 (Int32.toNatClampNeg 7) x3) x3 0 else none) else (if ck (3 + x4) 36 = true then rm_makeRow_b31 k fu (sa z 12 (Int32.toNatClampNeg (3 + x4)) ((jushr ((z.1 5) + 1) (24 - (8 * x4))) &&& 255)) x3 (x4 + 1) else none)) = some z' := hf
    refine lv_iload hx hb dX6_makeRow_31 (lv_at hl 2 rfl) ?_
    refine lv_iconst (v := 4) hx hb dX6_makeRow_33 (by decide) ?_
    refine lv_icmp_ge (x := x4) (y := 4) (tgt := 71) hx hb dX6_makeRow_34 (by decide) (fun hc => ?_) (fun hc => ?_)
    · replace hf := it_t hc hf
      refine lv_aload_n hx hb dX6_makeRow_71 rfl (lv_at hl 0 rfl) ?_
      refine hM_12 C hS in_X6_makeRow_X6 lk_X6_makeRow_51 dX6_makeRow_72 ?_
      refine lv_bipush (v := 7) hx hb dX6_makeRow_75 (by decide) ?_
      refine lv_iload_n hx hb dX6_makeRow_77 rfl (lv_at hl 1 rfl) ?_
      obtain ⟨hck, hf⟩ := cs hf
      refine sM_12 C hS (i := 7) (x := x3) hck dX6_makeRow_78 (fun H locs hS => ?_)
      refine lv_iconst (v := 0) hx hb dX6_makeRow_79 (by decide) ?_
      refine lv_istore (lv' := [(4, .int 0), (0, .ref (ad 0)), (3, .int x3)]) hx hb dX6_makeRow_80 hl (by decide) rfl (fun ls hl => ?_)
      exact w_rm_makeRow_b82 C k k (sa z 12 (Int32.toNatClampNeg 7) x3) x3 0 z' hf H locs ls hS (lv_sub hl [1, 2, 0] rfl)
    · replace hf := it_f hc hf
      refine lv_aload_n hx hb dX6_makeRow_37 rfl (lv_at hl 0 rfl) ?_
      refine hM_12 C hS in_X6_makeRow_X6 lk_X6_makeRow_51 dX6_makeRow_38 ?_
      refine lv_iconst (v := 3) hx hb dX6_makeRow_41 (by decide) ?_
      refine lv_iload hx hb dX6_makeRow_42 (lv_at hl 2 rfl) ?_
      refine lv_iadd (x := 3) (y := x4) hx hb dX6_makeRow_44 ?_
      refine lv_aload_n hx hb dX6_makeRow_45 rfl (lv_at hl 0 rfl) ?_
      refine gM_5 C hS in_X6_makeRow_X6 lk_X6_makeRow_132 (v := (z.1 5)) rfl dX6_makeRow_46 ?_
      refine lv_iconst (v := 1) hx hb dX6_makeRow_49 (by decide) ?_
      refine lv_iadd (x := (z.1 5)) (y := 1) hx hb dX6_makeRow_50 ?_
      refine lv_bipush (v := 24) hx hb dX6_makeRow_51 (by decide) ?_
      refine lv_bipush (v := 8) hx hb dX6_makeRow_53 (by decide) ?_
      refine lv_iload hx hb dX6_makeRow_55 (lv_at hl 2 rfl) ?_
      refine lv_imul (x := 8) (y := x4) hx hb dX6_makeRow_57 ?_
      refine lv_isub (x := 24) (y := (8 * x4)) hx hb dX6_makeRow_58 ?_
      refine lv_iushr (x := ((z.1 5) + 1)) (y := (24 - (8 * x4))) (v := (jushr ((z.1 5) + 1) (24 - (8 * x4)))) hx hb dX6_makeRow_59 rfl ?_
      refine lv_sipush (v := 255) hx hb dX6_makeRow_60 (by decide) ?_
      refine lv_iand (x := (jushr ((z.1 5) + 1) (24 - (8 * x4)))) (y := 255) hx hb dX6_makeRow_63 ?_
      obtain ⟨hck, hf⟩ := cs hf
      refine sM_12 C hS (i := (3 + x4)) (x := ((jushr ((z.1 5) + 1) (24 - (8 * x4))) &&& 255)) hck dX6_makeRow_64 (fun H locs hS => ?_)
      refine lv_iinc (v := (x4 + 1)) (lv' := [(4, .int (x4 + 1)), (0, .ref (ad 0)), (3, .int x3)]) hx hb dX6_makeRow_65 hl (k := 2) rfl (congrArg (fun q => x4 + q) (by decide : Int32.ofInt 1 = (1 : Int32))) (by decide) rfl (fun ls hl => ?_)
      refine lv_goto (tgt := 31) hx hb dX6_makeRow_68 (by decide) ?_
      exact ih (sa z 12 (Int32.toNatClampNeg (3 + x4)) ((jushr ((z.1 5) + 1) (24 - (8 * x4))) &&& 255)) x3 (x4 + 1) z' hf H locs ls hS (lv_sub hl [1, 2, 0] rfl)
set_option maxHeartbeats 4000000 in
set_option maxRecDepth 100000 in
theorem w_rm_makeRow_0 {p : Program} {l : Launch} {e : Env} {s : State} {m : MethodId} {args : Array Value} {below : List Frame} {meth : Method} {c : Code} {D : va_G} {w0 : va_W} {ad : Nat → Nat} {cA : Nat → ClassId} (C : Cx p s m args meth c cX6_makeRow 7 none RX6 wsX6_makeRow D (tM cA)) (k : Nat) (z : SS) (x1 : Int32) (x2 : Int32) (x3 : Int32) (z' : SS) (hf : rm_makeRow k z x1 x2 x3 = some z') : ∀ (H : Heap) (locs : List Loc) (ls : Array Slot), St D (va_A w0 s.heap.size) s.heap (wM ad cA z) H locs → lv_has ls 7 [(0, .ref (ad 0)), (1, .int x1), (2, .int x2), (3, .int x3)] → W p l e R_rm_makeRow s m args below meth c H locs 0 0 (MQ below (kV D (tM cA) w0 (wM ad cA z') s.heap.size) args s 0 0 (va_A w0 s.heap.size)) (F0 m 0 ls []) := by
  obtain ⟨hx, hb, hr, hml, hown, hts, hlk, hK⟩ := id C
  intro H locs ls hS hl
  have hf : (if ck 0 36 = true then (if ck 1 36 = true then (if ck 2 36 = true then rm_makeRow_b31 k k (sa (sa (sa z 12 (Int32.toNatClampNeg 0) x1) 12 (Int32.toNatClampNeg 1) (x2 >>> (8 &&& 31))) 12 (Int32.toNatClampNeg 2) (x2 &&& 255)) x3 0 else none) else none) else none) = some z' := hf
  refine lv_aload_n hx hb dX6_makeRow_0 rfl (lv_at hl 0 rfl) ?_
  refine hM_12 C hS in_X6_makeRow_X6 lk_X6_makeRow_51 dX6_makeRow_1 ?_
  refine lv_iconst (v := 0) hx hb dX6_makeRow_4 (by decide) ?_
  refine lv_iload_n hx hb dX6_makeRow_5 rfl (lv_at hl 1 rfl) ?_
  obtain ⟨hck, hf⟩ := cs hf
  refine sM_12 C hS (i := 0) (x := x1) hck dX6_makeRow_6 (fun H locs hS => ?_)
  refine lv_aload_n hx hb dX6_makeRow_7 rfl (lv_at hl 0 rfl) ?_
  refine hM_12 C hS in_X6_makeRow_X6 lk_X6_makeRow_51 dX6_makeRow_8 ?_
  refine lv_iconst (v := 1) hx hb dX6_makeRow_11 (by decide) ?_
  refine lv_iload_n hx hb dX6_makeRow_12 rfl (lv_at hl 2 rfl) ?_
  refine lv_bipush (v := 8) hx hb dX6_makeRow_13 (by decide) ?_
  refine lv_ishr (x := x2) (y := 8) hx hb dX6_makeRow_15 ?_
  obtain ⟨hck, hf⟩ := cs hf
  refine sM_12 C hS (i := 1) (x := (x2 >>> (8 &&& 31))) hck dX6_makeRow_16 (fun H locs hS => ?_)
  refine lv_aload_n hx hb dX6_makeRow_17 rfl (lv_at hl 0 rfl) ?_
  refine hM_12 C hS in_X6_makeRow_X6 lk_X6_makeRow_51 dX6_makeRow_18 ?_
  refine lv_iconst (v := 2) hx hb dX6_makeRow_21 (by decide) ?_
  refine lv_iload_n hx hb dX6_makeRow_22 rfl (lv_at hl 2 rfl) ?_
  refine lv_sipush (v := 255) hx hb dX6_makeRow_23 (by decide) ?_
  refine lv_iand (x := x2) (y := 255) hx hb dX6_makeRow_26 ?_
  obtain ⟨hck, hf⟩ := cs hf
  refine sM_12 C hS (i := 2) (x := (x2 &&& 255)) hck dX6_makeRow_27 (fun H locs hS => ?_)
  refine lv_iconst (v := 0) hx hb dX6_makeRow_28 (by decide) ?_
  refine lv_istore (lv' := [(4, .int 0), (0, .ref (ad 0)), (1, .int x1), (2, .int x2), (3, .int x3)]) hx hb dX6_makeRow_29 hl (by decide) rfl (fun ls hl => ?_)
  exact w_rm_makeRow_b31 C k k (sa (sa (sa z 12 (Int32.toNatClampNeg 0) x1) 12 (Int32.toNatClampNeg 1) (x2 >>> (8 &&& 31))) 12 (Int32.toNatClampNeg 2) (x2 &&& 255)) x3 0 z' hf H locs ls hS (lv_sub hl [1, 4, 0] rfl)
set_option maxHeartbeats 4000000 in
set_option maxRecDepth 100000 in
theorem c_rm_makeRow (l : Launch) (D : va_G) (ad : Nat → Nat) (cA : Nat → ClassId) (k : Nat) (z : SS) (x1 : Int32) (x2 : Int32) (x3 : Int32) (z' : SS) (hf : rm_makeRow k z x1 x2 x3 = some z') (sz : Nat) : Met l yX6_makeRow wsX6_makeRow R_rm_makeRow (kP D (tM cA) [.ref (ad 0), .int x1, .int x2, .int x3] (wM ad cA z) sz) (kV D (tM cA) (wM ad cA z) (wM ad cA z') sz) 0 0 (va_A (wM ad cA z) sz) := by
  refine ent (by decide) rfl rfl (Nat.le_of_ble_eq_true rfl) (fun p e s m args below meth c hsz C hS ls hl => ?_)
  subst hsz
  exact w_rm_makeRow_0 C k z x1 x2 x3 z' hf s.heap [] ls hS hl
-- rm_add: private int add(int, int, int);
theorem lk_X6_add_132 : Cond.fieldLink RX6 132 (TX6 5).1 (TX6 5).2.1 (TX6 5).2.2.1 ∈ wsX6_add := by decide +kernel
theorem in_X6_add_X6 : ∀ x ∈ u_ws RX6 TX6 29, x ∈ wsX6_add := by decide +kernel
theorem lc_X6_add_111 : Cond.constant RX6 111 2147483647 ∈ wsX6_add := by decide +kernel
theorem lk_X6_add_123 : Cond.fieldLink RX6 123 (TX6 23).1 (TX6 23).2.1 (TX6 23).2.2.1 ∈ wsX6_add := by decide +kernel
theorem lk_X6_add_99 : Cond.fieldLink RX6 99 (TX6 14).1 (TX6 14).2.1 (TX6 14).2.2.1 ∈ wsX6_add := by decide +kernel
def R_rm_add : Room := { frames := 3, cells := 0, slots := 0, locals := 64 }
def rm_add (k : Nat) (z : SS) (x1 : Int32) (x2 : Int32) (x3 : Int32) : Option (Int32 × SS) :=
  (if (z.1 5) = 2147483647 then some ((-4), z) else (bi (rm_makeRoom k z ((8 + x3) + 8)) fun r_1 z_1 => (if r_1 = 0 then some ((-4), z_1) else (bo (rm_makeRow k z_1 x1 x2 x3) fun z_2 => (bo (rm_writeRow k (si z_2 23 (-1)) ((8 + x3) + 8)) fun z_3 => some (((z_3.1 5) + 1), (si (si z_3 5 ((z_3.1 5) + 1)) 14 0)))))))
set_option maxHeartbeats 4000000 in
set_option maxRecDepth 100000 in
theorem w_rm_add_0 {p : Program} {l : Launch} {e : Env} {s : State} {m : MethodId} {args : Array Value} {below : List Frame} {meth : Method} {c : Code} {D : va_G} {w0 : va_W} {ad : Nat → Nat} {cA : Nat → ClassId} (C : Cx p s m args meth c cX6_add 4 (some .int) RX6 wsX6_add D (tM cA)) (k : Nat) (z : SS) (x1 : Int32) (x2 : Int32) (x3 : Int32) (r : Int32) (z' : SS) (hf : rm_add k z x1 x2 x3 = some (r, z')) : ∀ (H : Heap) (locs : List Loc) (ls : Array Slot), St D (va_A w0 s.heap.size) s.heap (wM ad cA z) H locs → lv_has ls 4 [(0, .ref (ad 0)), (1, .int x1), (2, .int x2), (3, .int x3)] → W p l e R_rm_add s m args below meth c H locs 0 0 (MQ below (kI D (tM cA) r w0 (wM ad cA z') s.heap.size) args s 0 0 (va_A w0 s.heap.size)) (F0 m 0 ls []) := by
  obtain ⟨hx, hb, hr, hml, hown, hts, hlk, hK⟩ := id C
  intro H locs ls hS hl
  have hf : (if (z.1 5) = 2147483647 then some ((-4), z) else (bi (rm_makeRoom k z ((8 + x3) + 8)) fun r_1 z_1 => (if r_1 = 0 then some ((-4), z_1) else (bo (rm_makeRow k z_1 x1 x2 x3) fun z_2 => (bo (rm_writeRow k (si z_2 23 (-1)) ((8 + x3) + 8)) fun z_3 => some (((z_3.1 5) + 1), (si (si z_3 5 ((z_3.1 5) + 1)) 14 0))))))) = some (r, z') := hf
  refine lv_aload_n hx hb dX6_add_0 rfl (lv_at hl 0 rfl) ?_
  refine gM_5 C hS in_X6_add_X6 lk_X6_add_132 (v := (z.1 5)) rfl dX6_add_1 ?_
  refine lv_ldc (v := 2147483647) hx hb hown (hts _ lc_X6_add_111) dX6_add_4 ?_
  refine lv_icmp_eq (x := (z.1 5)) (y := 2147483647) (tgt := 23) hx hb dX6_add_6 (by decide) (fun hc => ?_) (fun hc => ?_)
  · replace hf := it_t hc hf
    refine lv_bipush (v := (-4)) hx hb dX6_add_23 (by decide) ?_
    cases hf
    exact rti C hS dX6_add_25
  · replace hf := it_f hc hf
    refine lv_aload_n hx hb dX6_add_9 rfl (lv_at hl 0 rfl) ?_
    refine lv_bipush (v := 8) hx hb dX6_add_10 (by decide) ?_
    refine lv_iload_n hx hb dX6_add_12 rfl (lv_at hl 3 rfl) ?_
    refine lv_iadd (x := 8) (y := x3) hx hb dX6_add_13 ?_
    refine lv_bipush (v := 8) hx hb dX6_add_14 (by decide) ?_
    refine lv_iadd (x := (8 + x3)) (y := 8) hx hb dX6_add_16 ?_
    obtain ⟨r_1, z_1, hcl, hf⟩ := bi_s hf
    refine rcVi (n := 1) (As := [.int ((8 + x3) + 8)]) (rest := []) (q0 := 0) (w' := (wM ad cA z_1)) C hS (fun sz => c_rm_makeRoom l D ad cA k z ((8 + x3) + 8) r_1 z_1 hcl sz) gX6_add_X6_makeRoom rfl ⟨rfl, rfl⟩ (by decide +kernel) ⟨Nat.le_of_ble_eq_true rfl, Nat.le_of_ble_eq_true rfl⟩ oM_0 rfl rfl hl.1 rfl (Nat.le_of_ble_eq_true rfl) dX6_add_17 (fun H locs hS => ?_)
    refine lv_if_ne (x := r_1) (tgt := 26) hx hb dX6_add_20 (by decide) (fun hc => ?_) (fun hc => ?_)
    · replace hf := it_f hc hf
      refine lv_aload_n hx hb dX6_add_26 rfl (lv_at hl 0 rfl) ?_
      refine lv_iload_n hx hb dX6_add_27 rfl (lv_at hl 1 rfl) ?_
      refine lv_iload_n hx hb dX6_add_28 rfl (lv_at hl 2 rfl) ?_
      refine lv_iload_n hx hb dX6_add_29 rfl (lv_at hl 3 rfl) ?_
      obtain ⟨z_2, hcl, hf⟩ := bo_s hf
      refine rcVv (n := 3) (As := [.int x1, .int x2, .int x3]) (rest := []) (q0 := 0) (w' := (wM ad cA z_2)) C hS (fun sz => c_rm_makeRow l D ad cA k z_1 x1 x2 x3 z_2 hcl sz) gX6_add_X6_makeRow rfl ⟨rfl, rfl⟩ (by decide +kernel) ⟨Nat.le_of_ble_eq_true rfl, Nat.le_of_ble_eq_true rfl⟩ oM_0 rfl rfl hl.1 rfl (Nat.le_of_ble_eq_true rfl) dX6_add_30 (fun H locs hS => ?_)
      refine lv_aload_n hx hb dX6_add_33 rfl (lv_at hl 0 rfl) ?_
      refine lv_iconst (v := (-1)) hx hb dX6_add_34 (by decide) ?_
      refine pM_23 C hS in_X6_add_X6 lk_X6_add_123 (v := (-1)) rfl rfl dX6_add_35 (fun H locs hS => ?_)
      refine lv_aload_n hx hb dX6_add_38 rfl (lv_at hl 0 rfl) ?_
      refine lv_bipush (v := 8) hx hb dX6_add_39 (by decide) ?_
      refine lv_iload_n hx hb dX6_add_41 rfl (lv_at hl 3 rfl) ?_
      refine lv_iadd (x := 8) (y := x3) hx hb dX6_add_42 ?_
      refine lv_bipush (v := 8) hx hb dX6_add_43 (by decide) ?_
      refine lv_iadd (x := (8 + x3)) (y := 8) hx hb dX6_add_45 ?_
      obtain ⟨z_3, hcl, hf⟩ := bo_s hf
      refine rcVv (n := 1) (As := [.int ((8 + x3) + 8)]) (rest := []) (q0 := 0) (w' := (wM ad cA z_3)) C hS (fun sz => c_rm_writeRow l D ad cA k (si z_2 23 (-1)) ((8 + x3) + 8) z_3 hcl sz) gX6_add_X6_writeRow rfl ⟨rfl, rfl⟩ (by decide +kernel) ⟨Nat.le_of_ble_eq_true rfl, Nat.le_of_ble_eq_true rfl⟩ oM_0 rfl rfl hl.1 rfl (Nat.le_of_ble_eq_true rfl) dX6_add_46 (fun H locs hS => ?_)
      refine lv_aload_n hx hb dX6_add_49 rfl (lv_at hl 0 rfl) ?_
      refine lv_dup hx hb dX6_add_50 rfl ?_
      refine gM_5 C hS in_X6_add_X6 lk_X6_add_132 (v := (z_3.1 5)) rfl dX6_add_51 ?_
      refine lv_iconst (v := 1) hx hb dX6_add_54 (by decide) ?_
      refine lv_iadd (x := (z_3.1 5)) (y := 1) hx hb dX6_add_55 ?_
      refine pM_5 C hS in_X6_add_X6 lk_X6_add_132 (v := ((z_3.1 5) + 1)) rfl rfl dX6_add_56 (fun H locs hS => ?_)
      refine lv_aload_n hx hb dX6_add_59 rfl (lv_at hl 0 rfl) ?_
      refine lv_iconst (v := 0) hx hb dX6_add_60 (by decide) ?_
      refine pM_14 C hS in_X6_add_X6 lk_X6_add_99 (v := 0) rfl rfl dX6_add_61 (fun H locs hS => ?_)
      refine lv_aload_n hx hb dX6_add_64 rfl (lv_at hl 0 rfl) ?_
      refine gM_5 C hS in_X6_add_X6 lk_X6_add_132 (v := ((z_3.1 5) + 1)) ((si_o (by decide)).trans si_s) dX6_add_65 ?_
      cases hf
      exact rti C hS dX6_add_68
    · replace hf := it_t hc hf
      refine lv_bipush (v := (-4)) hx hb dX6_add_23 (by decide) ?_
      cases hf
      exact rti C hS dX6_add_25
set_option maxHeartbeats 4000000 in
set_option maxRecDepth 100000 in
theorem c_rm_add (l : Launch) (D : va_G) (ad : Nat → Nat) (cA : Nat → ClassId) (k : Nat) (z : SS) (x1 : Int32) (x2 : Int32) (x3 : Int32) (r : Int32) (z' : SS) (hf : rm_add k z x1 x2 x3 = some (r, z')) (sz : Nat) : Met l yX6_add wsX6_add R_rm_add (kP D (tM cA) [.ref (ad 0), .int x1, .int x2, .int x3] (wM ad cA z) sz) (kI D (tM cA) r (wM ad cA z) (wM ad cA z') sz) 0 0 (va_A (wM ad cA z) sz) := by
  refine ent (by decide) rfl rfl (Nat.le_of_ble_eq_true rfl) (fun p e s m args below meth c hsz C hS ls hl => ?_)
  subst hsz
  exact w_rm_add_0 C k z x1 x2 x3 r z' hf s.heap [] ls hS hl
-- rm_feed: public int feed(int, int);
theorem lk_X6_feed_146 : Cond.fieldLink RX6 146 (TX6 6).1 (TX6 6).2.1 (TX6 6).2.2.1 ∈ wsX6_feed := by decide +kernel
theorem in_X6_feed_X6 : ∀ x ∈ u_ws RX6 TX6 29, x ∈ wsX6_feed := by decide +kernel
theorem lk_X6_feed_20 : Cond.fieldLink RX6 20 (TX6 7).1 (TX6 7).2.1 (TX6 7).2.2.1 ∈ wsX6_feed := by decide +kernel
theorem lk_X6_feed_67 : Cond.fieldLink RX6 67 (TX6 1).1 (TX6 1).2.1 (TX6 1).2.2.1 ∈ wsX6_feed := by decide +kernel
def R_rm_feed : Room := { frames := 1, cells := 0, slots := 0, locals := 22 }
def rm_feed_b35 (k : Nat) : Nat → SS → Int32 → Int32 → Option (Int32 × SS)
  | 0, _, _, _ => none
  | fu + 1, z, x1, x3 => (if x3 < 0 then some ((z.1 6), z) else (if ck (z.1 6) 20 = true then rm_feed_b35 k fu (si (sa z 3 (Int32.toNatClampNeg (z.1 6)) ((x1 >>> ((8 * x3) &&& 31)) &&& 255)) 6 ((z.1 6) + 1)) x1 (x3 + (-1)) else none))
def rm_feed (k : Nat) (z : SS) (x1 : Int32) (x2 : Int32) : Option (Int32 × SS) :=
  (bo (rm_in k (si z 1 0) x2 0 4) fun r_1 => (if r_1 = 0 then some ((-2), (si z 1 0)) else (if ((z.1 6) + x2) ≤ 20 then rm_feed_b35 k k (si z 1 0) x1 (x2 - 1) else some ((-4), (si z 1 0)))))
set_option maxHeartbeats 4000000 in
set_option maxRecDepth 100000 in
theorem w_rm_feed_b35 {p : Program} {l : Launch} {e : Env} {s : State} {m : MethodId} {args : Array Value} {below : List Frame} {meth : Method} {c : Code} {D : va_G} {w0 : va_W} {ad : Nat → Nat} {cA : Nat → ClassId} (C : Cx p s m args meth c cX6_feed 4 (some .int) RX6 wsX6_feed D (tM cA)) (k : Nat) : ∀ (fu : Nat) (z : SS) (x1 : Int32) (x3 : Int32) (r : Int32) (z' : SS), rm_feed_b35 k fu z x1 x3 = some (r, z') → ∀ (H : Heap) (locs : List Loc) (ls : Array Slot), St D (va_A w0 s.heap.size) s.heap (wM ad cA z) H locs → lv_has ls 4 [(0, .ref (ad 0)), (1, .int x1), (3, .int x3)] → W p l e R_rm_feed s m args below meth c H locs 0 0 (MQ below (kI D (tM cA) r w0 (wM ad cA z') s.heap.size) args s 0 0 (va_A w0 s.heap.size)) (F0 m 35 ls []) := by
  obtain ⟨hx, hb, hr, hml, hown, hts, hlk, hK⟩ := id C
  intro fu
  induction fu with
  | zero =>
    intro z x1 x3 r z' hf
    cases (show (none : Option (Int32 × SS)) = some (r, z') from hf)
  | succ fu ih =>
    intro z x1 x3 r z' hf H locs ls hS hl
    have hf : (if x3 < 0 then some ((z.1 6), z) else (if ck (z.1 6) 20 = true then rm_feed_b35 k fu (si (sa z 3 (Int32.toNatClampNeg (z.1 6)) ((x1 >>> ((8 * x3) &&& 31)) &&& 255)) 6 ((z.1 6) + 1)) x1 (x3 + (-1)) else none)) = some (r, z') := hf
    refine lv_iload_n hx hb dX6_feed_35 rfl (lv_at hl 2 rfl) ?_
    refine lv_if_lt (x := x3) (tgt := 74) hx hb dX6_feed_36 (by decide) (fun hc => ?_) (fun hc => ?_)
    · replace hf := it_t hc hf
      refine lv_aload_n hx hb dX6_feed_74 rfl (lv_at hl 0 rfl) ?_
      refine gM_6 C hS in_X6_feed_X6 lk_X6_feed_146 (v := (z.1 6)) rfl dX6_feed_75 ?_
      cases hf
      exact rti C hS dX6_feed_78
    · replace hf := it_f hc hf
      refine lv_aload_n hx hb dX6_feed_39 rfl (lv_at hl 0 rfl) ?_
      refine hM_3 C hS in_X6_feed_X6 lk_X6_feed_20 dX6_feed_40 ?_
      refine lv_aload_n hx hb dX6_feed_43 rfl (lv_at hl 0 rfl) ?_
      refine gM_6 C hS in_X6_feed_X6 lk_X6_feed_146 (v := (z.1 6)) rfl dX6_feed_44 ?_
      refine lv_iload_n hx hb dX6_feed_47 rfl (lv_at hl 1 rfl) ?_
      refine lv_bipush (v := 8) hx hb dX6_feed_48 (by decide) ?_
      refine lv_iload_n hx hb dX6_feed_50 rfl (lv_at hl 2 rfl) ?_
      refine lv_imul (x := 8) (y := x3) hx hb dX6_feed_51 ?_
      refine lv_ishr (x := x1) (y := (8 * x3)) hx hb dX6_feed_52 ?_
      refine lv_sipush (v := 255) hx hb dX6_feed_53 (by decide) ?_
      refine lv_iand (x := (x1 >>> ((8 * x3) &&& 31))) (y := 255) hx hb dX6_feed_56 ?_
      obtain ⟨hck, hf⟩ := cs hf
      refine sM_3 C hS (i := (z.1 6)) (x := ((x1 >>> ((8 * x3) &&& 31)) &&& 255)) hck dX6_feed_57 (fun H locs hS => ?_)
      refine lv_aload_n hx hb dX6_feed_58 rfl (lv_at hl 0 rfl) ?_
      refine lv_dup hx hb dX6_feed_59 rfl ?_
      refine gM_6 C hS in_X6_feed_X6 lk_X6_feed_146 (v := (z.1 6)) (sa_i.trans rfl) dX6_feed_60 ?_
      refine lv_iconst (v := 1) hx hb dX6_feed_63 (by decide) ?_
      refine lv_iadd (x := (z.1 6)) (y := 1) hx hb dX6_feed_64 ?_
      refine pM_6 C hS in_X6_feed_X6 lk_X6_feed_146 (v := ((z.1 6) + 1)) rfl rfl dX6_feed_65 (fun H locs hS => ?_)
      refine lv_iinc (v := (x3 + (-1))) (lv' := [(3, .int (x3 + (-1))), (0, .ref (ad 0)), (1, .int x1)]) hx hb dX6_feed_68 hl (k := 2) rfl (congrArg (fun q => x3 + q) (by decide : Int32.ofInt (-1) = ((-1) : Int32))) (by decide) rfl (fun ls hl => ?_)
      refine lv_goto (tgt := 35) hx hb dX6_feed_71 (by decide) ?_
      exact ih (si (sa z 3 (Int32.toNatClampNeg (z.1 6)) ((x1 >>> ((8 * x3) &&& 31)) &&& 255)) 6 ((z.1 6) + 1)) x1 (x3 + (-1)) r z' hf H locs ls hS (lv_sub hl [1, 2, 0] rfl)
set_option maxHeartbeats 4000000 in
set_option maxRecDepth 100000 in
theorem w_rm_feed_0 {p : Program} {l : Launch} {e : Env} {s : State} {m : MethodId} {args : Array Value} {below : List Frame} {meth : Method} {c : Code} {D : va_G} {w0 : va_W} {ad : Nat → Nat} {cA : Nat → ClassId} (C : Cx p s m args meth c cX6_feed 4 (some .int) RX6 wsX6_feed D (tM cA)) (k : Nat) (z : SS) (x1 : Int32) (x2 : Int32) (r : Int32) (z' : SS) (hf : rm_feed k z x1 x2 = some (r, z')) : ∀ (H : Heap) (locs : List Loc) (ls : Array Slot), St D (va_A w0 s.heap.size) s.heap (wM ad cA z) H locs → lv_has ls 4 [(0, .ref (ad 0)), (1, .int x1), (2, .int x2)] → W p l e R_rm_feed s m args below meth c H locs 0 0 (MQ below (kI D (tM cA) r w0 (wM ad cA z') s.heap.size) args s 0 0 (va_A w0 s.heap.size)) (F0 m 0 ls []) := by
  obtain ⟨hx, hb, hr, hml, hown, hts, hlk, hK⟩ := id C
  intro H locs ls hS hl
  have hf : (bo (rm_in k (si z 1 0) x2 0 4) fun r_1 => (if r_1 = 0 then some ((-2), (si z 1 0)) else (if ((z.1 6) + x2) ≤ 20 then rm_feed_b35 k k (si z 1 0) x1 (x2 - 1) else some ((-4), (si z 1 0))))) = some (r, z') := hf
  refine lv_aload_n hx hb dX6_feed_0 rfl (lv_at hl 0 rfl) ?_
  refine lv_iconst (v := 0) hx hb dX6_feed_1 (by decide) ?_
  refine pM_1 C hS in_X6_feed_X6 lk_X6_feed_67 (v := 0) rfl rfl dX6_feed_2 (fun H locs hS => ?_)
  refine lv_iload_n hx hb dX6_feed_5 rfl (lv_at hl 2 rfl) ?_
  refine lv_iconst (v := 0) hx hb dX6_feed_6 (by decide) ?_
  refine lv_iconst (v := 4) hx hb dX6_feed_7 (by decide) ?_
  obtain ⟨r_1, hcl, hf⟩ := bo_s hf
  refine rcSi (n := 3) (As := [.int x2, .int 0, .int 4]) (rest := []) (w' := (wM ad cA (si z 1 0))) C hS (fun sz => c_rm_in l D ad cA k (si z 1 0) x2 0 4 r_1 hcl sz) gX6_feed_X6_in rfl ⟨rfl, rfl⟩ (by decide +kernel) ⟨Nat.le_of_ble_eq_true rfl, Nat.le_of_ble_eq_true rfl⟩ rfl hl.1 rfl (Nat.le_of_ble_eq_true rfl) dX6_feed_8 (fun H locs hS => ?_)
  refine lv_if_ne (x := r_1) (tgt := 17) hx hb dX6_feed_11 (by decide) (fun hc => ?_) (fun hc => ?_)
  · replace hf := it_f hc hf
    refine lv_aload_n hx hb dX6_feed_17 rfl (lv_at hl 0 rfl) ?_
    refine gM_6 C hS in_X6_feed_X6 lk_X6_feed_146 (v := (z.1 6)) ((si_o (by decide)).trans rfl) dX6_feed_18 ?_
    refine lv_iload_n hx hb dX6_feed_21 rfl (lv_at hl 2 rfl) ?_
    refine lv_iadd (x := (z.1 6)) (y := x2) hx hb dX6_feed_22 ?_
    refine lv_bipush (v := 20) hx hb dX6_feed_23 (by decide) ?_
    refine lv_icmp_le (x := ((z.1 6) + x2)) (y := 20) (tgt := 31) hx hb dX6_feed_25 (by decide) (fun hc => ?_) (fun hc => ?_)
    · replace hf := it_t hc hf
      refine lv_iload_n hx hb dX6_feed_31 rfl (lv_at hl 2 rfl) ?_
      refine lv_iconst (v := 1) hx hb dX6_feed_32 (by decide) ?_
      refine lv_isub (x := x2) (y := 1) hx hb dX6_feed_33 ?_
      refine lv_istore_n (lv' := [(3, .int (x2 - 1)), (0, .ref (ad 0)), (1, .int x1), (2, .int x2)]) hx hb dX6_feed_34 rfl hl (by decide) rfl (fun ls hl => ?_)
      exact w_rm_feed_b35 C k k (si z 1 0) x1 (x2 - 1) r z' hf H locs ls hS (lv_sub hl [1, 2, 0] rfl)
    · replace hf := it_f hc hf
      refine lv_bipush (v := (-4)) hx hb dX6_feed_28 (by decide) ?_
      cases hf
      exact rti C hS dX6_feed_30
  · replace hf := it_t hc hf
    refine lv_bipush (v := (-2)) hx hb dX6_feed_14 (by decide) ?_
    cases hf
    exact rti C hS dX6_feed_16
set_option maxHeartbeats 4000000 in
set_option maxRecDepth 100000 in
theorem c_rm_feed (l : Launch) (D : va_G) (ad : Nat → Nat) (cA : Nat → ClassId) (k : Nat) (z : SS) (x1 : Int32) (x2 : Int32) (r : Int32) (z' : SS) (hf : rm_feed k z x1 x2 = some (r, z')) (sz : Nat) : Met l yX6_feed wsX6_feed R_rm_feed (kP D (tM cA) [.ref (ad 0), .int x1, .int x2] (wM ad cA z) sz) (kI D (tM cA) r (wM ad cA z) (wM ad cA z') sz) 0 0 (va_A (wM ad cA z) sz) := by
  refine ent (by decide) rfl rfl (Nat.le_of_ble_eq_true rfl) (fun p e s m args below meth c hsz C hS ls hl => ?_)
  subst hsz
  exact w_rm_feed_0 C k z x1 x2 r z' hf s.heap [] ls hS hl
-- rm_put: public int put(int);
theorem lk_X6_put_146 : Cond.fieldLink RX6 146 (TX6 6).1 (TX6 6).2.1 (TX6 6).2.2.1 ∈ wsX6_put := by decide +kernel
theorem in_X6_put_X6 : ∀ x ∈ u_ws RX6 TX6 29, x ∈ wsX6_put := by decide +kernel
theorem lk_X6_put_67 : Cond.fieldLink RX6 67 (TX6 1).1 (TX6 1).2.1 (TX6 1).2.2.1 ∈ wsX6_put := by decide +kernel
theorem lk_X6_put_149 : Cond.fieldLink RX6 149 (TX6 12).1 (TX6 12).2.1 (TX6 12).2.2.1 ∈ wsX6_put := by decide +kernel
def R_rm_put : Room := { frames := 4, cells := 0, slots := 0, locals := 87 }
def rm_put_b53 (k : Nat) (z : SS) (x2 : Int32) (y0 : Int32) : Option (Int32 × SS) :=
  some (x2, (si z 6 y0))
def rm_put (k : Nat) (z : SS) (x1 : Int32) : Option (Int32 × SS) :=
  (if (z.1 12) = 0 then (bo (rm_in k (si z 1 0) x1 0 999) fun r_1 => (if r_1 = 0 then some ((-2), (si z 1 0)) else (bi (rm_add k (si z 1 0) 1 x1 (z.1 6)) fun r_2 z_2 => (if r_2 ≤ 0 then rm_put_b53 k z_2 r_2 (z_2.1 6) else rm_put_b53 k z_2 r_2 0)))) else some ((-3), (si z 1 0)))
set_option maxHeartbeats 4000000 in
set_option maxRecDepth 100000 in
theorem w_rm_put_b53 {p : Program} {l : Launch} {e : Env} {s : State} {m : MethodId} {args : Array Value} {below : List Frame} {meth : Method} {c : Code} {D : va_G} {w0 : va_W} {ad : Nat → Nat} {cA : Nat → ClassId} (C : Cx p s m args meth c cX6_put 3 (some .int) RX6 wsX6_put D (tM cA)) (k : Nat) (z : SS) (x2 : Int32) (y0 : Int32) (r : Int32) (z' : SS) (hf : rm_put_b53 k z x2 y0 = some (r, z')) : ∀ (H : Heap) (locs : List Loc) (ls : Array Slot), St D (va_A w0 s.heap.size) s.heap (wM ad cA z) H locs → lv_has ls 3 [(2, .int x2)] → W p l e R_rm_put s m args below meth c H locs 0 0 (MQ below (kI D (tM cA) r w0 (wM ad cA z') s.heap.size) args s 0 0 (va_A w0 s.heap.size)) (F0 m 53 ls [.int y0, .ref (ad 0)]) := by
  obtain ⟨hx, hb, hr, hml, hown, hts, hlk, hK⟩ := id C
  intro H locs ls hS hl
  have hf : some (x2, (si z 6 y0)) = some (r, z') := hf
  refine pM_6 C hS in_X6_put_X6 lk_X6_put_146 (v := y0) rfl rfl dX6_put_53 (fun H locs hS => ?_)
  refine lv_iload_n hx hb dX6_put_56 rfl (lv_at hl 0 rfl) ?_
  cases hf
  exact rti C hS dX6_put_57
set_option maxHeartbeats 4000000 in
set_option maxRecDepth 100000 in
theorem w_rm_put_0 {p : Program} {l : Launch} {e : Env} {s : State} {m : MethodId} {args : Array Value} {below : List Frame} {meth : Method} {c : Code} {D : va_G} {w0 : va_W} {ad : Nat → Nat} {cA : Nat → ClassId} (C : Cx p s m args meth c cX6_put 3 (some .int) RX6 wsX6_put D (tM cA)) (k : Nat) (z : SS) (x1 : Int32) (r : Int32) (z' : SS) (hf : rm_put k z x1 = some (r, z')) : ∀ (H : Heap) (locs : List Loc) (ls : Array Slot), St D (va_A w0 s.heap.size) s.heap (wM ad cA z) H locs → lv_has ls 3 [(0, .ref (ad 0)), (1, .int x1)] → W p l e R_rm_put s m args below meth c H locs 0 0 (MQ below (kI D (tM cA) r w0 (wM ad cA z') s.heap.size) args s 0 0 (va_A w0 s.heap.size)) (F0 m 0 ls []) := by
  obtain ⟨hx, hb, hr, hml, hown, hts, hlk, hK⟩ := id C
  intro H locs ls hS hl
  have hf : (if (z.1 12) = 0 then (bo (rm_in k (si z 1 0) x1 0 999) fun r_1 => (if r_1 = 0 then some ((-2), (si z 1 0)) else (bi (rm_add k (si z 1 0) 1 x1 (z.1 6)) fun r_2 z_2 => (if r_2 ≤ 0 then rm_put_b53 k z_2 r_2 (z_2.1 6) else rm_put_b53 k z_2 r_2 0)))) else some ((-3), (si z 1 0))) = some (r, z') := hf
  refine lv_aload_n hx hb dX6_put_0 rfl (lv_at hl 0 rfl) ?_
  refine lv_iconst (v := 0) hx hb dX6_put_1 (by decide) ?_
  refine pM_1 C hS in_X6_put_X6 lk_X6_put_67 (v := 0) rfl rfl dX6_put_2 (fun H locs hS => ?_)
  refine lv_aload_n hx hb dX6_put_5 rfl (lv_at hl 0 rfl) ?_
  refine gM_12 C hS in_X6_put_X6 lk_X6_put_149 (v := (z.1 12)) ((si_o (by decide)).trans rfl) dX6_put_6 ?_
  refine lv_if_eq (x := (z.1 12)) (tgt := 15) hx hb dX6_put_9 (by decide) (fun hc => ?_) (fun hc => ?_)
  · replace hf := it_t hc hf
    refine lv_iload_n hx hb dX6_put_15 rfl (lv_at hl 1 rfl) ?_
    refine lv_iconst (v := 0) hx hb dX6_put_16 (by decide) ?_
    refine lv_sipush (v := 999) hx hb dX6_put_17 (by decide) ?_
    obtain ⟨r_1, hcl, hf⟩ := bo_s hf
    refine rcSi (n := 3) (As := [.int x1, .int 0, .int 999]) (rest := []) (w' := (wM ad cA (si z 1 0))) C hS (fun sz => c_rm_in l D ad cA k (si z 1 0) x1 0 999 r_1 hcl sz) gX6_put_X6_in rfl ⟨rfl, rfl⟩ (by decide +kernel) ⟨Nat.le_of_ble_eq_true rfl, Nat.le_of_ble_eq_true rfl⟩ rfl hl.1 rfl (Nat.le_of_ble_eq_true rfl) dX6_put_20 (fun H locs hS => ?_)
    refine lv_if_ne (x := r_1) (tgt := 29) hx hb dX6_put_23 (by decide) (fun hc => ?_) (fun hc => ?_)
    · replace hf := it_f hc hf
      refine lv_aload_n hx hb dX6_put_29 rfl (lv_at hl 0 rfl) ?_
      refine lv_iconst (v := 1) hx hb dX6_put_30 (by decide) ?_
      refine lv_iload_n hx hb dX6_put_31 rfl (lv_at hl 1 rfl) ?_
      refine lv_aload_n hx hb dX6_put_32 rfl (lv_at hl 0 rfl) ?_
      refine gM_6 C hS in_X6_put_X6 lk_X6_put_146 (v := (z.1 6)) ((si_o (by decide)).trans rfl) dX6_put_33 ?_
      obtain ⟨r_2, z_2, hcl, hf⟩ := bi_s hf
      refine rcVi (n := 3) (As := [.int 1, .int x1, .int (z.1 6)]) (rest := []) (q0 := 0) (w' := (wM ad cA z_2)) C hS (fun sz => c_rm_add l D ad cA k (si z 1 0) 1 x1 (z.1 6) r_2 z_2 hcl sz) gX6_put_X6_add rfl ⟨rfl, rfl⟩ (by decide +kernel) ⟨Nat.le_of_ble_eq_true rfl, Nat.le_of_ble_eq_true rfl⟩ oM_0 rfl rfl hl.1 rfl (Nat.le_of_ble_eq_true rfl) dX6_put_36 (fun H locs hS => ?_)
      refine lv_istore_n (lv' := [(2, .int r_2), (0, .ref (ad 0)), (1, .int x1)]) hx hb dX6_put_39 rfl hl (by decide) rfl (fun ls hl => ?_)
      refine lv_aload_n hx hb dX6_put_40 rfl (lv_at hl 1 rfl) ?_
      refine lv_iload_n hx hb dX6_put_41 rfl (lv_at hl 0 rfl) ?_
      refine lv_if_le (x := r_2) (tgt := 49) hx hb dX6_put_42 (by decide) (fun hc => ?_) (fun hc => ?_)
      · replace hf := it_t hc hf
        refine lv_aload_n hx hb dX6_put_49 rfl (lv_at hl 1 rfl) ?_
        refine gM_6 C hS in_X6_put_X6 lk_X6_put_146 (v := (z_2.1 6)) rfl dX6_put_50 ?_
        exact w_rm_put_b53 C k z_2 r_2 (z_2.1 6) r z' hf H locs ls hS (lv_sub hl [0] rfl)
      · replace hf := it_f hc hf
        refine lv_iconst (v := 0) hx hb dX6_put_45 (by decide) ?_
        refine lv_goto (tgt := 53) hx hb dX6_put_46 (by decide) ?_
        exact w_rm_put_b53 C k z_2 r_2 0 r z' hf H locs ls hS (lv_sub hl [0] rfl)
    · replace hf := it_t hc hf
      refine lv_bipush (v := (-2)) hx hb dX6_put_26 (by decide) ?_
      cases hf
      exact rti C hS dX6_put_28
  · replace hf := it_f hc hf
    refine lv_bipush (v := (-3)) hx hb dX6_put_12 (by decide) ?_
    cases hf
    exact rti C hS dX6_put_14
set_option maxHeartbeats 4000000 in
set_option maxRecDepth 100000 in
theorem c_rm_put (l : Launch) (D : va_G) (ad : Nat → Nat) (cA : Nat → ClassId) (k : Nat) (z : SS) (x1 : Int32) (r : Int32) (z' : SS) (hf : rm_put k z x1 = some (r, z')) (sz : Nat) : Met l yX6_put wsX6_put R_rm_put (kP D (tM cA) [.ref (ad 0), .int x1] (wM ad cA z) sz) (kI D (tM cA) r (wM ad cA z) (wM ad cA z') sz) 0 0 (va_A (wM ad cA z) sz) := by
  refine ent (by decide) rfl rfl (Nat.le_of_ble_eq_true rfl) (fun p e s m args below meth c hsz C hS ls hl => ?_)
  subst hsz
  exact w_rm_put_0 C k z x1 r z' hf s.heap [] ls hS hl
-- rm_drop: public int drop(int);
theorem lk_X6_drop_67 : Cond.fieldLink RX6 67 (TX6 1).1 (TX6 1).2.1 (TX6 1).2.2.1 ∈ wsX6_drop := by decide +kernel
theorem in_X6_drop_X6 : ∀ x ∈ u_ws RX6 TX6 29, x ∈ wsX6_drop := by decide +kernel
theorem lk_X6_drop_149 : Cond.fieldLink RX6 149 (TX6 12).1 (TX6 12).2.1 (TX6 12).2.2.1 ∈ wsX6_drop := by decide +kernel
theorem lc_X6_drop_111 : Cond.constant RX6 111 2147483647 ∈ wsX6_drop := by decide +kernel
def R_rm_drop : Room := { frames := 7, cells := 0, slots := 0, locals := 168 }
def rm_drop (k : Nat) (z : SS) (x1 : Int32) : Option (Int32 × SS) :=
  (if (z.1 12) = 0 then (bi (rm_has k (si z 1 0) x1 2147483647) fun r_1 z_1 => (if 0 ≤ r_1 then (bi (rm_add k z_1 2 x1 0) fun r_2 z_2 => some (r_2, z_2)) else some ((-1), z_1))) else some ((-3), (si z 1 0)))
set_option maxHeartbeats 4000000 in
set_option maxRecDepth 100000 in
theorem w_rm_drop_0 {p : Program} {l : Launch} {e : Env} {s : State} {m : MethodId} {args : Array Value} {below : List Frame} {meth : Method} {c : Code} {D : va_G} {w0 : va_W} {ad : Nat → Nat} {cA : Nat → ClassId} (C : Cx p s m args meth c cX6_drop 2 (some .int) RX6 wsX6_drop D (tM cA)) (k : Nat) (z : SS) (x1 : Int32) (r : Int32) (z' : SS) (hf : rm_drop k z x1 = some (r, z')) : ∀ (H : Heap) (locs : List Loc) (ls : Array Slot), St D (va_A w0 s.heap.size) s.heap (wM ad cA z) H locs → lv_has ls 2 [(0, .ref (ad 0)), (1, .int x1)] → W p l e R_rm_drop s m args below meth c H locs 0 0 (MQ below (kI D (tM cA) r w0 (wM ad cA z') s.heap.size) args s 0 0 (va_A w0 s.heap.size)) (F0 m 0 ls []) := by
  obtain ⟨hx, hb, hr, hml, hown, hts, hlk, hK⟩ := id C
  intro H locs ls hS hl
  have hf : (if (z.1 12) = 0 then (bi (rm_has k (si z 1 0) x1 2147483647) fun r_1 z_1 => (if 0 ≤ r_1 then (bi (rm_add k z_1 2 x1 0) fun r_2 z_2 => some (r_2, z_2)) else some ((-1), z_1))) else some ((-3), (si z 1 0))) = some (r, z') := hf
  refine lv_aload_n hx hb dX6_drop_0 rfl (lv_at hl 0 rfl) ?_
  refine lv_iconst (v := 0) hx hb dX6_drop_1 (by decide) ?_
  refine pM_1 C hS in_X6_drop_X6 lk_X6_drop_67 (v := 0) rfl rfl dX6_drop_2 (fun H locs hS => ?_)
  refine lv_aload_n hx hb dX6_drop_5 rfl (lv_at hl 0 rfl) ?_
  refine gM_12 C hS in_X6_drop_X6 lk_X6_drop_149 (v := (z.1 12)) ((si_o (by decide)).trans rfl) dX6_drop_6 ?_
  refine lv_if_eq (x := (z.1 12)) (tgt := 15) hx hb dX6_drop_9 (by decide) (fun hc => ?_) (fun hc => ?_)
  · replace hf := it_t hc hf
    refine lv_aload_n hx hb dX6_drop_15 rfl (lv_at hl 0 rfl) ?_
    refine lv_iload_n hx hb dX6_drop_16 rfl (lv_at hl 1 rfl) ?_
    refine lv_ldc (v := 2147483647) hx hb hown (hts _ lc_X6_drop_111) dX6_drop_17 ?_
    obtain ⟨r_1, z_1, hcl, hf⟩ := bi_s hf
    refine rcVi (n := 2) (As := [.int x1, .int 2147483647]) (rest := []) (q0 := 0) (w' := (wM ad cA z_1)) C hS (fun sz => c_rm_has l D ad cA k (si z 1 0) x1 2147483647 r_1 z_1 hcl sz) gX6_drop_X6_has rfl ⟨rfl, rfl⟩ (by decide +kernel) ⟨Nat.le_of_ble_eq_true rfl, Nat.le_of_ble_eq_true rfl⟩ oM_0 rfl rfl hl.1 rfl (Nat.le_of_ble_eq_true rfl) dX6_drop_19 (fun H locs hS => ?_)
    refine lv_if_ge (x := r_1) (tgt := 29) hx hb dX6_drop_22 (by decide) (fun hc => ?_) (fun hc => ?_)
    · replace hf := it_t hc hf
      refine lv_aload_n hx hb dX6_drop_29 rfl (lv_at hl 0 rfl) ?_
      refine lv_iconst (v := 2) hx hb dX6_drop_30 (by decide) ?_
      refine lv_iload_n hx hb dX6_drop_31 rfl (lv_at hl 1 rfl) ?_
      refine lv_iconst (v := 0) hx hb dX6_drop_32 (by decide) ?_
      obtain ⟨r_2, z_2, hcl, hf⟩ := bi_s hf
      refine rcVi (n := 3) (As := [.int 2, .int x1, .int 0]) (rest := []) (q0 := 0) (w' := (wM ad cA z_2)) C hS (fun sz => c_rm_add l D ad cA k z_1 2 x1 0 r_2 z_2 hcl sz) gX6_drop_X6_add rfl ⟨rfl, rfl⟩ (by decide +kernel) ⟨Nat.le_of_ble_eq_true rfl, Nat.le_of_ble_eq_true rfl⟩ oM_0 rfl rfl hl.1 rfl (Nat.le_of_ble_eq_true rfl) dX6_drop_33 (fun H locs hS => ?_)
      cases hf
      exact rti C hS dX6_drop_36
    · replace hf := it_f hc hf
      refine lv_iconst (v := (-1)) hx hb dX6_drop_25 (by decide) ?_
      refine lv_goto (tgt := 36) hx hb dX6_drop_26 (by decide) ?_
      cases hf
      exact rti C hS dX6_drop_36
  · replace hf := it_f hc hf
    refine lv_bipush (v := (-3)) hx hb dX6_drop_12 (by decide) ?_
    cases hf
    exact rti C hS dX6_drop_14
set_option maxHeartbeats 4000000 in
set_option maxRecDepth 100000 in
theorem c_rm_drop (l : Launch) (D : va_G) (ad : Nat → Nat) (cA : Nat → ClassId) (k : Nat) (z : SS) (x1 : Int32) (r : Int32) (z' : SS) (hf : rm_drop k z x1 = some (r, z')) (sz : Nat) : Met l yX6_drop wsX6_drop R_rm_drop (kP D (tM cA) [.ref (ad 0), .int x1] (wM ad cA z) sz) (kI D (tM cA) r (wM ad cA z) (wM ad cA z') sz) 0 0 (va_A (wM ad cA z) sz) := by
  refine ent (by decide) rfl rfl (Nat.le_of_ble_eq_true rfl) (fun p e s m args below meth c hsz C hS ls hl => ?_)
  subst hsz
  exact w_rm_drop_0 C k z x1 r z' hf s.heap [] ls hS hl
