-- rm_lookAt: private int lookAt(int, int);
theorem lk_X6_lookAt_33 : Cond.fieldLink RX6 33 (TX6 13).1 (TX6 13).2.1 (TX6 13).2.2.1 ∈ wsX6_lookAt := by decide +kernel
theorem in_X6_lookAt_X6 : ∀ x ∈ u_ws RX6 TX6 29, x ∈ wsX6_lookAt := by decide +kernel
theorem lk_X6_lookAt_54 : Cond.fieldLink RX6 54 (TX6 25).1 (TX6 25).2.1 (TX6 25).2.2.1 ∈ wsX6_lookAt := by decide +kernel
theorem lk_X6_lookAt_48 : Cond.fieldLink RX6 48 (TX6 20).1 (TX6 20).2.1 (TX6 20).2.2.1 ∈ wsX6_lookAt := by decide +kernel
theorem lk_X6_lookAt_96 : Cond.fieldLink RX6 96 (TX6 15).1 (TX6 15).2.1 (TX6 15).2.2.1 ∈ wsX6_lookAt := by decide +kernel
theorem lk_X6_lookAt_7 : Cond.fieldLink RX6 7 (TX6 2).1 (TX6 2).2.1 (TX6 2).2.2.1 ∈ wsX6_lookAt := by decide +kernel
theorem lk_X6_lookAt_36 : Cond.fieldLink RX6 36 (TX6 16).1 (TX6 16).2.1 (TX6 16).2.2.1 ∈ wsX6_lookAt := by decide +kernel
theorem lk_X6_lookAt_39 : Cond.fieldLink RX6 39 (TX6 17).1 (TX6 17).2.1 (TX6 17).2.2.1 ∈ wsX6_lookAt := by decide +kernel
theorem lk_X6_lookAt_42 : Cond.fieldLink RX6 42 (TX6 18).1 (TX6 18).2.1 (TX6 18).2.2.1 ∈ wsX6_lookAt := by decide +kernel
theorem lk_X6_lookAt_45 : Cond.fieldLink RX6 45 (TX6 19).1 (TX6 19).2.1 (TX6 19).2.2.1 ∈ wsX6_lookAt := by decide +kernel
def R_rm_lookAt : Room := { frames := 3, cells := 0, slots := 0, locals := 75 }
def rm_lookAt_b190 (k : Nat) (rc2 : SS → Int32 → Int32 → Int32 → Option (Int32 × SS)) (z : SS) (x1 : Int32) (x2 : Int32) (x3 : Int32) (x4 : Int32) : Option (Int32 × SS) :=
  (if x4 = 0 then some (x3, z) else rc2 z x1 x2 (x3 + x4))
def rm_lookAt_b182 (k : Nat) (rc2 : SS → Int32 → Int32 → Int32 → Option (Int32 × SS)) (z : SS) (x1 : Int32) (x2 : Int32) (x3 : Int32) (x4 : Int32) (y0 : Int32) : Option (Int32 × SS) :=
  rm_lookAt_b190 k rc2 (si (si z 13 y0) 25 1) x1 x2 x3 x4
def rm_lookAt_b119 (k : Nat) (rc2 : SS → Int32 → Int32 → Int32 → Option (Int32 × SS)) (z : SS) (x1 : Int32) (x2 : Int32) (x3 : Int32) (x4 : Int32) (y0 : Int32) (y1 : Int32) : Option (Int32 × SS) :=
  (if ck y1 160 = true then (if ck (z.1 15) 160 = true then rm_lookAt_b190 k rc2 (si (sa (sa z 10 (Int32.toNatClampNeg y1) (vp_nar .boolean y0)) 11 (Int32.toNatClampNeg (z.1 15)) x4) 15 ((z.1 15) + 1)) x1 x2 x3 x4 else none) else none)
def rm_lookAt_b2 (k : Nat) : Nat → SS → Int32 → Int32 → Int32 → Option (Int32 × SS)
  | 0, _, _, _, _ => none
  | fu + 1, z, x1, x2, x3 => (if x2 ≤ x3 then some (x3, z) else (if ck ((200 * x1) + x3) 2400 = true then (if ((z.2 1) (Int32.toNatClampNeg ((200 * x1) + x3))) = 0 then some (x3, z) else (bo (rm_sizeAt k z x1 x3) fun r_1 => (bo (rm_isGood k z x1 x3) fun r_2 => (if r_2 = 0 then (if (z.1 25) = 0 then (if (x3 + 7) ≤ 200 then (bo (rm_number k z (((200 * x1) + x3) + 3) 4) fun r_3 => rm_lookAt_b182 k (rm_lookAt_b2 k fu) z x1 x2 x3 r_1 r_3) else rm_lookAt_b182 k (rm_lookAt_b2 k fu) z x1 x2 x3 r_1 0) else rm_lookAt_b182 k (rm_lookAt_b2 k fu) z x1 x2 x3 r_1 (z.1 13)) else (if ck (z.1 15) 160 = true then (bo (rm_number k (sa z 7 (Int32.toNatClampNeg (z.1 15)) ((200 * x1) + x3)) (((200 * x1) + x3) + 1) 2) fun r_4 => (if ck (z.1 15) 160 = true then (bo (rm_number k (sa (sa z 7 (Int32.toNatClampNeg (z.1 15)) ((200 * x1) + x3)) 8 (Int32.toNatClampNeg (z.1 15)) r_4) (((200 * x1) + x3) + 3) 4) fun r_5 => (if ck (z.1 15) 160 = true then (if ck ((200 * x1) + x3) 2400 = true then (if ((z.2 1) (Int32.toNatClampNeg ((200 * x1) + x3))) = 2 then rm_lookAt_b119 k (rm_lookAt_b2 k fu) (sa (sa (sa z 7 (Int32.toNatClampNeg (z.1 15)) ((200 * x1) + x3)) 8 (Int32.toNatClampNeg (z.1 15)) r_4) 9 (Int32.toNatClampNeg (z.1 15)) r_5) x1 x2 x3 r_1 1 (z.1 15) else rm_lookAt_b119 k (rm_lookAt_b2 k fu) (sa (sa (sa z 7 (Int32.toNatClampNeg (z.1 15)) ((200 * x1) + x3)) 8 (Int32.toNatClampNeg (z.1 15)) r_4) 9 (Int32.toNatClampNeg (z.1 15)) r_5) x1 x2 x3 r_1 0 (z.1 15)) else none) else none)) else none)) else none))))) else none))
def rm_lookAt (k : Nat) (z : SS) (x1 : Int32) (x2 : Int32) : Option (Int32 × SS) :=
  rm_lookAt_b2 k k z x1 x2 0
set_option maxHeartbeats 4000000 in
set_option maxRecDepth 100000 in
theorem w_rm_lookAt_b190 {p : Program} {l : Launch} {e : Env} {s : State} {m : MethodId} {args : Array Value} {below : List Frame} {meth : Method} {c : Code} {D : va_G} {w0 : va_W} {ad : Nat → Nat} {cA : Nat → ClassId} (C : Cx p s m args meth c cX6_lookAt 6 (some .int) RX6 wsX6_lookAt D (tM cA)) (k : Nat) {rc2 : SS → Int32 → Int32 → Int32 → Option (Int32 × SS)} (hrc2 : ∀ (z : SS) (x1 : Int32) (x2 : Int32) (x3 : Int32) (r : Int32) (z' : SS), rc2 z x1 x2 x3 = some (r, z') → ∀ (H : Heap) (locs : List Loc) (ls : Array Slot), St D (va_A w0 s.heap.size) s.heap (wM ad cA z) H locs → lv_has ls 6 [(0, .ref (ad 0)), (1, .int x1), (2, .int x2), (3, .int x3)] → W p l e R_rm_lookAt s m args below meth c H locs 0 0 (MQ below (kI D (tM cA) r w0 (wM ad cA z') s.heap.size) args s 0 0 (va_A w0 s.heap.size)) (F0 m 2 ls [])) (z : SS) (x1 : Int32) (x2 : Int32) (x3 : Int32) (x4 : Int32) (r : Int32) (z' : SS) (hf : rm_lookAt_b190 k rc2 z x1 x2 x3 x4 = some (r, z')) : ∀ (H : Heap) (locs : List Loc) (ls : Array Slot), St D (va_A w0 s.heap.size) s.heap (wM ad cA z) H locs → lv_has ls 6 [(0, .ref (ad 0)), (1, .int x1), (2, .int x2), (3, .int x3), (4, .int x4)] → W p l e R_rm_lookAt s m args below meth c H locs 0 0 (MQ below (kI D (tM cA) r w0 (wM ad cA z') s.heap.size) args s 0 0 (va_A w0 s.heap.size)) (F0 m 190 ls []) := by
  obtain ⟨hx, hb, hr, hml, hown, hts, hlk, hK⟩ := id C
  intro H locs ls hS hl
  have hf : (if x4 = 0 then some (x3, z) else rc2 z x1 x2 (x3 + x4)) = some (r, z') := hf
  refine lv_iload hx hb dX6_lookAt_190 (lv_at hl 4 rfl) ?_
  refine lv_if_ne (x := x4) (tgt := 197) hx hb dX6_lookAt_192 (by decide) (fun hc => ?_) (fun hc => ?_)
  · replace hf := it_f hc hf
    refine lv_iload_n hx hb dX6_lookAt_197 rfl (lv_at hl 3 rfl) ?_
    refine lv_iload hx hb dX6_lookAt_198 (lv_at hl 4 rfl) ?_
    refine lv_iadd (x := x3) (y := x4) hx hb dX6_lookAt_200 ?_
    refine lv_istore_n (lv' := [(3, .int (x3 + x4)), (0, .ref (ad 0)), (1, .int x1), (2, .int x2), (4, .int x4)]) hx hb dX6_lookAt_201 rfl hl (by decide) rfl (fun ls hl => ?_)
    refine lv_goto (tgt := 2) hx hb dX6_lookAt_202 (by decide) ?_
    exact hrc2 z x1 x2 (x3 + x4) r z' hf H locs ls hS (lv_sub hl [1, 2, 3, 0] rfl)
  · replace hf := it_t hc hf
    refine lv_iload_n hx hb dX6_lookAt_195 rfl (lv_at hl 3 rfl) ?_
    cases hf
    exact rti C hS dX6_lookAt_196
set_option maxHeartbeats 4000000 in
set_option maxRecDepth 100000 in
theorem w_rm_lookAt_b182 {p : Program} {l : Launch} {e : Env} {s : State} {m : MethodId} {args : Array Value} {below : List Frame} {meth : Method} {c : Code} {D : va_G} {w0 : va_W} {ad : Nat → Nat} {cA : Nat → ClassId} (C : Cx p s m args meth c cX6_lookAt 6 (some .int) RX6 wsX6_lookAt D (tM cA)) (k : Nat) {rc2 : SS → Int32 → Int32 → Int32 → Option (Int32 × SS)} (hrc2 : ∀ (z : SS) (x1 : Int32) (x2 : Int32) (x3 : Int32) (r : Int32) (z' : SS), rc2 z x1 x2 x3 = some (r, z') → ∀ (H : Heap) (locs : List Loc) (ls : Array Slot), St D (va_A w0 s.heap.size) s.heap (wM ad cA z) H locs → lv_has ls 6 [(0, .ref (ad 0)), (1, .int x1), (2, .int x2), (3, .int x3)] → W p l e R_rm_lookAt s m args below meth c H locs 0 0 (MQ below (kI D (tM cA) r w0 (wM ad cA z') s.heap.size) args s 0 0 (va_A w0 s.heap.size)) (F0 m 2 ls [])) (z : SS) (x1 : Int32) (x2 : Int32) (x3 : Int32) (x4 : Int32) (y0 : Int32) (r : Int32) (z' : SS) (hf : rm_lookAt_b182 k rc2 z x1 x2 x3 x4 y0 = some (r, z')) : ∀ (H : Heap) (locs : List Loc) (ls : Array Slot), St D (va_A w0 s.heap.size) s.heap (wM ad cA z) H locs → lv_has ls 6 [(0, .ref (ad 0)), (1, .int x1), (2, .int x2), (3, .int x3), (4, .int x4)] → W p l e R_rm_lookAt s m args below meth c H locs 0 0 (MQ below (kI D (tM cA) r w0 (wM ad cA z') s.heap.size) args s 0 0 (va_A w0 s.heap.size)) (F0 m 182 ls [.int y0, .ref (ad 0)]) := by
  obtain ⟨hx, hb, hr, hml, hown, hts, hlk, hK⟩ := id C
  intro H locs ls hS hl
  have hf : rm_lookAt_b190 k rc2 (si (si z 13 y0) 25 1) x1 x2 x3 x4 = some (r, z') := hf
  refine pM_13 C hS in_X6_lookAt_X6 lk_X6_lookAt_33 (v := y0) rfl rfl dX6_lookAt_182 (fun H locs hS => ?_)
  refine lv_aload_n hx hb dX6_lookAt_185 rfl (lv_at hl 0 rfl) ?_
  refine lv_iconst (v := 1) hx hb dX6_lookAt_186 (by decide) ?_
  refine pM_25 C hS in_X6_lookAt_X6 lk_X6_lookAt_54 (v := 1) rfl rfl dX6_lookAt_187 (fun H locs hS => ?_)
  exact w_rm_lookAt_b190 C k hrc2 (si (si z 13 y0) 25 1) x1 x2 x3 x4 r z' hf H locs ls hS (lv_sub hl [0, 1, 2, 3, 4] rfl)
set_option maxHeartbeats 4000000 in
set_option maxRecDepth 100000 in
theorem w_rm_lookAt_b119 {p : Program} {l : Launch} {e : Env} {s : State} {m : MethodId} {args : Array Value} {below : List Frame} {meth : Method} {c : Code} {D : va_G} {w0 : va_W} {ad : Nat → Nat} {cA : Nat → ClassId} (C : Cx p s m args meth c cX6_lookAt 6 (some .int) RX6 wsX6_lookAt D (tM cA)) (k : Nat) {rc2 : SS → Int32 → Int32 → Int32 → Option (Int32 × SS)} (hrc2 : ∀ (z : SS) (x1 : Int32) (x2 : Int32) (x3 : Int32) (r : Int32) (z' : SS), rc2 z x1 x2 x3 = some (r, z') → ∀ (H : Heap) (locs : List Loc) (ls : Array Slot), St D (va_A w0 s.heap.size) s.heap (wM ad cA z) H locs → lv_has ls 6 [(0, .ref (ad 0)), (1, .int x1), (2, .int x2), (3, .int x3)] → W p l e R_rm_lookAt s m args below meth c H locs 0 0 (MQ below (kI D (tM cA) r w0 (wM ad cA z') s.heap.size) args s 0 0 (va_A w0 s.heap.size)) (F0 m 2 ls [])) (z : SS) (x1 : Int32) (x2 : Int32) (x3 : Int32) (x4 : Int32) (y0 : Int32) (y1 : Int32) (r : Int32) (z' : SS) (hf : rm_lookAt_b119 k rc2 z x1 x2 x3 x4 y0 y1 = some (r, z')) : ∀ (H : Heap) (locs : List Loc) (ls : Array Slot), St D (va_A w0 s.heap.size) s.heap (wM ad cA z) H locs → lv_has ls 6 [(0, .ref (ad 0)), (1, .int x1), (2, .int x2), (3, .int x3), (4, .int x4)] → W p l e R_rm_lookAt s m args below meth c H locs 0 0 (MQ below (kI D (tM cA) r w0 (wM ad cA z') s.heap.size) args s 0 0 (va_A w0 s.heap.size)) (F0 m 119 ls [.int y0, .int y1, .ref (ad 10)]) := by
  obtain ⟨hx, hb, hr, hml, hown, hts, hlk, hK⟩ := id C
  intro H locs ls hS hl
  have hf : (if ck y1 160 = true then (if ck (z.1 15) 160 = true then rm_lookAt_b190 k rc2 (si (sa (sa z 10 (Int32.toNatClampNeg y1) (vp_nar .boolean y0)) 11 (Int32.toNatClampNeg (z.1 15)) x4) 15 ((z.1 15) + 1)) x1 x2 x3 x4 else none) else none) = some (r, z') := hf
  obtain ⟨hck, hf⟩ := cs hf
  refine sM_10 C hS (i := y1) (x := y0) hck dX6_lookAt_119 (fun H locs hS => ?_)
  refine lv_aload_n hx hb dX6_lookAt_120 rfl (lv_at hl 0 rfl) ?_
  refine hM_11 C hS in_X6_lookAt_X6 lk_X6_lookAt_48 dX6_lookAt_121 ?_
  refine lv_aload_n hx hb dX6_lookAt_124 rfl (lv_at hl 0 rfl) ?_
  refine gM_15 C hS in_X6_lookAt_X6 lk_X6_lookAt_96 (v := (z.1 15)) (sa_i.trans rfl) dX6_lookAt_125 ?_
  refine lv_iload hx hb dX6_lookAt_128 (lv_at hl 4 rfl) ?_
  obtain ⟨hck, hf⟩ := cs hf
  refine sM_11 C hS (i := (z.1 15)) (x := x4) hck dX6_lookAt_130 (fun H locs hS => ?_)
  refine lv_aload_n hx hb dX6_lookAt_131 rfl (lv_at hl 0 rfl) ?_
  refine lv_dup hx hb dX6_lookAt_132 rfl ?_
  refine gM_15 C hS in_X6_lookAt_X6 lk_X6_lookAt_96 (v := (z.1 15)) (sa_i.trans (sa_i.trans rfl)) dX6_lookAt_133 ?_
  refine lv_iconst (v := 1) hx hb dX6_lookAt_136 (by decide) ?_
  refine lv_iadd (x := (z.1 15)) (y := 1) hx hb dX6_lookAt_137 ?_
  refine pM_15 C hS in_X6_lookAt_X6 lk_X6_lookAt_96 (v := ((z.1 15) + 1)) rfl rfl dX6_lookAt_138 (fun H locs hS => ?_)
  refine lv_goto (tgt := 190) hx hb dX6_lookAt_141 (by decide) ?_
  exact w_rm_lookAt_b190 C k hrc2 (si (sa (sa z 10 (Int32.toNatClampNeg y1) (vp_nar .boolean y0)) 11 (Int32.toNatClampNeg (z.1 15)) x4) 15 ((z.1 15) + 1)) x1 x2 x3 x4 r z' hf H locs ls hS (lv_sub hl [0, 1, 2, 3, 4] rfl)
set_option maxHeartbeats 4000000 in
set_option maxRecDepth 100000 in
theorem w_rm_lookAt_b2 {p : Program} {l : Launch} {e : Env} {s : State} {m : MethodId} {args : Array Value} {below : List Frame} {meth : Method} {c : Code} {D : va_G} {w0 : va_W} {ad : Nat → Nat} {cA : Nat → ClassId} (C : Cx p s m args meth c cX6_lookAt 6 (some .int) RX6 wsX6_lookAt D (tM cA)) (k : Nat) : ∀ (fu : Nat) (z : SS) (x1 : Int32) (x2 : Int32) (x3 : Int32) (r : Int32) (z' : SS), rm_lookAt_b2 k fu z x1 x2 x3 = some (r, z') → ∀ (H : Heap) (locs : List Loc) (ls : Array Slot), St D (va_A w0 s.heap.size) s.heap (wM ad cA z) H locs → lv_has ls 6 [(0, .ref (ad 0)), (1, .int x1), (2, .int x2), (3, .int x3)] → W p l e R_rm_lookAt s m args below meth c H locs 0 0 (MQ below (kI D (tM cA) r w0 (wM ad cA z') s.heap.size) args s 0 0 (va_A w0 s.heap.size)) (F0 m 2 ls []) := by
  obtain ⟨hx, hb, hr, hml, hown, hts, hlk, hK⟩ := id C
  intro fu
  induction fu with
  | zero =>
    intro z x1 x2 x3 r z' hf
    cases (show (none : Option (Int32 × SS)) = some (r, z') from hf)
  | succ fu ih =>
    intro z x1 x2 x3 r z' hf H locs ls hS hl
    have hf : (if x2 ≤ x3 then some (x3, z) else (if ck ((200 * x1) + x3) 2400 = true then (if ((z.2 1) (Int32.toNatClampNeg ((200 * x1) + x3))) = 0 then some (x3, z) else (bo (rm_sizeAt k z x1 x3) fun r_1 => (bo (rm_isGood k z x1 x3) fun r_2 => (if r_2 = 0 then (if (z.1 25) = 0 then (if (x3 + 7) ≤ 200 then (bo (rm_number k z (((200 * x1) + x3) + 3) 4) fun r_3 => rm_lookAt_b182 k (rm_lookAt_b2 k fu) z x1 x2 x3 r_1 r_3) else rm_lookAt_b182 k (rm_lookAt_b2 k fu) z x1 x2 x3 r_1 0) else rm_lookAt_b182 k (rm_lookAt_b2 k fu) z x1 x2 x3 r_1 (z.1 13)) else (if ck (z.1 15) 160 = true then (bo (rm_number k (sa z 7 (Int32.toNatClampNeg (z.1 15)) ((200 * x1) + x3)) (((200 * x1) + x3) + 1) 2) fun r_4 => (if ck (z.1 15) 160 = true then (bo (rm_number k (sa (sa z 7 (Int32.toNatClampNeg (z.1 15)) ((200 * x1) + x3)) 8 (Int32.toNatClampNeg (z.1 15)) r_4) (((200 * x1) + x3) + 3) 4) fun r_5 => (if ck (z.1 15) 160 = true then (if ck ((200 * x1) + x3) 2400 = true then (if ((z.2 1) (Int32.toNatClampNeg ((200 * x1) + x3))) = 2 then rm_lookAt_b119 k (rm_lookAt_b2 k fu) (sa (sa (sa z 7 (Int32.toNatClampNeg (z.1 15)) ((200 * x1) + x3)) 8 (Int32.toNatClampNeg (z.1 15)) r_4) 9 (Int32.toNatClampNeg (z.1 15)) r_5) x1 x2 x3 r_1 1 (z.1 15) else rm_lookAt_b119 k (rm_lookAt_b2 k fu) (sa (sa (sa z 7 (Int32.toNatClampNeg (z.1 15)) ((200 * x1) + x3)) 8 (Int32.toNatClampNeg (z.1 15)) r_4) 9 (Int32.toNatClampNeg (z.1 15)) r_5) x1 x2 x3 r_1 0 (z.1 15)) else none) else none)) else none)) else none))))) else none)) = some (r, z') := hf
    refine lv_iload_n hx hb dX6_lookAt_2 rfl (lv_at hl 3 rfl) ?_
    refine lv_iload_n hx hb dX6_lookAt_3 rfl (lv_at hl 2 rfl) ?_
    refine lv_icmp_ge (x := x3) (y := x2) (tgt := 205) hx hb dX6_lookAt_4 (by decide) (fun hc => ?_) (fun hc => ?_)
    · replace hf := it_t hc hf
      refine lv_iload_n hx hb dX6_lookAt_205 rfl (lv_at hl 3 rfl) ?_
      cases hf
      exact rti C hS dX6_lookAt_206
    · replace hf := it_f hc hf
      refine lv_aload_n hx hb dX6_lookAt_7 rfl (lv_at hl 0 rfl) ?_
      refine hM_1 C hS in_X6_lookAt_X6 lk_X6_lookAt_7 dX6_lookAt_8 ?_
      refine lv_sipush (v := 200) hx hb dX6_lookAt_11 (by decide) ?_
      refine lv_iload_n hx hb dX6_lookAt_14 rfl (lv_at hl 1 rfl) ?_
      refine lv_imul (x := 200) (y := x1) hx hb dX6_lookAt_15 ?_
      refine lv_iload_n hx hb dX6_lookAt_16 rfl (lv_at hl 3 rfl) ?_
      refine lv_iadd (x := (200 * x1)) (y := x3) hx hb dX6_lookAt_17 ?_
      obtain ⟨hck, hf⟩ := cs hf
      refine lM_1 C hS (f := (z.2 1)) rfl (i := ((200 * x1) + x3)) hck dX6_lookAt_18 ?_
      refine lv_if_eq (x := ((z.2 1) (Int32.toNatClampNeg ((200 * x1) + x3)))) (tgt := 205) hx hb dX6_lookAt_19 (by decide) (fun hc => ?_) (fun hc => ?_)
      · replace hf := it_t hc hf
        refine lv_iload_n hx hb dX6_lookAt_205 rfl (lv_at hl 3 rfl) ?_
        cases hf
        exact rti C hS dX6_lookAt_206
      · replace hf := it_f hc hf
        refine lv_aload_n hx hb dX6_lookAt_22 rfl (lv_at hl 0 rfl) ?_
        refine lv_iload_n hx hb dX6_lookAt_23 rfl (lv_at hl 1 rfl) ?_
        refine lv_iload_n hx hb dX6_lookAt_24 rfl (lv_at hl 3 rfl) ?_
        obtain ⟨r_1, hcl, hf⟩ := bo_s hf
        refine rcVi (n := 2) (As := [.int x1, .int x3]) (rest := []) (q0 := 0) (w' := (wM ad cA z)) C hS (fun sz => c_rm_sizeAt l D ad cA k z x1 x3 r_1 hcl sz) gX6_lookAt_X6_sizeAt rfl ⟨rfl, rfl⟩ (by decide +kernel) ⟨Nat.le_of_ble_eq_true rfl, Nat.le_of_ble_eq_true rfl⟩ oM_0 rfl rfl hl.1 rfl (Nat.le_of_ble_eq_true rfl) dX6_lookAt_25 (fun H locs hS => ?_)
        refine lv_istore (lv' := [(4, .int r_1), (0, .ref (ad 0)), (1, .int x1), (2, .int x2), (3, .int x3)]) hx hb dX6_lookAt_28 hl (by decide) rfl (fun ls hl => ?_)
        refine lv_sipush (v := 200) hx hb dX6_lookAt_30 (by decide) ?_
        refine lv_iload_n hx hb dX6_lookAt_33 rfl (lv_at hl 2 rfl) ?_
        refine lv_imul (x := 200) (y := x1) hx hb dX6_lookAt_34 ?_
        refine lv_iload_n hx hb dX6_lookAt_35 rfl (lv_at hl 4 rfl) ?_
        refine lv_iadd (x := (200 * x1)) (y := x3) hx hb dX6_lookAt_36 ?_
        refine lv_istore (lv' := [(5, .int ((200 * x1) + x3)), (4, .int r_1), (0, .ref (ad 0)), (1, .int x1), (2, .int x2), (3, .int x3)]) hx hb dX6_lookAt_37 hl (by decide) rfl (fun ls hl => ?_)
        refine lv_aload_n hx hb dX6_lookAt_39 rfl (lv_at hl 2 rfl) ?_
        refine lv_iload_n hx hb dX6_lookAt_40 rfl (lv_at hl 3 rfl) ?_
        refine lv_iload_n hx hb dX6_lookAt_41 rfl (lv_at hl 5 rfl) ?_
        obtain ⟨r_2, hcl, hf⟩ := bo_s hf
        refine rcVi (n := 2) (As := [.int x1, .int x3]) (rest := []) (q0 := 0) (w' := (wM ad cA z)) C hS (fun sz => c_rm_isGood l D ad cA k z x1 x3 r_2 hcl sz) gX6_lookAt_X6_isGood rfl ⟨rfl, rfl⟩ (by decide +kernel) ⟨Nat.le_of_ble_eq_true rfl, Nat.le_of_ble_eq_true rfl⟩ oM_0 rfl rfl hl.1 rfl (Nat.le_of_ble_eq_true rfl) dX6_lookAt_42 (fun H locs hS => ?_)
        refine lv_if_eq (x := r_2) (tgt := 144) hx hb dX6_lookAt_45 (by decide) (fun hc => ?_) (fun hc => ?_)
        · replace hf := it_t hc hf
          refine lv_aload_n hx hb dX6_lookAt_144 rfl (lv_at hl 2 rfl) ?_
          refine lv_aload_n hx hb dX6_lookAt_145 rfl (lv_at hl 2 rfl) ?_
          refine gM_25 C hS in_X6_lookAt_X6 lk_X6_lookAt_54 (v := (z.1 25)) rfl dX6_lookAt_146 ?_
          refine lv_if_eq (x := (z.1 25)) (tgt := 159) hx hb dX6_lookAt_149 (by decide) (fun hc => ?_) (fun hc => ?_)
          · replace hf := it_t hc hf
            refine lv_iload_n hx hb dX6_lookAt_159 rfl (lv_at hl 5 rfl) ?_
            refine lv_bipush (v := 7) hx hb dX6_lookAt_160 (by decide) ?_
            refine lv_iadd (x := x3) (y := 7) hx hb dX6_lookAt_162 ?_
            refine lv_sipush (v := 200) hx hb dX6_lookAt_163 (by decide) ?_
            refine lv_icmp_le (x := (x3 + 7)) (y := 200) (tgt := 173) hx hb dX6_lookAt_166 (by decide) (fun hc => ?_) (fun hc => ?_)
            · replace hf := it_t hc hf
              refine lv_aload_n hx hb dX6_lookAt_173 rfl (lv_at hl 2 rfl) ?_
              refine lv_iload hx hb dX6_lookAt_174 (lv_at hl 0 rfl) ?_
              refine lv_iconst (v := 3) hx hb dX6_lookAt_176 (by decide) ?_
              refine lv_iadd (x := ((200 * x1) + x3)) (y := 3) hx hb dX6_lookAt_177 ?_
              refine lv_iconst (v := 4) hx hb dX6_lookAt_178 (by decide) ?_
              obtain ⟨r_3, hcl, hf⟩ := bo_s hf
              refine rcVi (n := 2) (As := [.int (((200 * x1) + x3) + 3), .int 4]) (rest := [.ref (ad 0)]) (q0 := 0) (w' := (wM ad cA z)) C hS (fun sz => c_rm_number l D ad cA k z (((200 * x1) + x3) + 3) 4 r_3 hcl sz) gX6_lookAt_X6_number rfl ⟨rfl, rfl⟩ (by decide +kernel) ⟨Nat.le_of_ble_eq_true rfl, Nat.le_of_ble_eq_true rfl⟩ oM_0 rfl rfl hl.1 rfl (Nat.le_of_ble_eq_true rfl) dX6_lookAt_179 (fun H locs hS => ?_)
              exact w_rm_lookAt_b182 C k ih z x1 x2 x3 r_1 r_3 r z' hf H locs ls hS (lv_sub hl [2, 3, 4, 5, 1] rfl)
            · replace hf := it_f hc hf
              refine lv_iconst (v := 0) hx hb dX6_lookAt_169 (by decide) ?_
              refine lv_goto (tgt := 182) hx hb dX6_lookAt_170 (by decide) ?_
              exact w_rm_lookAt_b182 C k ih z x1 x2 x3 r_1 0 r z' hf H locs ls hS (lv_sub hl [2, 3, 4, 5, 1] rfl)
          · replace hf := it_f hc hf
            refine lv_aload_n hx hb dX6_lookAt_152 rfl (lv_at hl 2 rfl) ?_
            refine gM_13 C hS in_X6_lookAt_X6 lk_X6_lookAt_33 (v := (z.1 13)) rfl dX6_lookAt_153 ?_
            refine lv_goto (tgt := 182) hx hb dX6_lookAt_156 (by decide) ?_
            exact w_rm_lookAt_b182 C k ih z x1 x2 x3 r_1 (z.1 13) r z' hf H locs ls hS (lv_sub hl [2, 3, 4, 5, 1] rfl)
        · replace hf := it_f hc hf
          refine lv_aload_n hx hb dX6_lookAt_48 rfl (lv_at hl 2 rfl) ?_
          refine hM_7 C hS in_X6_lookAt_X6 lk_X6_lookAt_36 dX6_lookAt_49 ?_
          refine lv_aload_n hx hb dX6_lookAt_52 rfl (lv_at hl 2 rfl) ?_
          refine gM_15 C hS in_X6_lookAt_X6 lk_X6_lookAt_96 (v := (z.1 15)) rfl dX6_lookAt_53 ?_
          refine lv_iload hx hb dX6_lookAt_56 (lv_at hl 0 rfl) ?_
          obtain ⟨hck, hf⟩ := cs hf
          refine sM_7 C hS (i := (z.1 15)) (x := ((200 * x1) + x3)) hck dX6_lookAt_58 (fun H locs hS => ?_)
          refine lv_aload_n hx hb dX6_lookAt_59 rfl (lv_at hl 2 rfl) ?_
          refine hM_8 C hS in_X6_lookAt_X6 lk_X6_lookAt_39 dX6_lookAt_60 ?_
          refine lv_aload_n hx hb dX6_lookAt_63 rfl (lv_at hl 2 rfl) ?_
          refine gM_15 C hS in_X6_lookAt_X6 lk_X6_lookAt_96 (v := (z.1 15)) (sa_i.trans rfl) dX6_lookAt_64 ?_
          refine lv_aload_n hx hb dX6_lookAt_67 rfl (lv_at hl 2 rfl) ?_
          refine lv_iload hx hb dX6_lookAt_68 (lv_at hl 0 rfl) ?_
          refine lv_iconst (v := 1) hx hb dX6_lookAt_70 (by decide) ?_
          refine lv_iadd (x := ((200 * x1) + x3)) (y := 1) hx hb dX6_lookAt_71 ?_
          refine lv_iconst (v := 2) hx hb dX6_lookAt_72 (by decide) ?_
          obtain ⟨r_4, hcl, hf⟩ := bo_s hf
          refine rcVi (n := 2) (As := [.int (((200 * x1) + x3) + 1), .int 2]) (rest := [.int (z.1 15), .ref (ad 8)]) (q0 := 0) (w' := (wM ad cA (sa z 7 (Int32.toNatClampNeg (z.1 15)) ((200 * x1) + x3)))) C hS (fun sz => c_rm_number l D ad cA k (sa z 7 (Int32.toNatClampNeg (z.1 15)) ((200 * x1) + x3)) (((200 * x1) + x3) + 1) 2 r_4 hcl sz) gX6_lookAt_X6_number rfl ⟨rfl, rfl⟩ (by decide +kernel) ⟨Nat.le_of_ble_eq_true rfl, Nat.le_of_ble_eq_true rfl⟩ oM_0 rfl rfl hl.1 rfl (Nat.le_of_ble_eq_true rfl) dX6_lookAt_73 (fun H locs hS => ?_)
          obtain ⟨hck, hf⟩ := cs hf
          refine sM_8 C hS (i := (z.1 15)) (x := r_4) hck dX6_lookAt_76 (fun H locs hS => ?_)
          refine lv_aload_n hx hb dX6_lookAt_77 rfl (lv_at hl 2 rfl) ?_
          refine hM_9 C hS in_X6_lookAt_X6 lk_X6_lookAt_42 dX6_lookAt_78 ?_
          refine lv_aload_n hx hb dX6_lookAt_81 rfl (lv_at hl 2 rfl) ?_
          refine gM_15 C hS in_X6_lookAt_X6 lk_X6_lookAt_96 (v := (z.1 15)) (sa_i.trans (sa_i.trans rfl)) dX6_lookAt_82 ?_
          refine lv_aload_n hx hb dX6_lookAt_85 rfl (lv_at hl 2 rfl) ?_
          refine lv_iload hx hb dX6_lookAt_86 (lv_at hl 0 rfl) ?_
          refine lv_iconst (v := 3) hx hb dX6_lookAt_88 (by decide) ?_
          refine lv_iadd (x := ((200 * x1) + x3)) (y := 3) hx hb dX6_lookAt_89 ?_
          refine lv_iconst (v := 4) hx hb dX6_lookAt_90 (by decide) ?_
          obtain ⟨r_5, hcl, hf⟩ := bo_s hf
          refine rcVi (n := 2) (As := [.int (((200 * x1) + x3) + 3), .int 4]) (rest := [.int (z.1 15), .ref (ad 9)]) (q0 := 0) (w' := (wM ad cA (sa (sa z 7 (Int32.toNatClampNeg (z.1 15)) ((200 * x1) + x3)) 8 (Int32.toNatClampNeg (z.1 15)) r_4))) C hS (fun sz => c_rm_number l D ad cA k (sa (sa z 7 (Int32.toNatClampNeg (z.1 15)) ((200 * x1) + x3)) 8 (Int32.toNatClampNeg (z.1 15)) r_4) (((200 * x1) + x3) + 3) 4 r_5 hcl sz) gX6_lookAt_X6_number rfl ⟨rfl, rfl⟩ (by decide +kernel) ⟨Nat.le_of_ble_eq_true rfl, Nat.le_of_ble_eq_true rfl⟩ oM_0 rfl rfl hl.1 rfl (Nat.le_of_ble_eq_true rfl) dX6_lookAt_91 (fun H locs hS => ?_)
          obtain ⟨hck, hf⟩ := cs hf
          refine sM_9 C hS (i := (z.1 15)) (x := r_5) hck dX6_lookAt_94 (fun H locs hS => ?_)
          refine lv_aload_n hx hb dX6_lookAt_95 rfl (lv_at hl 2 rfl) ?_
          refine hM_10 C hS in_X6_lookAt_X6 lk_X6_lookAt_45 dX6_lookAt_96 ?_
          refine lv_aload_n hx hb dX6_lookAt_99 rfl (lv_at hl 2 rfl) ?_
          refine gM_15 C hS in_X6_lookAt_X6 lk_X6_lookAt_96 (v := (z.1 15)) (sa_i.trans (sa_i.trans (sa_i.trans rfl))) dX6_lookAt_100 ?_
          refine lv_aload_n hx hb dX6_lookAt_103 rfl (lv_at hl 2 rfl) ?_
          refine hM_1 C hS in_X6_lookAt_X6 lk_X6_lookAt_7 dX6_lookAt_104 ?_
          refine lv_iload hx hb dX6_lookAt_107 (lv_at hl 0 rfl) ?_
          obtain ⟨hck, hf⟩ := cs hf
          refine lM_1 C hS (f := (z.2 1)) ((sa_o (by decide)).trans ((sa_o (by decide)).trans ((sa_o (by decide)).trans rfl))) (i := ((200 * x1) + x3)) hck dX6_lookAt_109 ?_
          refine lv_iconst (v := 2) hx hb dX6_lookAt_110 (by decide) ?_
          refine lv_icmp_ne (x := ((z.2 1) (Int32.toNatClampNeg ((200 * x1) + x3)))) (y := 2) (tgt := 118) hx hb dX6_lookAt_111 (by decide) (fun hc => ?_) (fun hc => ?_)
          · replace hf := it_f hc hf
            refine lv_iconst (v := 0) hx hb dX6_lookAt_118 (by decide) ?_
            exact w_rm_lookAt_b119 C k ih (sa (sa (sa z 7 (Int32.toNatClampNeg (z.1 15)) ((200 * x1) + x3)) 8 (Int32.toNatClampNeg (z.1 15)) r_4) 9 (Int32.toNatClampNeg (z.1 15)) r_5) x1 x2 x3 r_1 0 (z.1 15) r z' hf H locs ls hS (lv_sub hl [2, 3, 4, 5, 1] rfl)
          · replace hf := it_t hc hf
            refine lv_iconst (v := 1) hx hb dX6_lookAt_114 (by decide) ?_
            refine lv_goto (tgt := 119) hx hb dX6_lookAt_115 (by decide) ?_
            exact w_rm_lookAt_b119 C k ih (sa (sa (sa z 7 (Int32.toNatClampNeg (z.1 15)) ((200 * x1) + x3)) 8 (Int32.toNatClampNeg (z.1 15)) r_4) 9 (Int32.toNatClampNeg (z.1 15)) r_5) x1 x2 x3 r_1 1 (z.1 15) r z' hf H locs ls hS (lv_sub hl [2, 3, 4, 5, 1] rfl)
set_option maxHeartbeats 4000000 in
set_option maxRecDepth 100000 in
theorem w_rm_lookAt_0 {p : Program} {l : Launch} {e : Env} {s : State} {m : MethodId} {args : Array Value} {below : List Frame} {meth : Method} {c : Code} {D : va_G} {w0 : va_W} {ad : Nat → Nat} {cA : Nat → ClassId} (C : Cx p s m args meth c cX6_lookAt 6 (some .int) RX6 wsX6_lookAt D (tM cA)) (k : Nat) (z : SS) (x1 : Int32) (x2 : Int32) (r : Int32) (z' : SS) (hf : rm_lookAt k z x1 x2 = some (r, z')) : ∀ (H : Heap) (locs : List Loc) (ls : Array Slot), St D (va_A w0 s.heap.size) s.heap (wM ad cA z) H locs → lv_has ls 6 [(0, .ref (ad 0)), (1, .int x1), (2, .int x2)] → W p l e R_rm_lookAt s m args below meth c H locs 0 0 (MQ below (kI D (tM cA) r w0 (wM ad cA z') s.heap.size) args s 0 0 (va_A w0 s.heap.size)) (F0 m 0 ls []) := by
  obtain ⟨hx, hb, hr, hml, hown, hts, hlk, hK⟩ := id C
  intro H locs ls hS hl
  have hf : rm_lookAt_b2 k k z x1 x2 0 = some (r, z') := hf
  refine lv_iconst (v := 0) hx hb dX6_lookAt_0 (by decide) ?_
  refine lv_istore_n (lv' := [(3, .int 0), (0, .ref (ad 0)), (1, .int x1), (2, .int x2)]) hx hb dX6_lookAt_1 rfl hl (by decide) rfl (fun ls hl => ?_)
  exact w_rm_lookAt_b2 C k k z x1 x2 0 r z' hf H locs ls hS (lv_sub hl [1, 2, 3, 0] rfl)
set_option maxHeartbeats 4000000 in
set_option maxRecDepth 100000 in
theorem c_rm_lookAt (l : Launch) (D : va_G) (ad : Nat → Nat) (cA : Nat → ClassId) (k : Nat) (z : SS) (x1 : Int32) (x2 : Int32) (r : Int32) (z' : SS) (hf : rm_lookAt k z x1 x2 = some (r, z')) (sz : Nat) : Met l yX6_lookAt wsX6_lookAt R_rm_lookAt (kP D (tM cA) [.ref (ad 0), .int x1, .int x2] (wM ad cA z) sz) (kI D (tM cA) r (wM ad cA z) (wM ad cA z') sz) 0 0 (va_A (wM ad cA z) sz) := by
  refine ent (by decide) rfl rfl (Nat.le_of_ble_eq_true rfl) (fun p e s m args below meth c hsz C hS ls hl => ?_)
  subst hsz
  exact w_rm_lookAt_0 C k z x1 x2 r z' hf s.heap [] ls hS hl
-- rm_know: private void know();
theorem lk_X6_know_64 : Cond.fieldLink RX6 64 (TX6 0).1 (TX6 0).2.1 (TX6 0).2.2.1 ∈ wsX6_know := by decide +kernel
theorem in_X6_know_X6 : ∀ x ∈ u_ws RX6 TX6 29, x ∈ wsX6_know := by decide +kernel
theorem lk_X6_know_13 : Cond.fieldLink RX6 13 (TX6 3).1 (TX6 3).2.1 (TX6 3).2.2.1 ∈ wsX6_know := by decide +kernel
theorem lk_X6_know_99 : Cond.fieldLink RX6 99 (TX6 14).1 (TX6 14).2.1 (TX6 14).2.2.1 ∈ wsX6_know := by decide +kernel
theorem lk_X6_know_96 : Cond.fieldLink RX6 96 (TX6 15).1 (TX6 15).2.1 (TX6 15).2.2.1 ∈ wsX6_know := by decide +kernel
def R_rm_know : Room := { frames := 4, cells := 0, slots := 0, locals := 100 }
def rm_know_b20 (k : Nat) : Nat → SS → Int32 → Option SS
  | 0, _, _ => none
  | fu + 1, z, x1 => (if (z.1 0) ≤ x1 then some z else (if ck x1 12 = true then (bi (rm_lookAt k z x1 ((z.2 2) (Int32.toNatClampNeg x1))) fun r_1 z_1 => rm_know_b20 k fu z_1 (x1 + 1)) else none))
def rm_know (k : Nat) (z : SS) : Option SS :=
  (if (z.1 14) = 0 then rm_know_b20 k k (si (si z 14 1) 15 0) 0 else some z)
set_option maxHeartbeats 4000000 in
set_option maxRecDepth 100000 in
theorem w_rm_know_b20 {p : Program} {l : Launch} {e : Env} {s : State} {m : MethodId} {args : Array Value} {below : List Frame} {meth : Method} {c : Code} {D : va_G} {w0 : va_W} {ad : Nat → Nat} {cA : Nat → ClassId} (C : Cx p s m args meth c cX6_know 2 none RX6 wsX6_know D (tM cA)) (k : Nat) : ∀ (fu : Nat) (z : SS) (x1 : Int32) (z' : SS), rm_know_b20 k fu z x1 = some z' → ∀ (H : Heap) (locs : List Loc) (ls : Array Slot), St D (va_A w0 s.heap.size) s.heap (wM ad cA z) H locs → lv_has ls 2 [(0, .ref (ad 0)), (1, .int x1)] → W p l e R_rm_know s m args below meth c H locs 0 0 (MQ below (kV D (tM cA) w0 (wM ad cA z') s.heap.size) args s 0 0 (va_A w0 s.heap.size)) (F0 m 20 ls []) := by
  obtain ⟨hx, hb, hr, hml, hown, hts, hlk, hK⟩ := id C
  intro fu
  induction fu with
  | zero =>
    intro z x1 z' hf
    cases (show (none : Option SS) = some z' from hf)
  | succ fu ih =>
    intro z x1 z' hf H locs ls hS hl
    have hf : (if (z.1 0) ≤ x1 then some z else (if ck x1 12 = true then (bi (rm_lookAt k z x1 ((z.2 2) (Int32.toNatClampNeg x1))) fun r_1 z_1 => rm_know_b20 k fu z_1 (x1 + 1)) else none)) = some z' := hf
    refine lv_iload_n hx hb dX6_know_20 rfl (lv_at hl 1 rfl) ?_
    refine lv_aload_n hx hb dX6_know_21 rfl (lv_at hl 0 rfl) ?_
    refine gM_0 C hS in_X6_know_X6 lk_X6_know_64 (v := (z.1 0)) rfl dX6_know_22 ?_
    refine lv_icmp_ge (x := x1) (y := (z.1 0)) (tgt := 46) hx hb dX6_know_25 (by decide) (fun hc => ?_) (fun hc => ?_)
    · replace hf := it_t hc hf
      cases hf
      exact rtv C hS dX6_know_46
    · replace hf := it_f hc hf
      refine lv_aload_n hx hb dX6_know_28 rfl (lv_at hl 0 rfl) ?_
      refine lv_iload_n hx hb dX6_know_29 rfl (lv_at hl 1 rfl) ?_
      refine lv_aload_n hx hb dX6_know_30 rfl (lv_at hl 0 rfl) ?_
      refine hM_2 C hS in_X6_know_X6 lk_X6_know_13 dX6_know_31 ?_
      refine lv_iload_n hx hb dX6_know_34 rfl (lv_at hl 1 rfl) ?_
      obtain ⟨hck, hf⟩ := cs hf
      refine lM_2 C hS (f := (z.2 2)) rfl (i := x1) hck dX6_know_35 ?_
      obtain ⟨r_1, z_1, hcl, hf⟩ := bi_s hf
      refine rcVi (n := 2) (As := [.int x1, .int ((z.2 2) (Int32.toNatClampNeg x1))]) (rest := []) (q0 := 0) (w' := (wM ad cA z_1)) C hS (fun sz => c_rm_lookAt l D ad cA k z x1 ((z.2 2) (Int32.toNatClampNeg x1)) r_1 z_1 hcl sz) gX6_know_X6_lookAt rfl ⟨rfl, rfl⟩ (by decide +kernel) ⟨Nat.le_of_ble_eq_true rfl, Nat.le_of_ble_eq_true rfl⟩ oM_0 rfl rfl hl.1 rfl (Nat.le_of_ble_eq_true rfl) dX6_know_36 (fun H locs hS => ?_)
      refine lv_pop hx hb dX6_know_39 rfl ?_
      refine lv_iinc (v := (x1 + 1)) (lv' := [(1, .int (x1 + 1)), (0, .ref (ad 0))]) hx hb dX6_know_40 hl (k := 1) rfl (congrArg (fun q => x1 + q) (by decide : Int32.ofInt 1 = (1 : Int32))) (by decide) rfl (fun ls hl => ?_)
      refine lv_goto (tgt := 20) hx hb dX6_know_43 (by decide) ?_
      exact ih z_1 (x1 + 1) z' hf H locs ls hS (lv_sub hl [1, 0] rfl)
set_option maxHeartbeats 4000000 in
set_option maxRecDepth 100000 in
theorem w_rm_know_0 {p : Program} {l : Launch} {e : Env} {s : State} {m : MethodId} {args : Array Value} {below : List Frame} {meth : Method} {c : Code} {D : va_G} {w0 : va_W} {ad : Nat → Nat} {cA : Nat → ClassId} (C : Cx p s m args meth c cX6_know 2 none RX6 wsX6_know D (tM cA)) (k : Nat) (z : SS) (z' : SS) (hf : rm_know k z = some z') : ∀ (H : Heap) (locs : List Loc) (ls : Array Slot), St D (va_A w0 s.heap.size) s.heap (wM ad cA z) H locs → lv_has ls 2 [(0, .ref (ad 0))] → W p l e R_rm_know s m args below meth c H locs 0 0 (MQ below (kV D (tM cA) w0 (wM ad cA z') s.heap.size) args s 0 0 (va_A w0 s.heap.size)) (F0 m 0 ls []) := by
  obtain ⟨hx, hb, hr, hml, hown, hts, hlk, hK⟩ := id C
  intro H locs ls hS hl
  have hf : (if (z.1 14) = 0 then rm_know_b20 k k (si (si z 14 1) 15 0) 0 else some z) = some z' := hf
  refine lv_aload_n hx hb dX6_know_0 rfl (lv_at hl 0 rfl) ?_
  refine gM_14 C hS in_X6_know_X6 lk_X6_know_99 (v := (z.1 14)) rfl dX6_know_1 ?_
  refine lv_if_eq (x := (z.1 14)) (tgt := 8) hx hb dX6_know_4 (by decide) (fun hc => ?_) (fun hc => ?_)
  · replace hf := it_t hc hf
    refine lv_aload_n hx hb dX6_know_8 rfl (lv_at hl 0 rfl) ?_
    refine lv_iconst (v := 1) hx hb dX6_know_9 (by decide) ?_
    refine pM_14 C hS in_X6_know_X6 lk_X6_know_99 (v := 1) rfl rfl dX6_know_10 (fun H locs hS => ?_)
    refine lv_aload_n hx hb dX6_know_13 rfl (lv_at hl 0 rfl) ?_
    refine lv_iconst (v := 0) hx hb dX6_know_14 (by decide) ?_
    refine pM_15 C hS in_X6_know_X6 lk_X6_know_96 (v := 0) rfl rfl dX6_know_15 (fun H locs hS => ?_)
    refine lv_iconst (v := 0) hx hb dX6_know_18 (by decide) ?_
    refine lv_istore_n (lv' := [(1, .int 0), (0, .ref (ad 0))]) hx hb dX6_know_19 rfl hl (by decide) rfl (fun ls hl => ?_)
    exact w_rm_know_b20 C k k (si (si z 14 1) 15 0) 0 z' hf H locs ls hS (lv_sub hl [1, 0] rfl)
  · replace hf := it_f hc hf
    cases hf
    exact rtv C hS dX6_know_7
set_option maxHeartbeats 4000000 in
set_option maxRecDepth 100000 in
theorem c_rm_know (l : Launch) (D : va_G) (ad : Nat → Nat) (cA : Nat → ClassId) (k : Nat) (z : SS) (z' : SS) (hf : rm_know k z = some z') (sz : Nat) : Met l yX6_know wsX6_know R_rm_know (kP D (tM cA) [.ref (ad 0)] (wM ad cA z) sz) (kV D (tM cA) (wM ad cA z) (wM ad cA z') sz) 0 0 (va_A (wM ad cA z) sz) := by
  refine ent (by decide) rfl rfl (Nat.le_of_ble_eq_true rfl) (fun p e s m args below meth c hsz C hS ls hl => ?_)
  subst hsz
  exact w_rm_know_0 C k z z' hf s.heap [] ls hS hl
-- rm_rowOf: private int rowOf(int, int);
theorem lk_X6_rowOf_96 : Cond.fieldLink RX6 96 (TX6 15).1 (TX6 15).2.1 (TX6 15).2.2.1 ∈ wsX6_rowOf := by decide +kernel
theorem in_X6_rowOf_X6 : ∀ x ∈ u_ws RX6 TX6 29, x ∈ wsX6_rowOf := by decide +kernel
theorem lk_X6_rowOf_39 : Cond.fieldLink RX6 39 (TX6 17).1 (TX6 17).2.1 (TX6 17).2.2.1 ∈ wsX6_rowOf := by decide +kernel
theorem lk_X6_rowOf_42 : Cond.fieldLink RX6 42 (TX6 18).1 (TX6 18).2.1 (TX6 18).2.2.1 ∈ wsX6_rowOf := by decide +kernel
def R_rm_rowOf : Room := { frames := 5, cells := 0, slots := 0, locals := 121 }
def rm_rowOf_b9 (k : Nat) : Nat → SS → Int32 → Int32 → Int32 → Int32 → Option (Int32 × SS)
  | 0, _, _, _, _, _ => none
  | fu + 1, z, x1, x2, x3, x4 => (if (z.1 15) ≤ x4 then some (x3, z) else (if ck x4 160 = true then (if ((z.2 8) (Int32.toNatClampNeg x4)) = x1 then (if ck x4 160 = true then (if x2 < ((z.2 9) (Int32.toNatClampNeg x4)) then rm_rowOf_b9 k fu z x1 x2 x3 (x4 + 1) else (if x3 < 0 then rm_rowOf_b9 k fu z x1 x2 x4 (x4 + 1) else (if ck x4 160 = true then (if ck x3 160 = true then (if ((z.2 9) (Int32.toNatClampNeg x4)) ≤ ((z.2 9) (Int32.toNatClampNeg x3)) then rm_rowOf_b9 k fu z x1 x2 x3 (x4 + 1) else rm_rowOf_b9 k fu z x1 x2 x4 (x4 + 1)) else none) else none))) else none) else rm_rowOf_b9 k fu z x1 x2 x3 (x4 + 1)) else none))
def rm_rowOf (k : Nat) (z : SS) (x1 : Int32) (x2 : Int32) : Option (Int32 × SS) :=
  (bo (rm_know k z) fun z_1 => rm_rowOf_b9 k k z_1 x1 x2 (-1) 0)
set_option maxHeartbeats 4000000 in
set_option maxRecDepth 100000 in
theorem w_rm_rowOf_b9 {p : Program} {l : Launch} {e : Env} {s : State} {m : MethodId} {args : Array Value} {below : List Frame} {meth : Method} {c : Code} {D : va_G} {w0 : va_W} {ad : Nat → Nat} {cA : Nat → ClassId} (C : Cx p s m args meth c cX6_rowOf 5 (some .int) RX6 wsX6_rowOf D (tM cA)) (k : Nat) : ∀ (fu : Nat) (z : SS) (x1 : Int32) (x2 : Int32) (x3 : Int32) (x4 : Int32) (r : Int32) (z' : SS), rm_rowOf_b9 k fu z x1 x2 x3 x4 = some (r, z') → ∀ (H : Heap) (locs : List Loc) (ls : Array Slot), St D (va_A w0 s.heap.size) s.heap (wM ad cA z) H locs → lv_has ls 5 [(0, .ref (ad 0)), (1, .int x1), (2, .int x2), (3, .int x3), (4, .int x4)] → W p l e R_rm_rowOf s m args below meth c H locs 0 0 (MQ below (kI D (tM cA) r w0 (wM ad cA z') s.heap.size) args s 0 0 (va_A w0 s.heap.size)) (F0 m 9 ls []) := by
  obtain ⟨hx, hb, hr, hml, hown, hts, hlk, hK⟩ := id C
  intro fu
  induction fu with
  | zero =>
    intro z x1 x2 x3 x4 r z' hf
    cases (show (none : Option (Int32 × SS)) = some (r, z') from hf)
  | succ fu ih =>
    intro z x1 x2 x3 x4 r z' hf H locs ls hS hl
    have hf : (if (z.1 15) ≤ x4 then some (x3, z) else (if ck x4 160 = true then (if ((z.2 8) (Int32.toNatClampNeg x4)) = x1 then (if ck x4 160 = true then (if x2 < ((z.2 9) (Int32.toNatClampNeg x4)) then rm_rowOf_b9 k fu z x1 x2 x3 (x4 + 1) else (if x3 < 0 then rm_rowOf_b9 k fu z x1 x2 x4 (x4 + 1) else (if ck x4 160 = true then (if ck x3 160 = true then (if ((z.2 9) (Int32.toNatClampNeg x4)) ≤ ((z.2 9) (Int32.toNatClampNeg x3)) then rm_rowOf_b9 k fu z x1 x2 x3 (x4 + 1) else rm_rowOf_b9 k fu z x1 x2 x4 (x4 + 1)) else none) else none))) else none) else rm_rowOf_b9 k fu z x1 x2 x3 (x4 + 1)) else none)) = some (r, z') := hf
    refine lv_iload hx hb dX6_rowOf_9 (lv_at hl 4 rfl) ?_
    refine lv_aload_n hx hb dX6_rowOf_11 rfl (lv_at hl 0 rfl) ?_
    refine gM_15 C hS in_X6_rowOf_X6 lk_X6_rowOf_96 (v := (z.1 15)) rfl dX6_rowOf_12 ?_
    refine lv_icmp_ge (x := x4) (y := (z.1 15)) (tgt := 69) hx hb dX6_rowOf_15 (by decide) (fun hc => ?_) (fun hc => ?_)
    · replace hf := it_t hc hf
      refine lv_iload_n hx hb dX6_rowOf_69 rfl (lv_at hl 3 rfl) ?_
      cases hf
      exact rti C hS dX6_rowOf_70
    · replace hf := it_f hc hf
      refine lv_aload_n hx hb dX6_rowOf_18 rfl (lv_at hl 0 rfl) ?_
      refine hM_8 C hS in_X6_rowOf_X6 lk_X6_rowOf_39 dX6_rowOf_19 ?_
      refine lv_iload hx hb dX6_rowOf_22 (lv_at hl 4 rfl) ?_
      obtain ⟨hck, hf⟩ := cs hf
      refine lM_8 C hS (f := (z.2 8)) rfl (i := x4) hck dX6_rowOf_24 ?_
      refine lv_iload_n hx hb dX6_rowOf_25 rfl (lv_at hl 1 rfl) ?_
      refine lv_icmp_ne (x := ((z.2 8) (Int32.toNatClampNeg x4))) (y := x1) (tgt := 63) hx hb dX6_rowOf_26 (by decide) (fun hc => ?_) (fun hc => ?_)
      · replace hf := it_f hc hf
        refine lv_iinc (v := (x4 + 1)) (lv' := [(4, .int (x4 + 1)), (0, .ref (ad 0)), (1, .int x1), (2, .int x2), (3, .int x3)]) hx hb dX6_rowOf_63 hl (k := 4) rfl (congrArg (fun q => x4 + q) (by decide : Int32.ofInt 1 = (1 : Int32))) (by decide) rfl (fun ls hl => ?_)
        refine lv_goto (tgt := 9) hx hb dX6_rowOf_66 (by decide) ?_
        exact ih z x1 x2 x3 (x4 + 1) r z' hf H locs ls hS (lv_sub hl [1, 2, 3, 4, 0] rfl)
      · replace hf := it_t hc hf
        refine lv_aload_n hx hb dX6_rowOf_29 rfl (lv_at hl 0 rfl) ?_
        refine hM_9 C hS in_X6_rowOf_X6 lk_X6_rowOf_42 dX6_rowOf_30 ?_
        refine lv_iload hx hb dX6_rowOf_33 (lv_at hl 4 rfl) ?_
        obtain ⟨hck, hf⟩ := cs hf
        refine lM_9 C hS (f := (z.2 9)) rfl (i := x4) hck dX6_rowOf_35 ?_
        refine lv_iload_n hx hb dX6_rowOf_36 rfl (lv_at hl 2 rfl) ?_
        refine lv_icmp_gt (x := ((z.2 9) (Int32.toNatClampNeg x4))) (y := x2) (tgt := 63) hx hb dX6_rowOf_37 (by decide) (fun hc => ?_) (fun hc => ?_)
        · replace hf := it_t hc hf
          refine lv_iinc (v := (x4 + 1)) (lv' := [(4, .int (x4 + 1)), (0, .ref (ad 0)), (1, .int x1), (2, .int x2), (3, .int x3)]) hx hb dX6_rowOf_63 hl (k := 4) rfl (congrArg (fun q => x4 + q) (by decide : Int32.ofInt 1 = (1 : Int32))) (by decide) rfl (fun ls hl => ?_)
          refine lv_goto (tgt := 9) hx hb dX6_rowOf_66 (by decide) ?_
          exact ih z x1 x2 x3 (x4 + 1) r z' hf H locs ls hS (lv_sub hl [1, 2, 3, 4, 0] rfl)
        · replace hf := it_f hc hf
          refine lv_iload_n hx hb dX6_rowOf_40 rfl (lv_at hl 3 rfl) ?_
          refine lv_if_lt (x := x3) (tgt := 60) hx hb dX6_rowOf_41 (by decide) (fun hc => ?_) (fun hc => ?_)
          · replace hf := it_t hc hf
            refine lv_iload hx hb dX6_rowOf_60 (lv_at hl 4 rfl) ?_
            refine lv_istore_n (lv' := [(3, .int x4), (0, .ref (ad 0)), (1, .int x1), (2, .int x2), (4, .int x4)]) hx hb dX6_rowOf_62 rfl hl (by decide) rfl (fun ls hl => ?_)
            refine lv_iinc (v := (x4 + 1)) (lv' := [(4, .int (x4 + 1)), (3, .int x4), (0, .ref (ad 0)), (1, .int x1), (2, .int x2)]) hx hb dX6_rowOf_63 hl (k := 4) rfl (congrArg (fun q => x4 + q) (by decide : Int32.ofInt 1 = (1 : Int32))) (by decide) rfl (fun ls hl => ?_)
            refine lv_goto (tgt := 9) hx hb dX6_rowOf_66 (by decide) ?_
            exact ih z x1 x2 x4 (x4 + 1) r z' hf H locs ls hS (lv_sub hl [2, 3, 4, 1, 0] rfl)
          · replace hf := it_f hc hf
            refine lv_aload_n hx hb dX6_rowOf_44 rfl (lv_at hl 0 rfl) ?_
            refine hM_9 C hS in_X6_rowOf_X6 lk_X6_rowOf_42 dX6_rowOf_45 ?_
            refine lv_iload hx hb dX6_rowOf_48 (lv_at hl 4 rfl) ?_
            obtain ⟨hck, hf⟩ := cs hf
            refine lM_9 C hS (f := (z.2 9)) rfl (i := x4) hck dX6_rowOf_50 ?_
            refine lv_aload_n hx hb dX6_rowOf_51 rfl (lv_at hl 0 rfl) ?_
            refine hM_9 C hS in_X6_rowOf_X6 lk_X6_rowOf_42 dX6_rowOf_52 ?_
            refine lv_iload_n hx hb dX6_rowOf_55 rfl (lv_at hl 3 rfl) ?_
            obtain ⟨hck, hf⟩ := cs hf
            refine lM_9 C hS (f := (z.2 9)) rfl (i := x3) hck dX6_rowOf_56 ?_
            refine lv_icmp_le (x := ((z.2 9) (Int32.toNatClampNeg x4))) (y := ((z.2 9) (Int32.toNatClampNeg x3))) (tgt := 63) hx hb dX6_rowOf_57 (by decide) (fun hc => ?_) (fun hc => ?_)
            · replace hf := it_t hc hf
              refine lv_iinc (v := (x4 + 1)) (lv' := [(4, .int (x4 + 1)), (0, .ref (ad 0)), (1, .int x1), (2, .int x2), (3, .int x3)]) hx hb dX6_rowOf_63 hl (k := 4) rfl (congrArg (fun q => x4 + q) (by decide : Int32.ofInt 1 = (1 : Int32))) (by decide) rfl (fun ls hl => ?_)
              refine lv_goto (tgt := 9) hx hb dX6_rowOf_66 (by decide) ?_
              exact ih z x1 x2 x3 (x4 + 1) r z' hf H locs ls hS (lv_sub hl [1, 2, 3, 4, 0] rfl)
            · replace hf := it_f hc hf
              refine lv_iload hx hb dX6_rowOf_60 (lv_at hl 4 rfl) ?_
              refine lv_istore_n (lv' := [(3, .int x4), (0, .ref (ad 0)), (1, .int x1), (2, .int x2), (4, .int x4)]) hx hb dX6_rowOf_62 rfl hl (by decide) rfl (fun ls hl => ?_)
              refine lv_iinc (v := (x4 + 1)) (lv' := [(4, .int (x4 + 1)), (3, .int x4), (0, .ref (ad 0)), (1, .int x1), (2, .int x2)]) hx hb dX6_rowOf_63 hl (k := 4) rfl (congrArg (fun q => x4 + q) (by decide : Int32.ofInt 1 = (1 : Int32))) (by decide) rfl (fun ls hl => ?_)
              refine lv_goto (tgt := 9) hx hb dX6_rowOf_66 (by decide) ?_
              exact ih z x1 x2 x4 (x4 + 1) r z' hf H locs ls hS (lv_sub hl [2, 3, 4, 1, 0] rfl)
set_option maxHeartbeats 4000000 in
set_option maxRecDepth 100000 in
theorem w_rm_rowOf_0 {p : Program} {l : Launch} {e : Env} {s : State} {m : MethodId} {args : Array Value} {below : List Frame} {meth : Method} {c : Code} {D : va_G} {w0 : va_W} {ad : Nat → Nat} {cA : Nat → ClassId} (C : Cx p s m args meth c cX6_rowOf 5 (some .int) RX6 wsX6_rowOf D (tM cA)) (k : Nat) (z : SS) (x1 : Int32) (x2 : Int32) (r : Int32) (z' : SS) (hf : rm_rowOf k z x1 x2 = some (r, z')) : ∀ (H : Heap) (locs : List Loc) (ls : Array Slot), St D (va_A w0 s.heap.size) s.heap (wM ad cA z) H locs → lv_has ls 5 [(0, .ref (ad 0)), (1, .int x1), (2, .int x2)] → W p l e R_rm_rowOf s m args below meth c H locs 0 0 (MQ below (kI D (tM cA) r w0 (wM ad cA z') s.heap.size) args s 0 0 (va_A w0 s.heap.size)) (F0 m 0 ls []) := by
  obtain ⟨hx, hb, hr, hml, hown, hts, hlk, hK⟩ := id C
  intro H locs ls hS hl
  have hf : (bo (rm_know k z) fun z_1 => rm_rowOf_b9 k k z_1 x1 x2 (-1) 0) = some (r, z') := hf
  refine lv_aload_n hx hb dX6_rowOf_0 rfl (lv_at hl 0 rfl) ?_
  obtain ⟨z_1, hcl, hf⟩ := bo_s hf
  refine rcVv (n := 0) (As := []) (rest := []) (q0 := 0) (w' := (wM ad cA z_1)) C hS (fun sz => c_rm_know l D ad cA k z z_1 hcl sz) gX6_rowOf_X6_know rfl ⟨rfl, rfl⟩ (by decide +kernel) ⟨Nat.le_of_ble_eq_true rfl, Nat.le_of_ble_eq_true rfl⟩ oM_0 rfl rfl hl.1 rfl (Nat.le_of_ble_eq_true rfl) dX6_rowOf_1 (fun H locs hS => ?_)
  refine lv_iconst (v := (-1)) hx hb dX6_rowOf_4 (by decide) ?_
  refine lv_istore_n (lv' := [(3, .int (-1)), (0, .ref (ad 0)), (1, .int x1), (2, .int x2)]) hx hb dX6_rowOf_5 rfl hl (by decide) rfl (fun ls hl => ?_)
  refine lv_iconst (v := 0) hx hb dX6_rowOf_6 (by decide) ?_
  refine lv_istore (lv' := [(4, .int 0), (3, .int (-1)), (0, .ref (ad 0)), (1, .int x1), (2, .int x2)]) hx hb dX6_rowOf_7 hl (by decide) rfl (fun ls hl => ?_)
  exact w_rm_rowOf_b9 C k k z_1 x1 x2 (-1) 0 r z' hf H locs ls hS (lv_sub hl [2, 3, 4, 1, 0] rfl)
set_option maxHeartbeats 4000000 in
set_option maxRecDepth 100000 in
theorem c_rm_rowOf (l : Launch) (D : va_G) (ad : Nat → Nat) (cA : Nat → ClassId) (k : Nat) (z : SS) (x1 : Int32) (x2 : Int32) (r : Int32) (z' : SS) (hf : rm_rowOf k z x1 x2 = some (r, z')) (sz : Nat) : Met l yX6_rowOf wsX6_rowOf R_rm_rowOf (kP D (tM cA) [.ref (ad 0), .int x1, .int x2] (wM ad cA z) sz) (kI D (tM cA) r (wM ad cA z) (wM ad cA z') sz) 0 0 (va_A (wM ad cA z) sz) := by
  refine ent (by decide) rfl rfl (Nat.le_of_ble_eq_true rfl) (fun p e s m args below meth c hsz C hS ls hl => ?_)
  subst hsz
  exact w_rm_rowOf_0 C k z x1 x2 r z' hf s.heap [] ls hS hl
