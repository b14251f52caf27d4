-- rm_reopen: public int reopen();
theorem lk_X6_reopen_132 : Cond.fieldLink RX6 132 (TX6 5).1 (TX6 5).2.1 (TX6 5).2.2.1 ∈ wsX6_reopen := by decide +kernel
theorem in_X6_reopen_X6 : ∀ x ∈ u_ws RX6 TX6 29, x ∈ wsX6_reopen := by decide +kernel
theorem lk_X6_reopen_96 : Cond.fieldLink RX6 96 (TX6 15).1 (TX6 15).2.1 (TX6 15).2.2.1 ∈ wsX6_reopen := by decide +kernel
theorem lk_X6_reopen_42 : Cond.fieldLink RX6 42 (TX6 18).1 (TX6 18).2.1 (TX6 18).2.2.1 ∈ wsX6_reopen := by decide +kernel
theorem lk_X6_reopen_64 : Cond.fieldLink RX6 64 (TX6 0).1 (TX6 0).2.1 (TX6 0).2.2.1 ∈ wsX6_reopen := by decide +kernel
theorem lk_X6_reopen_54 : Cond.fieldLink RX6 54 (TX6 25).1 (TX6 25).2.1 (TX6 25).2.2.1 ∈ wsX6_reopen := by decide +kernel
theorem lk_X6_reopen_99 : Cond.fieldLink RX6 99 (TX6 14).1 (TX6 14).2.1 (TX6 14).2.2.1 ∈ wsX6_reopen := by decide +kernel
theorem lk_X6_reopen_13 : Cond.fieldLink RX6 13 (TX6 3).1 (TX6 3).2.1 (TX6 3).2.2.1 ∈ wsX6_reopen := by decide +kernel
theorem lk_X6_reopen_67 : Cond.fieldLink RX6 67 (TX6 1).1 (TX6 1).2.1 (TX6 1).2.2.1 ∈ wsX6_reopen := by decide +kernel
theorem lk_X6_reopen_149 : Cond.fieldLink RX6 149 (TX6 12).1 (TX6 12).2.1 (TX6 12).2.2.1 ∈ wsX6_reopen := by decide +kernel
theorem lk_X6_reopen_33 : Cond.fieldLink RX6 33 (TX6 13).1 (TX6 13).2.1 (TX6 13).2.2.1 ∈ wsX6_reopen := by decide +kernel
def R_rm_reopen : Room := { frames := 8, cells := 0, slots := 0, locals := 190 }
def rm_reopen_b122 (k : Nat) (rc87 : SS → Int32 → Option (Int32 × SS)) (z : SS) (x1 : Int32) (y0 : Int32) : Option (Int32 × SS) :=
  rc87 (si z 5 y0) (x1 + 1)
def rm_reopen_b87 (k : Nat) : Nat → SS → Int32 → Option (Int32 × SS)
  | 0, _, _ => none
  | fu + 1, z, x1 => (if (z.1 15) ≤ x1 then (bi (rm_keysNow k z) fun r_1 z_1 => some (r_1, z_1)) else (if ck x1 160 = true then (if ((z.2 9) (Int32.toNatClampNeg x1)) ≤ (z.1 5) then rm_reopen_b122 k (rm_reopen_b87 k fu) z x1 (z.1 5) else (if ck x1 160 = true then rm_reopen_b122 k (rm_reopen_b87 k fu) z x1 ((z.2 9) (Int32.toNatClampNeg x1)) else none)) else none))
def rm_reopen_b42 (k : Nat) : Nat → SS → Int32 → Option (Int32 × SS)
  | 0, _, _ => none
  | fu + 1, z, x1 => (if (z.1 0) ≤ x1 then rm_reopen_b87 k k (si (si (si z 25 1) 14 1) 5 0) 0 else (bi (rm_lookAt k z x1 200) fun r_1 z_1 => (if ck x1 12 = true then rm_reopen_b42 k fu (sa z_1 2 (Int32.toNatClampNeg x1) r_1) (x1 + 1) else none)))
def rm_reopen (k : Nat) (z : SS) : Option (Int32 × SS) :=
  (if (z.1 12) = 0 then some ((-3), (si z 1 0)) else rm_reopen_b42 k k (si (si (si (si (si (si z 1 0) 12 0) 14 0) 13 (-1)) 25 0) 15 0) 0)
set_option maxHeartbeats 4000000 in
set_option maxRecDepth 100000 in
theorem w_rm_reopen_b122 {p : Program} {l : Launch} {e : Env} {s : State} {m : MethodId} {args : Array Value} {below : List Frame} {meth : Method} {c : Code} {D : va_G} {w0 : va_W} {ad : Nat → Nat} {cA : Nat → ClassId} (C : Cx p s m args meth c cX6_reopen 2 (some .int) RX6 wsX6_reopen D (tM cA)) (k : Nat) {rc87 : SS → Int32 → Option (Int32 × SS)} (hrc87 : ∀ (z : SS) (x1 : Int32) (r : Int32) (z' : SS), rc87 z x1 = some (r, z') → ∀ (H : Heap) (locs : List Loc) (ls : Array Slot), St D (va_A w0 s.heap.size) s.heap (wM ad cA z) H locs → lv_has ls 2 [(0, .ref (ad 0)), (1, .int x1)] → W p l e R_rm_reopen s m args below meth c H locs 0 0 (MQ below (kI D (tM cA) r w0 (wM ad cA z') s.heap.size) args s 0 0 (va_A w0 s.heap.size)) (F0 m 87 ls [])) (z : SS) (x1 : Int32) (y0 : Int32) (r : Int32) (z' : SS) (hf : rm_reopen_b122 k rc87 z x1 y0 = some (r, z')) : ∀ (H : Heap) (locs : List Loc) (ls : Array Slot), St D (va_A w0 s.heap.size) s.heap (wM ad cA z) H locs → lv_has ls 2 [(0, .ref (ad 0)), (1, .int x1)] → W p l e R_rm_reopen s m args below meth c H locs 0 0 (MQ below (kI D (tM cA) r w0 (wM ad cA z') s.heap.size) args s 0 0 (va_A w0 s.heap.size)) (F0 m 122 ls [.int y0, .ref (ad 0)]) := by
  obtain ⟨hx, hb, hr, hml, hown, hts, hlk, hK⟩ := id C
  intro H locs ls hS hl
  have hf : rc87 (si z 5 y0) (x1 + 1) = some (r, z') := hf
  refine pM_5 C hS in_X6_reopen_X6 lk_X6_reopen_132 (v := y0) rfl rfl dX6_reopen_122 (fun H locs hS => ?_)
  refine lv_iinc (v := (x1 + 1)) (lv' := [(1, .int (x1 + 1)), (0, .ref (ad 0))]) hx hb dX6_reopen_125 hl (k := 1) rfl (congrArg (fun q => x1 + q) (by decide : Int32.ofInt 1 = (1 : Int32))) (by decide) rfl (fun ls hl => ?_)
  refine lv_goto (tgt := 87) hx hb dX6_reopen_128 (by decide) ?_
  exact hrc87 (si z 5 y0) (x1 + 1) r z' hf H locs ls hS (lv_sub hl [1, 0] rfl)
set_option maxHeartbeats 4000000 in
set_option maxRecDepth 100000 in
theorem w_rm_reopen_b87 {p : Program} {l : Launch} {e : Env} {s : State} {m : MethodId} {args : Array Value} {below : List Frame} {meth : Method} {c : Code} {D : va_G} {w0 : va_W} {ad : Nat → Nat} {cA : Nat → ClassId} (C : Cx p s m args meth c cX6_reopen 2 (some .int) RX6 wsX6_reopen D (tM cA)) (k : Nat) : ∀ (fu : Nat) (z : SS) (x1 : Int32) (r : Int32) (z' : SS), rm_reopen_b87 k fu z x1 = some (r, z') → ∀ (H : Heap) (locs : List Loc) (ls : Array Slot), St D (va_A w0 s.heap.size) s.heap (wM ad cA z) H locs → lv_has ls 2 [(0, .ref (ad 0)), (1, .int x1)] → W p l e R_rm_reopen s m args below meth c H locs 0 0 (MQ below (kI D (tM cA) r w0 (wM ad cA z') s.heap.size) args s 0 0 (va_A w0 s.heap.size)) (F0 m 87 ls []) := by
  obtain ⟨hx, hb, hr, hml, hown, hts, hlk, hK⟩ := id C
  intro fu
  induction fu with
  | zero =>
    intro z x1 r z' hf
    cases (show (none : Option (Int32 × SS)) = some (r, z') from hf)
  | succ fu ih =>
    intro z x1 r z' hf H locs ls hS hl
    have hf : (if (z.1 15) ≤ x1 then (bi (rm_keysNow k z) fun r_1 z_1 => some (r_1, z_1)) else (if ck x1 160 = true then (if ((z.2 9) (Int32.toNatClampNeg x1)) ≤ (z.1 5) then rm_reopen_b122 k (rm_reopen_b87 k fu) z x1 (z.1 5) else (if ck x1 160 = true then rm_reopen_b122 k (rm_reopen_b87 k fu) z x1 ((z.2 9) (Int32.toNatClampNeg x1)) else none)) else none)) = some (r, z') := hf
    refine lv_iload_n hx hb dX6_reopen_87 rfl (lv_at hl 1 rfl) ?_
    refine lv_aload_n hx hb dX6_reopen_88 rfl (lv_at hl 0 rfl) ?_
    refine gM_15 C hS in_X6_reopen_X6 lk_X6_reopen_96 (v := (z.1 15)) rfl dX6_reopen_89 ?_
    refine lv_icmp_ge (x := x1) (y := (z.1 15)) (tgt := 131) hx hb dX6_reopen_92 (by decide) (fun hc => ?_) (fun hc => ?_)
    · replace hf := it_t hc hf
      refine lv_aload_n hx hb dX6_reopen_131 rfl (lv_at hl 0 rfl) ?_
      obtain ⟨r_1, z_1, hcl, hf⟩ := bi_s hf
      refine rcVi (n := 0) (As := []) (rest := []) (q0 := 0) (w' := (wM ad cA z_1)) C hS (fun sz => c_rm_keysNow l D ad cA k z r_1 z_1 hcl sz) gX6_reopen_X6_keysNow rfl ⟨rfl, rfl⟩ (by decide +kernel) ⟨Nat.le_of_ble_eq_true rfl, Nat.le_of_ble_eq_true rfl⟩ oM_0 rfl rfl hl.1 rfl (Nat.le_of_ble_eq_true rfl) dX6_reopen_132 (fun H locs hS => ?_)
      cases hf
      exact rti C hS dX6_reopen_135
    · replace hf := it_f hc hf
      refine lv_aload_n hx hb dX6_reopen_95 rfl (lv_at hl 0 rfl) ?_
      refine lv_aload_n hx hb dX6_reopen_96 rfl (lv_at hl 0 rfl) ?_
      refine hM_9 C hS in_X6_reopen_X6 lk_X6_reopen_42 dX6_reopen_97 ?_
      refine lv_iload_n hx hb dX6_reopen_100 rfl (lv_at hl 1 rfl) ?_
      obtain ⟨hck, hf⟩ := cs hf
      refine lM_9 C hS (f := (z.2 9)) rfl (i := x1) hck dX6_reopen_101 ?_
      refine lv_aload_n hx hb dX6_reopen_102 rfl (lv_at hl 0 rfl) ?_
      refine gM_5 C hS in_X6_reopen_X6 lk_X6_reopen_132 (v := (z.1 5)) rfl dX6_reopen_103 ?_
      refine lv_icmp_le (x := ((z.2 9) (Int32.toNatClampNeg x1))) (y := (z.1 5)) (tgt := 118) hx hb dX6_reopen_106 (by decide) (fun hc => ?_) (fun hc => ?_)
      · replace hf := it_t hc hf
        refine lv_aload_n hx hb dX6_reopen_118 rfl (lv_at hl 0 rfl) ?_
        refine gM_5 C hS in_X6_reopen_X6 lk_X6_reopen_132 (v := (z.1 5)) rfl dX6_reopen_119 ?_
        exact w_rm_reopen_b122 C k ih z x1 (z.1 5) r z' hf H locs ls hS (lv_sub hl [0, 1] rfl)
      · replace hf := it_f hc hf
        refine lv_aload_n hx hb dX6_reopen_109 rfl (lv_at hl 0 rfl) ?_
        refine hM_9 C hS in_X6_reopen_X6 lk_X6_reopen_42 dX6_reopen_110 ?_
        refine lv_iload_n hx hb dX6_reopen_113 rfl (lv_at hl 1 rfl) ?_
        obtain ⟨hck, hf⟩ := cs hf
        refine lM_9 C hS (f := (z.2 9)) rfl (i := x1) hck dX6_reopen_114 ?_
        refine lv_goto (tgt := 122) hx hb dX6_reopen_115 (by decide) ?_
        exact w_rm_reopen_b122 C k ih z x1 ((z.2 9) (Int32.toNatClampNeg x1)) r z' hf H locs ls hS (lv_sub hl [0, 1] rfl)
set_option maxHeartbeats 4000000 in
set_option maxRecDepth 100000 in
theorem w_rm_reopen_b42 {p : Program} {l : Launch} {e : Env} {s : State} {m : MethodId} {args : Array Value} {below : List Frame} {meth : Method} {c : Code} {D : va_G} {w0 : va_W} {ad : Nat → Nat} {cA : Nat → ClassId} (C : Cx p s m args meth c cX6_reopen 2 (some .int) RX6 wsX6_reopen D (tM cA)) (k : Nat) : ∀ (fu : Nat) (z : SS) (x1 : Int32) (r : Int32) (z' : SS), rm_reopen_b42 k fu z x1 = some (r, z') → ∀ (H : Heap) (locs : List Loc) (ls : Array Slot), St D (va_A w0 s.heap.size) s.heap (wM ad cA z) H locs → lv_has ls 2 [(0, .ref (ad 0)), (1, .int x1)] → W p l e R_rm_reopen s m args below meth c H locs 0 0 (MQ below (kI D (tM cA) r w0 (wM ad cA z') s.heap.size) args s 0 0 (va_A w0 s.heap.size)) (F0 m 42 ls []) := by
  obtain ⟨hx, hb, hr, hml, hown, hts, hlk, hK⟩ := id C
  intro fu
  induction fu with
  | zero =>
    intro z x1 r z' hf
    cases (show (none : Option (Int32 × SS)) = some (r, z') from hf)
  | succ fu ih =>
    intro z x1 r z' hf H locs ls hS hl
    have hf : (if (z.1 0) ≤ x1 then rm_reopen_b87 k k (si (si (si z 25 1) 14 1) 5 0) 0 else (bi (rm_lookAt k z x1 200) fun r_1 z_1 => (if ck x1 12 = true then rm_reopen_b42 k fu (sa z_1 2 (Int32.toNatClampNeg x1) r_1) (x1 + 1) else none))) = some (r, z') := hf
    refine lv_iload_n hx hb dX6_reopen_42 rfl (lv_at hl 1 rfl) ?_
    refine lv_aload_n hx hb dX6_reopen_43 rfl (lv_at hl 0 rfl) ?_
    refine gM_0 C hS in_X6_reopen_X6 lk_X6_reopen_64 (v := (z.1 0)) rfl dX6_reopen_44 ?_
    refine lv_icmp_ge (x := x1) (y := (z.1 0)) (tgt := 70) hx hb dX6_reopen_47 (by decide) (fun hc => ?_) (fun hc => ?_)
    · replace hf := it_t hc hf
      refine lv_aload_n hx hb dX6_reopen_70 rfl (lv_at hl 0 rfl) ?_
      refine lv_iconst (v := 1) hx hb dX6_reopen_71 (by decide) ?_
      refine pM_25 C hS in_X6_reopen_X6 lk_X6_reopen_54 (v := 1) rfl rfl dX6_reopen_72 (fun H locs hS => ?_)
      refine lv_aload_n hx hb dX6_reopen_75 rfl (lv_at hl 0 rfl) ?_
      refine lv_iconst (v := 1) hx hb dX6_reopen_76 (by decide) ?_
      refine pM_14 C hS in_X6_reopen_X6 lk_X6_reopen_99 (v := 1) rfl rfl dX6_reopen_77 (fun H locs hS => ?_)
      refine lv_aload_n hx hb dX6_reopen_80 rfl (lv_at hl 0 rfl) ?_
      refine lv_iconst (v := 0) hx hb dX6_reopen_81 (by decide) ?_
      refine pM_5 C hS in_X6_reopen_X6 lk_X6_reopen_132 (v := 0) rfl rfl dX6_reopen_82 (fun H locs hS => ?_)
      refine lv_iconst (v := 0) hx hb dX6_reopen_85 (by decide) ?_
      refine lv_istore_n (lv' := [(1, .int 0), (0, .ref (ad 0))]) hx hb dX6_reopen_86 rfl hl (by decide) rfl (fun ls hl => ?_)
      exact w_rm_reopen_b87 C k k (si (si (si z 25 1) 14 1) 5 0) 0 r z' hf H locs ls hS (lv_sub hl [1, 0] rfl)
    · replace hf := it_f hc hf
      refine lv_aload_n hx hb dX6_reopen_50 rfl (lv_at hl 0 rfl) ?_
      refine hM_2 C hS in_X6_reopen_X6 lk_X6_reopen_13 dX6_reopen_51 ?_
      refine lv_iload_n hx hb dX6_reopen_54 rfl (lv_at hl 1 rfl) ?_
      refine lv_aload_n hx hb dX6_reopen_55 rfl (lv_at hl 0 rfl) ?_
      refine lv_iload_n hx hb dX6_reopen_56 rfl (lv_at hl 1 rfl) ?_
      refine lv_sipush (v := 200) hx hb dX6_reopen_57 (by decide) ?_
      obtain ⟨r_1, z_1, hcl, hf⟩ := bi_s hf
      refine rcVi (n := 2) (As := [.int x1, .int 200]) (rest := [.int x1, .ref (ad 2)]) (q0 := 0) (w' := (wM ad cA z_1)) C hS (fun sz => c_rm_lookAt l D ad cA k z x1 200 r_1 z_1 hcl sz) gX6_reopen_X6_lookAt rfl ⟨rfl, rfl⟩ (by decide +kernel) ⟨Nat.le_of_ble_eq_true rfl, Nat.le_of_ble_eq_true rfl⟩ oM_0 rfl rfl hl.1 rfl (Nat.le_of_ble_eq_true rfl) dX6_reopen_60 (fun H locs hS => ?_)
      obtain ⟨hck, hf⟩ := cs hf
      refine sM_2 C hS (i := x1) (x := r_1) hck dX6_reopen_63 (fun H locs hS => ?_)
      refine lv_iinc (v := (x1 + 1)) (lv' := [(1, .int (x1 + 1)), (0, .ref (ad 0))]) hx hb dX6_reopen_64 hl (k := 1) rfl (congrArg (fun q => x1 + q) (by decide : Int32.ofInt 1 = (1 : Int32))) (by decide) rfl (fun ls hl => ?_)
      refine lv_goto (tgt := 42) hx hb dX6_reopen_67 (by decide) ?_
      exact ih (sa z_1 2 (Int32.toNatClampNeg x1) r_1) (x1 + 1) r z' hf H locs ls hS (lv_sub hl [1, 0] rfl)
set_option maxHeartbeats 4000000 in
set_option maxRecDepth 100000 in
theorem w_rm_reopen_0 {p : Program} {l : Launch} {e : Env} {s : State} {m : MethodId} {args : Array Value} {below : List Frame} {meth : Method} {c : Code} {D : va_G} {w0 : va_W} {ad : Nat → Nat} {cA : Nat → ClassId} (C : Cx p s m args meth c cX6_reopen 2 (some .int) RX6 wsX6_reopen D (tM cA)) (k : Nat) (z : SS) (r : Int32) (z' : SS) (hf : rm_reopen k z = some (r, z')) : ∀ (H : Heap) (locs : List Loc) (ls : Array Slot), St D (va_A w0 s.heap.size) s.heap (wM ad cA z) H locs → lv_has ls 2 [(0, .ref (ad 0))] → W p l e R_rm_reopen s m args below meth c H locs 0 0 (MQ below (kI D (tM cA) r w0 (wM ad cA z') s.heap.size) args s 0 0 (va_A w0 s.heap.size)) (F0 m 0 ls []) := by
  obtain ⟨hx, hb, hr, hml, hown, hts, hlk, hK⟩ := id C
  intro H locs ls hS hl
  have hf : (if (z.1 12) = 0 then some ((-3), (si z 1 0)) else rm_reopen_b42 k k (si (si (si (si (si (si z 1 0) 12 0) 14 0) 13 (-1)) 25 0) 15 0) 0) = some (r, z') := hf
  refine lv_aload_n hx hb dX6_reopen_0 rfl (lv_at hl 0 rfl) ?_
  refine lv_iconst (v := 0) hx hb dX6_reopen_1 (by decide) ?_
  refine pM_1 C hS in_X6_reopen_X6 lk_X6_reopen_67 (v := 0) rfl rfl dX6_reopen_2 (fun H locs hS => ?_)
  refine lv_aload_n hx hb dX6_reopen_5 rfl (lv_at hl 0 rfl) ?_
  refine gM_12 C hS in_X6_reopen_X6 lk_X6_reopen_149 (v := (z.1 12)) ((si_o (by decide)).trans rfl) dX6_reopen_6 ?_
  refine lv_if_ne (x := (z.1 12)) (tgt := 15) hx hb dX6_reopen_9 (by decide) (fun hc => ?_) (fun hc => ?_)
  · replace hf := it_f hc hf
    refine lv_aload_n hx hb dX6_reopen_15 rfl (lv_at hl 0 rfl) ?_
    refine lv_iconst (v := 0) hx hb dX6_reopen_16 (by decide) ?_
    refine pM_12 C hS in_X6_reopen_X6 lk_X6_reopen_149 (v := 0) rfl rfl dX6_reopen_17 (fun H locs hS => ?_)
    refine lv_aload_n hx hb dX6_reopen_20 rfl (lv_at hl 0 rfl) ?_
    refine lv_iconst (v := 0) hx hb dX6_reopen_21 (by decide) ?_
    refine pM_14 C hS in_X6_reopen_X6 lk_X6_reopen_99 (v := 0) rfl rfl dX6_reopen_22 (fun H locs hS => ?_)
    refine lv_aload_n hx hb dX6_reopen_25 rfl (lv_at hl 0 rfl) ?_
    refine lv_iconst (v := (-1)) hx hb dX6_reopen_26 (by decide) ?_
    refine pM_13 C hS in_X6_reopen_X6 lk_X6_reopen_33 (v := (-1)) rfl rfl dX6_reopen_27 (fun H locs hS => ?_)
    refine lv_aload_n hx hb dX6_reopen_30 rfl (lv_at hl 0 rfl) ?_
    refine lv_iconst (v := 0) hx hb dX6_reopen_31 (by decide) ?_
    refine pM_25 C hS in_X6_reopen_X6 lk_X6_reopen_54 (v := 0) rfl rfl dX6_reopen_32 (fun H locs hS => ?_)
    refine lv_aload_n hx hb dX6_reopen_35 rfl (lv_at hl 0 rfl) ?_
    refine lv_iconst (v := 0) hx hb dX6_reopen_36 (by decide) ?_
    refine pM_15 C hS in_X6_reopen_X6 lk_X6_reopen_96 (v := 0) rfl rfl dX6_reopen_37 (fun H locs hS => ?_)
    refine lv_iconst (v := 0) hx hb dX6_reopen_40 (by decide) ?_
    refine lv_istore_n (lv' := [(1, .int 0), (0, .ref (ad 0))]) hx hb dX6_reopen_41 rfl hl (by decide) rfl (fun ls hl => ?_)
    exact w_rm_reopen_b42 C k k (si (si (si (si (si (si z 1 0) 12 0) 14 0) 13 (-1)) 25 0) 15 0) 0 r z' hf H locs ls hS (lv_sub hl [1, 0] rfl)
  · replace hf := it_t hc hf
    refine lv_bipush (v := (-3)) hx hb dX6_reopen_12 (by decide) ?_
    cases hf
    exact rti C hS dX6_reopen_14
set_option maxHeartbeats 4000000 in
set_option maxRecDepth 100000 in
theorem c_rm_reopen (l : Launch) (D : va_G) (ad : Nat → Nat) (cA : Nat → ClassId) (k : Nat) (z : SS) (r : Int32) (z' : SS) (hf : rm_reopen k z = some (r, z')) (sz : Nat) : Met l yX6_reopen wsX6_reopen R_rm_reopen (kP D (tM cA) [.ref (ad 0)] (wM ad cA z) sz) (kI D (tM cA) r (wM ad cA z) (wM ad cA z') sz) 0 0 (va_A (wM ad cA z) sz) := by
  refine ent (by decide) rfl rfl (Nat.le_of_ble_eq_true rfl) (fun p e s m args below meth c hsz C hS ls hl => ?_)
  subst hsz
  exact w_rm_reopen_0 C k z r z' hf s.heap [] ls hS hl
-- rm_badAt: public int badAt();
theorem lk_X6_badAt_67 : Cond.fieldLink RX6 67 (TX6 1).1 (TX6 1).2.1 (TX6 1).2.2.1 ∈ wsX6_badAt := by decide +kernel
theorem in_X6_badAt_X6 : ∀ x ∈ u_ws RX6 TX6 29, x ∈ wsX6_badAt := by decide +kernel
theorem lk_X6_badAt_33 : Cond.fieldLink RX6 33 (TX6 13).1 (TX6 13).2.1 (TX6 13).2.2.1 ∈ wsX6_badAt := by decide +kernel
def R_rm_badAt : Room := { frames := 0, cells := 0, slots := 0, locals := 0 }
def rm_badAt (k : Nat) (z : SS) : Option (Int32 × SS) :=
  some ((z.1 13), (si z 1 0))
set_option maxHeartbeats 4000000 in
set_option maxRecDepth 100000 in
theorem w_rm_badAt_0 {p : Program} {l : Launch} {e : Env} {s : State} {m : MethodId} {args : Array Value} {below : List Frame} {meth : Method} {c : Code} {D : va_G} {w0 : va_W} {ad : Nat → Nat} {cA : Nat → ClassId} (C : Cx p s m args meth c cX6_badAt 1 (some .int) RX6 wsX6_badAt D (tM cA)) (k : Nat) (z : SS) (r : Int32) (z' : SS) (hf : rm_badAt k z = some (r, z')) : ∀ (H : Heap) (locs : List Loc) (ls : Array Slot), St D (va_A w0 s.heap.size) s.heap (wM ad cA z) H locs → lv_has ls 1 [(0, .ref (ad 0))] → W p l e R_rm_badAt s m args below meth c H locs 0 0 (MQ below (kI D (tM cA) r w0 (wM ad cA z') s.heap.size) args s 0 0 (va_A w0 s.heap.size)) (F0 m 0 ls []) := by
  obtain ⟨hx, hb, hr, hml, hown, hts, hlk, hK⟩ := id C
  intro H locs ls hS hl
  have hf : some ((z.1 13), (si z 1 0)) = some (r, z') := hf
  refine lv_aload_n hx hb dX6_badAt_0 rfl (lv_at hl 0 rfl) ?_
  refine lv_iconst (v := 0) hx hb dX6_badAt_1 (by decide) ?_
  refine pM_1 C hS in_X6_badAt_X6 lk_X6_badAt_67 (v := 0) rfl rfl dX6_badAt_2 (fun H locs hS => ?_)
  refine lv_aload_n hx hb dX6_badAt_5 rfl (lv_at hl 0 rfl) ?_
  refine gM_13 C hS in_X6_badAt_X6 lk_X6_badAt_33 (v := (z.1 13)) ((si_o (by decide)).trans rfl) dX6_badAt_6 ?_
  cases hf
  exact rti C hS dX6_badAt_9
set_option maxHeartbeats 4000000 in
set_option maxRecDepth 100000 in
theorem c_rm_badAt (l : Launch) (D : va_G) (ad : Nat → Nat) (cA : Nat → ClassId) (k : Nat) (z : SS) (r : Int32) (z' : SS) (hf : rm_badAt k z = some (r, z')) (sz : Nat) : Met l yX6_badAt wsX6_badAt R_rm_badAt (kP D (tM cA) [.ref (ad 0)] (wM ad cA z) sz) (kI D (tM cA) r (wM ad cA z) (wM ad cA z') sz) 0 0 (va_A (wM ad cA z) sz) := by
  refine ent (by decide) rfl rfl (Nat.le_of_ble_eq_true rfl) (fun p e s m args below meth c hsz C hS ls hl => ?_)
  subst hsz
  exact w_rm_badAt_0 C k z r z' hf s.heap [] ls hS hl
-- rm_isByte: private boolean isByte(int, int);
theorem lk_X6_isByte_64 : Cond.fieldLink RX6 64 (TX6 0).1 (TX6 0).2.1 (TX6 0).2.2.1 ∈ wsX6_isByte := by decide +kernel
theorem in_X6_isByte_X6 : ∀ x ∈ u_ws RX6 TX6 29, x ∈ wsX6_isByte := by decide +kernel
def R_rm_isByte : Room := { frames := 1, cells := 0, slots := 0, locals := 22 }
def rm_isByte (k : Nat) (z : SS) (x1 : Int32) (x2 : Int32) : Option Int32 :=
  (bo (rm_in k z x1 0 ((z.1 0) - 1)) fun r_1 => (if r_1 = 0 then some 0 else (bo (rm_in k z x2 0 199) fun r_2 => (if r_2 = 0 then some 0 else some 1))))
set_option maxHeartbeats 4000000 in
set_option maxRecDepth 100000 in
theorem w_rm_isByte_0 {p : Program} {l : Launch} {e : Env} {s : State} {m : MethodId} {args : Array Value} {below : List Frame} {meth : Method} {c : Code} {D : va_G} {w0 : va_W} {ad : Nat → Nat} {cA : Nat → ClassId} (C : Cx p s m args meth c cX6_isByte 3 (some .boolean) RX6 wsX6_isByte D (tM cA)) (k : Nat) (z : SS) (x1 : Int32) (x2 : Int32) (r : Int32) (hf : rm_isByte k z x1 x2 = some r) : ∀ (H : Heap) (locs : List Loc) (ls : Array Slot), St D (va_A w0 s.heap.size) s.heap (wM ad cA z) H locs → lv_has ls 3 [(0, .ref (ad 0)), (1, .int x1), (2, .int x2)] → W p l e R_rm_isByte s m args below meth c H locs 0 0 (MQ below (kI D (tM cA) r w0 (wM ad cA z) s.heap.size) args s 0 0 (va_A w0 s.heap.size)) (F0 m 0 ls []) := by
  obtain ⟨hx, hb, hr, hml, hown, hts, hlk, hK⟩ := id C
  intro H locs ls hS hl
  have hf : (bo (rm_in k z x1 0 ((z.1 0) - 1)) fun r_1 => (if r_1 = 0 then some 0 else (bo (rm_in k z x2 0 199) fun r_2 => (if r_2 = 0 then some 0 else some 1)))) = some r := hf
  refine lv_iload_n hx hb dX6_isByte_0 rfl (lv_at hl 1 rfl) ?_
  refine lv_iconst (v := 0) hx hb dX6_isByte_1 (by decide) ?_
  refine lv_aload_n hx hb dX6_isByte_2 rfl (lv_at hl 0 rfl) ?_
  refine gM_0 C hS in_X6_isByte_X6 lk_X6_isByte_64 (v := (z.1 0)) rfl dX6_isByte_3 ?_
  refine lv_iconst (v := 1) hx hb dX6_isByte_6 (by decide) ?_
  refine lv_isub (x := (z.1 0)) (y := 1) hx hb dX6_isByte_7 ?_
  obtain ⟨r_1, hcl, hf⟩ := bo_s hf
  refine rcSi (n := 3) (As := [.int x1, .int 0, .int ((z.1 0) - 1)]) (rest := []) (w' := (wM ad cA z)) C hS (fun sz => c_rm_in l D ad cA k z x1 0 ((z.1 0) - 1) r_1 hcl sz) gX6_isByte_X6_in rfl ⟨rfl, rfl⟩ (by decide +kernel) ⟨Nat.le_of_ble_eq_true rfl, Nat.le_of_ble_eq_true rfl⟩ rfl hl.1 rfl (Nat.le_of_ble_eq_true rfl) dX6_isByte_8 (fun H locs hS => ?_)
  refine lv_if_eq (x := r_1) (tgt := 29) hx hb dX6_isByte_11 (by decide) (fun hc => ?_) (fun hc => ?_)
  · replace hf := it_t hc hf
    refine lv_iconst (v := 0) hx hb dX6_isByte_29 (by decide) ?_
    cases hf
    exact rtz C hS (by decide) dX6_isByte_30
  · replace hf := it_f hc hf
    refine lv_iload_n hx hb dX6_isByte_14 rfl (lv_at hl 2 rfl) ?_
    refine lv_iconst (v := 0) hx hb dX6_isByte_15 (by decide) ?_
    refine lv_sipush (v := 199) hx hb dX6_isByte_16 (by decide) ?_
    obtain ⟨r_2, hcl, hf⟩ := bo_s hf
    refine rcSi (n := 3) (As := [.int x2, .int 0, .int 199]) (rest := []) (w' := (wM ad cA z)) C hS (fun sz => c_rm_in l D ad cA k z x2 0 199 r_2 hcl sz) gX6_isByte_X6_in rfl ⟨rfl, rfl⟩ (by decide +kernel) ⟨Nat.le_of_ble_eq_true rfl, Nat.le_of_ble_eq_true rfl⟩ rfl hl.1 rfl (Nat.le_of_ble_eq_true rfl) dX6_isByte_19 (fun H locs hS => ?_)
    refine lv_if_eq (x := r_2) (tgt := 29) hx hb dX6_isByte_22 (by decide) (fun hc => ?_) (fun hc => ?_)
    · replace hf := it_t hc hf
      refine lv_iconst (v := 0) hx hb dX6_isByte_29 (by decide) ?_
      cases hf
      exact rtz C hS (by decide) dX6_isByte_30
    · replace hf := it_f hc hf
      refine lv_iconst (v := 1) hx hb dX6_isByte_25 (by decide) ?_
      refine lv_goto (tgt := 30) hx hb dX6_isByte_26 (by decide) ?_
      cases hf
      exact rtz C hS (by decide) dX6_isByte_30
set_option maxHeartbeats 4000000 in
set_option maxRecDepth 100000 in
theorem c_rm_isByte (l : Launch) (D : va_G) (ad : Nat → Nat) (cA : Nat → ClassId) (k : Nat) (z : SS) (x1 : Int32) (x2 : Int32) (r : Int32) (hf : rm_isByte k z x1 x2 = some r) (sz : Nat) : Met l yX6_isByte wsX6_isByte R_rm_isByte (kP D (tM cA) [.ref (ad 0), .int x1, .int x2] (wM ad cA z) sz) (kI D (tM cA) r (wM ad cA z) (wM ad cA z) sz) 0 0 (va_A (wM ad cA z) sz) := by
  refine ent (by decide) rfl rfl (Nat.le_of_ble_eq_true rfl) (fun p e s m args below meth c hsz C hS ls hl => ?_)
  subst hsz
  exact w_rm_isByte_0 C k z x1 x2 r hf s.heap [] ls hS hl
-- rm_poke: public int poke(int, int, int);
theorem lk_X6_poke_67 : Cond.fieldLink RX6 67 (TX6 1).1 (TX6 1).2.1 (TX6 1).2.2.1 ∈ wsX6_poke := by decide +kernel
theorem in_X6_poke_X6 : ∀ x ∈ u_ws RX6 TX6 29, x ∈ wsX6_poke := by decide +kernel
theorem lk_X6_poke_149 : Cond.fieldLink RX6 149 (TX6 12).1 (TX6 12).2.1 (TX6 12).2.2.1 ∈ wsX6_poke := by decide +kernel
theorem lk_X6_poke_7 : Cond.fieldLink RX6 7 (TX6 2).1 (TX6 2).2.1 (TX6 2).2.2.1 ∈ wsX6_poke := by decide +kernel
def R_rm_poke : Room := { frames := 2, cells := 0, slots := 0, locals := 44 }
def rm_poke_b15 (k : Nat) (z : SS) (x1 : Int32) (x2 : Int32) (x3 : Int32) (y0 : Int32) : Option (Int32 × SS) :=
  (if y0 ≤ 0 then (if (z.1 12) = 0 then some ((-3), (si z 1 y0)) else (bo (rm_in k (si z 1 y0) x3 0 255) fun r_1 => (if r_1 = 0 then some ((-2), (si z 1 y0)) else (if ck ((200 * x1) + x2) 2400 = true then (if ck ((200 * x1) + x2) 2400 = true then (if ck ((200 * x1) + x2) 2400 = true then some (((upd (z.2 1) (Int32.toNatClampNeg ((200 * x1) + x2)) (((z.2 1) (Int32.toNatClampNeg ((200 * x1) + x2))) ^^^ x3)) (Int32.toNatClampNeg ((200 * x1) + x2))), (sa (si z 1 y0) 1 (Int32.toNatClampNeg ((200 * x1) + x2)) (((z.2 1) (Int32.toNatClampNeg ((200 * x1) + x2))) ^^^ x3))) else none) else none) else none)))) else some (0, (si z 1 y0)))
def rm_poke (k : Nat) (z : SS) (x1 : Int32) (x2 : Int32) (x3 : Int32) : Option (Int32 × SS) :=
  (bo (rm_isByte k z x1 x2) fun r_1 => (if r_1 = 0 then rm_poke_b15 k z x1 x2 x3 1 else rm_poke_b15 k z x1 x2 x3 0))
set_option maxHeartbeats 4000000 in
set_option maxRecDepth 100000 in
theorem w_rm_poke_b15 {p : Program} {l : Launch} {e : Env} {s : State} {m : MethodId} {args : Array Value} {below : List Frame} {meth : Method} {c : Code} {D : va_G} {w0 : va_W} {ad : Nat → Nat} {cA : Nat → ClassId} (C : Cx p s m args meth c cX6_poke 4 (some .int) RX6 wsX6_poke D (tM cA)) (k : Nat) (z : SS) (x1 : Int32) (x2 : Int32) (x3 : Int32) (y0 : Int32) (r : Int32) (z' : SS) (hf : rm_poke_b15 k z x1 x2 x3 y0 = some (r, z')) : ∀ (H : Heap) (locs : List Loc) (ls : Array Slot), St D (va_A w0 s.heap.size) s.heap (wM ad cA z) H locs → lv_has ls 4 [(0, .ref (ad 0)), (1, .int x1), (2, .int x2), (3, .int x3)] → W p l e R_rm_poke s m args below meth c H locs 0 0 (MQ below (kI D (tM cA) r w0 (wM ad cA z') s.heap.size) args s 0 0 (va_A w0 s.heap.size)) (F0 m 15 ls [.int y0, .ref (ad 0)]) := by
  obtain ⟨hx, hb, hr, hml, hown, hts, hlk, hK⟩ := id C
  intro H locs ls hS hl
  have hf : (if y0 ≤ 0 then (if (z.1 12) = 0 then some ((-3), (si z 1 y0)) else (bo (rm_in k (si z 1 y0) x3 0 255) fun r_1 => (if r_1 = 0 then some ((-2), (si z 1 y0)) else (if ck ((200 * x1) + x2) 2400 = true then (if ck ((200 * x1) + x2) 2400 = true then (if ck ((200 * x1) + x2) 2400 = true then some (((upd (z.2 1) (Int32.toNatClampNeg ((200 * x1) + x2)) (((z.2 1) (Int32.toNatClampNeg ((200 * x1) + x2))) ^^^ x3)) (Int32.toNatClampNeg ((200 * x1) + x2))), (sa (si z 1 y0) 1 (Int32.toNatClampNeg ((200 * x1) + x2)) (((z.2 1) (Int32.toNatClampNeg ((200 * x1) + x2))) ^^^ x3))) else none) else none) else none)))) else some (0, (si z 1 y0))) = some (r, z') := hf
  refine pM_1 C hS in_X6_poke_X6 lk_X6_poke_67 (v := y0) rfl rfl dX6_poke_15 (fun H locs hS => ?_)
  refine lv_aload_n hx hb dX6_poke_18 rfl (lv_at hl 0 rfl) ?_
  refine gM_1 C hS in_X6_poke_X6 lk_X6_poke_67 (v := y0) si_s dX6_poke_19 ?_
  refine lv_if_le (x := y0) (tgt := 27) hx hb dX6_poke_22 (by decide) (fun hc => ?_) (fun hc => ?_)
  · replace hf := it_t hc hf
    refine lv_aload_n hx hb dX6_poke_27 rfl (lv_at hl 0 rfl) ?_
    refine gM_12 C hS in_X6_poke_X6 lk_X6_poke_149 (v := (z.1 12)) ((si_o (by decide)).trans rfl) dX6_poke_28 ?_
    refine lv_if_ne (x := (z.1 12)) (tgt := 37) hx hb dX6_poke_31 (by decide) (fun hc => ?_) (fun hc => ?_)
    · replace hf := it_f hc hf
      refine lv_iload_n hx hb dX6_poke_37 rfl (lv_at hl 3 rfl) ?_
      refine lv_iconst (v := 0) hx hb dX6_poke_38 (by decide) ?_
      refine lv_sipush (v := 255) hx hb dX6_poke_39 (by decide) ?_
      obtain ⟨r_1, hcl, hf⟩ := bo_s hf
      refine rcSi (n := 3) (As := [.int x3, .int 0, .int 255]) (rest := []) (w' := (wM ad cA (si z 1 y0))) C hS (fun sz => c_rm_in l D ad cA k (si z 1 y0) x3 0 255 r_1 hcl sz) gX6_poke_X6_in rfl ⟨rfl, rfl⟩ (by decide +kernel) ⟨Nat.le_of_ble_eq_true rfl, Nat.le_of_ble_eq_true rfl⟩ rfl hl.1 rfl (Nat.le_of_ble_eq_true rfl) dX6_poke_42 (fun H locs hS => ?_)
      refine lv_if_ne (x := r_1) (tgt := 51) hx hb dX6_poke_45 (by decide) (fun hc => ?_) (fun hc => ?_)
      · replace hf := it_f hc hf
        refine lv_aload_n hx hb dX6_poke_51 rfl (lv_at hl 0 rfl) ?_
        refine hM_1 C hS in_X6_poke_X6 lk_X6_poke_7 dX6_poke_52 ?_
        refine lv_sipush (v := 200) hx hb dX6_poke_55 (by decide) ?_
        refine lv_iload_n hx hb dX6_poke_58 rfl (lv_at hl 1 rfl) ?_
        refine lv_imul (x := 200) (y := x1) hx hb dX6_poke_59 ?_
        refine lv_iload_n hx hb dX6_poke_60 rfl (lv_at hl 2 rfl) ?_
        refine lv_iadd (x := (200 * x1)) (y := x2) hx hb dX6_poke_61 ?_
        refine lv_dup2_11 hx hb dX6_poke_62 rfl rfl ?_
        obtain ⟨hck, hf⟩ := cs hf
        refine lM_1 C hS (f := (z.2 1)) (si_a.trans rfl) (i := ((200 * x1) + x2)) hck dX6_poke_63 ?_
        refine lv_iload_n hx hb dX6_poke_64 rfl (lv_at hl 3 rfl) ?_
        refine lv_ixor (x := ((z.2 1) (Int32.toNatClampNeg ((200 * x1) + x2)))) (y := x3) hx hb dX6_poke_65 ?_
        obtain ⟨hck, hf⟩ := cs hf
        refine sM_1 C hS (i := ((200 * x1) + x2)) (x := (((z.2 1) (Int32.toNatClampNeg ((200 * x1) + x2))) ^^^ x3)) hck dX6_poke_66 (fun H locs hS => ?_)
        refine lv_aload_n hx hb dX6_poke_67 rfl (lv_at hl 0 rfl) ?_
        refine hM_1 C hS in_X6_poke_X6 lk_X6_poke_7 dX6_poke_68 ?_
        refine lv_sipush (v := 200) hx hb dX6_poke_71 (by decide) ?_
        refine lv_iload_n hx hb dX6_poke_74 rfl (lv_at hl 1 rfl) ?_
        refine lv_imul (x := 200) (y := x1) hx hb dX6_poke_75 ?_
        refine lv_iload_n hx hb dX6_poke_76 rfl (lv_at hl 2 rfl) ?_
        refine lv_iadd (x := (200 * x1)) (y := x2) hx hb dX6_poke_77 ?_
        obtain ⟨hck, hf⟩ := cs hf
        refine lM_1 C hS (f := (upd (z.2 1) (Int32.toNatClampNeg ((200 * x1) + x2)) (((z.2 1) (Int32.toNatClampNeg ((200 * x1) + x2))) ^^^ x3))) (sa_s.trans (congrArg (fun q => upd q (Int32.toNatClampNeg ((200 * x1) + x2)) (((z.2 1) (Int32.toNatClampNeg ((200 * x1) + x2))) ^^^ x3)) (si_a.trans rfl))) (i := ((200 * x1) + x2)) hck dX6_poke_78 ?_
        cases hf
        exact rti C hS dX6_poke_79
      · replace hf := it_t hc hf
        refine lv_bipush (v := (-2)) hx hb dX6_poke_48 (by decide) ?_
        cases hf
        exact rti C hS dX6_poke_50
    · replace hf := it_t hc hf
      refine lv_bipush (v := (-3)) hx hb dX6_poke_34 (by decide) ?_
      cases hf
      exact rti C hS dX6_poke_36
  · replace hf := it_f hc hf
    refine lv_iconst (v := 0) hx hb dX6_poke_25 (by decide) ?_
    cases hf
    exact rti C hS dX6_poke_26
set_option maxHeartbeats 4000000 in
set_option maxRecDepth 100000 in
theorem w_rm_poke_0 {p : Program} {l : Launch} {e : Env} {s : State} {m : MethodId} {args : Array Value} {below : List Frame} {meth : Method} {c : Code} {D : va_G} {w0 : va_W} {ad : Nat → Nat} {cA : Nat → ClassId} (C : Cx p s m args meth c cX6_poke 4 (some .int) RX6 wsX6_poke D (tM cA)) (k : Nat) (z : SS) (x1 : Int32) (x2 : Int32) (x3 : Int32) (r : Int32) (z' : SS) (hf : rm_poke k z x1 x2 x3 = some (r, z')) : ∀ (H : Heap) (locs : List Loc) (ls : Array Slot), St D (va_A w0 s.heap.size) s.heap (wM ad cA z) H locs → lv_has ls 4 [(0, .ref (ad 0)), (1, .int x1), (2, .int x2), (3, .int x3)] → W p l e R_rm_poke s m args below meth c H locs 0 0 (MQ below (kI D (tM cA) r w0 (wM ad cA z') s.heap.size) args s 0 0 (va_A w0 s.heap.size)) (F0 m 0 ls []) := by
  obtain ⟨hx, hb, hr, hml, hown, hts, hlk, hK⟩ := id C
  intro H locs ls hS hl
  have hf : (bo (rm_isByte k z x1 x2) fun r_1 => (if r_1 = 0 then rm_poke_b15 k z x1 x2 x3 1 else rm_poke_b15 k z x1 x2 x3 0)) = some (r, z') := hf
  refine lv_aload_n hx hb dX6_poke_0 rfl (lv_at hl 0 rfl) ?_
  refine lv_aload_n hx hb dX6_poke_1 rfl (lv_at hl 0 rfl) ?_
  refine lv_iload_n hx hb dX6_poke_2 rfl (lv_at hl 1 rfl) ?_
  refine lv_iload_n hx hb dX6_poke_3 rfl (lv_at hl 2 rfl) ?_
  obtain ⟨r_1, hcl, hf⟩ := bo_s hf
  refine rcVi (n := 2) (As := [.int x1, .int x2]) (rest := [.ref (ad 0)]) (q0 := 0) (w' := (wM ad cA z)) C hS (fun sz => c_rm_isByte l D ad cA k z x1 x2 r_1 hcl sz) gX6_poke_X6_isByte rfl ⟨rfl, rfl⟩ (by decide +kernel) ⟨Nat.le_of_ble_eq_true rfl, Nat.le_of_ble_eq_true rfl⟩ oM_0 rfl rfl hl.1 rfl (Nat.le_of_ble_eq_true rfl) dX6_poke_4 (fun H locs hS => ?_)
  refine lv_if_eq (x := r_1) (tgt := 14) hx hb dX6_poke_7 (by decide) (fun hc => ?_) (fun hc => ?_)
  · replace hf := it_t hc hf
    refine lv_iconst (v := 1) hx hb dX6_poke_14 (by decide) ?_
    exact w_rm_poke_b15 C k z x1 x2 x3 1 r z' hf H locs ls hS (lv_sub hl [0, 1, 2, 3] rfl)
  · replace hf := it_f hc hf
    refine lv_iconst (v := 0) hx hb dX6_poke_10 (by decide) ?_
    refine lv_goto (tgt := 15) hx hb dX6_poke_11 (by decide) ?_
    exact w_rm_poke_b15 C k z x1 x2 x3 0 r z' hf H locs ls hS (lv_sub hl [0, 1, 2, 3] rfl)
set_option maxHeartbeats 4000000 in
set_option maxRecDepth 100000 in
theorem c_rm_poke (l : Launch) (D : va_G) (ad : Nat → Nat) (cA : Nat → ClassId) (k : Nat) (z : SS) (x1 : Int32) (x2 : Int32) (x3 : Int32) (r : Int32) (z' : SS) (hf : rm_poke k z x1 x2 x3 = some (r, z')) (sz : Nat) : Met l yX6_poke wsX6_poke R_rm_poke (kP D (tM cA) [.ref (ad 0), .int x1, .int x2, .int x3] (wM ad cA z) sz) (kI D (tM cA) r (wM ad cA z) (wM ad cA z') sz) 0 0 (va_A (wM ad cA z) sz) := by
  refine ent (by decide) rfl rfl (Nat.le_of_ble_eq_true rfl) (fun p e s m args below meth c hsz C hS ls hl => ?_)
  subst hsz
  exact w_rm_poke_0 C k z x1 x2 x3 r z' hf s.heap [] ls hS hl
-- rm_byteAt: public int byteAt(int, int);
theorem lk_X6_byteAt_67 : Cond.fieldLink RX6 67 (TX6 1).1 (TX6 1).2.1 (TX6 1).2.2.1 ∈ wsX6_byteAt := by decide +kernel
theorem in_X6_byteAt_X6 : ∀ x ∈ u_ws RX6 TX6 29, x ∈ wsX6_byteAt := by decide +kernel
theorem lk_X6_byteAt_7 : Cond.fieldLink RX6 7 (TX6 2).1 (TX6 2).2.1 (TX6 2).2.2.1 ∈ wsX6_byteAt := by decide +kernel
def R_rm_byteAt : Room := { frames := 2, cells := 0, slots := 0, locals := 44 }
def rm_byteAt_b15 (k : Nat) (z : SS) (x1 : Int32) (x2 : Int32) (y0 : Int32) : Option (Int32 × SS) :=
  (if y0 ≤ 0 then (if ck ((200 * x1) + x2) 2400 = true then some (((z.2 1) (Int32.toNatClampNeg ((200 * x1) + x2))), (si z 1 y0)) else none) else some (0, (si z 1 y0)))
def rm_byteAt (k : Nat) (z : SS) (x1 : Int32) (x2 : Int32) : Option (Int32 × SS) :=
  (bo (rm_isByte k z x1 x2) fun r_1 => (if r_1 = 0 then rm_byteAt_b15 k z x1 x2 1 else rm_byteAt_b15 k z x1 x2 0))
set_option maxHeartbeats 4000000 in
set_option maxRecDepth 100000 in
theorem w_rm_byteAt_b15 {p : Program} {l : Launch} {e : Env} {s : State} {m : MethodId} {args : Array Value} {below : List Frame} {meth : Method} {c : Code} {D : va_G} {w0 : va_W} {ad : Nat → Nat} {cA : Nat → ClassId} (C : Cx p s m args meth c cX6_byteAt 3 (some .int) RX6 wsX6_byteAt D (tM cA)) (k : Nat) (z : SS) (x1 : Int32) (x2 : Int32) (y0 : Int32) (r : Int32) (z' : SS) (hf : rm_byteAt_b15 k z x1 x2 y0 = some (r, z')) : ∀ (H : Heap) (locs : List Loc) (ls : Array Slot), St D (va_A w0 s.heap.size) s.heap (wM ad cA z) H locs → lv_has ls 3 [(0, .ref (ad 0)), (1, .int x1), (2, .int x2)] → W p l e R_rm_byteAt s m args below meth c H locs 0 0 (MQ below (kI D (tM cA) r w0 (wM ad cA z') s.heap.size) args s 0 0 (va_A w0 s.heap.size)) (F0 m 15 ls [.int y0, .ref (ad 0)]) := by
  obtain ⟨hx, hb, hr, hml, hown, hts, hlk, hK⟩ := id C
  intro H locs ls hS hl
  have hf : (if y0 ≤ 0 then (if ck ((200 * x1) + x2) 2400 = true then some (((z.2 1) (Int32.toNatClampNeg ((200 * x1) + x2))), (si z 1 y0)) else none) else some (0, (si z 1 y0))) = some (r, z') := hf
  refine pM_1 C hS in_X6_byteAt_X6 lk_X6_byteAt_67 (v := y0) rfl rfl dX6_byteAt_15 (fun H locs hS => ?_)
  refine lv_aload_n hx hb dX6_byteAt_18 rfl (lv_at hl 0 rfl) ?_
  refine gM_1 C hS in_X6_byteAt_X6 lk_X6_byteAt_67 (v := y0) si_s dX6_byteAt_19 ?_
  refine lv_if_le (x := y0) (tgt := 29) hx hb dX6_byteAt_22 (by decide) (fun hc => ?_) (fun hc => ?_)
  · replace hf := it_t hc hf
    refine lv_aload_n hx hb dX6_byteAt_29 rfl (lv_at hl 0 rfl) ?_
    refine hM_1 C hS in_X6_byteAt_X6 lk_X6_byteAt_7 dX6_byteAt_30 ?_
    refine lv_sipush (v := 200) hx hb dX6_byteAt_33 (by decide) ?_
    refine lv_iload_n hx hb dX6_byteAt_36 rfl (lv_at hl 1 rfl) ?_
    refine lv_imul (x := 200) (y := x1) hx hb dX6_byteAt_37 ?_
    refine lv_iload_n hx hb dX6_byteAt_38 rfl (lv_at hl 2 rfl) ?_
    refine lv_iadd (x := (200 * x1)) (y := x2) hx hb dX6_byteAt_39 ?_
    obtain ⟨hck, hf⟩ := cs hf
    refine lM_1 C hS (f := (z.2 1)) (si_a.trans rfl) (i := ((200 * x1) + x2)) hck dX6_byteAt_40 ?_
    cases hf
    exact rti C hS dX6_byteAt_41
  · replace hf := it_f hc hf
    refine lv_iconst (v := 0) hx hb dX6_byteAt_25 (by decide) ?_
    refine lv_goto (tgt := 41) hx hb dX6_byteAt_26 (by decide) ?_
    cases hf
    exact rti C hS dX6_byteAt_41
set_option maxHeartbeats 4000000 in
set_option maxRecDepth 100000 in
theorem w_rm_byteAt_0 {p : Program} {l : Launch} {e : Env} {s : State} {m : MethodId} {args : Array Value} {below : List Frame} {meth : Method} {c : Code} {D : va_G} {w0 : va_W} {ad : Nat → Nat} {cA : Nat → ClassId} (C : Cx p s m args meth c cX6_byteAt 3 (some .int) RX6 wsX6_byteAt D (tM cA)) (k : Nat) (z : SS) (x1 : Int32) (x2 : Int32) (r : Int32) (z' : SS) (hf : rm_byteAt k z x1 x2 = some (r, z')) : ∀ (H : Heap) (locs : List Loc) (ls : Array Slot), St D (va_A w0 s.heap.size) s.heap (wM ad cA z) H locs → lv_has ls 3 [(0, .ref (ad 0)), (1, .int x1), (2, .int x2)] → W p l e R_rm_byteAt s m args below meth c H locs 0 0 (MQ below (kI D (tM cA) r w0 (wM ad cA z') s.heap.size) args s 0 0 (va_A w0 s.heap.size)) (F0 m 0 ls []) := by
  obtain ⟨hx, hb, hr, hml, hown, hts, hlk, hK⟩ := id C
  intro H locs ls hS hl
  have hf : (bo (rm_isByte k z x1 x2) fun r_1 => (if r_1 = 0 then rm_byteAt_b15 k z x1 x2 1 else rm_byteAt_b15 k z x1 x2 0)) = some (r, z') := hf
  refine lv_aload_n hx hb dX6_byteAt_0 rfl (lv_at hl 0 rfl) ?_
  refine lv_aload_n hx hb dX6_byteAt_1 rfl (lv_at hl 0 rfl) ?_
  refine lv_iload_n hx hb dX6_byteAt_2 rfl (lv_at hl 1 rfl) ?_
  refine lv_iload_n hx hb dX6_byteAt_3 rfl (lv_at hl 2 rfl) ?_
  obtain ⟨r_1, hcl, hf⟩ := bo_s hf
  refine rcVi (n := 2) (As := [.int x1, .int x2]) (rest := [.ref (ad 0)]) (q0 := 0) (w' := (wM ad cA z)) C hS (fun sz => c_rm_isByte l D ad cA k z x1 x2 r_1 hcl sz) gX6_byteAt_X6_isByte rfl ⟨rfl, rfl⟩ (by decide +kernel) ⟨Nat.le_of_ble_eq_true rfl, Nat.le_of_ble_eq_true rfl⟩ oM_0 rfl rfl hl.1 rfl (Nat.le_of_ble_eq_true rfl) dX6_byteAt_4 (fun H locs hS => ?_)
  refine lv_if_eq (x := r_1) (tgt := 14) hx hb dX6_byteAt_7 (by decide) (fun hc => ?_) (fun hc => ?_)
  · replace hf := it_t hc hf
    refine lv_iconst (v := 1) hx hb dX6_byteAt_14 (by decide) ?_
    exact w_rm_byteAt_b15 C k z x1 x2 1 r z' hf H locs ls hS (lv_sub hl [0, 1, 2] rfl)
  · replace hf := it_f hc hf
    refine lv_iconst (v := 0) hx hb dX6_byteAt_10 (by decide) ?_
    refine lv_goto (tgt := 15) hx hb dX6_byteAt_11 (by decide) ?_
    exact w_rm_byteAt_b15 C k z x1 x2 0 r z' hf H locs ls hS (lv_sub hl [0, 1, 2] rfl)
set_option maxHeartbeats 4000000 in
set_option maxRecDepth 100000 in
theorem c_rm_byteAt (l : Launch) (D : va_G) (ad : Nat → Nat) (cA : Nat → ClassId) (k : Nat) (z : SS) (x1 : Int32) (x2 : Int32) (r : Int32) (z' : SS) (hf : rm_byteAt k z x1 x2 = some (r, z')) (sz : Nat) : Met l yX6_byteAt wsX6_byteAt R_rm_byteAt (kP D (tM cA) [.ref (ad 0), .int x1, .int x2] (wM ad cA z) sz) (kI D (tM cA) r (wM ad cA z) (wM ad cA z') sz) 0 0 (va_A (wM ad cA z) sz) := by
  refine ent (by decide) rfl rfl (Nat.le_of_ble_eq_true rfl) (fun p e s m args below meth c hsz C hS ls hl => ?_)
  subst hsz
  exact w_rm_byteAt_0 C k z x1 x2 r z' hf s.heap [] ls hS hl
-- rm_living: public int living(int);
theorem lk_X6_living_67 : Cond.fieldLink RX6 67 (TX6 1).1 (TX6 1).2.1 (TX6 1).2.2.1 ∈ wsX6_living := by decide +kernel
theorem in_X6_living_X6 : ∀ x ∈ u_ws RX6 TX6 29, x ∈ wsX6_living := by decide +kernel
theorem lk_X6_living_149 : Cond.fieldLink RX6 149 (TX6 12).1 (TX6 12).2.1 (TX6 12).2.2.1 ∈ wsX6_living := by decide +kernel
theorem lk_X6_living_64 : Cond.fieldLink RX6 64 (TX6 0).1 (TX6 0).2.1 (TX6 0).2.2.1 ∈ wsX6_living := by decide +kernel
def R_rm_living : Room := { frames := 8, cells := 0, slots := 0, locals := 192 }
def rm_living (k : Nat) (z : SS) (x1 : Int32) : Option (Int32 × SS) :=
  (if (z.1 12) = 0 then (bo (rm_in k (si z 1 0) x1 0 ((z.1 0) - 1)) fun r_1 => (if r_1 = 0 then some ((-1), (si z 1 0)) else (bi (rm_livingIn k (si z 1 0) x1) fun r_2 z_2 => some (r_2, z_2)))) else some ((-1), (si z 1 0)))
set_option maxHeartbeats 4000000 in
set_option maxRecDepth 100000 in
theorem w_rm_living_0 {p : Program} {l : Launch} {e : Env} {s : State} {m : MethodId} {args : Array Value} {below : List Frame} {meth : Method} {c : Code} {D : va_G} {w0 : va_W} {ad : Nat → Nat} {cA : Nat → ClassId} (C : Cx p s m args meth c cX6_living 2 (some .int) RX6 wsX6_living D (tM cA)) (k : Nat) (z : SS) (x1 : Int32) (r : Int32) (z' : SS) (hf : rm_living k z x1 = some (r, z')) : ∀ (H : Heap) (locs : List Loc) (ls : Array Slot), St D (va_A w0 s.heap.size) s.heap (wM ad cA z) H locs → lv_has ls 2 [(0, .ref (ad 0)), (1, .int x1)] → W p l e R_rm_living s m args below meth c H locs 0 0 (MQ below (kI D (tM cA) r w0 (wM ad cA z') s.heap.size) args s 0 0 (va_A w0 s.heap.size)) (F0 m 0 ls []) := by
  obtain ⟨hx, hb, hr, hml, hown, hts, hlk, hK⟩ := id C
  intro H locs ls hS hl
  have hf : (if (z.1 12) = 0 then (bo (rm_in k (si z 1 0) x1 0 ((z.1 0) - 1)) fun r_1 => (if r_1 = 0 then some ((-1), (si z 1 0)) else (bi (rm_livingIn k (si z 1 0) x1) fun r_2 z_2 => some (r_2, z_2)))) else some ((-1), (si z 1 0))) = some (r, z') := hf
  refine lv_aload_n hx hb dX6_living_0 rfl (lv_at hl 0 rfl) ?_
  refine lv_iconst (v := 0) hx hb dX6_living_1 (by decide) ?_
  refine pM_1 C hS in_X6_living_X6 lk_X6_living_67 (v := 0) rfl rfl dX6_living_2 (fun H locs hS => ?_)
  refine lv_aload_n hx hb dX6_living_5 rfl (lv_at hl 0 rfl) ?_
  refine gM_12 C hS in_X6_living_X6 lk_X6_living_149 (v := (z.1 12)) ((si_o (by decide)).trans rfl) dX6_living_6 ?_
  refine lv_if_ne (x := (z.1 12)) (tgt := 26) hx hb dX6_living_9 (by decide) (fun hc => ?_) (fun hc => ?_)
  · replace hf := it_f hc hf
    refine lv_iconst (v := (-1)) hx hb dX6_living_26 (by decide) ?_
    refine lv_goto (tgt := 35) hx hb dX6_living_27 (by decide) ?_
    cases hf
    exact rti C hS dX6_living_35
  · replace hf := it_t hc hf
    refine lv_iload_n hx hb dX6_living_12 rfl (lv_at hl 1 rfl) ?_
    refine lv_iconst (v := 0) hx hb dX6_living_13 (by decide) ?_
    refine lv_aload_n hx hb dX6_living_14 rfl (lv_at hl 0 rfl) ?_
    refine gM_0 C hS in_X6_living_X6 lk_X6_living_64 (v := (z.1 0)) ((si_o (by decide)).trans rfl) dX6_living_15 ?_
    refine lv_iconst (v := 1) hx hb dX6_living_18 (by decide) ?_
    refine lv_isub (x := (z.1 0)) (y := 1) hx hb dX6_living_19 ?_
    obtain ⟨r_1, hcl, hf⟩ := bo_s hf
    refine rcSi (n := 3) (As := [.int x1, .int 0, .int ((z.1 0) - 1)]) (rest := []) (w' := (wM ad cA (si z 1 0))) C hS (fun sz => c_rm_in l D ad cA k (si z 1 0) x1 0 ((z.1 0) - 1) r_1 hcl sz) gX6_living_X6_in rfl ⟨rfl, rfl⟩ (by decide +kernel) ⟨Nat.le_of_ble_eq_true rfl, Nat.le_of_ble_eq_true rfl⟩ rfl hl.1 rfl (Nat.le_of_ble_eq_true rfl) dX6_living_20 (fun H locs hS => ?_)
    refine lv_if_ne (x := r_1) (tgt := 30) hx hb dX6_living_23 (by decide) (fun hc => ?_) (fun hc => ?_)
    · replace hf := it_f hc hf
      refine lv_aload_n hx hb dX6_living_30 rfl (lv_at hl 0 rfl) ?_
      refine lv_iload_n hx hb dX6_living_31 rfl (lv_at hl 1 rfl) ?_
      obtain ⟨r_2, z_2, hcl, hf⟩ := bi_s hf
      refine rcVi (n := 1) (As := [.int x1]) (rest := []) (q0 := 0) (w' := (wM ad cA z_2)) C hS (fun sz => c_rm_livingIn l D ad cA k (si z 1 0) x1 r_2 z_2 hcl sz) gX6_living_X6_livingIn rfl ⟨rfl, rfl⟩ (by decide +kernel) ⟨Nat.le_of_ble_eq_true rfl, Nat.le_of_ble_eq_true rfl⟩ oM_0 rfl rfl hl.1 rfl (Nat.le_of_ble_eq_true rfl) dX6_living_32 (fun H locs hS => ?_)
      cases hf
      exact rti C hS dX6_living_35
    · replace hf := it_t hc hf
      refine lv_iconst (v := (-1)) hx hb dX6_living_26 (by decide) ?_
      refine lv_goto (tgt := 35) hx hb dX6_living_27 (by decide) ?_
      cases hf
      exact rti C hS dX6_living_35
set_option maxHeartbeats 4000000 in
set_option maxRecDepth 100000 in
theorem c_rm_living (l : Launch) (D : va_G) (ad : Nat → Nat) (cA : Nat → ClassId) (k : Nat) (z : SS) (x1 : Int32) (r : Int32) (z' : SS) (hf : rm_living k z x1 = some (r, z')) (sz : Nat) : Met l yX6_living wsX6_living R_rm_living (kP D (tM cA) [.ref (ad 0), .int x1] (wM ad cA z) sz) (kI D (tM cA) r (wM ad cA z) (wM ad cA z') sz) 0 0 (va_A (wM ad cA z) sz) := by
  refine ent (by decide) rfl rfl (Nat.le_of_ble_eq_true rfl) (fun p e s m args below meth c hsz C hS ls hl => ?_)
  subst hsz
  exact w_rm_living_0 C k z x1 r z' hf s.heap [] ls hS hl
-- rm_used: public int used(int);
theorem lk_X6_used_67 : Cond.fieldLink RX6 67 (TX6 1).1 (TX6 1).2.1 (TX6 1).2.2.1 ∈ wsX6_used := by decide +kernel
theorem in_X6_used_X6 : ∀ x ∈ u_ws RX6 TX6 29, x ∈ wsX6_used := by decide +kernel
theorem lk_X6_used_64 : Cond.fieldLink RX6 64 (TX6 0).1 (TX6 0).2.1 (TX6 0).2.2.1 ∈ wsX6_used := by decide +kernel
theorem lk_X6_used_13 : Cond.fieldLink RX6 13 (TX6 3).1 (TX6 3).2.1 (TX6 3).2.2.1 ∈ wsX6_used := by decide +kernel
def R_rm_used : Room := { frames := 1, cells := 0, slots := 0, locals := 22 }
def rm_used (k : Nat) (z : SS) (x1 : Int32) : Option (Int32 × SS) :=
  (bo (rm_in k (si z 1 0) x1 0 ((z.1 0) - 1)) fun r_1 => (if r_1 = 0 then some ((-1), (si z 1 0)) else (if ck x1 12 = true then some (((z.2 2) (Int32.toNatClampNeg x1)), (si z 1 0)) else none)))
set_option maxHeartbeats 4000000 in
set_option maxRecDepth 100000 in
theorem w_rm_used_0 {p : Program} {l : Launch} {e : Env} {s : State} {m : MethodId} {args : Array Value} {below : List Frame} {meth : Method} {c : Code} {D : va_G} {w0 : va_W} {ad : Nat → Nat} {cA : Nat → ClassId} (C : Cx p s m args meth c cX6_used 2 (some .int) RX6 wsX6_used D (tM cA)) (k : Nat) (z : SS) (x1 : Int32) (r : Int32) (z' : SS) (hf : rm_used k z x1 = some (r, z')) : ∀ (H : Heap) (locs : List Loc) (ls : Array Slot), St D (va_A w0 s.heap.size) s.heap (wM ad cA z) H locs → lv_has ls 2 [(0, .ref (ad 0)), (1, .int x1)] → W p l e R_rm_used s m args below meth c H locs 0 0 (MQ below (kI D (tM cA) r w0 (wM ad cA z') s.heap.size) args s 0 0 (va_A w0 s.heap.size)) (F0 m 0 ls []) := by
  obtain ⟨hx, hb, hr, hml, hown, hts, hlk, hK⟩ := id C
  intro H locs ls hS hl
  have hf : (bo (rm_in k (si z 1 0) x1 0 ((z.1 0) - 1)) fun r_1 => (if r_1 = 0 then some ((-1), (si z 1 0)) else (if ck x1 12 = true then some (((z.2 2) (Int32.toNatClampNeg x1)), (si z 1 0)) else none))) = some (r, z') := hf
  refine lv_aload_n hx hb dX6_used_0 rfl (lv_at hl 0 rfl) ?_
  refine lv_iconst (v := 0) hx hb dX6_used_1 (by decide) ?_
  refine pM_1 C hS in_X6_used_X6 lk_X6_used_67 (v := 0) rfl rfl dX6_used_2 (fun H locs hS => ?_)
  refine lv_iload_n hx hb dX6_used_5 rfl (lv_at hl 1 rfl) ?_
  refine lv_iconst (v := 0) hx hb dX6_used_6 (by decide) ?_
  refine lv_aload_n hx hb dX6_used_7 rfl (lv_at hl 0 rfl) ?_
  refine gM_0 C hS in_X6_used_X6 lk_X6_used_64 (v := (z.1 0)) ((si_o (by decide)).trans rfl) dX6_used_8 ?_
  refine lv_iconst (v := 1) hx hb dX6_used_11 (by decide) ?_
  refine lv_isub (x := (z.1 0)) (y := 1) hx hb dX6_used_12 ?_
  obtain ⟨r_1, hcl, hf⟩ := bo_s hf
  refine rcSi (n := 3) (As := [.int x1, .int 0, .int ((z.1 0) - 1)]) (rest := []) (w' := (wM ad cA (si z 1 0))) C hS (fun sz => c_rm_in l D ad cA k (si z 1 0) x1 0 ((z.1 0) - 1) r_1 hcl sz) gX6_used_X6_in rfl ⟨rfl, rfl⟩ (by decide +kernel) ⟨Nat.le_of_ble_eq_true rfl, Nat.le_of_ble_eq_true rfl⟩ rfl hl.1 rfl (Nat.le_of_ble_eq_true rfl) dX6_used_13 (fun H locs hS => ?_)
  refine lv_if_eq (x := r_1) (tgt := 28) hx hb dX6_used_16 (by decide) (fun hc => ?_) (fun hc => ?_)
  · replace hf := it_t hc hf
    refine lv_iconst (v := (-1)) hx hb dX6_used_28 (by decide) ?_
    cases hf
    exact rti C hS dX6_used_29
  · replace hf := it_f hc hf
    refine lv_aload_n hx hb dX6_used_19 rfl (lv_at hl 0 rfl) ?_
    refine hM_2 C hS in_X6_used_X6 lk_X6_used_13 dX6_used_20 ?_
    refine lv_iload_n hx hb dX6_used_23 rfl (lv_at hl 1 rfl) ?_
    obtain ⟨hck, hf⟩ := cs hf
    refine lM_2 C hS (f := (z.2 2)) (si_a.trans rfl) (i := x1) hck dX6_used_24 ?_
    refine lv_goto (tgt := 29) hx hb dX6_used_25 (by decide) ?_
    cases hf
    exact rti C hS dX6_used_29
set_option maxHeartbeats 4000000 in
set_option maxRecDepth 100000 in
theorem c_rm_used (l : Launch) (D : va_G) (ad : Nat → Nat) (cA : Nat → ClassId) (k : Nat) (z : SS) (x1 : Int32) (r : Int32) (z' : SS) (hf : rm_used k z x1 = some (r, z')) (sz : Nat) : Met l yX6_used wsX6_used R_rm_used (kP D (tM cA) [.ref (ad 0), .int x1] (wM ad cA z) sz) (kI D (tM cA) r (wM ad cA z) (wM ad cA z') sz) 0 0 (va_A (wM ad cA z) sz) := by
  refine ent (by decide) rfl rfl (Nat.le_of_ble_eq_true rfl) (fun p e s m args below meth c hsz C hS ls hl => ?_)
  subst hsz
  exact w_rm_used_0 C k z x1 r z' hf s.heap [] ls hS hl
