-- rm_has: private int has(int, int);
theorem lk_X6_has_45 : Cond.fieldLink RX6 45 (TX6 19).1 (TX6 19).2.1 (TX6 19).2.2.1 ∈ wsX6_has := by decide +kernel
theorem in_X6_has_X6 : ∀ x ∈ u_ws RX6 TX6 29, x ∈ wsX6_has := by decide +kernel
def R_rm_has : Room := { frames := 6, cells := 0, slots := 0, locals := 145 }
def rm_has (k : Nat) (z : SS) (x1 : Int32) (x2 : Int32) : Option (Int32 × SS) :=
  (bi (rm_rowOf k z x1 x2) fun r_1 z_1 => (if r_1 < 0 then some ((-1), z_1) else (if ck r_1 160 = true then (if ((z_1.2 10) (Int32.toNatClampNeg r_1)) = 0 then some (r_1, z_1) else some ((-1), z_1)) else none)))
set_option maxHeartbeats 4000000 in
set_option maxRecDepth 100000 in
theorem w_rm_has_0 {p : Program} {l : Launch} {e : Env} {s : State} {m : MethodId} {args : Array Value} {below : List Frame} {meth : Method} {c : Code} {D : va_G} {w0 : va_W} {ad : Nat → Nat} {cA : Nat → ClassId} (C : Cx p s m args meth c cX6_has 4 (some .int) RX6 wsX6_has D (tM cA)) (k : Nat) (z : SS) (x1 : Int32) (x2 : Int32) (r : Int32) (z' : SS) (hf : rm_has k z x1 x2 = some (r, z')) : ∀ (H : Heap) (locs : List Loc) (ls : Array Slot), St D (va_A w0 s.heap.size) s.heap (wM ad cA z) H locs → lv_has ls 4 [(0, .ref (ad 0)), (1, .int x1), (2, .int x2)] → W p l e R_rm_has s m args below meth c H locs 0 0 (MQ below (kI D (tM cA) r w0 (wM ad cA z') s.heap.size) args s 0 0 (va_A w0 s.heap.size)) (F0 m 0 ls []) := by
  obtain ⟨hx, hb, hr, hml, hown, hts, hlk, hK⟩ := id C
  intro H locs ls hS hl
  have hf : (bi (rm_rowOf k z x1 x2) fun r_1 z_1 => (if r_1 < 0 then some ((-1), z_1) else (if ck r_1 160 = true then (if ((z_1.2 10) (Int32.toNatClampNeg r_1)) = 0 then some (r_1, z_1) else some ((-1), z_1)) else none))) = some (r, z') := hf
  refine lv_aload_n hx hb dX6_has_0 rfl (lv_at hl 0 rfl) ?_
  refine lv_iload_n hx hb dX6_has_1 rfl (lv_at hl 1 rfl) ?_
  refine lv_iload_n hx hb dX6_has_2 rfl (lv_at hl 2 rfl) ?_
  obtain ⟨r_1, z_1, hcl, hf⟩ := bi_s hf
  refine rcVi (n := 2) (As := [.int x1, .int x2]) (rest := []) (q0 := 0) (w' := (wM ad cA z_1)) C hS (fun sz => c_rm_rowOf l D ad cA k z x1 x2 r_1 z_1 hcl sz) gX6_has_X6_rowOf rfl ⟨rfl, rfl⟩ (by decide +kernel) ⟨Nat.le_of_ble_eq_true rfl, Nat.le_of_ble_eq_true rfl⟩ oM_0 rfl rfl hl.1 rfl (Nat.le_of_ble_eq_true rfl) dX6_has_3 (fun H locs hS => ?_)
  refine lv_istore_n (lv' := [(3, .int r_1), (0, .ref (ad 0)), (1, .int x1), (2, .int x2)]) hx hb dX6_has_6 rfl hl (by decide) rfl (fun ls hl => ?_)
  refine lv_iload_n hx hb dX6_has_7 rfl (lv_at hl 0 rfl) ?_
  refine lv_if_lt (x := r_1) (tgt := 24) hx hb dX6_has_8 (by decide) (fun hc => ?_) (fun hc => ?_)
  · replace hf := it_t hc hf
    refine lv_iconst (v := (-1)) hx hb dX6_has_24 (by decide) ?_
    cases hf
    exact rti C hS dX6_has_25
  · replace hf := it_f hc hf
    refine lv_aload_n hx hb dX6_has_11 rfl (lv_at hl 1 rfl) ?_
    refine hM_10 C hS in_X6_has_X6 lk_X6_has_45 dX6_has_12 ?_
    refine lv_iload_n hx hb dX6_has_15 rfl (lv_at hl 0 rfl) ?_
    obtain ⟨hck, hf⟩ := cs hf
    refine lM_10 C hS (f := (z_1.2 10)) rfl (i := r_1) hck dX6_has_16 ?_
    refine lv_if_ne (x := ((z_1.2 10) (Int32.toNatClampNeg r_1))) (tgt := 24) hx hb dX6_has_17 (by decide) (fun hc => ?_) (fun hc => ?_)
    · replace hf := it_f hc hf
      refine lv_iconst (v := (-1)) hx hb dX6_has_24 (by decide) ?_
      cases hf
      exact rti C hS dX6_has_25
    · replace hf := it_t hc hf
      refine lv_iload_n hx hb dX6_has_20 rfl (lv_at hl 0 rfl) ?_
      refine lv_goto (tgt := 25) hx hb dX6_has_21 (by decide) ?_
      cases hf
      exact rti C hS dX6_has_25
set_option maxHeartbeats 4000000 in
set_option maxRecDepth 100000 in
theorem c_rm_has (l : Launch) (D : va_G) (ad : Nat → Nat) (cA : Nat → ClassId) (k : Nat) (z : SS) (x1 : Int32) (x2 : Int32) (r : Int32) (z' : SS) (hf : rm_has k z x1 x2 = some (r, z')) (sz : Nat) : Met l yX6_has wsX6_has R_rm_has (kP D (tM cA) [.ref (ad 0), .int x1, .int x2] (wM ad cA z) sz) (kI D (tM cA) r (wM ad cA z) (wM ad cA z') sz) 0 0 (va_A (wM ad cA z) sz) := by
  refine ent (by decide) rfl rfl (Nat.le_of_ble_eq_true rfl) (fun p e s m args below meth c hsz C hS ls hl => ?_)
  subst hsz
  exact w_rm_has_0 C k z x1 x2 r z' hf s.heap [] ls hS hl
-- rm_lives: private boolean lives(int);
theorem lk_X6_lives_96 : Cond.fieldLink RX6 96 (TX6 15).1 (TX6 15).2.1 (TX6 15).2.2.1 ∈ wsX6_lives := by decide +kernel
theorem in_X6_lives_X6 : ∀ x ∈ u_ws RX6 TX6 29, x ∈ wsX6_lives := by decide +kernel
theorem lk_X6_lives_39 : Cond.fieldLink RX6 39 (TX6 17).1 (TX6 17).2.1 (TX6 17).2.2.1 ∈ wsX6_lives := by decide +kernel
theorem lk_X6_lives_42 : Cond.fieldLink RX6 42 (TX6 18).1 (TX6 18).2.1 (TX6 18).2.2.1 ∈ wsX6_lives := by decide +kernel
theorem lk_X6_lives_45 : Cond.fieldLink RX6 45 (TX6 19).1 (TX6 19).2.1 (TX6 19).2.2.1 ∈ wsX6_lives := by decide +kernel
theorem lk_X6_lives_26 : Cond.fieldLink RX6 26 (TX6 10).1 (TX6 10).2.1 (TX6 10).2.2.1 ∈ wsX6_lives := by decide +kernel
theorem lk_X6_lives_30 : Cond.fieldLink RX6 30 (TX6 11).1 (TX6 11).2.1 (TX6 11).2.2.1 ∈ wsX6_lives := by decide +kernel
theorem lc_X6_lives_111 : Cond.constant RX6 111 2147483647 ∈ wsX6_lives := by decide +kernel
def R_rm_lives : Room := { frames := 6, cells := 0, slots := 0, locals := 145 }
def rm_lives_b92 (k : Nat) : Nat → SS → Int32 → Int32 → Int32 → Int32 → Option (Int32 × SS)
  | 0, _, _, _, _, _ => none
  | fu + 1, z, x1, x2, x3, x4 => (if (z.1 15) ≤ x4 then (if x2 = 0 then some (0, z) else (if x3 = 0 then some (0, z) else some (1, z))) else (if x3 = 0 then (if ck x4 160 = true then (if ck x1 160 = true then (if ((z.2 8) (Int32.toNatClampNeg x4)) = ((z.2 8) (Int32.toNatClampNeg x1)) then (if ck x4 160 = true then (if ck x1 160 = true then (if ((z.2 9) (Int32.toNatClampNeg x1)) ≤ ((z.2 9) (Int32.toNatClampNeg x4)) then rm_lives_b92 k fu z x1 x2 0 (x4 + 1) else rm_lives_b92 k fu z x1 x2 1 (x4 + 1)) else none) else none) else rm_lives_b92 k fu z x1 x2 0 (x4 + 1)) else none) else none) else rm_lives_b92 k fu z x1 x2 1 (x4 + 1)))
def rm_lives_b88 (k : Nat) (z : SS) (x1 : Int32) (x2 : Int32) (y0 : Int32) : Option (Int32 × SS) :=
  rm_lives_b92 k k z x1 x2 y0 0
def rm_lives_b24 (k : Nat) : Nat → SS → Int32 → Int32 → Int32 → Option (Int32 × SS)
  | 0, _, _, _, _ => none
  | fu + 1, z, x1, x2, x3 => (if 4 ≤ x3 then (if ck x1 160 = true then (if ((z.2 10) (Int32.toNatClampNeg x1)) = 0 then rm_lives_b88 k z x1 x2 1 else rm_lives_b88 k z x1 x2 0) else none) else (if x2 = 0 then (if ck x3 4 = true then (if ((z.2 5) (Int32.toNatClampNeg x3)) = 0 then rm_lives_b24 k fu z x1 0 (x3 + 1) else (if ck x1 160 = true then (if ck x3 4 = true then (bi (rm_rowOf k z ((z.2 8) (Int32.toNatClampNeg x1)) ((z.2 6) (Int32.toNatClampNeg x3))) fun r_1 z_1 => (if r_1 = x1 then rm_lives_b24 k fu z_1 x1 1 (x3 + 1) else rm_lives_b24 k fu z_1 x1 0 (x3 + 1))) else none) else none)) else none) else rm_lives_b24 k fu z x1 1 (x3 + 1)))
def rm_lives_b21 (k : Nat) (z : SS) (x1 : Int32) (y0 : Int32) : Option (Int32 × SS) :=
  rm_lives_b24 k k z x1 y0 0
def rm_lives (k : Nat) (z : SS) (x1 : Int32) : Option (Int32 × SS) :=
  (if ck x1 160 = true then (bi (rm_rowOf k z ((z.2 8) (Int32.toNatClampNeg x1)) 2147483647) fun r_1 z_1 => (if r_1 = x1 then rm_lives_b21 k z_1 x1 1 else rm_lives_b21 k z_1 x1 0)) else none)
set_option maxHeartbeats 4000000 in
set_option maxRecDepth 100000 in
theorem w_rm_lives_b92 {p : Program} {l : Launch} {e : Env} {s : State} {m : MethodId} {args : Array Value} {below : List Frame} {meth : Method} {c : Code} {D : va_G} {w0 : va_W} {ad : Nat → Nat} {cA : Nat → ClassId} (C : Cx p s m args meth c cX6_lives 5 (some .boolean) RX6 wsX6_lives D (tM cA)) (k : Nat) : ∀ (fu : Nat) (z : SS) (x1 : Int32) (x2 : Int32) (x3 : Int32) (x4 : Int32) (r : Int32) (z' : SS), rm_lives_b92 k fu z x1 x2 x3 x4 = some (r, z') → ∀ (H : Heap) (locs : List Loc) (ls : Array Slot), St D (va_A w0 s.heap.size) s.heap (wM ad cA z) H locs → lv_has ls 5 [(0, .ref (ad 0)), (1, .int x1), (2, .int x2), (3, .int x3), (4, .int x4)] → W p l e R_rm_lives s m args below meth c H locs 0 0 (MQ below (kI D (tM cA) r w0 (wM ad cA z') s.heap.size) args s 0 0 (va_A w0 s.heap.size)) (F0 m 92 ls []) := by
  obtain ⟨hx, hb, hr, hml, hown, hts, hlk, hK⟩ := id C
  intro fu
  induction fu with
  | zero =>
    intro z x1 x2 x3 x4 r z' hf
    cases (show (none : Option (Int32 × SS)) = some (r, z') from hf)
  | succ fu ih =>
    intro z x1 x2 x3 x4 r z' hf H locs ls hS hl
    have hf : (if (z.1 15) ≤ x4 then (if x2 = 0 then some (0, z) else (if x3 = 0 then some (0, z) else some (1, z))) else (if x3 = 0 then (if ck x4 160 = true then (if ck x1 160 = true then (if ((z.2 8) (Int32.toNatClampNeg x4)) = ((z.2 8) (Int32.toNatClampNeg x1)) then (if ck x4 160 = true then (if ck x1 160 = true then (if ((z.2 9) (Int32.toNatClampNeg x1)) ≤ ((z.2 9) (Int32.toNatClampNeg x4)) then rm_lives_b92 k fu z x1 x2 0 (x4 + 1) else rm_lives_b92 k fu z x1 x2 1 (x4 + 1)) else none) else none) else rm_lives_b92 k fu z x1 x2 0 (x4 + 1)) else none) else none) else rm_lives_b92 k fu z x1 x2 1 (x4 + 1))) = some (r, z') := hf
    refine lv_iload hx hb dX6_lives_92 (lv_at hl 4 rfl) ?_
    refine lv_aload_n hx hb dX6_lives_94 rfl (lv_at hl 0 rfl) ?_
    refine gM_15 C hS in_X6_lives_X6 lk_X6_lives_96 (v := (z.1 15)) rfl dX6_lives_95 ?_
    refine lv_icmp_ge (x := x4) (y := (z.1 15)) (tgt := 149) hx hb dX6_lives_98 (by decide) (fun hc => ?_) (fun hc => ?_)
    · replace hf := it_t hc hf
      refine lv_iload_n hx hb dX6_lives_149 rfl (lv_at hl 2 rfl) ?_
      refine lv_if_eq (x := x2) (tgt := 161) hx hb dX6_lives_150 (by decide) (fun hc => ?_) (fun hc => ?_)
      · replace hf := it_t hc hf
        refine lv_iconst (v := 0) hx hb dX6_lives_161 (by decide) ?_
        cases hf
        exact rtz C hS (by decide) dX6_lives_162
      · replace hf := it_f hc hf
        refine lv_iload_n hx hb dX6_lives_153 rfl (lv_at hl 3 rfl) ?_
        refine lv_if_eq (x := x3) (tgt := 161) hx hb dX6_lives_154 (by decide) (fun hc => ?_) (fun hc => ?_)
        · replace hf := it_t hc hf
          refine lv_iconst (v := 0) hx hb dX6_lives_161 (by decide) ?_
          cases hf
          exact rtz C hS (by decide) dX6_lives_162
        · replace hf := it_f hc hf
          refine lv_iconst (v := 1) hx hb dX6_lives_157 (by decide) ?_
          refine lv_goto (tgt := 162) hx hb dX6_lives_158 (by decide) ?_
          cases hf
          exact rtz C hS (by decide) dX6_lives_162
    · replace hf := it_f hc hf
      refine lv_iload_n hx hb dX6_lives_101 rfl (lv_at hl 3 rfl) ?_
      refine lv_if_ne (x := x3) (tgt := 137) hx hb dX6_lives_102 (by decide) (fun hc => ?_) (fun hc => ?_)
      · replace hf := it_f hc hf
        refine lv_iconst (v := 1) hx hb dX6_lives_137 (by decide) ?_
        refine lv_goto (tgt := 142) hx hb dX6_lives_138 (by decide) ?_
        refine lv_istore_n (lv' := [(3, .int 1), (0, .ref (ad 0)), (1, .int x1), (2, .int x2), (4, .int x4)]) hx hb dX6_lives_142 rfl hl (by decide) rfl (fun ls hl => ?_)
        refine lv_iinc (v := (x4 + 1)) (lv' := [(4, .int (x4 + 1)), (3, .int 1), (0, .ref (ad 0)), (1, .int x1), (2, .int x2)]) hx hb dX6_lives_143 hl (k := 4) rfl (congrArg (fun q => x4 + q) (by decide : Int32.ofInt 1 = (1 : Int32))) (by decide) rfl (fun ls hl => ?_)
        refine lv_goto (tgt := 92) hx hb dX6_lives_146 (by decide) ?_
        exact ih z x1 x2 1 (x4 + 1) r z' hf H locs ls hS (lv_sub hl [2, 3, 4, 1, 0] rfl)
      · replace hf := it_t hc hf
        refine lv_aload_n hx hb dX6_lives_105 rfl (lv_at hl 0 rfl) ?_
        refine hM_8 C hS in_X6_lives_X6 lk_X6_lives_39 dX6_lives_106 ?_
        refine lv_iload hx hb dX6_lives_109 (lv_at hl 4 rfl) ?_
        obtain ⟨hck, hf⟩ := cs hf
        refine lM_8 C hS (f := (z.2 8)) rfl (i := x4) hck dX6_lives_111 ?_
        refine lv_aload_n hx hb dX6_lives_112 rfl (lv_at hl 0 rfl) ?_
        refine hM_8 C hS in_X6_lives_X6 lk_X6_lives_39 dX6_lives_113 ?_
        refine lv_iload_n hx hb dX6_lives_116 rfl (lv_at hl 1 rfl) ?_
        obtain ⟨hck, hf⟩ := cs hf
        refine lM_8 C hS (f := (z.2 8)) rfl (i := x1) hck dX6_lives_117 ?_
        refine lv_icmp_ne (x := ((z.2 8) (Int32.toNatClampNeg x4))) (y := ((z.2 8) (Int32.toNatClampNeg x1))) (tgt := 141) hx hb dX6_lives_118 (by decide) (fun hc => ?_) (fun hc => ?_)
        · replace hf := it_f hc hf
          refine lv_iconst (v := 0) hx hb dX6_lives_141 (by decide) ?_
          refine lv_istore_n (lv' := [(3, .int 0), (0, .ref (ad 0)), (1, .int x1), (2, .int x2), (4, .int x4)]) hx hb dX6_lives_142 rfl hl (by decide) rfl (fun ls hl => ?_)
          refine lv_iinc (v := (x4 + 1)) (lv' := [(4, .int (x4 + 1)), (3, .int 0), (0, .ref (ad 0)), (1, .int x1), (2, .int x2)]) hx hb dX6_lives_143 hl (k := 4) rfl (congrArg (fun q => x4 + q) (by decide : Int32.ofInt 1 = (1 : Int32))) (by decide) rfl (fun ls hl => ?_)
          refine lv_goto (tgt := 92) hx hb dX6_lives_146 (by decide) ?_
          exact ih z x1 x2 0 (x4 + 1) r z' hf H locs ls hS (lv_sub hl [2, 3, 4, 1, 0] rfl)
        · replace hf := it_t hc hf
          refine lv_aload_n hx hb dX6_lives_121 rfl (lv_at hl 0 rfl) ?_
          refine hM_9 C hS in_X6_lives_X6 lk_X6_lives_42 dX6_lives_122 ?_
          refine lv_iload hx hb dX6_lives_125 (lv_at hl 4 rfl) ?_
          obtain ⟨hck, hf⟩ := cs hf
          refine lM_9 C hS (f := (z.2 9)) rfl (i := x4) hck dX6_lives_127 ?_
          refine lv_aload_n hx hb dX6_lives_128 rfl (lv_at hl 0 rfl) ?_
          refine hM_9 C hS in_X6_lives_X6 lk_X6_lives_42 dX6_lives_129 ?_
          refine lv_iload_n hx hb dX6_lives_132 rfl (lv_at hl 1 rfl) ?_
          obtain ⟨hck, hf⟩ := cs hf
          refine lM_9 C hS (f := (z.2 9)) rfl (i := x1) hck dX6_lives_133 ?_
          refine lv_icmp_ge (x := ((z.2 9) (Int32.toNatClampNeg x4))) (y := ((z.2 9) (Int32.toNatClampNeg x1))) (tgt := 141) hx hb dX6_lives_134 (by decide) (fun hc => ?_) (fun hc => ?_)
          · replace hf := it_t hc hf
            refine lv_iconst (v := 0) hx hb dX6_lives_141 (by decide) ?_
            refine lv_istore_n (lv' := [(3, .int 0), (0, .ref (ad 0)), (1, .int x1), (2, .int x2), (4, .int x4)]) hx hb dX6_lives_142 rfl hl (by decide) rfl (fun ls hl => ?_)
            refine lv_iinc (v := (x4 + 1)) (lv' := [(4, .int (x4 + 1)), (3, .int 0), (0, .ref (ad 0)), (1, .int x1), (2, .int x2)]) hx hb dX6_lives_143 hl (k := 4) rfl (congrArg (fun q => x4 + q) (by decide : Int32.ofInt 1 = (1 : Int32))) (by decide) rfl (fun ls hl => ?_)
            refine lv_goto (tgt := 92) hx hb dX6_lives_146 (by decide) ?_
            exact ih z x1 x2 0 (x4 + 1) r z' hf H locs ls hS (lv_sub hl [2, 3, 4, 1, 0] rfl)
          · replace hf := it_f hc hf
            refine lv_iconst (v := 1) hx hb dX6_lives_137 (by decide) ?_
            refine lv_goto (tgt := 142) hx hb dX6_lives_138 (by decide) ?_
            refine lv_istore_n (lv' := [(3, .int 1), (0, .ref (ad 0)), (1, .int x1), (2, .int x2), (4, .int x4)]) hx hb dX6_lives_142 rfl hl (by decide) rfl (fun ls hl => ?_)
            refine lv_iinc (v := (x4 + 1)) (lv' := [(4, .int (x4 + 1)), (3, .int 1), (0, .ref (ad 0)), (1, .int x1), (2, .int x2)]) hx hb dX6_lives_143 hl (k := 4) rfl (congrArg (fun q => x4 + q) (by decide : Int32.ofInt 1 = (1 : Int32))) (by decide) rfl (fun ls hl => ?_)
            refine lv_goto (tgt := 92) hx hb dX6_lives_146 (by decide) ?_
            exact ih z x1 x2 1 (x4 + 1) r z' hf H locs ls hS (lv_sub hl [2, 3, 4, 1, 0] rfl)
set_option maxHeartbeats 4000000 in
set_option maxRecDepth 100000 in
theorem w_rm_lives_b88 {p : Program} {l : Launch} {e : Env} {s : State} {m : MethodId} {args : Array Value} {below : List Frame} {meth : Method} {c : Code} {D : va_G} {w0 : va_W} {ad : Nat → Nat} {cA : Nat → ClassId} (C : Cx p s m args meth c cX6_lives 5 (some .boolean) RX6 wsX6_lives D (tM cA)) (k : Nat) (z : SS) (x1 : Int32) (x2 : Int32) (y0 : Int32) (r : Int32) (z' : SS) (hf : rm_lives_b88 k z x1 x2 y0 = some (r, z')) : ∀ (H : Heap) (locs : List Loc) (ls : Array Slot), St D (va_A w0 s.heap.size) s.heap (wM ad cA z) H locs → lv_has ls 5 [(0, .ref (ad 0)), (1, .int x1), (2, .int x2)] → W p l e R_rm_lives s m args below meth c H locs 0 0 (MQ below (kI D (tM cA) r w0 (wM ad cA z') s.heap.size) args s 0 0 (va_A w0 s.heap.size)) (F0 m 88 ls [.int y0]) := by
  obtain ⟨hx, hb, hr, hml, hown, hts, hlk, hK⟩ := id C
  intro H locs ls hS hl
  have hf : rm_lives_b92 k k z x1 x2 y0 0 = some (r, z') := hf
  refine lv_istore_n (lv' := [(3, .int y0), (0, .ref (ad 0)), (1, .int x1), (2, .int x2)]) hx hb dX6_lives_88 rfl hl (by decide) rfl (fun ls hl => ?_)
  refine lv_iconst (v := 0) hx hb dX6_lives_89 (by decide) ?_
  refine lv_istore (lv' := [(4, .int 0), (3, .int y0), (0, .ref (ad 0)), (1, .int x1), (2, .int x2)]) hx hb dX6_lives_90 hl (by decide) rfl (fun ls hl => ?_)
  exact w_rm_lives_b92 C k k z x1 x2 y0 0 r z' hf H locs ls hS (lv_sub hl [2, 3, 4, 1, 0] rfl)
set_option maxHeartbeats 4000000 in
set_option maxRecDepth 100000 in
theorem w_rm_lives_b24 {p : Program} {l : Launch} {e : Env} {s : State} {m : MethodId} {args : Array Value} {below : List Frame} {meth : Method} {c : Code} {D : va_G} {w0 : va_W} {ad : Nat → Nat} {cA : Nat → ClassId} (C : Cx p s m args meth c cX6_lives 5 (some .boolean) RX6 wsX6_lives D (tM cA)) (k : Nat) : ∀ (fu : Nat) (z : SS) (x1 : Int32) (x2 : Int32) (x3 : Int32) (r : Int32) (z' : SS), rm_lives_b24 k fu z x1 x2 x3 = some (r, z') → ∀ (H : Heap) (locs : List Loc) (ls : Array Slot), St D (va_A w0 s.heap.size) s.heap (wM ad cA z) H locs → lv_has ls 5 [(0, .ref (ad 0)), (1, .int x1), (2, .int x2), (3, .int x3)] → W p l e R_rm_lives s m args below meth c H locs 0 0 (MQ below (kI D (tM cA) r w0 (wM ad cA z') s.heap.size) args s 0 0 (va_A w0 s.heap.size)) (F0 m 24 ls []) := by
  obtain ⟨hx, hb, hr, hml, hown, hts, hlk, hK⟩ := id C
  intro fu
  induction fu with
  | zero =>
    intro z x1 x2 x3 r z' hf
    cases (show (none : Option (Int32 × SS)) = some (r, z') from hf)
  | succ fu ih =>
    intro z x1 x2 x3 r z' hf H locs ls hS hl
    have hf : (if 4 ≤ x3 then (if ck x1 160 = true then (if ((z.2 10) (Int32.toNatClampNeg x1)) = 0 then rm_lives_b88 k z x1 x2 1 else rm_lives_b88 k z x1 x2 0) else none) else (if x2 = 0 then (if ck x3 4 = true then (if ((z.2 5) (Int32.toNatClampNeg x3)) = 0 then rm_lives_b24 k fu z x1 0 (x3 + 1) else (if ck x1 160 = true then (if ck x3 4 = true then (bi (rm_rowOf k z ((z.2 8) (Int32.toNatClampNeg x1)) ((z.2 6) (Int32.toNatClampNeg x3))) fun r_1 z_1 => (if r_1 = x1 then rm_lives_b24 k fu z_1 x1 1 (x3 + 1) else rm_lives_b24 k fu z_1 x1 0 (x3 + 1))) else none) else none)) else none) else rm_lives_b24 k fu z x1 1 (x3 + 1))) = some (r, z') := hf
    refine lv_iload_n hx hb dX6_lives_24 rfl (lv_at hl 3 rfl) ?_
    refine lv_iconst (v := 4) hx hb dX6_lives_25 (by decide) ?_
    refine lv_icmp_ge (x := x3) (y := 4) (tgt := 74) hx hb dX6_lives_26 (by decide) (fun hc => ?_) (fun hc => ?_)
    · replace hf := it_t hc hf
      refine lv_aload_n hx hb dX6_lives_74 rfl (lv_at hl 0 rfl) ?_
      refine hM_10 C hS in_X6_lives_X6 lk_X6_lives_45 dX6_lives_75 ?_
      refine lv_iload_n hx hb dX6_lives_78 rfl (lv_at hl 1 rfl) ?_
      obtain ⟨hck, hf⟩ := cs hf
      refine lM_10 C hS (f := (z.2 10)) rfl (i := x1) hck dX6_lives_79 ?_
      refine lv_if_ne (x := ((z.2 10) (Int32.toNatClampNeg x1))) (tgt := 87) hx hb dX6_lives_80 (by decide) (fun hc => ?_) (fun hc => ?_)
      · replace hf := it_f hc hf
        refine lv_iconst (v := 0) hx hb dX6_lives_87 (by decide) ?_
        exact w_rm_lives_b88 C k z x1 x2 0 r z' hf H locs ls hS (lv_sub hl [0, 1, 2] rfl)
      · replace hf := it_t hc hf
        refine lv_iconst (v := 1) hx hb dX6_lives_83 (by decide) ?_
        refine lv_goto (tgt := 88) hx hb dX6_lives_84 (by decide) ?_
        exact w_rm_lives_b88 C k z x1 x2 1 r z' hf H locs ls hS (lv_sub hl [0, 1, 2] rfl)
    · replace hf := it_f hc hf
      refine lv_iload_n hx hb dX6_lives_29 rfl (lv_at hl 2 rfl) ?_
      refine lv_if_ne (x := x2) (tgt := 62) hx hb dX6_lives_30 (by decide) (fun hc => ?_) (fun hc => ?_)
      · replace hf := it_f hc hf
        refine lv_iconst (v := 1) hx hb dX6_lives_62 (by decide) ?_
        refine lv_goto (tgt := 67) hx hb dX6_lives_63 (by decide) ?_
        refine lv_istore_n (lv' := [(2, .int 1), (0, .ref (ad 0)), (1, .int x1), (3, .int x3)]) hx hb dX6_lives_67 rfl hl (by decide) rfl (fun ls hl => ?_)
        refine lv_iinc (v := (x3 + 1)) (lv' := [(3, .int (x3 + 1)), (2, .int 1), (0, .ref (ad 0)), (1, .int x1)]) hx hb dX6_lives_68 hl (k := 3) rfl (congrArg (fun q => x3 + q) (by decide : Int32.ofInt 1 = (1 : Int32))) (by decide) rfl (fun ls hl => ?_)
        refine lv_goto (tgt := 24) hx hb dX6_lives_71 (by decide) ?_
        exact ih z x1 1 (x3 + 1) r z' hf H locs ls hS (lv_sub hl [2, 3, 1, 0] rfl)
      · replace hf := it_t hc hf
        refine lv_aload_n hx hb dX6_lives_33 rfl (lv_at hl 0 rfl) ?_
        refine hM_5 C hS in_X6_lives_X6 lk_X6_lives_26 dX6_lives_34 ?_
        refine lv_iload_n hx hb dX6_lives_37 rfl (lv_at hl 3 rfl) ?_
        obtain ⟨hck, hf⟩ := cs hf
        refine lM_5 C hS (f := (z.2 5)) rfl (i := x3) hck dX6_lives_38 ?_
        refine lv_if_eq (x := ((z.2 5) (Int32.toNatClampNeg x3))) (tgt := 66) hx hb dX6_lives_39 (by decide) (fun hc => ?_) (fun hc => ?_)
        · replace hf := it_t hc hf
          refine lv_iconst (v := 0) hx hb dX6_lives_66 (by decide) ?_
          refine lv_istore_n (lv' := [(2, .int 0), (0, .ref (ad 0)), (1, .int x1), (3, .int x3)]) hx hb dX6_lives_67 rfl hl (by decide) rfl (fun ls hl => ?_)
          refine lv_iinc (v := (x3 + 1)) (lv' := [(3, .int (x3 + 1)), (2, .int 0), (0, .ref (ad 0)), (1, .int x1)]) hx hb dX6_lives_68 hl (k := 3) rfl (congrArg (fun q => x3 + q) (by decide : Int32.ofInt 1 = (1 : Int32))) (by decide) rfl (fun ls hl => ?_)
          refine lv_goto (tgt := 24) hx hb dX6_lives_71 (by decide) ?_
          exact ih z x1 0 (x3 + 1) r z' hf H locs ls hS (lv_sub hl [2, 3, 1, 0] rfl)
        · replace hf := it_f hc hf
          refine lv_aload_n hx hb dX6_lives_42 rfl (lv_at hl 0 rfl) ?_
          refine lv_aload_n hx hb dX6_lives_43 rfl (lv_at hl 0 rfl) ?_
          refine hM_8 C hS in_X6_lives_X6 lk_X6_lives_39 dX6_lives_44 ?_
          refine lv_iload_n hx hb dX6_lives_47 rfl (lv_at hl 1 rfl) ?_
          obtain ⟨hck, hf⟩ := cs hf
          refine lM_8 C hS (f := (z.2 8)) rfl (i := x1) hck dX6_lives_48 ?_
          refine lv_aload_n hx hb dX6_lives_49 rfl (lv_at hl 0 rfl) ?_
          refine hM_6 C hS in_X6_lives_X6 lk_X6_lives_30 dX6_lives_50 ?_
          refine lv_iload_n hx hb dX6_lives_53 rfl (lv_at hl 3 rfl) ?_
          obtain ⟨hck, hf⟩ := cs hf
          refine lM_6 C hS (f := (z.2 6)) rfl (i := x3) hck dX6_lives_54 ?_
          obtain ⟨r_1, z_1, hcl, hf⟩ := bi_s hf
          refine rcVi (n := 2) (As := [.int ((z.2 8) (Int32.toNatClampNeg x1)), .int ((z.2 6) (Int32.toNatClampNeg x3))]) (rest := []) (q0 := 0) (w' := (wM ad cA z_1)) C hS (fun sz => c_rm_rowOf l D ad cA k z ((z.2 8) (Int32.toNatClampNeg x1)) ((z.2 6) (Int32.toNatClampNeg x3)) r_1 z_1 hcl sz) gX6_lives_X6_rowOf rfl ⟨rfl, rfl⟩ (by decide +kernel) ⟨Nat.le_of_ble_eq_true rfl, Nat.le_of_ble_eq_true rfl⟩ oM_0 rfl rfl hl.1 rfl (Nat.le_of_ble_eq_true rfl) dX6_lives_55 (fun H locs hS => ?_)
          refine lv_iload_n hx hb dX6_lives_58 rfl (lv_at hl 1 rfl) ?_
          refine lv_icmp_ne (x := r_1) (y := x1) (tgt := 66) hx hb dX6_lives_59 (by decide) (fun hc => ?_) (fun hc => ?_)
          · replace hf := it_f hc hf
            refine lv_iconst (v := 0) hx hb dX6_lives_66 (by decide) ?_
            refine lv_istore_n (lv' := [(2, .int 0), (0, .ref (ad 0)), (1, .int x1), (3, .int x3)]) hx hb dX6_lives_67 rfl hl (by decide) rfl (fun ls hl => ?_)
            refine lv_iinc (v := (x3 + 1)) (lv' := [(3, .int (x3 + 1)), (2, .int 0), (0, .ref (ad 0)), (1, .int x1)]) hx hb dX6_lives_68 hl (k := 3) rfl (congrArg (fun q => x3 + q) (by decide : Int32.ofInt 1 = (1 : Int32))) (by decide) rfl (fun ls hl => ?_)
            refine lv_goto (tgt := 24) hx hb dX6_lives_71 (by decide) ?_
            exact ih z_1 x1 0 (x3 + 1) r z' hf H locs ls hS (lv_sub hl [2, 3, 1, 0] rfl)
          · replace hf := it_t hc hf
            refine lv_iconst (v := 1) hx hb dX6_lives_62 (by decide) ?_
            refine lv_goto (tgt := 67) hx hb dX6_lives_63 (by decide) ?_
            refine lv_istore_n (lv' := [(2, .int 1), (0, .ref (ad 0)), (1, .int x1), (3, .int x3)]) hx hb dX6_lives_67 rfl hl (by decide) rfl (fun ls hl => ?_)
            refine lv_iinc (v := (x3 + 1)) (lv' := [(3, .int (x3 + 1)), (2, .int 1), (0, .ref (ad 0)), (1, .int x1)]) hx hb dX6_lives_68 hl (k := 3) rfl (congrArg (fun q => x3 + q) (by decide : Int32.ofInt 1 = (1 : Int32))) (by decide) rfl (fun ls hl => ?_)
            refine lv_goto (tgt := 24) hx hb dX6_lives_71 (by decide) ?_
            exact ih z_1 x1 1 (x3 + 1) r z' hf H locs ls hS (lv_sub hl [2, 3, 1, 0] rfl)
set_option maxHeartbeats 4000000 in
set_option maxRecDepth 100000 in
theorem w_rm_lives_b21 {p : Program} {l : Launch} {e : Env} {s : State} {m : MethodId} {args : Array Value} {below : List Frame} {meth : Method} {c : Code} {D : va_G} {w0 : va_W} {ad : Nat → Nat} {cA : Nat → ClassId} (C : Cx p s m args meth c cX6_lives 5 (some .boolean) RX6 wsX6_lives D (tM cA)) (k : Nat) (z : SS) (x1 : Int32) (y0 : Int32) (r : Int32) (z' : SS) (hf : rm_lives_b21 k z x1 y0 = some (r, z')) : ∀ (H : Heap) (locs : List Loc) (ls : Array Slot), St D (va_A w0 s.heap.size) s.heap (wM ad cA z) H locs → lv_has ls 5 [(0, .ref (ad 0)), (1, .int x1)] → W p l e R_rm_lives s m args below meth c H locs 0 0 (MQ below (kI D (tM cA) r w0 (wM ad cA z') s.heap.size) args s 0 0 (va_A w0 s.heap.size)) (F0 m 21 ls [.int y0]) := by
  obtain ⟨hx, hb, hr, hml, hown, hts, hlk, hK⟩ := id C
  intro H locs ls hS hl
  have hf : rm_lives_b24 k k z x1 y0 0 = some (r, z') := hf
  refine lv_istore_n (lv' := [(2, .int y0), (0, .ref (ad 0)), (1, .int x1)]) hx hb dX6_lives_21 rfl hl (by decide) rfl (fun ls hl => ?_)
  refine lv_iconst (v := 0) hx hb dX6_lives_22 (by decide) ?_
  refine lv_istore_n (lv' := [(3, .int 0), (2, .int y0), (0, .ref (ad 0)), (1, .int x1)]) hx hb dX6_lives_23 rfl hl (by decide) rfl (fun ls hl => ?_)
  exact w_rm_lives_b24 C k k z x1 y0 0 r z' hf H locs ls hS (lv_sub hl [2, 3, 1, 0] rfl)
set_option maxHeartbeats 4000000 in
set_option maxRecDepth 100000 in
theorem w_rm_lives_0 {p : Program} {l : Launch} {e : Env} {s : State} {m : MethodId} {args : Array Value} {below : List Frame} {meth : Method} {c : Code} {D : va_G} {w0 : va_W} {ad : Nat → Nat} {cA : Nat → ClassId} (C : Cx p s m args meth c cX6_lives 5 (some .boolean) RX6 wsX6_lives D (tM cA)) (k : Nat) (z : SS) (x1 : Int32) (r : Int32) (z' : SS) (hf : rm_lives k z x1 = some (r, z')) : ∀ (H : Heap) (locs : List Loc) (ls : Array Slot), St D (va_A w0 s.heap.size) s.heap (wM ad cA z) H locs → lv_has ls 5 [(0, .ref (ad 0)), (1, .int x1)] → W p l e R_rm_lives s m args below meth c H locs 0 0 (MQ below (kI D (tM cA) r w0 (wM ad cA z') s.heap.size) args s 0 0 (va_A w0 s.heap.size)) (F0 m 0 ls []) := by
  obtain ⟨hx, hb, hr, hml, hown, hts, hlk, hK⟩ := id C
  intro H locs ls hS hl
  have hf : (if ck x1 160 = true then (bi (rm_rowOf k z ((z.2 8) (Int32.toNatClampNeg x1)) 2147483647) fun r_1 z_1 => (if r_1 = x1 then rm_lives_b21 k z_1 x1 1 else rm_lives_b21 k z_1 x1 0)) else none) = some (r, z') := hf
  refine lv_aload_n hx hb dX6_lives_0 rfl (lv_at hl 0 rfl) ?_
  refine lv_aload_n hx hb dX6_lives_1 rfl (lv_at hl 0 rfl) ?_
  refine hM_8 C hS in_X6_lives_X6 lk_X6_lives_39 dX6_lives_2 ?_
  refine lv_iload_n hx hb dX6_lives_5 rfl (lv_at hl 1 rfl) ?_
  obtain ⟨hck, hf⟩ := cs hf
  refine lM_8 C hS (f := (z.2 8)) rfl (i := x1) hck dX6_lives_6 ?_
  refine lv_ldc (v := 2147483647) hx hb hown (hts _ lc_X6_lives_111) dX6_lives_7 ?_
  obtain ⟨r_1, z_1, hcl, hf⟩ := bi_s hf
  refine rcVi (n := 2) (As := [.int ((z.2 8) (Int32.toNatClampNeg x1)), .int 2147483647]) (rest := []) (q0 := 0) (w' := (wM ad cA z_1)) C hS (fun sz => c_rm_rowOf l D ad cA k z ((z.2 8) (Int32.toNatClampNeg x1)) 2147483647 r_1 z_1 hcl sz) gX6_lives_X6_rowOf rfl ⟨rfl, rfl⟩ (by decide +kernel) ⟨Nat.le_of_ble_eq_true rfl, Nat.le_of_ble_eq_true rfl⟩ oM_0 rfl rfl hl.1 rfl (Nat.le_of_ble_eq_true rfl) dX6_lives_9 (fun H locs hS => ?_)
  refine lv_iload_n hx hb dX6_lives_12 rfl (lv_at hl 1 rfl) ?_
  refine lv_icmp_ne (x := r_1) (y := x1) (tgt := 20) hx hb dX6_lives_13 (by decide) (fun hc => ?_) (fun hc => ?_)
  · replace hf := it_f hc hf
    refine lv_iconst (v := 0) hx hb dX6_lives_20 (by decide) ?_
    exact w_rm_lives_b21 C k z_1 x1 0 r z' hf H locs ls hS (lv_sub hl [0, 1] rfl)
  · replace hf := it_t hc hf
    refine lv_iconst (v := 1) hx hb dX6_lives_16 (by decide) ?_
    refine lv_goto (tgt := 21) hx hb dX6_lives_17 (by decide) ?_
    exact w_rm_lives_b21 C k z_1 x1 1 r z' hf H locs ls hS (lv_sub hl [0, 1] rfl)
set_option maxHeartbeats 4000000 in
set_option maxRecDepth 100000 in
theorem c_rm_lives (l : Launch) (D : va_G) (ad : Nat → Nat) (cA : Nat → ClassId) (k : Nat) (z : SS) (x1 : Int32) (r : Int32) (z' : SS) (hf : rm_lives k z x1 = some (r, z')) (sz : Nat) : Met l yX6_lives wsX6_lives R_rm_lives (kP D (tM cA) [.ref (ad 0), .int x1] (wM ad cA z) sz) (kI D (tM cA) r (wM ad cA z) (wM ad cA z') sz) 0 0 (va_A (wM ad cA z) sz) := by
  refine ent (by decide) rfl rfl (Nat.le_of_ble_eq_true rfl) (fun p e s m args below meth c hsz C hS ls hl => ?_)
  subst hsz
  exact w_rm_lives_0 C k z x1 r z' hf s.heap [] ls hS hl
-- rm_isFree: private boolean isFree(int);
theorem lk_X6_isFree_7 : Cond.fieldLink RX6 7 (TX6 2).1 (TX6 2).2.1 (TX6 2).2.2.1 ∈ wsX6_isFree := by decide +kernel
theorem in_X6_isFree_X6 : ∀ x ∈ u_ws RX6 TX6 29, x ∈ wsX6_isFree := by decide +kernel
def R_rm_isFree : Room := { frames := 0, cells := 0, slots := 0, locals := 0 }
def rm_isFree (k : Nat) (z : SS) (x1 : Int32) : Option Int32 :=
  (if ck (200 * x1) 2400 = true then (if ((z.2 1) (Int32.toNatClampNeg (200 * x1))) = 0 then some 1 else some 0) else none)
set_option maxHeartbeats 4000000 in
set_option maxRecDepth 100000 in
theorem w_rm_isFree_0 {p : Program} {l : Launch} {e : Env} {s : State} {m : MethodId} {args : Array Value} {below : List Frame} {meth : Method} {c : Code} {D : va_G} {w0 : va_W} {ad : Nat → Nat} {cA : Nat → ClassId} (C : Cx p s m args meth c cX6_isFree 2 (some .boolean) RX6 wsX6_isFree D (tM cA)) (k : Nat) (z : SS) (x1 : Int32) (r : Int32) (hf : rm_isFree k z x1 = some r) : ∀ (H : Heap) (locs : List Loc) (ls : Array Slot), St D (va_A w0 s.heap.size) s.heap (wM ad cA z) H locs → lv_has ls 2 [(0, .ref (ad 0)), (1, .int x1)] → W p l e R_rm_isFree s m args below meth c H locs 0 0 (MQ below (kI D (tM cA) r w0 (wM ad cA z) s.heap.size) args s 0 0 (va_A w0 s.heap.size)) (F0 m 0 ls []) := by
  obtain ⟨hx, hb, hr, hml, hown, hts, hlk, hK⟩ := id C
  intro H locs ls hS hl
  have hf : (if ck (200 * x1) 2400 = true then (if ((z.2 1) (Int32.toNatClampNeg (200 * x1))) = 0 then some 1 else some 0) else none) = some r := hf
  refine lv_aload_n hx hb dX6_isFree_0 rfl (lv_at hl 0 rfl) ?_
  refine hM_1 C hS in_X6_isFree_X6 lk_X6_isFree_7 dX6_isFree_1 ?_
  refine lv_sipush (v := 200) hx hb dX6_isFree_4 (by decide) ?_
  refine lv_iload_n hx hb dX6_isFree_7 rfl (lv_at hl 1 rfl) ?_
  refine lv_imul (x := 200) (y := x1) hx hb dX6_isFree_8 ?_
  obtain ⟨hck, hf⟩ := cs hf
  refine lM_1 C hS (f := (z.2 1)) rfl (i := (200 * x1)) hck dX6_isFree_9 ?_
  refine lv_if_ne (x := ((z.2 1) (Int32.toNatClampNeg (200 * x1)))) (tgt := 17) hx hb dX6_isFree_10 (by decide) (fun hc => ?_) (fun hc => ?_)
  · replace hf := it_f hc hf
    refine lv_iconst (v := 0) hx hb dX6_isFree_17 (by decide) ?_
    cases hf
    exact rtz C hS (by decide) dX6_isFree_18
  · replace hf := it_t hc hf
    refine lv_iconst (v := 1) hx hb dX6_isFree_13 (by decide) ?_
    refine lv_goto (tgt := 18) hx hb dX6_isFree_14 (by decide) ?_
    cases hf
    exact rtz C hS (by decide) dX6_isFree_18
set_option maxHeartbeats 4000000 in
set_option maxRecDepth 100000 in
theorem c_rm_isFree (l : Launch) (D : va_G) (ad : Nat → Nat) (cA : Nat → ClassId) (k : Nat) (z : SS) (x1 : Int32) (r : Int32) (hf : rm_isFree k z x1 = some r) (sz : Nat) : Met l yX6_isFree wsX6_isFree R_rm_isFree (kP D (tM cA) [.ref (ad 0), .int x1] (wM ad cA z) sz) (kI D (tM cA) r (wM ad cA z) (wM ad cA z) sz) 0 0 (va_A (wM ad cA z) sz) := by
  refine ent (by decide) rfl rfl (Nat.le_of_ble_eq_true rfl) (fun p e s m args below meth c hsz C hS ls hl => ?_)
  subst hsz
  exact w_rm_isFree_0 C k z x1 r hf s.heap [] ls hS hl
-- rm_leastFree: private int leastFree();
theorem lk_X6_leastFree_64 : Cond.fieldLink RX6 64 (TX6 0).1 (TX6 0).2.1 (TX6 0).2.2.1 ∈ wsX6_leastFree := by decide +kernel
theorem in_X6_leastFree_X6 : ∀ x ∈ u_ws RX6 TX6 29, x ∈ wsX6_leastFree := by decide +kernel
def R_rm_leastFree : Room := { frames := 1, cells := 0, slots := 0, locals := 21 }
def rm_leastFree_b2 (k : Nat) (z : SS) : Nat → Int32 → Option Int32
  | 0, _ => none
  | fu + 1, x1 => (if (z.1 0) ≤ x1 then some (-1) else (bo (rm_isFree k z x1) fun r_1 => (if r_1 = 0 then rm_leastFree_b2 k z fu (x1 + 1) else some x1)))
def rm_leastFree (k : Nat) (z : SS) : Option Int32 :=
  rm_leastFree_b2 k z k 0
set_option maxHeartbeats 4000000 in
set_option maxRecDepth 100000 in
theorem w_rm_leastFree_b2 {p : Program} {l : Launch} {e : Env} {s : State} {m : MethodId} {args : Array Value} {below : List Frame} {meth : Method} {c : Code} {D : va_G} {w0 : va_W} {ad : Nat → Nat} {cA : Nat → ClassId} (C : Cx p s m args meth c cX6_leastFree 2 (some .int) RX6 wsX6_leastFree D (tM cA)) (k : Nat) (z : SS) : ∀ (fu : Nat) (x1 : Int32) (r : Int32), rm_leastFree_b2 k z fu x1 = some r → ∀ (H : Heap) (locs : List Loc) (ls : Array Slot), St D (va_A w0 s.heap.size) s.heap (wM ad cA z) H locs → lv_has ls 2 [(0, .ref (ad 0)), (1, .int x1)] → W p l e R_rm_leastFree s m args below meth c H locs 0 0 (MQ below (kI D (tM cA) r w0 (wM ad cA z) s.heap.size) args s 0 0 (va_A w0 s.heap.size)) (F0 m 2 ls []) := by
  obtain ⟨hx, hb, hr, hml, hown, hts, hlk, hK⟩ := id C
  intro fu
  induction fu with
  | zero =>
    intro x1 r hf
    cases (show (none : Option Int32) = some r from hf)
  | succ fu ih =>
    intro x1 r hf H locs ls hS hl
    have hf : (if (z.1 0) ≤ x1 then some (-1) else (bo (rm_isFree k z x1) fun r_1 => (if r_1 = 0 then rm_leastFree_b2 k z fu (x1 + 1) else some x1))) = some r := hf
    refine lv_iload_n hx hb dX6_leastFree_2 rfl (lv_at hl 1 rfl) ?_
    refine lv_aload_n hx hb dX6_leastFree_3 rfl (lv_at hl 0 rfl) ?_
    refine gM_0 C hS in_X6_leastFree_X6 lk_X6_leastFree_64 (v := (z.1 0)) rfl dX6_leastFree_4 ?_
    refine lv_icmp_ge (x := x1) (y := (z.1 0)) (tgt := 26) hx hb dX6_leastFree_7 (by decide) (fun hc => ?_) (fun hc => ?_)
    · replace hf := it_t hc hf
      refine lv_iconst (v := (-1)) hx hb dX6_leastFree_26 (by decide) ?_
      cases hf
      exact rti C hS dX6_leastFree_27
    · replace hf := it_f hc hf
      refine lv_aload_n hx hb dX6_leastFree_10 rfl (lv_at hl 0 rfl) ?_
      refine lv_iload_n hx hb dX6_leastFree_11 rfl (lv_at hl 1 rfl) ?_
      obtain ⟨r_1, hcl, hf⟩ := bo_s hf
      refine rcVi (n := 1) (As := [.int x1]) (rest := []) (q0 := 0) (w' := (wM ad cA z)) C hS (fun sz => c_rm_isFree l D ad cA k z x1 r_1 hcl sz) gX6_leastFree_X6_isFree rfl ⟨rfl, rfl⟩ (by decide +kernel) ⟨Nat.le_of_ble_eq_true rfl, Nat.le_of_ble_eq_true rfl⟩ oM_0 rfl rfl hl.1 rfl (Nat.le_of_ble_eq_true rfl) dX6_leastFree_12 (fun H locs hS => ?_)
      refine lv_if_eq (x := r_1) (tgt := 20) hx hb dX6_leastFree_15 (by decide) (fun hc => ?_) (fun hc => ?_)
      · replace hf := it_t hc hf
        refine lv_iinc (v := (x1 + 1)) (lv' := [(1, .int (x1 + 1)), (0, .ref (ad 0))]) hx hb dX6_leastFree_20 hl (k := 1) rfl (congrArg (fun q => x1 + q) (by decide : Int32.ofInt 1 = (1 : Int32))) (by decide) rfl (fun ls hl => ?_)
        refine lv_goto (tgt := 2) hx hb dX6_leastFree_23 (by decide) ?_
        exact ih (x1 + 1) r hf H locs ls hS (lv_sub hl [1, 0] rfl)
      · replace hf := it_f hc hf
        refine lv_iload_n hx hb dX6_leastFree_18 rfl (lv_at hl 1 rfl) ?_
        cases hf
        exact rti C hS dX6_leastFree_19
set_option maxHeartbeats 4000000 in
set_option maxRecDepth 100000 in
theorem w_rm_leastFree_0 {p : Program} {l : Launch} {e : Env} {s : State} {m : MethodId} {args : Array Value} {below : List Frame} {meth : Method} {c : Code} {D : va_G} {w0 : va_W} {ad : Nat → Nat} {cA : Nat → ClassId} (C : Cx p s m args meth c cX6_leastFree 2 (some .int) RX6 wsX6_leastFree D (tM cA)) (k : Nat) (z : SS) (r : Int32) (hf : rm_leastFree k z = some r) : ∀ (H : Heap) (locs : List Loc) (ls : Array Slot), St D (va_A w0 s.heap.size) s.heap (wM ad cA z) H locs → lv_has ls 2 [(0, .ref (ad 0))] → W p l e R_rm_leastFree s m args below meth c H locs 0 0 (MQ below (kI D (tM cA) r w0 (wM ad cA z) s.heap.size) args s 0 0 (va_A w0 s.heap.size)) (F0 m 0 ls []) := by
  obtain ⟨hx, hb, hr, hml, hown, hts, hlk, hK⟩ := id C
  intro H locs ls hS hl
  have hf : rm_leastFree_b2 k z k 0 = some r := hf
  refine lv_iconst (v := 0) hx hb dX6_leastFree_0 (by decide) ?_
  refine lv_istore_n (lv' := [(1, .int 0), (0, .ref (ad 0))]) hx hb dX6_leastFree_1 rfl hl (by decide) rfl (fun ls hl => ?_)
  exact w_rm_leastFree_b2 C k z k 0 r hf H locs ls hS (lv_sub hl [1, 0] rfl)
set_option maxHeartbeats 4000000 in
set_option maxRecDepth 100000 in
theorem c_rm_leastFree (l : Launch) (D : va_G) (ad : Nat → Nat) (cA : Nat → ClassId) (k : Nat) (z : SS) (r : Int32) (hf : rm_leastFree k z = some r) (sz : Nat) : Met l yX6_leastFree wsX6_leastFree R_rm_leastFree (kP D (tM cA) [.ref (ad 0)] (wM ad cA z) sz) (kI D (tM cA) r (wM ad cA z) (wM ad cA z) sz) 0 0 (va_A (wM ad cA z) sz) := by
  refine ent (by decide) rfl rfl (Nat.le_of_ble_eq_true rfl) (fun p e s m args below meth c hsz C hS ls hl => ?_)
  subst hsz
  exact w_rm_leastFree_0 C k z r hf s.heap [] ls hS hl
-- rm_makeRoom: private boolean makeRoom(int);
theorem lk_X6_makeRoom_16 : Cond.fieldLink RX6 16 (TX6 4).1 (TX6 4).2.1 (TX6 4).2.2.1 ∈ wsX6_makeRoom := by decide +kernel
theorem in_X6_makeRoom_X6 : ∀ x ∈ u_ws RX6 TX6 29, x ∈ wsX6_makeRoom := by decide +kernel
theorem lk_X6_makeRoom_13 : Cond.fieldLink RX6 13 (TX6 3).1 (TX6 3).2.1 (TX6 3).2.2.1 ∈ wsX6_makeRoom := by decide +kernel
def R_rm_makeRoom : Room := { frames := 2, cells := 0, slots := 0, locals := 42 }
def rm_makeRoom_b26 (k : Nat) (z : SS) : Option (Int32 × SS) :=
  (bo (rm_leastFree k z) fun r_1 => (if 0 ≤ r_1 then (if ck r_1 12 = true then some (1, (sa (si z 4 r_1) 2 (Int32.toNatClampNeg r_1) 0)) else none) else some (0, z)))
def rm_makeRoom (k : Nat) (z : SS) (x1 : Int32) : Option (Int32 × SS) :=
  (if (z.1 4) < 0 then rm_makeRoom_b26 k z else (if ck (z.1 4) 12 = true then (if 200 < (((z.2 2) (Int32.toNatClampNeg (z.1 4))) + x1) then rm_makeRoom_b26 k z else some (1, z)) else none))
set_option maxHeartbeats 4000000 in
set_option maxRecDepth 100000 in
theorem w_rm_makeRoom_b26 {p : Program} {l : Launch} {e : Env} {s : State} {m : MethodId} {args : Array Value} {below : List Frame} {meth : Method} {c : Code} {D : va_G} {w0 : va_W} {ad : Nat → Nat} {cA : Nat → ClassId} (C : Cx p s m args meth c cX6_makeRoom 3 (some .boolean) RX6 wsX6_makeRoom D (tM cA)) (k : Nat) (z : SS) (r : Int32) (z' : SS) (hf : rm_makeRoom_b26 k z = some (r, z')) : ∀ (H : Heap) (locs : List Loc) (ls : Array Slot), St D (va_A w0 s.heap.size) s.heap (wM ad cA z) H locs → lv_has ls 3 [(0, .ref (ad 0))] → W p l e R_rm_makeRoom s m args below meth c H locs 0 0 (MQ below (kI D (tM cA) r w0 (wM ad cA z') s.heap.size) args s 0 0 (va_A w0 s.heap.size)) (F0 m 26 ls []) := by
  obtain ⟨hx, hb, hr, hml, hown, hts, hlk, hK⟩ := id C
  intro H locs ls hS hl
  have hf : (bo (rm_leastFree k z) fun r_1 => (if 0 ≤ r_1 then (if ck r_1 12 = true then some (1, (sa (si z 4 r_1) 2 (Int32.toNatClampNeg r_1) 0)) else none) else some (0, z))) = some (r, z') := hf
  refine lv_aload_n hx hb dX6_makeRoom_26 rfl (lv_at hl 0 rfl) ?_
  obtain ⟨r_1, hcl, hf⟩ := bo_s hf
  refine rcVi (n := 0) (As := []) (rest := []) (q0 := 0) (w' := (wM ad cA z)) C hS (fun sz => c_rm_leastFree l D ad cA k z r_1 hcl sz) gX6_makeRoom_X6_leastFree rfl ⟨rfl, rfl⟩ (by decide +kernel) ⟨Nat.le_of_ble_eq_true rfl, Nat.le_of_ble_eq_true rfl⟩ oM_0 rfl rfl hl.1 rfl (Nat.le_of_ble_eq_true rfl) dX6_makeRoom_27 (fun H locs hS => ?_)
  refine lv_istore_n (lv' := [(2, .int r_1), (0, .ref (ad 0))]) hx hb dX6_makeRoom_30 rfl hl (by decide) rfl (fun ls hl => ?_)
  refine lv_iload_n hx hb dX6_makeRoom_31 rfl (lv_at hl 0 rfl) ?_
  refine lv_if_ge (x := r_1) (tgt := 37) hx hb dX6_makeRoom_32 (by decide) (fun hc => ?_) (fun hc => ?_)
  · replace hf := it_t hc hf
    refine lv_aload_n hx hb dX6_makeRoom_37 rfl (lv_at hl 1 rfl) ?_
    refine lv_iload_n hx hb dX6_makeRoom_38 rfl (lv_at hl 0 rfl) ?_
    refine pM_4 C hS in_X6_makeRoom_X6 lk_X6_makeRoom_16 (v := r_1) rfl rfl dX6_makeRoom_39 (fun H locs hS => ?_)
    refine lv_aload_n hx hb dX6_makeRoom_42 rfl (lv_at hl 1 rfl) ?_
    refine hM_2 C hS in_X6_makeRoom_X6 lk_X6_makeRoom_13 dX6_makeRoom_43 ?_
    refine lv_iload_n hx hb dX6_makeRoom_46 rfl (lv_at hl 0 rfl) ?_
    refine lv_iconst (v := 0) hx hb dX6_makeRoom_47 (by decide) ?_
    obtain ⟨hck, hf⟩ := cs hf
    refine sM_2 C hS (i := r_1) (x := 0) hck dX6_makeRoom_48 (fun H locs hS => ?_)
    refine lv_iconst (v := 1) hx hb dX6_makeRoom_49 (by decide) ?_
    cases hf
    exact rtz C hS (by decide) dX6_makeRoom_50
  · replace hf := it_f hc hf
    refine lv_iconst (v := 0) hx hb dX6_makeRoom_35 (by decide) ?_
    cases hf
    exact rtz C hS (by decide) dX6_makeRoom_36
set_option maxHeartbeats 4000000 in
set_option maxRecDepth 100000 in
theorem w_rm_makeRoom_0 {p : Program} {l : Launch} {e : Env} {s : State} {m : MethodId} {args : Array Value} {below : List Frame} {meth : Method} {c : Code} {D : va_G} {w0 : va_W} {ad : Nat → Nat} {cA : Nat → ClassId} (C : Cx p s m args meth c cX6_makeRoom 3 (some .boolean) RX6 wsX6_makeRoom D (tM cA)) (k : Nat) (z : SS) (x1 : Int32) (r : Int32) (z' : SS) (hf : rm_makeRoom k z x1 = some (r, z')) : ∀ (H : Heap) (locs : List Loc) (ls : Array Slot), St D (va_A w0 s.heap.size) s.heap (wM ad cA z) H locs → lv_has ls 3 [(0, .ref (ad 0)), (1, .int x1)] → W p l e R_rm_makeRoom s m args below meth c H locs 0 0 (MQ below (kI D (tM cA) r w0 (wM ad cA z') s.heap.size) args s 0 0 (va_A w0 s.heap.size)) (F0 m 0 ls []) := by
  obtain ⟨hx, hb, hr, hml, hown, hts, hlk, hK⟩ := id C
  intro H locs ls hS hl
  have hf : (if (z.1 4) < 0 then rm_makeRoom_b26 k z else (if ck (z.1 4) 12 = true then (if 200 < (((z.2 2) (Int32.toNatClampNeg (z.1 4))) + x1) then rm_makeRoom_b26 k z else some (1, z)) else none)) = some (r, z') := hf
  refine lv_aload_n hx hb dX6_makeRoom_0 rfl (lv_at hl 0 rfl) ?_
  refine gM_4 C hS in_X6_makeRoom_X6 lk_X6_makeRoom_16 (v := (z.1 4)) rfl dX6_makeRoom_1 ?_
  refine lv_if_lt (x := (z.1 4)) (tgt := 26) hx hb dX6_makeRoom_4 (by decide) (fun hc => ?_) (fun hc => ?_)
  · replace hf := it_t hc hf
    exact w_rm_makeRoom_b26 C k z r z' hf H locs ls hS (lv_sub hl [0] rfl)
  · replace hf := it_f hc hf
    refine lv_aload_n hx hb dX6_makeRoom_7 rfl (lv_at hl 0 rfl) ?_
    refine hM_2 C hS in_X6_makeRoom_X6 lk_X6_makeRoom_13 dX6_makeRoom_8 ?_
    refine lv_aload_n hx hb dX6_makeRoom_11 rfl (lv_at hl 0 rfl) ?_
    refine gM_4 C hS in_X6_makeRoom_X6 lk_X6_makeRoom_16 (v := (z.1 4)) rfl dX6_makeRoom_12 ?_
    obtain ⟨hck, hf⟩ := cs hf
    refine lM_2 C hS (f := (z.2 2)) rfl (i := (z.1 4)) hck dX6_makeRoom_15 ?_
    refine lv_iload_n hx hb dX6_makeRoom_16 rfl (lv_at hl 1 rfl) ?_
    refine lv_iadd (x := ((z.2 2) (Int32.toNatClampNeg (z.1 4)))) (y := x1) hx hb dX6_makeRoom_17 ?_
    refine lv_sipush (v := 200) hx hb dX6_makeRoom_18 (by decide) ?_
    refine lv_icmp_gt (x := (((z.2 2) (Int32.toNatClampNeg (z.1 4))) + x1)) (y := 200) (tgt := 26) hx hb dX6_makeRoom_21 (by decide) (fun hc => ?_) (fun hc => ?_)
    · replace hf := it_t hc hf
      exact w_rm_makeRoom_b26 C k z r z' hf H locs ls hS (lv_sub hl [0] rfl)
    · replace hf := it_f hc hf
      refine lv_iconst (v := 1) hx hb dX6_makeRoom_24 (by decide) ?_
      cases hf
      exact rtz C hS (by decide) dX6_makeRoom_25
set_option maxHeartbeats 4000000 in
set_option maxRecDepth 100000 in
theorem c_rm_makeRoom (l : Launch) (D : va_G) (ad : Nat → Nat) (cA : Nat → ClassId) (k : Nat) (z : SS) (x1 : Int32) (r : Int32) (z' : SS) (hf : rm_makeRoom k z x1 = some (r, z')) (sz : Nat) : Met l yX6_makeRoom wsX6_makeRoom R_rm_makeRoom (kP D (tM cA) [.ref (ad 0), .int x1] (wM ad cA z) sz) (kI D (tM cA) r (wM ad cA z) (wM ad cA z') sz) 0 0 (va_A (wM ad cA z) sz) := by
  refine ent (by decide) rfl rfl (Nat.le_of_ble_eq_true rfl) (fun p e s m args below meth c hsz C hS ls hl => ?_)
  subst hsz
  exact w_rm_makeRoom_0 C k z x1 r z' hf s.heap [] ls hS hl
-- rm_writeRow: private void writeRow(int);
theorem lk_X6_writeRow_126 : Cond.fieldLink RX6 126 (TX6 22).1 (TX6 22).2.1 (TX6 22).2.2.1 ∈ wsX6_writeRow := by decide +kernel
theorem in_X6_writeRow_X6 : ∀ x ∈ u_ws RX6 TX6 29, x ∈ wsX6_writeRow := by decide +kernel
theorem lk_X6_writeRow_13 : Cond.fieldLink RX6 13 (TX6 3).1 (TX6 3).2.1 (TX6 3).2.2.1 ∈ wsX6_writeRow := by decide +kernel
theorem lk_X6_writeRow_16 : Cond.fieldLink RX6 16 (TX6 4).1 (TX6 4).2.1 (TX6 4).2.2.1 ∈ wsX6_writeRow := by decide +kernel
theorem lk_X6_writeRow_7 : Cond.fieldLink RX6 7 (TX6 2).1 (TX6 2).2.1 (TX6 2).2.2.1 ∈ wsX6_writeRow := by decide +kernel
theorem lk_X6_writeRow_51 : Cond.fieldLink RX6 51 (TX6 21).1 (TX6 21).2.1 (TX6 21).2.2.1 ∈ wsX6_writeRow := by decide +kernel
theorem lk_X6_writeRow_23 : Cond.fieldLink RX6 23 (TX6 9).1 (TX6 9).2.1 (TX6 9).2.2.1 ∈ wsX6_writeRow := by decide +kernel
theorem lk_X6_writeRow_129 : Cond.fieldLink RX6 129 (TX6 8).1 (TX6 8).2.1 (TX6 8).2.2.1 ∈ wsX6_writeRow := by decide +kernel
theorem lk_X6_writeRow_120 : Cond.fieldLink RX6 120 (TX6 24).1 (TX6 24).2.1 (TX6 24).2.2.1 ∈ wsX6_writeRow := by decide +kernel
theorem lk_X6_writeRow_123 : Cond.fieldLink RX6 123 (TX6 23).1 (TX6 23).2.1 (TX6 23).2.2.1 ∈ wsX6_writeRow := by decide +kernel
def R_rm_writeRow : Room := { frames := 0, cells := 0, slots := 0, locals := 0 }
def rm_writeRow_b57 (k : Nat) (rc21 : SS → Int32 → Int32 → Int32 → Option SS) (z : SS) (x1 : Int32) (x2 : Int32) (x3 : Int32) : Option SS :=
  (if ck (z.1 4) 12 = true then (if ck (z.1 4) 12 = true then (if ck x3 36 = true then (if ck (x2 + x3) 2400 = true then (if ck (z.1 8) 2400 = true then rc21 (si (sa (sa (sa (si z 22 ((z.1 22) + 1)) 2 (Int32.toNatClampNeg (z.1 4)) (((z.2 2) (Int32.toNatClampNeg (z.1 4))) + 1)) 1 (Int32.toNatClampNeg (x2 + x3)) ((z.2 12) (Int32.toNatClampNeg x3))) 4 (Int32.toNatClampNeg (z.1 8)) (x2 + x3)) 8 ((z.1 8) + 1)) x1 x2 (x3 + 1) else none) else none) else none) else none) else none)
def rm_writeRow_b51 (k : Nat) (z : SS) : Option SS :=
  some (si z 24 1)
def rm_writeRow_b21 (k : Nat) : Nat → SS → Int32 → Int32 → Int32 → Option SS
  | 0, _, _, _, _ => none
  | fu + 1, z, x1, x2, x3 => (if x1 ≤ x3 then some z else (if (z.1 24) = 0 then (if (z.1 23) < 0 then rm_writeRow_b57 k (rm_writeRow_b21 k fu) z x1 x2 x3 else (if (z.1 22) = (z.1 23) then rm_writeRow_b51 k z else rm_writeRow_b57 k (rm_writeRow_b21 k fu) z x1 x2 x3)) else rm_writeRow_b51 k z))
def rm_writeRow (k : Nat) (z : SS) (x1 : Int32) : Option SS :=
  (if ck (z.1 4) 12 = true then rm_writeRow_b21 k k z x1 ((200 * (z.1 4)) + ((z.2 2) (Int32.toNatClampNeg (z.1 4)))) 0 else none)
set_option maxHeartbeats 4000000 in
set_option maxRecDepth 100000 in
theorem w_rm_writeRow_b57 {p : Program} {l : Launch} {e : Env} {s : State} {m : MethodId} {args : Array Value} {below : List Frame} {meth : Method} {c : Code} {D : va_G} {w0 : va_W} {ad : Nat → Nat} {cA : Nat → ClassId} (C : Cx p s m args meth c cX6_writeRow 4 none RX6 wsX6_writeRow D (tM cA)) (k : Nat) {rc21 : SS → Int32 → Int32 → Int32 → Option SS} (hrc21 : ∀ (z : SS) (x1 : Int32) (x2 : Int32) (x3 : Int32) (z' : SS), rc21 z x1 x2 x3 = some z' → ∀ (H : Heap) (locs : List Loc) (ls : Array Slot), St D (va_A w0 s.heap.size) s.heap (wM ad cA z) H locs → lv_has ls 4 [(0, .ref (ad 0)), (1, .int x1), (2, .int x2), (3, .int x3)] → W p l e R_rm_writeRow s m args below meth c H locs 0 0 (MQ below (kV D (tM cA) w0 (wM ad cA z') s.heap.size) args s 0 0 (va_A w0 s.heap.size)) (F0 m 21 ls [])) (z : SS) (x1 : Int32) (x2 : Int32) (x3 : Int32) (z' : SS) (hf : rm_writeRow_b57 k rc21 z x1 x2 x3 = some z') : ∀ (H : Heap) (locs : List Loc) (ls : Array Slot), St D (va_A w0 s.heap.size) s.heap (wM ad cA z) H locs → lv_has ls 4 [(0, .ref (ad 0)), (1, .int x1), (2, .int x2), (3, .int x3)] → W p l e R_rm_writeRow s m args below meth c H locs 0 0 (MQ below (kV D (tM cA) w0 (wM ad cA z') s.heap.size) args s 0 0 (va_A w0 s.heap.size)) (F0 m 57 ls []) := by
  obtain ⟨hx, hb, hr, hml, hown, hts, hlk, hK⟩ := id C
  intro H locs ls hS hl
  have hf : (if ck (z.1 4) 12 = true then (if ck (z.1 4) 12 = true then (if ck x3 36 = true then (if ck (x2 + x3) 2400 = true then (if ck (z.1 8) 2400 = true then rc21 (si (sa (sa (sa (si z 22 ((z.1 22) + 1)) 2 (Int32.toNatClampNeg (z.1 4)) (((z.2 2) (Int32.toNatClampNeg (z.1 4))) + 1)) 1 (Int32.toNatClampNeg (x2 + x3)) ((z.2 12) (Int32.toNatClampNeg x3))) 4 (Int32.toNatClampNeg (z.1 8)) (x2 + x3)) 8 ((z.1 8) + 1)) x1 x2 (x3 + 1) else none) else none) else none) else none) else none) = some z' := hf
  refine lv_aload_n hx hb dX6_writeRow_57 rfl (lv_at hl 0 rfl) ?_
  refine lv_dup hx hb dX6_writeRow_58 rfl ?_
  refine gM_22 C hS in_X6_writeRow_X6 lk_X6_writeRow_126 (v := (z.1 22)) rfl dX6_writeRow_59 ?_
  refine lv_iconst (v := 1) hx hb dX6_writeRow_62 (by decide) ?_
  refine lv_iadd (x := (z.1 22)) (y := 1) hx hb dX6_writeRow_63 ?_
  refine pM_22 C hS in_X6_writeRow_X6 lk_X6_writeRow_126 (v := ((z.1 22) + 1)) rfl rfl dX6_writeRow_64 (fun H locs hS => ?_)
  refine lv_aload_n hx hb dX6_writeRow_67 rfl (lv_at hl 0 rfl) ?_
  refine hM_2 C hS in_X6_writeRow_X6 lk_X6_writeRow_13 dX6_writeRow_68 ?_
  refine lv_aload_n hx hb dX6_writeRow_71 rfl (lv_at hl 0 rfl) ?_
  refine gM_4 C hS in_X6_writeRow_X6 lk_X6_writeRow_16 (v := (z.1 4)) ((si_o (by decide)).trans rfl) dX6_writeRow_72 ?_
  refine lv_dup2_11 hx hb dX6_writeRow_75 rfl rfl ?_
  obtain ⟨hck, hf⟩ := cs hf
  refine lM_2 C hS (f := (z.2 2)) (si_a.trans rfl) (i := (z.1 4)) hck dX6_writeRow_76 ?_
  refine lv_iconst (v := 1) hx hb dX6_writeRow_77 (by decide) ?_
  refine lv_iadd (x := ((z.2 2) (Int32.toNatClampNeg (z.1 4)))) (y := 1) hx hb dX6_writeRow_78 ?_
  obtain ⟨hck, hf⟩ := cs hf
  refine sM_2 C hS (i := (z.1 4)) (x := (((z.2 2) (Int32.toNatClampNeg (z.1 4))) + 1)) hck dX6_writeRow_79 (fun H locs hS => ?_)
  refine lv_aload_n hx hb dX6_writeRow_80 rfl (lv_at hl 0 rfl) ?_
  refine hM_1 C hS in_X6_writeRow_X6 lk_X6_writeRow_7 dX6_writeRow_81 ?_
  refine lv_iload_n hx hb dX6_writeRow_84 rfl (lv_at hl 2 rfl) ?_
  refine lv_iload_n hx hb dX6_writeRow_85 rfl (lv_at hl 3 rfl) ?_
  refine lv_iadd (x := x2) (y := x3) hx hb dX6_writeRow_86 ?_
  refine lv_aload_n hx hb dX6_writeRow_87 rfl (lv_at hl 0 rfl) ?_
  refine hM_12 C hS in_X6_writeRow_X6 lk_X6_writeRow_51 dX6_writeRow_88 ?_
  refine lv_iload_n hx hb dX6_writeRow_91 rfl (lv_at hl 3 rfl) ?_
  obtain ⟨hck, hf⟩ := cs hf
  refine lM_12 C hS (f := (z.2 12)) ((sa_o (by decide)).trans (si_a.trans rfl)) (i := x3) hck dX6_writeRow_92 ?_
  obtain ⟨hck, hf⟩ := cs hf
  refine sM_1 C hS (i := (x2 + x3)) (x := ((z.2 12) (Int32.toNatClampNeg x3))) hck dX6_writeRow_93 (fun H locs hS => ?_)
  refine lv_aload_n hx hb dX6_writeRow_94 rfl (lv_at hl 0 rfl) ?_
  refine hM_4 C hS in_X6_writeRow_X6 lk_X6_writeRow_23 dX6_writeRow_95 ?_
  refine lv_aload_n hx hb dX6_writeRow_98 rfl (lv_at hl 0 rfl) ?_
  refine gM_8 C hS in_X6_writeRow_X6 lk_X6_writeRow_129 (v := (z.1 8)) (sa_i.trans (sa_i.trans ((si_o (by decide)).trans rfl))) dX6_writeRow_99 ?_
  refine lv_iload_n hx hb dX6_writeRow_102 rfl (lv_at hl 2 rfl) ?_
  refine lv_iload_n hx hb dX6_writeRow_103 rfl (lv_at hl 3 rfl) ?_
  refine lv_iadd (x := x2) (y := x3) hx hb dX6_writeRow_104 ?_
  obtain ⟨hck, hf⟩ := cs hf
  refine sM_4 C hS (i := (z.1 8)) (x := (x2 + x3)) hck dX6_writeRow_105 (fun H locs hS => ?_)
  refine lv_aload_n hx hb dX6_writeRow_106 rfl (lv_at hl 0 rfl) ?_
  refine lv_dup hx hb dX6_writeRow_107 rfl ?_
  refine gM_8 C hS in_X6_writeRow_X6 lk_X6_writeRow_129 (v := (z.1 8)) (sa_i.trans (sa_i.trans (sa_i.trans ((si_o (by decide)).trans rfl)))) dX6_writeRow_108 ?_
  refine lv_iconst (v := 1) hx hb dX6_writeRow_111 (by decide) ?_
  refine lv_iadd (x := (z.1 8)) (y := 1) hx hb dX6_writeRow_112 ?_
  refine pM_8 C hS in_X6_writeRow_X6 lk_X6_writeRow_129 (v := ((z.1 8) + 1)) rfl rfl dX6_writeRow_113 (fun H locs hS => ?_)
  refine lv_iinc (v := (x3 + 1)) (lv' := [(3, .int (x3 + 1)), (0, .ref (ad 0)), (1, .int x1), (2, .int x2)]) hx hb dX6_writeRow_116 hl (k := 3) rfl (congrArg (fun q => x3 + q) (by decide : Int32.ofInt 1 = (1 : Int32))) (by decide) rfl (fun ls hl => ?_)
  refine lv_goto (tgt := 21) hx hb dX6_writeRow_119 (by decide) ?_
  exact hrc21 (si (sa (sa (sa (si z 22 ((z.1 22) + 1)) 2 (Int32.toNatClampNeg (z.1 4)) (((z.2 2) (Int32.toNatClampNeg (z.1 4))) + 1)) 1 (Int32.toNatClampNeg (x2 + x3)) ((z.2 12) (Int32.toNatClampNeg x3))) 4 (Int32.toNatClampNeg (z.1 8)) (x2 + x3)) 8 ((z.1 8) + 1)) x1 x2 (x3 + 1) z' hf H locs ls hS (lv_sub hl [1, 2, 3, 0] rfl)
set_option maxHeartbeats 4000000 in
set_option maxRecDepth 100000 in
theorem w_rm_writeRow_b51 {p : Program} {l : Launch} {e : Env} {s : State} {m : MethodId} {args : Array Value} {below : List Frame} {meth : Method} {c : Code} {D : va_G} {w0 : va_W} {ad : Nat → Nat} {cA : Nat → ClassId} (C : Cx p s m args meth c cX6_writeRow 4 none RX6 wsX6_writeRow D (tM cA)) (k : Nat) (z : SS) (z' : SS) (hf : rm_writeRow_b51 k z = some z') : ∀ (H : Heap) (locs : List Loc) (ls : Array Slot), St D (va_A w0 s.heap.size) s.heap (wM ad cA z) H locs → lv_has ls 4 [(0, .ref (ad 0))] → W p l e R_rm_writeRow s m args below meth c H locs 0 0 (MQ below (kV D (tM cA) w0 (wM ad cA z') s.heap.size) args s 0 0 (va_A w0 s.heap.size)) (F0 m 51 ls []) := by
  obtain ⟨hx, hb, hr, hml, hown, hts, hlk, hK⟩ := id C
  intro H locs ls hS hl
  have hf : some (si z 24 1) = some z' := hf
  refine lv_aload_n hx hb dX6_writeRow_51 rfl (lv_at hl 0 rfl) ?_
  refine lv_iconst (v := 1) hx hb dX6_writeRow_52 (by decide) ?_
  refine pM_24 C hS in_X6_writeRow_X6 lk_X6_writeRow_120 (v := 1) rfl rfl dX6_writeRow_53 (fun H locs hS => ?_)
  cases hf
  exact rtv C hS dX6_writeRow_56
set_option maxHeartbeats 4000000 in
set_option maxRecDepth 100000 in
theorem w_rm_writeRow_b21 {p : Program} {l : Launch} {e : Env} {s : State} {m : MethodId} {args : Array Value} {below : List Frame} {meth : Method} {c : Code} {D : va_G} {w0 : va_W} {ad : Nat → Nat} {cA : Nat → ClassId} (C : Cx p s m args meth c cX6_writeRow 4 none RX6 wsX6_writeRow D (tM cA)) (k : Nat) : ∀ (fu : Nat) (z : SS) (x1 : Int32) (x2 : Int32) (x3 : Int32) (z' : SS), rm_writeRow_b21 k fu z x1 x2 x3 = some z' → ∀ (H : Heap) (locs : List Loc) (ls : Array Slot), St D (va_A w0 s.heap.size) s.heap (wM ad cA z) H locs → lv_has ls 4 [(0, .ref (ad 0)), (1, .int x1), (2, .int x2), (3, .int x3)] → W p l e R_rm_writeRow s m args below meth c H locs 0 0 (MQ below (kV D (tM cA) w0 (wM ad cA z') s.heap.size) args s 0 0 (va_A w0 s.heap.size)) (F0 m 21 ls []) := by
  obtain ⟨hx, hb, hr, hml, hown, hts, hlk, hK⟩ := id C
  intro fu
  induction fu with
  | zero =>
    intro z x1 x2 x3 z' hf
    cases (show (none : Option SS) = some z' from hf)
  | succ fu ih =>
    intro z x1 x2 x3 z' hf H locs ls hS hl
    have hf : (if x1 ≤ x3 then some z else (if (z.1 24) = 0 then (if (z.1 23) < 0 then rm_writeRow_b57 k (rm_writeRow_b21 k fu) z x1 x2 x3 else (if (z.1 22) = (z.1 23) then rm_writeRow_b51 k z else rm_writeRow_b57 k (rm_writeRow_b21 k fu) z x1 x2 x3)) else rm_writeRow_b51 k z)) = some z' := hf
    refine lv_iload_n hx hb dX6_writeRow_21 rfl (lv_at hl 3 rfl) ?_
    refine lv_iload_n hx hb dX6_writeRow_22 rfl (lv_at hl 1 rfl) ?_
    refine lv_icmp_ge (x := x3) (y := x1) (tgt := 122) hx hb dX6_writeRow_23 (by decide) (fun hc => ?_) (fun hc => ?_)
    · replace hf := it_t hc hf
      cases hf
      exact rtv C hS dX6_writeRow_122
    · replace hf := it_f hc hf
      refine lv_aload_n hx hb dX6_writeRow_26 rfl (lv_at hl 0 rfl) ?_
      refine gM_24 C hS in_X6_writeRow_X6 lk_X6_writeRow_120 (v := (z.1 24)) rfl dX6_writeRow_27 ?_
      refine lv_if_ne (x := (z.1 24)) (tgt := 51) hx hb dX6_writeRow_30 (by decide) (fun hc => ?_) (fun hc => ?_)
      · replace hf := it_f hc hf
        exact w_rm_writeRow_b51 C k z z' hf H locs ls hS (lv_sub hl [0] rfl)
      · replace hf := it_t hc hf
        refine lv_aload_n hx hb dX6_writeRow_33 rfl (lv_at hl 0 rfl) ?_
        refine gM_23 C hS in_X6_writeRow_X6 lk_X6_writeRow_123 (v := (z.1 23)) rfl dX6_writeRow_34 ?_
        refine lv_if_lt (x := (z.1 23)) (tgt := 57) hx hb dX6_writeRow_37 (by decide) (fun hc => ?_) (fun hc => ?_)
        · replace hf := it_t hc hf
          exact w_rm_writeRow_b57 C k ih z x1 x2 x3 z' hf H locs ls hS (lv_sub hl [0, 1, 2, 3] rfl)
        · replace hf := it_f hc hf
          refine lv_aload_n hx hb dX6_writeRow_40 rfl (lv_at hl 0 rfl) ?_
          refine gM_22 C hS in_X6_writeRow_X6 lk_X6_writeRow_126 (v := (z.1 22)) rfl dX6_writeRow_41 ?_
          refine lv_aload_n hx hb dX6_writeRow_44 rfl (lv_at hl 0 rfl) ?_
          refine gM_23 C hS in_X6_writeRow_X6 lk_X6_writeRow_123 (v := (z.1 23)) rfl dX6_writeRow_45 ?_
          refine lv_icmp_ne (x := (z.1 22)) (y := (z.1 23)) (tgt := 57) hx hb dX6_writeRow_48 (by decide) (fun hc => ?_) (fun hc => ?_)
          · replace hf := it_f hc hf
            exact w_rm_writeRow_b57 C k ih z x1 x2 x3 z' hf H locs ls hS (lv_sub hl [0, 1, 2, 3] rfl)
          · replace hf := it_t hc hf
            exact w_rm_writeRow_b51 C k z z' hf H locs ls hS (lv_sub hl [0] rfl)
set_option maxHeartbeats 4000000 in
set_option maxRecDepth 100000 in
theorem w_rm_writeRow_0 {p : Program} {l : Launch} {e : Env} {s : State} {m : MethodId} {args : Array Value} {below : List Frame} {meth : Method} {c : Code} {D : va_G} {w0 : va_W} {ad : Nat → Nat} {cA : Nat → ClassId} (C : Cx p s m args meth c cX6_writeRow 4 none RX6 wsX6_writeRow D (tM cA)) (k : Nat) (z : SS) (x1 : Int32) (z' : SS) (hf : rm_writeRow k z x1 = some z') : ∀ (H : Heap) (locs : List Loc) (ls : Array Slot), St D (va_A w0 s.heap.size) s.heap (wM ad cA z) H locs → lv_has ls 4 [(0, .ref (ad 0)), (1, .int x1)] → W p l e R_rm_writeRow s m args below meth c H locs 0 0 (MQ below (kV D (tM cA) w0 (wM ad cA z') s.heap.size) args s 0 0 (va_A w0 s.heap.size)) (F0 m 0 ls []) := by
  obtain ⟨hx, hb, hr, hml, hown, hts, hlk, hK⟩ := id C
  intro H locs ls hS hl
  have hf : (if ck (z.1 4) 12 = true then rm_writeRow_b21 k k z x1 ((200 * (z.1 4)) + ((z.2 2) (Int32.toNatClampNeg (z.1 4)))) 0 else none) = some z' := hf
  refine lv_sipush (v := 200) hx hb dX6_writeRow_0 (by decide) ?_
  refine lv_aload_n hx hb dX6_writeRow_3 rfl (lv_at hl 0 rfl) ?_
  refine gM_4 C hS in_X6_writeRow_X6 lk_X6_writeRow_16 (v := (z.1 4)) rfl dX6_writeRow_4 ?_
  refine lv_imul (x := 200) (y := (z.1 4)) hx hb dX6_writeRow_7 ?_
  refine lv_aload_n hx hb dX6_writeRow_8 rfl (lv_at hl 0 rfl) ?_
  refine hM_2 C hS in_X6_writeRow_X6 lk_X6_writeRow_13 dX6_writeRow_9 ?_
  refine lv_aload_n hx hb dX6_writeRow_12 rfl (lv_at hl 0 rfl) ?_
  refine gM_4 C hS in_X6_writeRow_X6 lk_X6_writeRow_16 (v := (z.1 4)) rfl dX6_writeRow_13 ?_
  obtain ⟨hck, hf⟩ := cs hf
  refine lM_2 C hS (f := (z.2 2)) rfl (i := (z.1 4)) hck dX6_writeRow_16 ?_
  refine lv_iadd (x := (200 * (z.1 4))) (y := ((z.2 2) (Int32.toNatClampNeg (z.1 4)))) hx hb dX6_writeRow_17 ?_
  refine lv_istore_n (lv' := [(2, .int ((200 * (z.1 4)) + ((z.2 2) (Int32.toNatClampNeg (z.1 4))))), (0, .ref (ad 0)), (1, .int x1)]) hx hb dX6_writeRow_18 rfl hl (by decide) rfl (fun ls hl => ?_)
  refine lv_iconst (v := 0) hx hb dX6_writeRow_19 (by decide) ?_
  refine lv_istore_n (lv' := [(3, .int 0), (2, .int ((200 * (z.1 4)) + ((z.2 2) (Int32.toNatClampNeg (z.1 4))))), (0, .ref (ad 0)), (1, .int x1)]) hx hb dX6_writeRow_20 rfl hl (by decide) rfl (fun ls hl => ?_)
  exact w_rm_writeRow_b21 C k k z x1 ((200 * (z.1 4)) + ((z.2 2) (Int32.toNatClampNeg (z.1 4)))) 0 z' hf H locs ls hS (lv_sub hl [2, 3, 1, 0] rfl)
set_option maxHeartbeats 4000000 in
set_option maxRecDepth 100000 in
theorem c_rm_writeRow (l : Launch) (D : va_G) (ad : Nat → Nat) (cA : Nat → ClassId) (k : Nat) (z : SS) (x1 : Int32) (z' : SS) (hf : rm_writeRow k z x1 = some z') (sz : Nat) : Met l yX6_writeRow wsX6_writeRow R_rm_writeRow (kP D (tM cA) [.ref (ad 0), .int x1] (wM ad cA z) sz) (kV D (tM cA) (wM ad cA z) (wM ad cA z') sz) 0 0 (va_A (wM ad cA z) sz) := by
  refine ent (by decide) rfl rfl (Nat.le_of_ble_eq_true rfl) (fun p e s m args below meth c hsz C hS ls hl => ?_)
  subst hsz
  exact w_rm_writeRow_0 C k z x1 z' hf s.heap [] ls hS hl
