-- ix_lives_3: boolean lives(int, GraveSegments$Snapshots);
theorem lk_X1_lives_25 : Cond.fieldLink RX1 25 (TX1 3).1 (TX1 3).2.1 (TX1 3).2.2.1 ∈ wsX1_lives := by decide +kernel
theorem in_X1_lives_X1 : ∀ x ∈ u_ws RX1 TX1 6, x ∈ wsX1_lives := by decide +kernel
theorem lk_X1_lives_22 : Cond.fieldLink RX1 22 (TX1 2).1 (TX1 2).2.1 (TX1 2).2.2.1 ∈ wsX1_lives := by decide +kernel
theorem lk_X1_lives_31 : Cond.fieldLink RX1 31 (TX1 5).1 (TX1 5).2.1 (TX1 5).2.2.1 ∈ wsX1_lives := by decide +kernel
theorem ml_X1_lives_min : Cond.methodLink RX1 64 Lib.Math.min.name ∈ wsX1_lives := by decide +kernel
theorem ms_X1_lives_min : Cond.static Lib.Math.min.name ∈ wsX1_lives := by decide +kernel
theorem mi_X1_lives_min : Cond.initialized "java/lang/Math" ∈ wsX1_lives := by decide +kernel
theorem mc_X1_lives_min : Cond.code Lib.Math.min.name Lib.Math.min.code 2 (some .int) ∈ wsX1_lives := by decide +kernel
def R_ix_lives_3 : Room := { frames := 1, cells := 0, slots := 0, locals := 23 }
def ix_lives_3_b153 (n : Nat) (k : Nat) (z : SS) (x1 : Int32) (x4 : Int32) (x5 : Int32) : Option Int32 :=
  (if x4 = 0 then some 1 else (if ck x1 (n * 12) = true then (bo (sn_anyWithin n k z ((z.2 13) (Int32.toNatClampNeg x1)) x5) fun r_1 => (if r_1 = 0 then some 0 else some 1)) else none))
def ix_lives_3_b116 (n : Nat) (k : Nat) (rc23 : Int32 → Int32 → Int32 → Int32 → Int32 → Option Int32) (z : SS) (x1 : Int32) (x3 : Int32) (x6 : Int32) (y0 : Int32) : Option Int32 :=
  rc23 x1 x3 1 y0 (x6 + 1)
def ix_lives_3_b23 (n : Nat) (k : Nat) (z : SS) : Nat → Int32 → Int32 → Int32 → Int32 → Int32 → Option Int32
  | 0, _, _, _, _, _ => none
  | fu + 1, x1, x3, x4, x5, x6 => (if (nI (n * 12)) ≤ x6 then (if ck x1 (n * 12) = true then (if ((z.2 15) (Int32.toNatClampNeg x1)) = 0 then ix_lives_3_b153 n k z x1 x4 x5 else (if x3 = 0 then some 0 else ix_lives_3_b153 n k z x1 x4 x5)) else none) else (if ck x6 (n * 12) = true then (if ck x1 (n * 12) = true then (if ((z.2 12) (Int32.toNatClampNeg x6)) = ((z.2 12) (Int32.toNatClampNeg x1)) then (if ck x6 (n * 12) = true then (if ck x1 (n * 12) = true then (if ((z.2 13) (Int32.toNatClampNeg x1)) ≤ ((z.2 13) (Int32.toNatClampNeg x6)) then (if ck x6 (n * 12) = true then (if ck x1 (n * 12) = true then (if ((z.2 13) (Int32.toNatClampNeg x6)) ≤ ((z.2 13) (Int32.toNatClampNeg x1)) then (if x1 ≤ x6 then ix_lives_3_b23 n k z fu x1 x3 x4 x5 (x6 + 1) else some 0) else (if x4 = 0 then (if ck x6 (n * 12) = true then ix_lives_3_b116 n k (ix_lives_3_b23 n k z fu) z x1 x3 x6 ((z.2 13) (Int32.toNatClampNeg x6)) else none) else (if ck x6 (n * 12) = true then ix_lives_3_b116 n k (ix_lives_3_b23 n k z fu) z x1 x3 x6 (if ((z.2 13) (Int32.toNatClampNeg x6)) < x5 then ((z.2 13) (Int32.toNatClampNeg x6)) else x5) else none))) else none) else none) else ix_lives_3_b23 n k z fu x1 1 x4 x5 (x6 + 1)) else none) else none) else ix_lives_3_b23 n k z fu x1 x3 x4 x5 (x6 + 1)) else none) else none))
def ix_lives_3 (n : Nat) (k : Nat) (z : SS) (x1 : Int32) : Option Int32 :=
  (if ck x1 (n * 12) = true then (if ((z.2 12) (Int32.toNatClampNeg x1)) = (-1) then some 0 else ix_lives_3_b23 n k z k x1 0 0 0 0) else none)
set_option maxHeartbeats 4000000 in
set_option maxRecDepth 100000 in
theorem w_ix_lives_3_b153 {p : Program} {l : Launch} {e : Env} {s : State} {m : MethodId} {args : Array Value} {below : List Frame} {meth : Method} {c : Code} {D : va_G} {w0 : va_W} {n : Nat} {ad : Nat → Nat} {cA : Nat → ClassId} (C : Cx p s m args meth c cX1_lives 7 (some .boolean) RX1 wsX1_lives D (tC cA)) (k : Nat) (z : SS) (x1 : Int32) (x4 : Int32) (x5 : Int32) (r : Int32) (hf : ix_lives_3_b153 n k z x1 x4 x5 = some r) : ∀ (H : Heap) (locs : List Loc) (ls : Array Slot), St D (va_A w0 s.heap.size) s.heap (wC n ad cA z) H locs → lv_has ls 7 [(0, .ref (ad 2)), (1, .int x1), (2, .ref (ad 3)), (4, .int x4), (5, .int x5)] → W p l e R_ix_lives_3 s m args below meth c H locs 0 0 (MQ below (kI D (tC cA) r w0 (wC n ad cA z) s.heap.size) args s 0 0 (va_A w0 s.heap.size)) (F0 m 153 ls []) := by
  obtain ⟨hx, hb, hr, hml, hown, hts, hlk, hK⟩ := id C
  intro H locs ls hS hl
  have hf : (if x4 = 0 then some 1 else (if ck x1 (n * 12) = true then (bo (sn_anyWithin n k z ((z.2 13) (Int32.toNatClampNeg x1)) x5) fun r_1 => (if r_1 = 0 then some 0 else some 1)) else none)) = some r := hf
  refine lv_iload hx hb dX1_lives_153 (lv_at hl 3 rfl) ?_
  refine lv_if_eq (x := x4) (tgt := 173) hx hb dX1_lives_155 (by decide) (fun hc => ?_) (fun hc => ?_)
  · replace hf := it_t hc hf
    refine lv_iconst (v := 1) hx hb dX1_lives_173 (by decide) ?_
    refine lv_goto (tgt := 178) hx hb dX1_lives_174 (by decide) ?_
    cases hf
    exact rtz C hS (by decide) dX1_lives_178
  · replace hf := it_f hc hf
    refine lv_aload_n hx hb dX1_lives_158 rfl (lv_at hl 2 rfl) ?_
    refine lv_aload_n hx hb dX1_lives_159 rfl (lv_at hl 0 rfl) ?_
    refine hC_13 C hS in_X1_lives_X1 lk_X1_lives_25 dX1_lives_160 ?_
    refine lv_iload_n hx hb dX1_lives_163 rfl (lv_at hl 1 rfl) ?_
    obtain ⟨hck, hf⟩ := cs hf
    refine lC_13 C hS (f := (z.2 13)) rfl (i := x1) hck dX1_lives_164 ?_
    refine lv_iload hx hb dX1_lives_165 (lv_at hl 4 rfl) ?_
    obtain ⟨r_1, hcl, hf⟩ := bo_s hf
    refine rcVi (n := 2) (As := [.int ((z.2 13) (Int32.toNatClampNeg x1)), .int x5]) (rest := []) (q0 := 3) (w' := (wC n ad cA z)) C hS (fun sz => c_sn_anyWithin l D n ad cA k z ((z.2 13) (Int32.toNatClampNeg x1)) x5 r_1 hcl sz) gX1_lives_X4_anyWithin rfl ⟨rfl, rfl⟩ (by decide +kernel) ⟨Nat.le_of_ble_eq_true rfl, Nat.le_of_ble_eq_true rfl⟩ oC_3 rfl rfl hl.1 rfl (Nat.le_of_ble_eq_true rfl) dX1_lives_167 (fun H locs hS => ?_)
    refine lv_if_eq (x := r_1) (tgt := 177) hx hb dX1_lives_170 (by decide) (fun hc => ?_) (fun hc => ?_)
    · replace hf := it_t hc hf
      refine lv_iconst (v := 0) hx hb dX1_lives_177 (by decide) ?_
      cases hf
      exact rtz C hS (by decide) dX1_lives_178
    · replace hf := it_f hc hf
      refine lv_iconst (v := 1) hx hb dX1_lives_173 (by decide) ?_
      refine lv_goto (tgt := 178) hx hb dX1_lives_174 (by decide) ?_
      cases hf
      exact rtz C hS (by decide) dX1_lives_178
set_option maxHeartbeats 4000000 in
set_option maxRecDepth 100000 in
theorem w_ix_lives_3_b116 {p : Program} {l : Launch} {e : Env} {s : State} {m : MethodId} {args : Array Value} {below : List Frame} {meth : Method} {c : Code} {D : va_G} {w0 : va_W} {n : Nat} {ad : Nat → Nat} {cA : Nat → ClassId} (C : Cx p s m args meth c cX1_lives 7 (some .boolean) RX1 wsX1_lives D (tC cA)) (k : Nat) (z : SS) {rc23 : Int32 → Int32 → Int32 → Int32 → Int32 → Option Int32} (hrc23 : ∀ (x1 : Int32) (x3 : Int32) (x4 : Int32) (x5 : Int32) (x6 : Int32) (r : Int32), rc23 x1 x3 x4 x5 x6 = some r → ∀ (H : Heap) (locs : List Loc) (ls : Array Slot), St D (va_A w0 s.heap.size) s.heap (wC n ad cA z) H locs → lv_has ls 7 [(0, .ref (ad 2)), (1, .int x1), (2, .ref (ad 3)), (3, .int x3), (4, .int x4), (5, .int x5), (6, .int x6)] → W p l e R_ix_lives_3 s m args below meth c H locs 0 0 (MQ below (kI D (tC cA) r w0 (wC n ad cA z) s.heap.size) args s 0 0 (va_A w0 s.heap.size)) (F0 m 23 ls [])) (x1 : Int32) (x3 : Int32) (x6 : Int32) (y0 : Int32) (r : Int32) (hf : ix_lives_3_b116 n k rc23 z x1 x3 x6 y0 = some r) : ∀ (H : Heap) (locs : List Loc) (ls : Array Slot), St D (va_A w0 s.heap.size) s.heap (wC n ad cA z) H locs → lv_has ls 7 [(0, .ref (ad 2)), (1, .int x1), (2, .ref (ad 3)), (3, .int x3), (6, .int x6)] → W p l e R_ix_lives_3 s m args below meth c H locs 0 0 (MQ below (kI D (tC cA) r w0 (wC n ad cA z) s.heap.size) args s 0 0 (va_A w0 s.heap.size)) (F0 m 116 ls [.int y0]) := by
  obtain ⟨hx, hb, hr, hml, hown, hts, hlk, hK⟩ := id C
  intro H locs ls hS hl
  have hf : rc23 x1 x3 1 y0 (x6 + 1) = some r := hf
  refine lv_istore (lv' := [(5, .int y0), (0, .ref (ad 2)), (1, .int x1), (2, .ref (ad 3)), (3, .int x3), (6, .int x6)]) hx hb dX1_lives_116 hl (by decide) rfl (fun ls hl => ?_)
  refine lv_iconst (v := 1) hx hb dX1_lives_118 (by decide) ?_
  refine lv_istore (lv' := [(4, .int 1), (5, .int y0), (0, .ref (ad 2)), (1, .int x1), (2, .ref (ad 3)), (3, .int x3), (6, .int x6)]) hx hb dX1_lives_119 hl (by decide) rfl (fun ls hl => ?_)
  refine lv_goto (tgt := 132) hx hb dX1_lives_121 (by decide) ?_
  refine lv_iinc (v := (x6 + 1)) (lv' := [(6, .int (x6 + 1)), (4, .int 1), (5, .int y0), (0, .ref (ad 2)), (1, .int x1), (2, .ref (ad 3)), (3, .int x3)]) hx hb dX1_lives_132 hl (k := 6) rfl (congrArg (fun q => x6 + q) (by decide : Int32.ofInt 1 = (1 : Int32))) (by decide) rfl (fun ls hl => ?_)
  refine lv_goto (tgt := 23) hx hb dX1_lives_135 (by decide) ?_
  exact hrc23 x1 x3 1 y0 (x6 + 1) r hf H locs ls hS (lv_sub hl [3, 4, 5, 6, 1, 2, 0] rfl)
set_option maxHeartbeats 4000000 in
set_option maxRecDepth 100000 in
theorem w_ix_lives_3_b23 {p : Program} {l : Launch} {e : Env} {s : State} {m : MethodId} {args : Array Value} {below : List Frame} {meth : Method} {c : Code} {D : va_G} {w0 : va_W} {n : Nat} {ad : Nat → Nat} {cA : Nat → ClassId} (C : Cx p s m args meth c cX1_lives 7 (some .boolean) RX1 wsX1_lives D (tC cA)) (k : Nat) (z : SS) : ∀ (fu : Nat) (x1 : Int32) (x3 : Int32) (x4 : Int32) (x5 : Int32) (x6 : Int32) (r : Int32), ix_lives_3_b23 n k z fu x1 x3 x4 x5 x6 = some r → ∀ (H : Heap) (locs : List Loc) (ls : Array Slot), St D (va_A w0 s.heap.size) s.heap (wC n ad cA z) H locs → lv_has ls 7 [(0, .ref (ad 2)), (1, .int x1), (2, .ref (ad 3)), (3, .int x3), (4, .int x4), (5, .int x5), (6, .int x6)] → W p l e R_ix_lives_3 s m args below meth c H locs 0 0 (MQ below (kI D (tC cA) r w0 (wC n ad cA z) s.heap.size) args s 0 0 (va_A w0 s.heap.size)) (F0 m 23 ls []) := by
  obtain ⟨hx, hb, hr, hml, hown, hts, hlk, hK⟩ := id C
  intro fu
  induction fu with
  | zero =>
    intro x1 x3 x4 x5 x6 r hf
    cases (show (none : Option Int32) = some r from hf)
  | succ fu ih =>
    intro x1 x3 x4 x5 x6 r hf H locs ls hS hl
    have hf : (if (nI (n * 12)) ≤ x6 then (if ck x1 (n * 12) = true then (if ((z.2 15) (Int32.toNatClampNeg x1)) = 0 then ix_lives_3_b153 n k z x1 x4 x5 else (if x3 = 0 then some 0 else ix_lives_3_b153 n k z x1 x4 x5)) else none) else (if ck x6 (n * 12) = true then (if ck x1 (n * 12) = true then (if ((z.2 12) (Int32.toNatClampNeg x6)) = ((z.2 12) (Int32.toNatClampNeg x1)) then (if ck x6 (n * 12) = true then (if ck x1 (n * 12) = true then (if ((z.2 13) (Int32.toNatClampNeg x1)) ≤ ((z.2 13) (Int32.toNatClampNeg x6)) then (if ck x6 (n * 12) = true then (if ck x1 (n * 12) = true then (if ((z.2 13) (Int32.toNatClampNeg x6)) ≤ ((z.2 13) (Int32.toNatClampNeg x1)) then (if x1 ≤ x6 then ix_lives_3_b23 n k z fu x1 x3 x4 x5 (x6 + 1) else some 0) else (if x4 = 0 then (if ck x6 (n * 12) = true then ix_lives_3_b116 n k (ix_lives_3_b23 n k z fu) z x1 x3 x6 ((z.2 13) (Int32.toNatClampNeg x6)) else none) else (if ck x6 (n * 12) = true then ix_lives_3_b116 n k (ix_lives_3_b23 n k z fu) z x1 x3 x6 (if ((z.2 13) (Int32.toNatClampNeg x6)) < x5 then ((z.2 13) (Int32.toNatClampNeg x6)) else x5) else none))) else none) else none) else ix_lives_3_b23 n k z fu x1 1 x4 x5 (x6 + 1)) else none) else none) else ix_lives_3_b23 n k z fu x1 x3 x4 x5 (x6 + 1)) else none) else none)) = some r := hf
    refine lv_iload hx hb dX1_lives_23 (lv_at hl 6 rfl) ?_
    refine lv_aload_n hx hb dX1_lives_25 rfl (lv_at hl 0 rfl) ?_
    refine hC_12 C hS in_X1_lives_X1 lk_X1_lives_22 dX1_lives_26 ?_
    refine nC_12 C hS dX1_lives_29 ?_
    refine lv_icmp_ge (x := x6) (y := (nI (n * 12))) (tgt := 138) hx hb dX1_lives_30 (by decide) (fun hc => ?_) (fun hc => ?_)
    · replace hf := it_t hc hf
      refine lv_aload_n hx hb dX1_lives_138 rfl (lv_at hl 0 rfl) ?_
      refine hC_15 C hS in_X1_lives_X1 lk_X1_lives_31 dX1_lives_139 ?_
      refine lv_iload_n hx hb dX1_lives_142 rfl (lv_at hl 1 rfl) ?_
      obtain ⟨hck, hf⟩ := cs hf
      refine lC_15 C hS (f := (z.2 15)) rfl (i := x1) hck dX1_lives_143 ?_
      refine lv_if_eq (x := ((z.2 15) (Int32.toNatClampNeg x1))) (tgt := 153) hx hb dX1_lives_144 (by decide) (fun hc => ?_) (fun hc => ?_)
      · replace hf := it_t hc hf
        exact w_ix_lives_3_b153 C k z x1 x4 x5 r hf H locs ls hS (lv_sub hl [0, 1, 2, 4, 5] rfl)
      · replace hf := it_f hc hf
        refine lv_iload_n hx hb dX1_lives_147 rfl (lv_at hl 3 rfl) ?_
        refine lv_if_ne (x := x3) (tgt := 153) hx hb dX1_lives_148 (by decide) (fun hc => ?_) (fun hc => ?_)
        · replace hf := it_f hc hf
          exact w_ix_lives_3_b153 C k z x1 x4 x5 r hf H locs ls hS (lv_sub hl [0, 1, 2, 4, 5] rfl)
        · replace hf := it_t hc hf
          refine lv_iconst (v := 0) hx hb dX1_lives_151 (by decide) ?_
          cases hf
          exact rtz C hS (by decide) dX1_lives_152
    · replace hf := it_f hc hf
      refine lv_aload_n hx hb dX1_lives_33 rfl (lv_at hl 0 rfl) ?_
      refine hC_12 C hS in_X1_lives_X1 lk_X1_lives_22 dX1_lives_34 ?_
      refine lv_iload hx hb dX1_lives_37 (lv_at hl 6 rfl) ?_
      obtain ⟨hck, hf⟩ := cs hf
      refine lC_12 C hS (f := (z.2 12)) rfl (i := x6) hck dX1_lives_39 ?_
      refine lv_aload_n hx hb dX1_lives_40 rfl (lv_at hl 0 rfl) ?_
      refine hC_12 C hS in_X1_lives_X1 lk_X1_lives_22 dX1_lives_41 ?_
      refine lv_iload_n hx hb dX1_lives_44 rfl (lv_at hl 1 rfl) ?_
      obtain ⟨hck, hf⟩ := cs hf
      refine lC_12 C hS (f := (z.2 12)) rfl (i := x1) hck dX1_lives_45 ?_
      refine lv_icmp_eq (x := ((z.2 12) (Int32.toNatClampNeg x6))) (y := ((z.2 12) (Int32.toNatClampNeg x1))) (tgt := 52) hx hb dX1_lives_46 (by decide) (fun hc => ?_) (fun hc => ?_)
      · replace hf := it_t hc hf
        refine lv_aload_n hx hb dX1_lives_52 rfl (lv_at hl 0 rfl) ?_
        refine hC_13 C hS in_X1_lives_X1 lk_X1_lives_25 dX1_lives_53 ?_
        refine lv_iload hx hb dX1_lives_56 (lv_at hl 6 rfl) ?_
        obtain ⟨hck, hf⟩ := cs hf
        refine lC_13 C hS (f := (z.2 13)) rfl (i := x6) hck dX1_lives_58 ?_
        refine lv_aload_n hx hb dX1_lives_59 rfl (lv_at hl 0 rfl) ?_
        refine hC_13 C hS in_X1_lives_X1 lk_X1_lives_25 dX1_lives_60 ?_
        refine lv_iload_n hx hb dX1_lives_63 rfl (lv_at hl 1 rfl) ?_
        obtain ⟨hck, hf⟩ := cs hf
        refine lC_13 C hS (f := (z.2 13)) rfl (i := x1) hck dX1_lives_64 ?_
        refine lv_icmp_ge (x := ((z.2 13) (Int32.toNatClampNeg x6))) (y := ((z.2 13) (Int32.toNatClampNeg x1))) (tgt := 73) hx hb dX1_lives_65 (by decide) (fun hc => ?_) (fun hc => ?_)
        · replace hf := it_t hc hf
          refine lv_aload_n hx hb dX1_lives_73 rfl (lv_at hl 0 rfl) ?_
          refine hC_13 C hS in_X1_lives_X1 lk_X1_lives_25 dX1_lives_74 ?_
          refine lv_iload hx hb dX1_lives_77 (lv_at hl 6 rfl) ?_
          obtain ⟨hck, hf⟩ := cs hf
          refine lC_13 C hS (f := (z.2 13)) rfl (i := x6) hck dX1_lives_79 ?_
          refine lv_aload_n hx hb dX1_lives_80 rfl (lv_at hl 0 rfl) ?_
          refine hC_13 C hS in_X1_lives_X1 lk_X1_lives_25 dX1_lives_81 ?_
          refine lv_iload_n hx hb dX1_lives_84 rfl (lv_at hl 1 rfl) ?_
          obtain ⟨hck, hf⟩ := cs hf
          refine lC_13 C hS (f := (z.2 13)) rfl (i := x1) hck dX1_lives_85 ?_
          refine lv_icmp_le (x := ((z.2 13) (Int32.toNatClampNeg x6))) (y := ((z.2 13) (Int32.toNatClampNeg x1))) (tgt := 124) hx hb dX1_lives_86 (by decide) (fun hc => ?_) (fun hc => ?_)
          · replace hf := it_t hc hf
            refine lv_iload hx hb dX1_lives_124 (lv_at hl 6 rfl) ?_
            refine lv_iload_n hx hb dX1_lives_126 rfl (lv_at hl 1 rfl) ?_
            refine lv_icmp_ge (x := x6) (y := x1) (tgt := 132) hx hb dX1_lives_127 (by decide) (fun hc => ?_) (fun hc => ?_)
            · replace hf := it_t hc hf
              refine lv_iinc (v := (x6 + 1)) (lv' := [(6, .int (x6 + 1)), (0, .ref (ad 2)), (1, .int x1), (2, .ref (ad 3)), (3, .int x3), (4, .int x4), (5, .int x5)]) hx hb dX1_lives_132 hl (k := 6) rfl (congrArg (fun q => x6 + q) (by decide : Int32.ofInt 1 = (1 : Int32))) (by decide) rfl (fun ls hl => ?_)
              refine lv_goto (tgt := 23) hx hb dX1_lives_135 (by decide) ?_
              exact ih x1 x3 x4 x5 (x6 + 1) r hf H locs ls hS (lv_sub hl [1, 2, 3, 4, 5, 6, 0] rfl)
            · replace hf := it_f hc hf
              refine lv_iconst (v := 0) hx hb dX1_lives_130 (by decide) ?_
              cases hf
              exact rtz C hS (by decide) dX1_lives_131
          · replace hf := it_f hc hf
            refine lv_iload hx hb dX1_lives_89 (lv_at hl 4 rfl) ?_
            refine lv_if_eq (x := x4) (tgt := 109) hx hb dX1_lives_91 (by decide) (fun hc => ?_) (fun hc => ?_)
            · replace hf := it_t hc hf
              refine lv_aload_n hx hb dX1_lives_109 rfl (lv_at hl 0 rfl) ?_
              refine hC_13 C hS in_X1_lives_X1 lk_X1_lives_25 dX1_lives_110 ?_
              refine lv_iload hx hb dX1_lives_113 (lv_at hl 6 rfl) ?_
              obtain ⟨hck, hf⟩ := cs hf
              refine lC_13 C hS (f := (z.2 13)) rfl (i := x6) hck dX1_lives_115 ?_
              exact w_ix_lives_3_b116 C k z ih x1 x3 x6 ((z.2 13) (Int32.toNatClampNeg x6)) r hf H locs ls hS (lv_sub hl [0, 1, 2, 3, 6] rfl)
            · replace hf := it_f hc hf
              refine lv_iload hx hb dX1_lives_94 (lv_at hl 5 rfl) ?_
              refine lv_aload_n hx hb dX1_lives_96 rfl (lv_at hl 0 rfl) ?_
              refine hC_13 C hS in_X1_lives_X1 lk_X1_lives_25 dX1_lives_97 ?_
              refine lv_iload hx hb dX1_lives_100 (lv_at hl 6 rfl) ?_
              obtain ⟨hck, hf⟩ := cs hf
              refine lC_13 C hS (f := (z.2 13)) rfl (i := x6) hck dX1_lives_102 ?_
              refine rmin (x := x5) (z := ((z.2 13) (Int32.toNatClampNeg x6))) C hl.1 ml_X1_lives_min ms_X1_lives_min mi_X1_lives_min mc_X1_lives_min (Nat.le_of_ble_eq_true rfl) (Nat.le_of_ble_eq_true rfl) dX1_lives_103 ?_
              refine lv_goto (tgt := 116) hx hb dX1_lives_106 (by decide) ?_
              exact w_ix_lives_3_b116 C k z ih x1 x3 x6 (if ((z.2 13) (Int32.toNatClampNeg x6)) < x5 then ((z.2 13) (Int32.toNatClampNeg x6)) else x5) r hf H locs ls hS (lv_sub hl [0, 1, 2, 3, 6] rfl)
        · replace hf := it_f hc hf
          refine lv_iconst (v := 1) hx hb dX1_lives_68 (by decide) ?_
          refine lv_istore_n (lv' := [(3, .int 1), (0, .ref (ad 2)), (1, .int x1), (2, .ref (ad 3)), (4, .int x4), (5, .int x5), (6, .int x6)]) hx hb dX1_lives_69 rfl hl (by decide) rfl (fun ls hl => ?_)
          refine lv_goto (tgt := 132) hx hb dX1_lives_70 (by decide) ?_
          refine lv_iinc (v := (x6 + 1)) (lv' := [(6, .int (x6 + 1)), (3, .int 1), (0, .ref (ad 2)), (1, .int x1), (2, .ref (ad 3)), (4, .int x4), (5, .int x5)]) hx hb dX1_lives_132 hl (k := 6) rfl (congrArg (fun q => x6 + q) (by decide : Int32.ofInt 1 = (1 : Int32))) (by decide) rfl (fun ls hl => ?_)
          refine lv_goto (tgt := 23) hx hb dX1_lives_135 (by decide) ?_
          exact ih x1 1 x4 x5 (x6 + 1) r hf H locs ls hS (lv_sub hl [2, 3, 4, 1, 5, 6, 0] rfl)
      · replace hf := it_f hc hf
        refine lv_goto (tgt := 132) hx hb dX1_lives_49 (by decide) ?_
        refine lv_iinc (v := (x6 + 1)) (lv' := [(6, .int (x6 + 1)), (0, .ref (ad 2)), (1, .int x1), (2, .ref (ad 3)), (3, .int x3), (4, .int x4), (5, .int x5)]) hx hb dX1_lives_132 hl (k := 6) rfl (congrArg (fun q => x6 + q) (by decide : Int32.ofInt 1 = (1 : Int32))) (by decide) rfl (fun ls hl => ?_)
        refine lv_goto (tgt := 23) hx hb dX1_lives_135 (by decide) ?_
        exact ih x1 x3 x4 x5 (x6 + 1) r hf H locs ls hS (lv_sub hl [1, 2, 3, 4, 5, 6, 0] rfl)
set_option maxHeartbeats 4000000 in
set_option maxRecDepth 100000 in
theorem w_ix_lives_3_0 {p : Program} {l : Launch} {e : Env} {s : State} {m : MethodId} {args : Array Value} {below : List Frame} {meth : Method} {c : Code} {D : va_G} {w0 : va_W} {n : Nat} {ad : Nat → Nat} {cA : Nat → ClassId} (C : Cx p s m args meth c cX1_lives 7 (some .boolean) RX1 wsX1_lives D (tC cA)) (k : Nat) (z : SS) (x1 : Int32) (r : Int32) (hf : ix_lives_3 n k z x1 = some r) : ∀ (H : Heap) (locs : List Loc) (ls : Array Slot), St D (va_A w0 s.heap.size) s.heap (wC n ad cA z) H locs → lv_has ls 7 [(0, .ref (ad 2)), (1, .int x1), (2, .ref (ad 3))] → W p l e R_ix_lives_3 s m args below meth c H locs 0 0 (MQ below (kI D (tC cA) r w0 (wC n ad cA z) s.heap.size) args s 0 0 (va_A w0 s.heap.size)) (F0 m 0 ls []) := by
  obtain ⟨hx, hb, hr, hml, hown, hts, hlk, hK⟩ := id C
  intro H locs ls hS hl
  have hf : (if ck x1 (n * 12) = true then (if ((z.2 12) (Int32.toNatClampNeg x1)) = (-1) then some 0 else ix_lives_3_b23 n k z k x1 0 0 0 0) else none) = some r := hf
  refine lv_aload_n hx hb dX1_lives_0 rfl (lv_at hl 0 rfl) ?_
  refine hC_12 C hS in_X1_lives_X1 lk_X1_lives_22 dX1_lives_1 ?_
  refine lv_iload_n hx hb dX1_lives_4 rfl (lv_at hl 1 rfl) ?_
  obtain ⟨hck, hf⟩ := cs hf
  refine lC_12 C hS (f := (z.2 12)) rfl (i := x1) hck dX1_lives_5 ?_
  refine lv_iconst (v := (-1)) hx hb dX1_lives_6 (by decide) ?_
  refine lv_icmp_ne (x := ((z.2 12) (Int32.toNatClampNeg x1))) (y := (-1)) (tgt := 12) hx hb dX1_lives_7 (by decide) (fun hc => ?_) (fun hc => ?_)
  · replace hf := it_f hc hf
    refine lv_iconst (v := 0) hx hb dX1_lives_12 (by decide) ?_
    refine lv_istore_n (lv' := [(3, .int 0), (0, .ref (ad 2)), (1, .int x1), (2, .ref (ad 3))]) hx hb dX1_lives_13 rfl hl (by decide) rfl (fun ls hl => ?_)
    refine lv_iconst (v := 0) hx hb dX1_lives_14 (by decide) ?_
    refine lv_istore (lv' := [(4, .int 0), (3, .int 0), (0, .ref (ad 2)), (1, .int x1), (2, .ref (ad 3))]) hx hb dX1_lives_15 hl (by decide) rfl (fun ls hl => ?_)
    refine lv_iconst (v := 0) hx hb dX1_lives_17 (by decide) ?_
    refine lv_istore (lv' := [(5, .int 0), (4, .int 0), (3, .int 0), (0, .ref (ad 2)), (1, .int x1), (2, .ref (ad 3))]) hx hb dX1_lives_18 hl (by decide) rfl (fun ls hl => ?_)
    refine lv_iconst (v := 0) hx hb dX1_lives_20 (by decide) ?_
    refine lv_istore (lv' := [(6, .int 0), (5, .int 0), (4, .int 0), (3, .int 0), (0, .ref (ad 2)), (1, .int x1), (2, .ref (ad 3))]) hx hb dX1_lives_21 hl (by decide) rfl (fun ls hl => ?_)
    exact w_ix_lives_3_b23 C k z k x1 0 0 0 0 r hf H locs ls hS (lv_sub hl [4, 5, 6, 3, 2, 1, 0] rfl)
  · replace hf := it_t hc hf
    refine lv_iconst (v := 0) hx hb dX1_lives_10 (by decide) ?_
    cases hf
    exact rtz C hS (by decide) dX1_lives_11
set_option maxHeartbeats 4000000 in
set_option maxRecDepth 100000 in
theorem c_ix_lives_3 (l : Launch) (D : va_G) (n : Nat) (ad : Nat → Nat) (cA : Nat → ClassId) (k : Nat) (z : SS) (x1 : Int32) (r : Int32) (hf : ix_lives_3 n k z x1 = some r) (sz : Nat) : Met l yX1_lives wsX1_lives R_ix_lives_3 (kP D (tC cA) [.ref (ad 2), .int x1, .ref (ad 3)] (wC n ad cA z) sz) (kI D (tC cA) r (wC n ad cA z) (wC n ad cA z) sz) 0 0 (va_A (wC n ad cA z) sz) := by
  refine ent (by decide) rfl rfl (Nat.le_of_ble_eq_true rfl) (fun p e s m args below meth c hsz C hS ls hl => ?_)
  subst hsz
  exact w_ix_lives_3_0 C k z x1 r hf s.heap [] ls hS hl
-- ix_livingBytes_3: int livingBytes(int, GraveSegments$Snapshots);
def R_ix_livingBytes_3 : Room := { frames := 2, cells := 0, slots := 0, locals := 49 }
def ix_livingBytes_3_b8 (n : Nat) (k : Nat) (z : SS) : Nat → Int32 → Int32 → Int32 → Option Int32
  | 0, _, _, _ => none
  | fu + 1, x1, x3, x4 => (if ((x1 + 1) * 12) ≤ x4 then some x3 else (bo (ix_lives_3 n k z x4) fun r_1 => (if r_1 = 0 then ix_livingBytes_3_b8 n k z fu x1 x3 (x4 + 1) else (bo (ix_bytesOf n k z x4) fun r_2 => ix_livingBytes_3_b8 n k z fu x1 (x3 + r_2) (x4 + 1)))))
def ix_livingBytes_3 (n : Nat) (k : Nat) (z : SS) (x1 : Int32) : Option Int32 :=
  ix_livingBytes_3_b8 n k z k x1 0 (x1 * 12)
set_option maxHeartbeats 4000000 in
set_option maxRecDepth 100000 in
theorem w_ix_livingBytes_3_b8 {p : Program} {l : Launch} {e : Env} {s : State} {m : MethodId} {args : Array Value} {below : List Frame} {meth : Method} {c : Code} {D : va_G} {w0 : va_W} {n : Nat} {ad : Nat → Nat} {cA : Nat → ClassId} (C : Cx p s m args meth c cX1_livingBytes 5 (some .int) RX1 wsX1_livingBytes D (tC cA)) (k : Nat) (z : SS) : ∀ (fu : Nat) (x1 : Int32) (x3 : Int32) (x4 : Int32) (r : Int32), ix_livingBytes_3_b8 n k z fu x1 x3 x4 = some r → ∀ (H : Heap) (locs : List Loc) (ls : Array Slot), St D (va_A w0 s.heap.size) s.heap (wC n ad cA z) H locs → lv_has ls 5 [(0, .ref (ad 2)), (1, .int x1), (2, .ref (ad 3)), (3, .int x3), (4, .int x4)] → W p l e R_ix_livingBytes_3 s m args below meth c H locs 0 0 (MQ below (kI D (tC cA) r w0 (wC n ad cA z) s.heap.size) args s 0 0 (va_A w0 s.heap.size)) (F0 m 8 ls []) := by
  obtain ⟨hx, hb, hr, hml, hown, hts, hlk, hK⟩ := id C
  intro fu
  induction fu with
  | zero =>
    intro x1 x3 x4 r hf
    cases (show (none : Option Int32) = some r from hf)
  | succ fu ih =>
    intro x1 x3 x4 r hf H locs ls hS hl
    have hf : (if ((x1 + 1) * 12) ≤ x4 then some x3 else (bo (ix_lives_3 n k z x4) fun r_1 => (if r_1 = 0 then ix_livingBytes_3_b8 n k z fu x1 x3 (x4 + 1) else (bo (ix_bytesOf n k z x4) fun r_2 => ix_livingBytes_3_b8 n k z fu x1 (x3 + r_2) (x4 + 1))))) = some r := hf
    refine lv_iload hx hb dX1_livingBytes_8 (lv_at hl 4 rfl) ?_
    refine lv_iload_n hx hb dX1_livingBytes_10 rfl (lv_at hl 1 rfl) ?_
    refine lv_iconst (v := 1) hx hb dX1_livingBytes_11 (by decide) ?_
    refine lv_iadd (x := x1) (y := 1) hx hb dX1_livingBytes_12 ?_
    refine lv_bipush (v := 12) hx hb dX1_livingBytes_13 (by decide) ?_
    refine lv_imul (x := (x1 + 1)) (y := 12) hx hb dX1_livingBytes_15 ?_
    refine lv_icmp_ge (x := x4) (y := ((x1 + 1) * 12)) (tgt := 44) hx hb dX1_livingBytes_16 (by decide) (fun hc => ?_) (fun hc => ?_)
    · replace hf := it_t hc hf
      refine lv_iload_n hx hb dX1_livingBytes_44 rfl (lv_at hl 3 rfl) ?_
      cases hf
      exact rti C hS dX1_livingBytes_45
    · replace hf := it_f hc hf
      refine lv_aload_n hx hb dX1_livingBytes_19 rfl (lv_at hl 0 rfl) ?_
      refine lv_iload hx hb dX1_livingBytes_20 (lv_at hl 4 rfl) ?_
      refine lv_aload_n hx hb dX1_livingBytes_22 rfl (lv_at hl 2 rfl) ?_
      obtain ⟨r_1, hcl, hf⟩ := bo_s hf
      refine rcVi (n := 2) (As := [.int x4, .ref (ad 3)]) (rest := []) (q0 := 2) (w' := (wC n ad cA z)) C hS (fun sz => c_ix_lives_3 l D n ad cA k z x4 r_1 hcl sz) gX1_livingBytes_X1_lives rfl ⟨rfl, rfl⟩ (by decide +kernel) ⟨Nat.le_of_ble_eq_true rfl, Nat.le_of_ble_eq_true rfl⟩ oC_2 rfl rfl hl.1 rfl (Nat.le_of_ble_eq_true rfl) dX1_livingBytes_23 (fun H locs hS => ?_)
      refine lv_if_eq (x := r_1) (tgt := 38) hx hb dX1_livingBytes_26 (by decide) (fun hc => ?_) (fun hc => ?_)
      · replace hf := it_t hc hf
        refine lv_iinc (v := (x4 + 1)) (lv' := [(4, .int (x4 + 1)), (0, .ref (ad 2)), (1, .int x1), (2, .ref (ad 3)), (3, .int x3)]) hx hb dX1_livingBytes_38 hl (k := 4) rfl (congrArg (fun q => x4 + q) (by decide : Int32.ofInt 1 = (1 : Int32))) (by decide) rfl (fun ls hl => ?_)
        refine lv_goto (tgt := 8) hx hb dX1_livingBytes_41 (by decide) ?_
        exact ih x1 x3 (x4 + 1) r hf H locs ls hS (lv_sub hl [1, 2, 3, 4, 0] rfl)
      · replace hf := it_f hc hf
        refine lv_iload_n hx hb dX1_livingBytes_29 rfl (lv_at hl 3 rfl) ?_
        refine lv_aload_n hx hb dX1_livingBytes_30 rfl (lv_at hl 0 rfl) ?_
        refine lv_iload hx hb dX1_livingBytes_31 (lv_at hl 4 rfl) ?_
        obtain ⟨r_2, hcl, hf⟩ := bo_s hf
        refine rcVi (n := 1) (As := [.int x4]) (rest := [.int x3]) (q0 := 2) (w' := (wC n ad cA z)) C hS (fun sz => c_ix_bytesOf l D n ad cA k z x4 r_2 hcl sz) gX1_livingBytes_X1_bytesOf rfl ⟨rfl, rfl⟩ (by decide +kernel) ⟨Nat.le_of_ble_eq_true rfl, Nat.le_of_ble_eq_true rfl⟩ oC_2 rfl rfl hl.1 rfl (Nat.le_of_ble_eq_true rfl) dX1_livingBytes_33 (fun H locs hS => ?_)
        refine lv_iadd (x := x3) (y := r_2) hx hb dX1_livingBytes_36 ?_
        refine lv_istore_n (lv' := [(3, .int (x3 + r_2)), (0, .ref (ad 2)), (1, .int x1), (2, .ref (ad 3)), (4, .int x4)]) hx hb dX1_livingBytes_37 rfl hl (by decide) rfl (fun ls hl => ?_)
        refine lv_iinc (v := (x4 + 1)) (lv' := [(4, .int (x4 + 1)), (3, .int (x3 + r_2)), (0, .ref (ad 2)), (1, .int x1), (2, .ref (ad 3))]) hx hb dX1_livingBytes_38 hl (k := 4) rfl (congrArg (fun q => x4 + q) (by decide : Int32.ofInt 1 = (1 : Int32))) (by decide) rfl (fun ls hl => ?_)
        refine lv_goto (tgt := 8) hx hb dX1_livingBytes_41 (by decide) ?_
        exact ih x1 (x3 + r_2) (x4 + 1) r hf H locs ls hS (lv_sub hl [2, 3, 4, 1, 0] rfl)
set_option maxHeartbeats 4000000 in
set_option maxRecDepth 100000 in
theorem w_ix_livingBytes_3_0 {p : Program} {l : Launch} {e : Env} {s : State} {m : MethodId} {args : Array Value} {below : List Frame} {meth : Method} {c : Code} {D : va_G} {w0 : va_W} {n : Nat} {ad : Nat → Nat} {cA : Nat → ClassId} (C : Cx p s m args meth c cX1_livingBytes 5 (some .int) RX1 wsX1_livingBytes D (tC cA)) (k : Nat) (z : SS) (x1 : Int32) (r : Int32) (hf : ix_livingBytes_3 n k z x1 = some r) : ∀ (H : Heap) (locs : List Loc) (ls : Array Slot), St D (va_A w0 s.heap.size) s.heap (wC n ad cA z) H locs → lv_has ls 5 [(0, .ref (ad 2)), (1, .int x1), (2, .ref (ad 3))] → W p l e R_ix_livingBytes_3 s m args below meth c H locs 0 0 (MQ below (kI D (tC cA) r w0 (wC n ad cA z) s.heap.size) args s 0 0 (va_A w0 s.heap.size)) (F0 m 0 ls []) := by
  obtain ⟨hx, hb, hr, hml, hown, hts, hlk, hK⟩ := id C
  intro H locs ls hS hl
  have hf : ix_livingBytes_3_b8 n k z k x1 0 (x1 * 12) = some r := hf
  refine lv_iconst (v := 0) hx hb dX1_livingBytes_0 (by decide) ?_
  refine lv_istore_n (lv' := [(3, .int 0), (0, .ref (ad 2)), (1, .int x1), (2, .ref (ad 3))]) hx hb dX1_livingBytes_1 rfl hl (by decide) rfl (fun ls hl => ?_)
  refine lv_iload_n hx hb dX1_livingBytes_2 rfl (lv_at hl 2 rfl) ?_
  refine lv_bipush (v := 12) hx hb dX1_livingBytes_3 (by decide) ?_
  refine lv_imul (x := x1) (y := 12) hx hb dX1_livingBytes_5 ?_
  refine lv_istore (lv' := [(4, .int (x1 * 12)), (3, .int 0), (0, .ref (ad 2)), (1, .int x1), (2, .ref (ad 3))]) hx hb dX1_livingBytes_6 hl (by decide) rfl (fun ls hl => ?_)
  exact w_ix_livingBytes_3_b8 C k z k x1 0 (x1 * 12) r hf H locs ls hS (lv_sub hl [2, 3, 4, 1, 0] rfl)
set_option maxHeartbeats 4000000 in
set_option maxRecDepth 100000 in
theorem c_ix_livingBytes_3 (l : Launch) (D : va_G) (n : Nat) (ad : Nat → Nat) (cA : Nat → ClassId) (k : Nat) (z : SS) (x1 : Int32) (r : Int32) (hf : ix_livingBytes_3 n k z x1 = some r) (sz : Nat) : Met l yX1_livingBytes wsX1_livingBytes R_ix_livingBytes_3 (kP D (tC cA) [.ref (ad 2), .int x1, .ref (ad 3)] (wC n ad cA z) sz) (kI D (tC cA) r (wC n ad cA z) (wC n ad cA z) sz) 0 0 (va_A (wC n ad cA z) sz) := by
  refine ent (by decide) rfl rfl (Nat.le_of_ble_eq_true rfl) (fun p e s m args below meth c hsz C hS ls hl => ?_)
  subst hsz
  exact w_ix_livingBytes_3_0 C k z x1 r hf s.heap [] ls hS hl
-- gs_feed: public int feed(int, int);
theorem lk_X5_feed_57 : Cond.fieldLink RX5 57 (TX5 5).1 (TX5 5).2.1 (TX5 5).2.2.1 ∈ wsX5_feed := by decide +kernel
theorem in_X5_feed_X5 : ∀ x ∈ u_ws RX5 TX5 12, x ∈ wsX5_feed := by decide +kernel
theorem lk_X5_feed_50 : Cond.fieldLink RX5 50 (TX5 4).1 (TX5 4).2.1 (TX5 4).2.2.1 ∈ wsX5_feed := by decide +kernel
def R_gs_feed : Room := { frames := 0, cells := 0, slots := 0, locals := 0 }
def gs_feed_b30 (n : Nat) (k : Nat) : Nat → SS → Int32 → Int32 → Option (Int32 × SS)
  | 0, _, _, _ => none
  | fu + 1, z, x1, x3 => (if x3 < 0 then some ((z.1 5), z) else (if ck (z.1 5) 20 = true then gs_feed_b30 n k fu (si (sa z 5 (Int32.toNatClampNeg (z.1 5)) ((jushr x1 (8 * x3)) &&& 255)) 5 ((z.1 5) + 1)) x1 (x3 + (-1)) else none))
def gs_feed (n : Nat) (k : Nat) (z : SS) (x1 : Int32) (x2 : Int32) : Option (Int32 × SS) :=
  (if x2 < 0 then some ((-2), z) else (if x2 ≤ 4 then (if ((z.1 5) + x2) ≤ 20 then gs_feed_b30 n k k z x1 (x2 - 1) else some ((-4), z)) else some ((-2), z)))
set_option maxHeartbeats 4000000 in
set_option maxRecDepth 100000 in
theorem w_gs_feed_b30 {p : Program} {l : Launch} {e : Env} {s : State} {m : MethodId} {args : Array Value} {below : List Frame} {meth : Method} {c : Code} {D : va_G} {w0 : va_W} {n : Nat} {ad : Nat → Nat} {cA : Nat → ClassId} (C : Cx p s m args meth c cX5_feed 4 (some .int) RX5 wsX5_feed D (tC cA)) (k : Nat) : ∀ (fu : Nat) (z : SS) (x1 : Int32) (x3 : Int32) (r : Int32) (z' : SS), gs_feed_b30 n k fu z x1 x3 = some (r, z') → ∀ (H : Heap) (locs : List Loc) (ls : Array Slot), St D (va_A w0 s.heap.size) s.heap (wC n ad cA z) H locs → lv_has ls 4 [(0, .ref (ad 0)), (1, .int x1), (3, .int x3)] → W p l e R_gs_feed s m args below meth c H locs 0 0 (MQ below (kI D (tC cA) r w0 (wC n ad cA z') s.heap.size) args s 0 0 (va_A w0 s.heap.size)) (F0 m 30 ls []) := by
  obtain ⟨hx, hb, hr, hml, hown, hts, hlk, hK⟩ := id C
  intro fu
  induction fu with
  | zero =>
    intro z x1 x3 r z' hf
    cases (show (none : Option (Int32 × SS)) = some (r, z') from hf)
  | succ fu ih =>
    intro z x1 x3 r z' hf H locs ls hS hl
    have hf : (if x3 < 0 then some ((z.1 5), z) else (if ck (z.1 5) 20 = true then gs_feed_b30 n k fu (si (sa z 5 (Int32.toNatClampNeg (z.1 5)) ((jushr x1 (8 * x3)) &&& 255)) 5 ((z.1 5) + 1)) x1 (x3 + (-1)) else none)) = some (r, z') := hf
    refine lv_iload_n hx hb dX5_feed_30 rfl (lv_at hl 2 rfl) ?_
    refine lv_if_lt (x := x3) (tgt := 69) hx hb dX5_feed_31 (by decide) (fun hc => ?_) (fun hc => ?_)
    · replace hf := it_t hc hf
      refine lv_aload_n hx hb dX5_feed_69 rfl (lv_at hl 0 rfl) ?_
      refine gC_5 C hS in_X5_feed_X5 lk_X5_feed_57 (v := (z.1 5)) rfl dX5_feed_70 ?_
      cases hf
      exact rti C hS dX5_feed_73
    · replace hf := it_f hc hf
      refine lv_aload_n hx hb dX5_feed_34 rfl (lv_at hl 0 rfl) ?_
      refine hC_5 C hS in_X5_feed_X5 lk_X5_feed_50 dX5_feed_35 ?_
      refine lv_aload_n hx hb dX5_feed_38 rfl (lv_at hl 0 rfl) ?_
      refine gC_5 C hS in_X5_feed_X5 lk_X5_feed_57 (v := (z.1 5)) rfl dX5_feed_39 ?_
      refine lv_iload_n hx hb dX5_feed_42 rfl (lv_at hl 1 rfl) ?_
      refine lv_bipush (v := 8) hx hb dX5_feed_43 (by decide) ?_
      refine lv_iload_n hx hb dX5_feed_45 rfl (lv_at hl 2 rfl) ?_
      refine lv_imul (x := 8) (y := x3) hx hb dX5_feed_46 ?_
      refine lv_iushr (x := x1) (y := (8 * x3)) (v := (jushr x1 (8 * x3))) hx hb dX5_feed_47 rfl ?_
      refine lv_sipush (v := 255) hx hb dX5_feed_48 (by decide) ?_
      refine lv_iand (x := (jushr x1 (8 * x3))) (y := 255) hx hb dX5_feed_51 ?_
      obtain ⟨hck, hf⟩ := cs hf
      refine sC_5 C hS (i := (z.1 5)) (x := ((jushr x1 (8 * x3)) &&& 255)) hck dX5_feed_52 (fun H locs hS => ?_)
      refine lv_aload_n hx hb dX5_feed_53 rfl (lv_at hl 0 rfl) ?_
      refine lv_dup hx hb dX5_feed_54 rfl ?_
      refine gC_5 C hS in_X5_feed_X5 lk_X5_feed_57 (v := (z.1 5)) (sa_i.trans rfl) dX5_feed_55 ?_
      refine lv_iconst (v := 1) hx hb dX5_feed_58 (by decide) ?_
      refine lv_iadd (x := (z.1 5)) (y := 1) hx hb dX5_feed_59 ?_
      refine pC_5 C hS in_X5_feed_X5 lk_X5_feed_57 (v := ((z.1 5) + 1)) rfl rfl dX5_feed_60 (fun H locs hS => ?_)
      refine lv_iinc (v := (x3 + (-1))) (lv' := [(3, .int (x3 + (-1))), (0, .ref (ad 0)), (1, .int x1)]) hx hb dX5_feed_63 hl (k := 2) rfl (congrArg (fun q => x3 + q) (by decide : Int32.ofInt (-1) = ((-1) : Int32))) (by decide) rfl (fun ls hl => ?_)
      refine lv_goto (tgt := 30) hx hb dX5_feed_66 (by decide) ?_
      exact ih (si (sa z 5 (Int32.toNatClampNeg (z.1 5)) ((jushr x1 (8 * x3)) &&& 255)) 5 ((z.1 5) + 1)) x1 (x3 + (-1)) r z' hf H locs ls hS (lv_sub hl [1, 2, 0] rfl)
set_option maxHeartbeats 4000000 in
set_option maxRecDepth 100000 in
theorem w_gs_feed_0 {p : Program} {l : Launch} {e : Env} {s : State} {m : MethodId} {args : Array Value} {below : List Frame} {meth : Method} {c : Code} {D : va_G} {w0 : va_W} {n : Nat} {ad : Nat → Nat} {cA : Nat → ClassId} (C : Cx p s m args meth c cX5_feed 4 (some .int) RX5 wsX5_feed D (tC cA)) (k : Nat) (z : SS) (x1 : Int32) (x2 : Int32) (r : Int32) (z' : SS) (hf : gs_feed n k z x1 x2 = some (r, z')) : ∀ (H : Heap) (locs : List Loc) (ls : Array Slot), St D (va_A w0 s.heap.size) s.heap (wC n ad cA z) H locs → lv_has ls 4 [(0, .ref (ad 0)), (1, .int x1), (2, .int x2)] → W p l e R_gs_feed s m args below meth c H locs 0 0 (MQ below (kI D (tC cA) r w0 (wC n ad cA z') s.heap.size) args s 0 0 (va_A w0 s.heap.size)) (F0 m 0 ls []) := by
  obtain ⟨hx, hb, hr, hml, hown, hts, hlk, hK⟩ := id C
  intro H locs ls hS hl
  have hf : (if x2 < 0 then some ((-2), z) else (if x2 ≤ 4 then (if ((z.1 5) + x2) ≤ 20 then gs_feed_b30 n k k z x1 (x2 - 1) else some ((-4), z)) else some ((-2), z))) = some (r, z') := hf
  refine lv_iload_n hx hb dX5_feed_0 rfl (lv_at hl 2 rfl) ?_
  refine lv_if_lt (x := x2) (tgt := 9) hx hb dX5_feed_1 (by decide) (fun hc => ?_) (fun hc => ?_)
  · replace hf := it_t hc hf
    refine lv_bipush (v := (-2)) hx hb dX5_feed_9 (by decide) ?_
    cases hf
    exact rti C hS dX5_feed_11
  · replace hf := it_f hc hf
    refine lv_iload_n hx hb dX5_feed_4 rfl (lv_at hl 2 rfl) ?_
    refine lv_iconst (v := 4) hx hb dX5_feed_5 (by decide) ?_
    refine lv_icmp_le (x := x2) (y := 4) (tgt := 12) hx hb dX5_feed_6 (by decide) (fun hc => ?_) (fun hc => ?_)
    · replace hf := it_t hc hf
      refine lv_aload_n hx hb dX5_feed_12 rfl (lv_at hl 0 rfl) ?_
      refine gC_5 C hS in_X5_feed_X5 lk_X5_feed_57 (v := (z.1 5)) rfl dX5_feed_13 ?_
      refine lv_iload_n hx hb dX5_feed_16 rfl (lv_at hl 2 rfl) ?_
      refine lv_iadd (x := (z.1 5)) (y := x2) hx hb dX5_feed_17 ?_
      refine lv_bipush (v := 20) hx hb dX5_feed_18 (by decide) ?_
      refine lv_icmp_le (x := ((z.1 5) + x2)) (y := 20) (tgt := 26) hx hb dX5_feed_20 (by decide) (fun hc => ?_) (fun hc => ?_)
      · replace hf := it_t hc hf
        refine lv_iload_n hx hb dX5_feed_26 rfl (lv_at hl 2 rfl) ?_
        refine lv_iconst (v := 1) hx hb dX5_feed_27 (by decide) ?_
        refine lv_isub (x := x2) (y := 1) hx hb dX5_feed_28 ?_
        refine lv_istore_n (lv' := [(3, .int (x2 - 1)), (0, .ref (ad 0)), (1, .int x1), (2, .int x2)]) hx hb dX5_feed_29 rfl hl (by decide) rfl (fun ls hl => ?_)
        exact w_gs_feed_b30 C k k z x1 (x2 - 1) r z' hf H locs ls hS (lv_sub hl [1, 2, 0] rfl)
      · replace hf := it_f hc hf
        refine lv_bipush (v := (-4)) hx hb dX5_feed_23 (by decide) ?_
        cases hf
        exact rti C hS dX5_feed_25
    · replace hf := it_f hc hf
      refine lv_bipush (v := (-2)) hx hb dX5_feed_9 (by decide) ?_
      cases hf
      exact rti C hS dX5_feed_11
set_option maxHeartbeats 4000000 in
set_option maxRecDepth 100000 in
theorem c_gs_feed (l : Launch) (D : va_G) (n : Nat) (ad : Nat → Nat) (cA : Nat → ClassId) (k : Nat) (z : SS) (x1 : Int32) (x2 : Int32) (r : Int32) (z' : SS) (hf : gs_feed n k z x1 x2 = some (r, z')) (sz : Nat) : Met l yX5_feed wsX5_feed R_gs_feed (kP D (tC cA) [.ref (ad 0), .int x1, .int x2] (wC n ad cA z) sz) (kI D (tC cA) r (wC n ad cA z) (wC n ad cA z') sz) 0 0 (va_A (wC n ad cA z) sz) := by
  refine ent (by decide) rfl rfl (Nat.le_of_ble_eq_true rfl) (fun p e s m args below meth c hsz C hS ls hl => ?_)
  subst hsz
  exact w_gs_feed_0 C k z x1 x2 r z' hf s.heap [] ls hS hl
-- gs_writeRow: private int writeRow(int, int, int);
theorem lk_X5_writeRow_44 : Cond.fieldLink RX5 44 (TX5 3).1 (TX5 3).2.1 (TX5 3).2.2.1 ∈ wsX5_writeRow := by decide +kernel
theorem in_X5_writeRow_X5 : ∀ x ∈ u_ws RX5 TX5 12, x ∈ wsX5_writeRow := by decide +kernel
theorem lk_X5_writeRow_198 : Cond.fieldLink RX5 198 (TX0 1).1 (TX0 1).2.1 (TX0 1).2.2.1 ∈ wsX5_writeRow := by decide +kernel
theorem in_X5_writeRow_X0 : ∀ x ∈ u_ws RX0 TX0 2, x ∈ wsX5_writeRow := by decide +kernel
theorem lk_X5_writeRow_30 : Cond.fieldLink RX5 30 (TX5 1).1 (TX5 1).2.1 (TX5 1).2.2.1 ∈ wsX5_writeRow := by decide +kernel
theorem lk_X5_writeRow_23 : Cond.fieldLink RX5 23 (TX5 0).1 (TX5 0).2.1 (TX5 0).2.2.1 ∈ wsX5_writeRow := by decide +kernel
theorem lk_X5_writeRow_78 : Cond.fieldLink RX5 78 (TX3 1).1 (TX3 1).2.1 (TX3 1).2.2.1 ∈ wsX5_writeRow := by decide +kernel
theorem in_X5_writeRow_X3 : ∀ x ∈ u_ws RX3 TX3 6, x ∈ wsX5_writeRow := by decide +kernel
theorem lk_X5_writeRow_88 : Cond.fieldLink RX5 88 (TX5 8).1 (TX5 8).2.1 (TX5 8).2.2.1 ∈ wsX5_writeRow := by decide +kernel
theorem lk_X5_writeRow_201 : Cond.fieldLink RX5 201 (TX0 0).1 (TX0 0).2.1 (TX0 0).2.2.1 ∈ wsX5_writeRow := by decide +kernel
theorem lc_X5_writeRow_184 : Cond.constant RX5 184 2147483647 ∈ wsX5_writeRow := by decide +kernel
theorem lk_X5_writeRow_50 : Cond.fieldLink RX5 50 (TX5 4).1 (TX5 4).2.1 (TX5 4).2.2.1 ∈ wsX5_writeRow := by decide +kernel
theorem lk_X5_writeRow_168 : Cond.fieldLink RX5 168 (TX3 5).1 (TX3 5).2.1 (TX3 5).2.2.1 ∈ wsX5_writeRow := by decide +kernel
def R_gs_writeRow : Room := { frames := 3, cells := 0, slots := 0, locals := 63 }
def gs_writeRow_b77 (n : Nat) (k : Nat) : Nat → SS → Int32 → Int32 → Int32 → Option (Int32 × SS)
  | 0, _, _, _, _ => none
  | fu + 1, z, x4, x5, x6 => (if (z.1 41) ≤ x6 then (bo (ix_add_7 n k z x4 x5) fun z_1 => some (((z_1.1 8) + 1), (si z_1 8 ((z_1.1 8) + 1)))) else (if ck x6 36 = true then (bo (sg_append n k z ((z.2 18) (Int32.toNatClampNeg x6))) fun z_2 => gs_writeRow_b77 n k fu z_2 x4 x5 (x6 + 1)) else none))
def gs_writeRow (n : Nat) (k : Nat) (z : SS) (x1 : Int32) (x2 : Int32) (x3 : Int32) : Option (Int32 × SS) :=
  (if (z.1 8) = 2147483647 then some ((-4), z) else (bo (rf_bytesWith n k z x3) fun r_1 => (bo (sg_segmentFor n k z r_1) fun r_2 => (if r_2 = (-1) then some ((-4), z) else (bo (dr_make_5 n k z x1 x2 ((z.1 8) + 1) x3) fun z_3 => (bo (sg_endOf n k (si z_3 25 r_2) r_2) fun r_4 => gs_writeRow_b77 n k k (si z_3 25 r_2) r_2 r_4 0))))))
set_option maxHeartbeats 4000000 in
set_option maxRecDepth 100000 in
theorem w_gs_writeRow_b77 {p : Program} {l : Launch} {e : Env} {s : State} {m : MethodId} {args : Array Value} {below : List Frame} {meth : Method} {c : Code} {D : va_G} {w0 : va_W} {n : Nat} {ad : Nat → Nat} {cA : Nat → ClassId} (C : Cx p s m args meth c cX5_writeRow 7 (some .int) RX5 wsX5_writeRow D (tC cA)) (k : Nat) : ∀ (fu : Nat) (z : SS) (x4 : Int32) (x5 : Int32) (x6 : Int32) (r : Int32) (z' : SS), gs_writeRow_b77 n k fu z x4 x5 x6 = some (r, z') → ∀ (H : Heap) (locs : List Loc) (ls : Array Slot), St D (va_A w0 s.heap.size) s.heap (wC n ad cA z) H locs → lv_has ls 7 [(0, .ref (ad 0)), (4, .int x4), (5, .int x5), (6, .int x6)] → W p l e R_gs_writeRow s m args below meth c H locs 0 0 (MQ below (kI D (tC cA) r w0 (wC n ad cA z') s.heap.size) args s 0 0 (va_A w0 s.heap.size)) (F0 m 77 ls []) := by
  obtain ⟨hx, hb, hr, hml, hown, hts, hlk, hK⟩ := id C
  intro fu
  induction fu with
  | zero =>
    intro z x4 x5 x6 r z' hf
    cases (show (none : Option (Int32 × SS)) = some (r, z') from hf)
  | succ fu ih =>
    intro z x4 x5 x6 r z' hf H locs ls hS hl
    have hf : (if (z.1 41) ≤ x6 then (bo (ix_add_7 n k z x4 x5) fun z_1 => some (((z_1.1 8) + 1), (si z_1 8 ((z_1.1 8) + 1)))) else (if ck x6 36 = true then (bo (sg_append n k z ((z.2 18) (Int32.toNatClampNeg x6))) fun z_2 => gs_writeRow_b77 n k fu z_2 x4 x5 (x6 + 1)) else none)) = some (r, z') := hf
    refine lv_iload hx hb dX5_writeRow_77 (lv_at hl 3 rfl) ?_
    refine lv_aload_n hx hb dX5_writeRow_79 rfl (lv_at hl 0 rfl) ?_
    refine hC_4 C hS in_X5_writeRow_X5 lk_X5_writeRow_44 dX5_writeRow_80 ?_
    refine gC_41 C hS in_X5_writeRow_X0 lk_X5_writeRow_198 (v := (z.1 41)) rfl dX5_writeRow_83 ?_
    refine lv_icmp_ge (x := x6) (y := (z.1 41)) (tgt := 112) hx hb dX5_writeRow_86 (by decide) (fun hc => ?_) (fun hc => ?_)
    · replace hf := it_t hc hf
      refine lv_aload_n hx hb dX5_writeRow_112 rfl (lv_at hl 0 rfl) ?_
      refine hC_2 C hS in_X5_writeRow_X5 lk_X5_writeRow_30 dX5_writeRow_113 ?_
      refine lv_iload hx hb dX5_writeRow_116 (lv_at hl 1 rfl) ?_
      refine lv_iload hx hb dX5_writeRow_118 (lv_at hl 2 rfl) ?_
      refine lv_aload_n hx hb dX5_writeRow_120 rfl (lv_at hl 0 rfl) ?_
      refine hC_1 C hS in_X5_writeRow_X5 lk_X5_writeRow_23 dX5_writeRow_121 ?_
      refine hC_7 C hS in_X5_writeRow_X3 lk_X5_writeRow_78 dX5_writeRow_124 ?_
      obtain ⟨z_1, hcl, hf⟩ := bo_s hf
      refine rcVv (n := 3) (As := [.int x4, .int x5, .ref (ad 7)]) (rest := []) (q0 := 2) (w' := (wC n ad cA z_1)) C hS (fun sz => c_ix_add_7 l D n ad cA k z x4 x5 z_1 hcl sz) gX5_writeRow_X1_add rfl ⟨rfl, rfl⟩ (by decide +kernel) ⟨Nat.le_of_ble_eq_true rfl, Nat.le_of_ble_eq_true rfl⟩ oC_2 rfl rfl hl.1 rfl (Nat.le_of_ble_eq_true rfl) dX5_writeRow_127 (fun H locs hS => ?_)
      refine lv_aload_n hx hb dX5_writeRow_130 rfl (lv_at hl 0 rfl) ?_
      refine lv_dup hx hb dX5_writeRow_131 rfl ?_
      refine gC_8 C hS in_X5_writeRow_X5 lk_X5_writeRow_88 (v := (z_1.1 8)) rfl dX5_writeRow_132 ?_
      refine lv_iconst (v := 1) hx hb dX5_writeRow_135 (by decide) ?_
      refine lv_iadd (x := (z_1.1 8)) (y := 1) hx hb dX5_writeRow_136 ?_
      refine pC_8 C hS in_X5_writeRow_X5 lk_X5_writeRow_88 (v := ((z_1.1 8) + 1)) rfl rfl dX5_writeRow_137 (fun H locs hS => ?_)
      refine lv_aload_n hx hb dX5_writeRow_140 rfl (lv_at hl 0 rfl) ?_
      refine gC_8 C hS in_X5_writeRow_X5 lk_X5_writeRow_88 (v := ((z_1.1 8) + 1)) si_s dX5_writeRow_141 ?_
      cases hf
      exact rti C hS dX5_writeRow_144
    · replace hf := it_f hc hf
      refine lv_aload_n hx hb dX5_writeRow_89 rfl (lv_at hl 0 rfl) ?_
      refine hC_1 C hS in_X5_writeRow_X5 lk_X5_writeRow_23 dX5_writeRow_90 ?_
      refine lv_aload_n hx hb dX5_writeRow_93 rfl (lv_at hl 0 rfl) ?_
      refine hC_4 C hS in_X5_writeRow_X5 lk_X5_writeRow_44 dX5_writeRow_94 ?_
      refine hC_18 C hS in_X5_writeRow_X0 lk_X5_writeRow_201 dX5_writeRow_97 ?_
      refine lv_iload hx hb dX5_writeRow_100 (lv_at hl 3 rfl) ?_
      obtain ⟨hck, hf⟩ := cs hf
      refine lC_18 C hS (f := (z.2 18)) rfl (i := x6) hck dX5_writeRow_102 ?_
      obtain ⟨z_2, hcl, hf⟩ := bo_s hf
      refine rcVv (n := 1) (As := [.int ((z.2 18) (Int32.toNatClampNeg x6))]) (rest := []) (q0 := 1) (w' := (wC n ad cA z_2)) C hS (fun sz => c_sg_append l D n ad cA k z ((z.2 18) (Int32.toNatClampNeg x6)) z_2 hcl sz) gX5_writeRow_X3_append rfl ⟨rfl, rfl⟩ (by decide +kernel) ⟨Nat.le_of_ble_eq_true rfl, Nat.le_of_ble_eq_true rfl⟩ oC_1 rfl rfl hl.1 rfl (Nat.le_of_ble_eq_true rfl) dX5_writeRow_103 (fun H locs hS => ?_)
      refine lv_iinc (v := (x6 + 1)) (lv' := [(6, .int (x6 + 1)), (0, .ref (ad 0)), (4, .int x4), (5, .int x5)]) hx hb dX5_writeRow_106 hl (k := 3) rfl (congrArg (fun q => x6 + q) (by decide : Int32.ofInt 1 = (1 : Int32))) (by decide) rfl (fun ls hl => ?_)
      refine lv_goto (tgt := 77) hx hb dX5_writeRow_109 (by decide) ?_
      exact ih z_2 x4 x5 (x6 + 1) r z' hf H locs ls hS (lv_sub hl [1, 2, 3, 0] rfl)
set_option maxHeartbeats 4000000 in
set_option maxRecDepth 100000 in
theorem w_gs_writeRow_0 {p : Program} {l : Launch} {e : Env} {s : State} {m : MethodId} {args : Array Value} {below : List Frame} {meth : Method} {c : Code} {D : va_G} {w0 : va_W} {n : Nat} {ad : Nat → Nat} {cA : Nat → ClassId} (C : Cx p s m args meth c cX5_writeRow 7 (some .int) RX5 wsX5_writeRow D (tC cA)) (k : Nat) (z : SS) (x1 : Int32) (x2 : Int32) (x3 : Int32) (r : Int32) (z' : SS) (hf : gs_writeRow n k z x1 x2 x3 = some (r, z')) : ∀ (H : Heap) (locs : List Loc) (ls : Array Slot), St D (va_A w0 s.heap.size) s.heap (wC n ad cA z) H locs → lv_has ls 7 [(0, .ref (ad 0)), (1, .int x1), (2, .int x2), (3, .int x3)] → W p l e R_gs_writeRow s m args below meth c H locs 0 0 (MQ below (kI D (tC cA) r w0 (wC n ad cA z') s.heap.size) args s 0 0 (va_A w0 s.heap.size)) (F0 m 0 ls []) := by
  obtain ⟨hx, hb, hr, hml, hown, hts, hlk, hK⟩ := id C
  intro H locs ls hS hl
  have hf : (if (z.1 8) = 2147483647 then some ((-4), z) else (bo (rf_bytesWith n k z x3) fun r_1 => (bo (sg_segmentFor n k z r_1) fun r_2 => (if r_2 = (-1) then some ((-4), z) else (bo (dr_make_5 n k z x1 x2 ((z.1 8) + 1) x3) fun z_3 => (bo (sg_endOf n k (si z_3 25 r_2) r_2) fun r_4 => gs_writeRow_b77 n k k (si z_3 25 r_2) r_2 r_4 0)))))) = some (r, z') := hf
  refine lv_aload_n hx hb dX5_writeRow_0 rfl (lv_at hl 0 rfl) ?_
  refine gC_8 C hS in_X5_writeRow_X5 lk_X5_writeRow_88 (v := (z.1 8)) rfl dX5_writeRow_1 ?_
  refine lv_ldc (v := 2147483647) hx hb hown (hts _ lc_X5_writeRow_184) dX5_writeRow_4 ?_
  refine lv_icmp_ne (x := (z.1 8)) (y := 2147483647) (tgt := 12) hx hb dX5_writeRow_6 (by decide) (fun hc => ?_) (fun hc => ?_)
  · replace hf := it_f hc hf
    refine lv_aload_n hx hb dX5_writeRow_12 rfl (lv_at hl 0 rfl) ?_
    refine hC_1 C hS in_X5_writeRow_X5 lk_X5_writeRow_23 dX5_writeRow_13 ?_
    refine lv_iload_n hx hb dX5_writeRow_16 rfl (lv_at hl 3 rfl) ?_
    obtain ⟨r_1, hcl, hf⟩ := bo_s hf
    refine rcSi (n := 1) (As := [.int x3]) (rest := [.ref (ad 1)]) (w' := (wC n ad cA z)) C hS (fun sz => c_rf_bytesWith l D n ad cA k z x3 r_1 hcl sz) gX5_writeRow_X2_bytesWith rfl ⟨rfl, rfl⟩ (by decide +kernel) ⟨Nat.le_of_ble_eq_true rfl, Nat.le_of_ble_eq_true rfl⟩ rfl hl.1 rfl (Nat.le_of_ble_eq_true rfl) dX5_writeRow_17 (fun H locs hS => ?_)
    obtain ⟨r_2, hcl, hf⟩ := bo_s hf
    refine rcVi (n := 1) (As := [.int r_1]) (rest := []) (q0 := 1) (w' := (wC n ad cA z)) C hS (fun sz => c_sg_segmentFor l D n ad cA k z r_1 r_2 hcl sz) gX5_writeRow_X3_segmentFor rfl ⟨rfl, rfl⟩ (by decide +kernel) ⟨Nat.le_of_ble_eq_true rfl, Nat.le_of_ble_eq_true rfl⟩ oC_1 rfl rfl hl.1 rfl (Nat.le_of_ble_eq_true rfl) dX5_writeRow_20 (fun H locs hS => ?_)
    refine lv_istore (lv' := [(4, .int r_2), (0, .ref (ad 0)), (1, .int x1), (2, .int x2), (3, .int x3)]) hx hb dX5_writeRow_23 hl (by decide) rfl (fun ls hl => ?_)
    refine lv_iload hx hb dX5_writeRow_25 (lv_at hl 0 rfl) ?_
    refine lv_iconst (v := (-1)) hx hb dX5_writeRow_27 (by decide) ?_
    refine lv_icmp_ne (x := r_2) (y := (-1)) (tgt := 34) hx hb dX5_writeRow_28 (by decide) (fun hc => ?_) (fun hc => ?_)
    · replace hf := it_f hc hf
      refine lv_aload_n hx hb dX5_writeRow_34 rfl (lv_at hl 1 rfl) ?_
      refine hC_4 C hS in_X5_writeRow_X5 lk_X5_writeRow_44 dX5_writeRow_35 ?_
      refine lv_iload_n hx hb dX5_writeRow_38 rfl (lv_at hl 2 rfl) ?_
      refine lv_iload_n hx hb dX5_writeRow_39 rfl (lv_at hl 3 rfl) ?_
      refine lv_aload_n hx hb dX5_writeRow_40 rfl (lv_at hl 1 rfl) ?_
      refine gC_8 C hS in_X5_writeRow_X5 lk_X5_writeRow_88 (v := (z.1 8)) rfl dX5_writeRow_41 ?_
      refine lv_iconst (v := 1) hx hb dX5_writeRow_44 (by decide) ?_
      refine lv_iadd (x := (z.1 8)) (y := 1) hx hb dX5_writeRow_45 ?_
      refine lv_aload_n hx hb dX5_writeRow_46 rfl (lv_at hl 1 rfl) ?_
      refine hC_5 C hS in_X5_writeRow_X5 lk_X5_writeRow_50 dX5_writeRow_47 ?_
      refine lv_iload_n hx hb dX5_writeRow_50 rfl (lv_at hl 4 rfl) ?_
      obtain ⟨z_3, hcl, hf⟩ := bo_s hf
      refine rcVv (n := 5) (As := [.int x1, .int x2, .int ((z.1 8) + 1), .ref (ad 5), .int x3]) (rest := []) (q0 := 4) (w' := (wC n ad cA z_3)) C hS (fun sz => c_dr_make_5 l D n ad cA k z x1 x2 ((z.1 8) + 1) x3 z_3 hcl sz) gX5_writeRow_X0_make rfl ⟨rfl, rfl⟩ (by decide +kernel) ⟨Nat.le_of_ble_eq_true rfl, Nat.le_of_ble_eq_true rfl⟩ oC_4 rfl rfl hl.1 rfl (Nat.le_of_ble_eq_true rfl) dX5_writeRow_51 (fun H locs hS => ?_)
      refine lv_aload_n hx hb dX5_writeRow_54 rfl (lv_at hl 1 rfl) ?_
      refine hC_1 C hS in_X5_writeRow_X5 lk_X5_writeRow_23 dX5_writeRow_55 ?_
      refine lv_iload hx hb dX5_writeRow_58 (lv_at hl 0 rfl) ?_
      refine pC_25 C hS in_X5_writeRow_X3 lk_X5_writeRow_168 (v := r_2) rfl rfl dX5_writeRow_60 (fun H locs hS => ?_)
      refine lv_aload_n hx hb dX5_writeRow_63 rfl (lv_at hl 1 rfl) ?_
      refine hC_1 C hS in_X5_writeRow_X5 lk_X5_writeRow_23 dX5_writeRow_64 ?_
      refine lv_iload hx hb dX5_writeRow_67 (lv_at hl 0 rfl) ?_
      obtain ⟨r_4, hcl, hf⟩ := bo_s hf
      refine rcVi (n := 1) (As := [.int r_2]) (rest := []) (q0 := 1) (w' := (wC n ad cA (si z_3 25 r_2))) C hS (fun sz => c_sg_endOf l D n ad cA k (si z_3 25 r_2) r_2 r_4 hcl sz) gX5_writeRow_X3_endOf rfl ⟨rfl, rfl⟩ (by decide +kernel) ⟨Nat.le_of_ble_eq_true rfl, Nat.le_of_ble_eq_true rfl⟩ oC_1 rfl rfl hl.1 rfl (Nat.le_of_ble_eq_true rfl) dX5_writeRow_69 (fun H locs hS => ?_)
      refine lv_istore (lv' := [(5, .int r_4), (4, .int r_2), (0, .ref (ad 0)), (1, .int x1), (2, .int x2), (3, .int x3)]) hx hb dX5_writeRow_72 hl (by decide) rfl (fun ls hl => ?_)
      refine lv_iconst (v := 0) hx hb dX5_writeRow_74 (by decide) ?_
      refine lv_istore (lv' := [(6, .int 0), (5, .int r_4), (4, .int r_2), (0, .ref (ad 0)), (1, .int x1), (2, .int x2), (3, .int x3)]) hx hb dX5_writeRow_75 hl (by decide) rfl (fun ls hl => ?_)
      exact w_gs_writeRow_b77 C k k (si z_3 25 r_2) r_2 r_4 0 r z' hf H locs ls hS (lv_sub hl [3, 2, 1, 0] rfl)
    · replace hf := it_t hc hf
      refine lv_bipush (v := (-4)) hx hb dX5_writeRow_31 (by decide) ?_
      cases hf
      exact rti C hS dX5_writeRow_33
  · replace hf := it_t hc hf
    refine lv_bipush (v := (-4)) hx hb dX5_writeRow_9 (by decide) ?_
    cases hf
    exact rti C hS dX5_writeRow_11
set_option maxHeartbeats 4000000 in
set_option maxRecDepth 100000 in
theorem c_gs_writeRow (l : Launch) (D : va_G) (n : Nat) (ad : Nat → Nat) (cA : Nat → ClassId) (k : Nat) (z : SS) (x1 : Int32) (x2 : Int32) (x3 : Int32) (r : Int32) (z' : SS) (hf : gs_writeRow n k z x1 x2 x3 = some (r, z')) (sz : Nat) : Met l yX5_writeRow wsX5_writeRow R_gs_writeRow (kP D (tC cA) [.ref (ad 0), .int x1, .int x2, .int x3] (wC n ad cA z) sz) (kI D (tC cA) r (wC n ad cA z) (wC n ad cA z') sz) 0 0 (va_A (wC n ad cA z) sz) := by
  refine ent (by decide) rfl rfl (Nat.le_of_ble_eq_true rfl) (fun p e s m args below meth c hsz C hS ls hl => ?_)
  subst hsz
  exact w_gs_writeRow_0 C k z x1 x2 x3 r z' hf s.heap [] ls hS hl
