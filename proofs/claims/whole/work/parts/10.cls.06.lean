-- gs_shut: private void shut();
theorem lk_X5_shut_61 : Cond.fieldLink RX5 61 (TX5 9).1 (TX5 9).2.1 (TX5 9).2.2.1 ∈ wsX5_shut := by decide +kernel
theorem in_X5_shut_X5 : ∀ x ∈ u_ws RX5 TX5 12, x ∈ wsX5_shut := by decide +kernel
theorem lk_X5_shut_23 : Cond.fieldLink RX5 23 (TX5 0).1 (TX5 0).2.1 (TX5 0).2.2.1 ∈ wsX5_shut := by decide +kernel
theorem lk_X5_shut_168 : Cond.fieldLink RX5 168 (TX3 5).1 (TX3 5).2.1 (TX3 5).2.2.1 ∈ wsX5_shut := by decide +kernel
theorem in_X5_shut_X3 : ∀ x ∈ u_ws RX3 TX3 6, x ∈ wsX5_shut := by decide +kernel
theorem lk_X5_shut_30 : Cond.fieldLink RX5 30 (TX5 1).1 (TX5 1).2.1 (TX5 1).2.2.1 ∈ wsX5_shut := by decide +kernel
theorem lk_X5_shut_37 : Cond.fieldLink RX5 37 (TX5 2).1 (TX5 2).2.1 (TX5 2).2.2.1 ∈ wsX5_shut := by decide +kernel
def R_gs_shut : Room := { frames := 2, cells := 0, slots := 0, locals := 43 }
def gs_shut (n : Nat) (k : Nat) (z : SS) : Option SS :=
  (bi (sg_settle n k (si z 9 1)) fun r_1 z_1 => (bo (ix_forgetAll n k (si z_1 25 (-1))) fun z_2 => (bo (sn_closeAll n k z_2) fun z_3 => some z_3)))
set_option maxHeartbeats 4000000 in
set_option maxRecDepth 100000 in
theorem w_gs_shut_0 {p : Program} {l : Launch} {e : Env} {s : State} {m : MethodId} {args : Array Value} {below : List Frame} {meth : Method} {c : Code} {D : va_G} {w0 : va_W} {n : Nat} {ad : Nat → Nat} {cA : Nat → ClassId} (C : Cx p s m args meth c cX5_shut 1 none RX5 wsX5_shut D (tC cA)) (k : Nat) (z : SS) (z' : SS) (hf : gs_shut n k z = some z') : ∀ (H : Heap) (locs : List Loc) (ls : Array Slot), St D (va_A w0 s.heap.size) s.heap (wC n ad cA z) H locs → lv_has ls 1 [(0, .ref (ad 0))] → W p l e R_gs_shut s m args below meth c H locs 0 0 (MQ below (kV D (tC cA) w0 (wC n ad cA z') s.heap.size) args s 0 0 (va_A w0 s.heap.size)) (F0 m 0 ls []) := by
  obtain ⟨hx, hb, hr, hml, hown, hts, hlk, hK⟩ := id C
  intro H locs ls hS hl
  have hf : (bi (sg_settle n k (si z 9 1)) fun r_1 z_1 => (bo (ix_forgetAll n k (si z_1 25 (-1))) fun z_2 => (bo (sn_closeAll n k z_2) fun z_3 => some z_3))) = some z' := hf
  refine lv_aload_n hx hb dX5_shut_0 rfl (lv_at hl 0 rfl) ?_
  refine lv_iconst (v := 1) hx hb dX5_shut_1 (by decide) ?_
  refine pC_9 C hS in_X5_shut_X5 lk_X5_shut_61 (v := 1) rfl rfl dX5_shut_2 (fun H locs hS => ?_)
  refine lv_aload_n hx hb dX5_shut_5 rfl (lv_at hl 0 rfl) ?_
  refine hC_1 C hS in_X5_shut_X5 lk_X5_shut_23 dX5_shut_6 ?_
  obtain ⟨r_1, z_1, hcl, hf⟩ := bi_s hf
  refine rcVi (n := 0) (As := []) (rest := []) (q0 := 1) (w' := (wC n ad cA z_1)) C hS (fun sz => c_sg_settle l D n ad cA k (si z 9 1) r_1 z_1 hcl sz) gX5_shut_X3_settle rfl ⟨rfl, rfl⟩ (by decide +kernel) ⟨Nat.le_of_ble_eq_true rfl, Nat.le_of_ble_eq_true rfl⟩ oC_1 rfl rfl hl.1 rfl (Nat.le_of_ble_eq_true rfl) dX5_shut_9 (fun H locs hS => ?_)
  refine lv_pop hx hb dX5_shut_12 rfl ?_
  refine lv_aload_n hx hb dX5_shut_13 rfl (lv_at hl 0 rfl) ?_
  refine hC_1 C hS in_X5_shut_X5 lk_X5_shut_23 dX5_shut_14 ?_
  refine lv_iconst (v := (-1)) hx hb dX5_shut_17 (by decide) ?_
  refine pC_25 C hS in_X5_shut_X3 lk_X5_shut_168 (v := (-1)) rfl rfl dX5_shut_18 (fun H locs hS => ?_)
  refine lv_aload_n hx hb dX5_shut_21 rfl (lv_at hl 0 rfl) ?_
  refine hC_2 C hS in_X5_shut_X5 lk_X5_shut_30 dX5_shut_22 ?_
  obtain ⟨z_2, hcl, hf⟩ := bo_s hf
  refine rcVv (n := 0) (As := []) (rest := []) (q0 := 2) (w' := (wC n ad cA z_2)) C hS (fun sz => c_ix_forgetAll l D n ad cA k (si z_1 25 (-1)) z_2 hcl sz) gX5_shut_X1_forgetAll rfl ⟨rfl, rfl⟩ (by decide +kernel) ⟨Nat.le_of_ble_eq_true rfl, Nat.le_of_ble_eq_true rfl⟩ oC_2 rfl rfl hl.1 rfl (Nat.le_of_ble_eq_true rfl) dX5_shut_25 (fun H locs hS => ?_)
  refine lv_aload_n hx hb dX5_shut_28 rfl (lv_at hl 0 rfl) ?_
  refine hC_3 C hS in_X5_shut_X5 lk_X5_shut_37 dX5_shut_29 ?_
  obtain ⟨z_3, hcl, hf⟩ := bo_s hf
  refine rcVv (n := 0) (As := []) (rest := []) (q0 := 3) (w' := (wC n ad cA z_3)) C hS (fun sz => c_sn_closeAll l D n ad cA k z_2 z_3 hcl sz) gX5_shut_X4_closeAll rfl ⟨rfl, rfl⟩ (by decide +kernel) ⟨Nat.le_of_ble_eq_true rfl, Nat.le_of_ble_eq_true rfl⟩ oC_3 rfl rfl hl.1 rfl (Nat.le_of_ble_eq_true rfl) dX5_shut_32 (fun H locs hS => ?_)
  cases hf
  exact rtv C hS dX5_shut_35
set_option maxHeartbeats 4000000 in
set_option maxRecDepth 100000 in
theorem c_gs_shut (l : Launch) (D : va_G) (n : Nat) (ad : Nat → Nat) (cA : Nat → ClassId) (k : Nat) (z : SS) (z' : SS) (hf : gs_shut n k z = some z') (sz : Nat) : Met l yX5_shut wsX5_shut R_gs_shut (kP D (tC cA) [.ref (ad 0)] (wC n ad cA z) sz) (kV D (tC cA) (wC n ad cA z) (wC n ad cA z') sz) 0 0 (va_A (wC n ad cA z) sz) := by
  refine ent (by decide) rfl rfl (Nat.le_of_ble_eq_true rfl) (fun p e s m args below meth c hsz C hS ls hl => ?_)
  subst hsz
  exact w_gs_shut_0 C k z z' hf s.heap [] ls hS hl
-- gs_crash: public int crash(int);
theorem lk_X5_crash_61 : Cond.fieldLink RX5 61 (TX5 9).1 (TX5 9).2.1 (TX5 9).2.2.1 ∈ wsX5_crash := by decide +kernel
theorem in_X5_crash_X5 : ∀ x ∈ u_ws RX5 TX5 12, x ∈ wsX5_crash := by decide +kernel
theorem lk_X5_crash_23 : Cond.fieldLink RX5 23 (TX5 0).1 (TX5 0).2.1 (TX5 0).2.2.1 ∈ wsX5_crash := by decide +kernel
def R_gs_crash : Room := { frames := 3, cells := 0, slots := 0, locals := 63 }
def gs_crash (n : Nat) (k : Nat) (z : SS) (x1 : Int32) : Option (Int32 × SS) :=
  (if (z.1 9) = 0 then (if 0 ≤ x1 then (bi (sg_loseBehind n k z x1) fun r_1 z_1 => (bo (gs_shut n k z_1) fun z_2 => some (r_1, z_2))) else some ((-2), z)) else some ((-3), z))
set_option maxHeartbeats 4000000 in
set_option maxRecDepth 100000 in
theorem w_gs_crash_0 {p : Program} {l : Launch} {e : Env} {s : State} {m : MethodId} {args : Array Value} {below : List Frame} {meth : Method} {c : Code} {D : va_G} {w0 : va_W} {n : Nat} {ad : Nat → Nat} {cA : Nat → ClassId} (C : Cx p s m args meth c cX5_crash 3 (some .int) RX5 wsX5_crash D (tC cA)) (k : Nat) (z : SS) (x1 : Int32) (r : Int32) (z' : SS) (hf : gs_crash n k z x1 = some (r, z')) : ∀ (H : Heap) (locs : List Loc) (ls : Array Slot), St D (va_A w0 s.heap.size) s.heap (wC n ad cA z) H locs → lv_has ls 3 [(0, .ref (ad 0)), (1, .int x1)] → W p l e R_gs_crash s m args below meth c H locs 0 0 (MQ below (kI D (tC cA) r w0 (wC n ad cA z') s.heap.size) args s 0 0 (va_A w0 s.heap.size)) (F0 m 0 ls []) := by
  obtain ⟨hx, hb, hr, hml, hown, hts, hlk, hK⟩ := id C
  intro H locs ls hS hl
  have hf : (if (z.1 9) = 0 then (if 0 ≤ x1 then (bi (sg_loseBehind n k z x1) fun r_1 z_1 => (bo (gs_shut n k z_1) fun z_2 => some (r_1, z_2))) else some ((-2), z)) else some ((-3), z)) = some (r, z') := hf
  refine lv_aload_n hx hb dX5_crash_0 rfl (lv_at hl 0 rfl) ?_
  refine gC_9 C hS in_X5_crash_X5 lk_X5_crash_61 (v := (z.1 9)) rfl dX5_crash_1 ?_
  refine lv_if_eq (x := (z.1 9)) (tgt := 10) hx hb dX5_crash_4 (by decide) (fun hc => ?_) (fun hc => ?_)
  · replace hf := it_t hc hf
    refine lv_iload_n hx hb dX5_crash_10 rfl (lv_at hl 1 rfl) ?_
    refine lv_if_ge (x := x1) (tgt := 17) hx hb dX5_crash_11 (by decide) (fun hc => ?_) (fun hc => ?_)
    · replace hf := it_t hc hf
      refine lv_aload_n hx hb dX5_crash_17 rfl (lv_at hl 0 rfl) ?_
      refine hC_1 C hS in_X5_crash_X5 lk_X5_crash_23 dX5_crash_18 ?_
      refine lv_iload_n hx hb dX5_crash_21 rfl (lv_at hl 1 rfl) ?_
      obtain ⟨r_1, z_1, hcl, hf⟩ := bi_s hf
      refine rcVi (n := 1) (As := [.int x1]) (rest := []) (q0 := 1) (w' := (wC n ad cA z_1)) C hS (fun sz => c_sg_loseBehind l D n ad cA k z x1 r_1 z_1 hcl sz) gX5_crash_X3_loseBehind rfl ⟨rfl, rfl⟩ (by decide +kernel) ⟨Nat.le_of_ble_eq_true rfl, Nat.le_of_ble_eq_true rfl⟩ oC_1 rfl rfl hl.1 rfl (Nat.le_of_ble_eq_true rfl) dX5_crash_22 (fun H locs hS => ?_)
      refine lv_istore_n (lv' := [(2, .int r_1), (0, .ref (ad 0)), (1, .int x1)]) hx hb dX5_crash_25 rfl hl (by decide) rfl (fun ls hl => ?_)
      refine lv_aload_n hx hb dX5_crash_26 rfl (lv_at hl 1 rfl) ?_
      obtain ⟨z_2, hcl, hf⟩ := bo_s hf
      refine rcVv (n := 0) (As := []) (rest := []) (q0 := 0) (w' := (wC n ad cA z_2)) C hS (fun sz => c_gs_shut l D n ad cA k z_1 z_2 hcl sz) gX5_crash_X5_shut rfl ⟨rfl, rfl⟩ (by decide +kernel) ⟨Nat.le_of_ble_eq_true rfl, Nat.le_of_ble_eq_true rfl⟩ oC_0 rfl rfl hl.1 rfl (Nat.le_of_ble_eq_true rfl) dX5_crash_27 (fun H locs hS => ?_)
      refine lv_iload_n hx hb dX5_crash_30 rfl (lv_at hl 0 rfl) ?_
      cases hf
      exact rti C hS dX5_crash_31
    · replace hf := it_f hc hf
      refine lv_bipush (v := (-2)) hx hb dX5_crash_14 (by decide) ?_
      cases hf
      exact rti C hS dX5_crash_16
  · replace hf := it_f hc hf
    refine lv_bipush (v := (-3)) hx hb dX5_crash_7 (by decide) ?_
    cases hf
    exact rti C hS dX5_crash_9
set_option maxHeartbeats 4000000 in
set_option maxRecDepth 100000 in
theorem c_gs_crash (l : Launch) (D : va_G) (n : Nat) (ad : Nat → Nat) (cA : Nat → ClassId) (k : Nat) (z : SS) (x1 : Int32) (r : Int32) (z' : SS) (hf : gs_crash n k z x1 = some (r, z')) (sz : Nat) : Met l yX5_crash wsX5_crash R_gs_crash (kP D (tC cA) [.ref (ad 0), .int x1] (wC n ad cA z) sz) (kI D (tC cA) r (wC n ad cA z) (wC n ad cA z') sz) 0 0 (va_A (wC n ad cA z) sz) := by
  refine ent (by decide) rfl rfl (Nat.le_of_ble_eq_true rfl) (fun p e s m args below meth c hsz C hS ls hl => ?_)
  subst hsz
  exact w_gs_crash_0 C k z x1 r z' hf s.heap [] ls hS hl
-- gs_copyRow: private void copyRow(int, int);
theorem lk_X5_copyRow_30 : Cond.fieldLink RX5 30 (TX5 1).1 (TX5 1).2.1 (TX5 1).2.2.1 ∈ wsX5_copyRow := by decide +kernel
theorem in_X5_copyRow_X5 : ∀ x ∈ u_ws RX5 TX5 12, x ∈ wsX5_copyRow := by decide +kernel
theorem lk_X5_copyRow_23 : Cond.fieldLink RX5 23 (TX5 0).1 (TX5 0).2.1 (TX5 0).2.2.1 ∈ wsX5_copyRow := by decide +kernel
theorem lk_X5_copyRow_78 : Cond.fieldLink RX5 78 (TX3 1).1 (TX3 1).2.1 (TX3 1).2.2.1 ∈ wsX5_copyRow := by decide +kernel
theorem in_X5_copyRow_X3 : ∀ x ∈ u_ws RX3 TX3 6, x ∈ wsX5_copyRow := by decide +kernel
theorem lk_X5_copyRow_81 : Cond.fieldLink RX5 81 (TX1 1).1 (TX1 1).2.1 (TX1 1).2.2.1 ∈ wsX5_copyRow := by decide +kernel
theorem in_X5_copyRow_X1 : ∀ x ∈ u_ws RX1 TX1 6, x ∈ wsX5_copyRow := by decide +kernel
theorem lk_X5_copyRow_168 : Cond.fieldLink RX5 168 (TX3 5).1 (TX3 5).2.1 (TX3 5).2.2.1 ∈ wsX5_copyRow := by decide +kernel
def R_gs_copyRow : Room := { frames := 3, cells := 0, slots := 0, locals := 63 }
def gs_copyRow_b49 (n : Nat) (k : Nat) : Nat → SS → Int32 → Int32 → Int32 → Int32 → Int32 → Int32 → Option SS
  | 0, _, _, _, _, _, _, _ => none
  | fu + 1, z, x1, x2, x3, x4, x5, x6 => (if x2 ≤ x6 then (if x2 = x3 then (bo (ix_add_7 n k z x4 x5) fun z_1 => some z_1) else some z) else (if ck x1 (n * 12) = true then (if ck (((z.2 11) (Int32.toNatClampNeg x1)) + x6) (n * 200) = true then (bo (sg_append n k z ((z.2 7) (Int32.toNatClampNeg (((z.2 11) (Int32.toNatClampNeg x1)) + x6)))) fun z_2 => gs_copyRow_b49 n k fu z_2 x1 x2 x3 x4 x5 (x6 + 1)) else none) else none))
def gs_copyRow (n : Nat) (k : Nat) (z : SS) (x1 : Int32) (x2 : Int32) : Option SS :=
  (bo (ix_bytesOf n k z x1) fun r_1 => (bo (sg_segmentFor n k z r_1) fun r_2 => (if r_2 = (-1) then some z else (bo (sg_endOf n k (si z 25 r_2) r_2) fun r_3 => gs_copyRow_b49 n k k (si z 25 r_2) x1 x2 r_1 r_2 r_3 0))))
set_option maxHeartbeats 4000000 in
set_option maxRecDepth 100000 in
theorem w_gs_copyRow_b49 {p : Program} {l : Launch} {e : Env} {s : State} {m : MethodId} {args : Array Value} {below : List Frame} {meth : Method} {c : Code} {D : va_G} {w0 : va_W} {n : Nat} {ad : Nat → Nat} {cA : Nat → ClassId} (C : Cx p s m args meth c cX5_copyRow 7 none RX5 wsX5_copyRow D (tC cA)) (k : Nat) : ∀ (fu : Nat) (z : SS) (x1 : Int32) (x2 : Int32) (x3 : Int32) (x4 : Int32) (x5 : Int32) (x6 : Int32) (z' : SS), gs_copyRow_b49 n k fu z x1 x2 x3 x4 x5 x6 = some z' → ∀ (H : Heap) (locs : List Loc) (ls : Array Slot), St D (va_A w0 s.heap.size) s.heap (wC n ad cA z) H locs → lv_has ls 7 [(0, .ref (ad 0)), (1, .int x1), (2, .int x2), (3, .int x3), (4, .int x4), (5, .int x5), (6, .int x6)] → W p l e R_gs_copyRow s m args below meth c H locs 0 0 (MQ below (kV D (tC cA) w0 (wC n ad cA z') s.heap.size) args s 0 0 (va_A w0 s.heap.size)) (F0 m 49 ls []) := by
  obtain ⟨hx, hb, hr, hml, hown, hts, hlk, hK⟩ := id C
  intro fu
  induction fu with
  | zero =>
    intro z x1 x2 x3 x4 x5 x6 z' hf
    cases (show (none : Option SS) = some z' from hf)
  | succ fu ih =>
    intro z x1 x2 x3 x4 x5 x6 z' hf H locs ls hS hl
    have hf : (if x2 ≤ x6 then (if x2 = x3 then (bo (ix_add_7 n k z x4 x5) fun z_1 => some z_1) else some z) else (if ck x1 (n * 12) = true then (if ck (((z.2 11) (Int32.toNatClampNeg x1)) + x6) (n * 200) = true then (bo (sg_append n k z ((z.2 7) (Int32.toNatClampNeg (((z.2 11) (Int32.toNatClampNeg x1)) + x6)))) fun z_2 => gs_copyRow_b49 n k fu z_2 x1 x2 x3 x4 x5 (x6 + 1)) else none) else none)) = some z' := hf
    refine lv_iload hx hb dX5_copyRow_49 (lv_at hl 6 rfl) ?_
    refine lv_iload_n hx hb dX5_copyRow_51 rfl (lv_at hl 2 rfl) ?_
    refine lv_icmp_ge (x := x6) (y := x2) (tgt := 88) hx hb dX5_copyRow_52 (by decide) (fun hc => ?_) (fun hc => ?_)
    · replace hf := it_t hc hf
      refine lv_iload_n hx hb dX5_copyRow_88 rfl (lv_at hl 2 rfl) ?_
      refine lv_iload_n hx hb dX5_copyRow_89 rfl (lv_at hl 3 rfl) ?_
      refine lv_icmp_ne (x := x2) (y := x3) (tgt := 111) hx hb dX5_copyRow_90 (by decide) (fun hc => ?_) (fun hc => ?_)
      · replace hf := it_f hc hf
        cases hf
        exact rtv C hS dX5_copyRow_111
      · replace hf := it_t hc hf
        refine lv_aload_n hx hb dX5_copyRow_93 rfl (lv_at hl 0 rfl) ?_
        refine hC_2 C hS in_X5_copyRow_X5 lk_X5_copyRow_30 dX5_copyRow_94 ?_
        refine lv_iload hx hb dX5_copyRow_97 (lv_at hl 4 rfl) ?_
        refine lv_iload hx hb dX5_copyRow_99 (lv_at hl 5 rfl) ?_
        refine lv_aload_n hx hb dX5_copyRow_101 rfl (lv_at hl 0 rfl) ?_
        refine hC_1 C hS in_X5_copyRow_X5 lk_X5_copyRow_23 dX5_copyRow_102 ?_
        refine hC_7 C hS in_X5_copyRow_X3 lk_X5_copyRow_78 dX5_copyRow_105 ?_
        obtain ⟨z_1, hcl, hf⟩ := bo_s hf
        refine rcVv (n := 3) (As := [.int x4, .int x5, .ref (ad 7)]) (rest := []) (q0 := 2) (w' := (wC n ad cA z_1)) C hS (fun sz => c_ix_add_7 l D n ad cA k z x4 x5 z_1 hcl sz) gX5_copyRow_X1_add rfl ⟨rfl, rfl⟩ (by decide +kernel) ⟨Nat.le_of_ble_eq_true rfl, Nat.le_of_ble_eq_true rfl⟩ oC_2 rfl rfl hl.1 rfl (Nat.le_of_ble_eq_true rfl) dX5_copyRow_108 (fun H locs hS => ?_)
        cases hf
        exact rtv C hS dX5_copyRow_111
    · replace hf := it_f hc hf
      refine lv_aload_n hx hb dX5_copyRow_55 rfl (lv_at hl 0 rfl) ?_
      refine hC_1 C hS in_X5_copyRow_X5 lk_X5_copyRow_23 dX5_copyRow_56 ?_
      refine lv_aload_n hx hb dX5_copyRow_59 rfl (lv_at hl 0 rfl) ?_
      refine hC_1 C hS in_X5_copyRow_X5 lk_X5_copyRow_23 dX5_copyRow_60 ?_
      refine hC_7 C hS in_X5_copyRow_X3 lk_X5_copyRow_78 dX5_copyRow_63 ?_
      refine lv_aload_n hx hb dX5_copyRow_66 rfl (lv_at hl 0 rfl) ?_
      refine hC_2 C hS in_X5_copyRow_X5 lk_X5_copyRow_30 dX5_copyRow_67 ?_
      refine hC_11 C hS in_X5_copyRow_X1 lk_X5_copyRow_81 dX5_copyRow_70 ?_
      refine lv_iload_n hx hb dX5_copyRow_73 rfl (lv_at hl 1 rfl) ?_
      obtain ⟨hck, hf⟩ := cs hf
      refine lC_11 C hS (f := (z.2 11)) rfl (i := x1) hck dX5_copyRow_74 ?_
      refine lv_iload hx hb dX5_copyRow_75 (lv_at hl 6 rfl) ?_
      refine lv_iadd (x := ((z.2 11) (Int32.toNatClampNeg x1))) (y := x6) hx hb dX5_copyRow_77 ?_
      obtain ⟨hck, hf⟩ := cs hf
      refine lC_7 C hS (f := (z.2 7)) rfl (i := (((z.2 11) (Int32.toNatClampNeg x1)) + x6)) hck dX5_copyRow_78 ?_
      obtain ⟨z_2, hcl, hf⟩ := bo_s hf
      refine rcVv (n := 1) (As := [.int ((z.2 7) (Int32.toNatClampNeg (((z.2 11) (Int32.toNatClampNeg x1)) + x6)))]) (rest := []) (q0 := 1) (w' := (wC n ad cA z_2)) C hS (fun sz => c_sg_append l D n ad cA k z ((z.2 7) (Int32.toNatClampNeg (((z.2 11) (Int32.toNatClampNeg x1)) + x6))) z_2 hcl sz) gX5_copyRow_X3_append rfl ⟨rfl, rfl⟩ (by decide +kernel) ⟨Nat.le_of_ble_eq_true rfl, Nat.le_of_ble_eq_true rfl⟩ oC_1 rfl rfl hl.1 rfl (Nat.le_of_ble_eq_true rfl) dX5_copyRow_79 (fun H locs hS => ?_)
      refine lv_iinc (v := (x6 + 1)) (lv' := [(6, .int (x6 + 1)), (0, .ref (ad 0)), (1, .int x1), (2, .int x2), (3, .int x3), (4, .int x4), (5, .int x5)]) hx hb dX5_copyRow_82 hl (k := 6) rfl (congrArg (fun q => x6 + q) (by decide : Int32.ofInt 1 = (1 : Int32))) (by decide) rfl (fun ls hl => ?_)
      refine lv_goto (tgt := 49) hx hb dX5_copyRow_85 (by decide) ?_
      exact ih z_2 x1 x2 x3 x4 x5 (x6 + 1) z' hf H locs ls hS (lv_sub hl [1, 2, 3, 4, 5, 6, 0] rfl)
set_option maxHeartbeats 4000000 in
set_option maxRecDepth 100000 in
theorem w_gs_copyRow_0 {p : Program} {l : Launch} {e : Env} {s : State} {m : MethodId} {args : Array Value} {below : List Frame} {meth : Method} {c : Code} {D : va_G} {w0 : va_W} {n : Nat} {ad : Nat → Nat} {cA : Nat → ClassId} (C : Cx p s m args meth c cX5_copyRow 7 none RX5 wsX5_copyRow D (tC cA)) (k : Nat) (z : SS) (x1 : Int32) (x2 : Int32) (z' : SS) (hf : gs_copyRow n k z x1 x2 = some z') : ∀ (H : Heap) (locs : List Loc) (ls : Array Slot), St D (va_A w0 s.heap.size) s.heap (wC n ad cA z) H locs → lv_has ls 7 [(0, .ref (ad 0)), (1, .int x1), (2, .int x2)] → W p l e R_gs_copyRow s m args below meth c H locs 0 0 (MQ below (kV D (tC cA) w0 (wC n ad cA z') s.heap.size) args s 0 0 (va_A w0 s.heap.size)) (F0 m 0 ls []) := by
  obtain ⟨hx, hb, hr, hml, hown, hts, hlk, hK⟩ := id C
  intro H locs ls hS hl
  have hf : (bo (ix_bytesOf n k z x1) fun r_1 => (bo (sg_segmentFor n k z r_1) fun r_2 => (if r_2 = (-1) then some z else (bo (sg_endOf n k (si z 25 r_2) r_2) fun r_3 => gs_copyRow_b49 n k k (si z 25 r_2) x1 x2 r_1 r_2 r_3 0)))) = some z' := hf
  refine lv_aload_n hx hb dX5_copyRow_0 rfl (lv_at hl 0 rfl) ?_
  refine hC_2 C hS in_X5_copyRow_X5 lk_X5_copyRow_30 dX5_copyRow_1 ?_
  refine lv_iload_n hx hb dX5_copyRow_4 rfl (lv_at hl 1 rfl) ?_
  obtain ⟨r_1, hcl, hf⟩ := bo_s hf
  refine rcVi (n := 1) (As := [.int x1]) (rest := []) (q0 := 2) (w' := (wC n ad cA z)) C hS (fun sz => c_ix_bytesOf l D n ad cA k z x1 r_1 hcl sz) gX5_copyRow_X1_bytesOf rfl ⟨rfl, rfl⟩ (by decide +kernel) ⟨Nat.le_of_ble_eq_true rfl, Nat.le_of_ble_eq_true rfl⟩ oC_2 rfl rfl hl.1 rfl (Nat.le_of_ble_eq_true rfl) dX5_copyRow_5 (fun H locs hS => ?_)
  refine lv_istore_n (lv' := [(3, .int r_1), (0, .ref (ad 0)), (1, .int x1), (2, .int x2)]) hx hb dX5_copyRow_8 rfl hl (by decide) rfl (fun ls hl => ?_)
  refine lv_aload_n hx hb dX5_copyRow_9 rfl (lv_at hl 1 rfl) ?_
  refine hC_1 C hS in_X5_copyRow_X5 lk_X5_copyRow_23 dX5_copyRow_10 ?_
  refine lv_iload_n hx hb dX5_copyRow_13 rfl (lv_at hl 0 rfl) ?_
  obtain ⟨r_2, hcl, hf⟩ := bo_s hf
  refine rcVi (n := 1) (As := [.int r_1]) (rest := []) (q0 := 1) (w' := (wC n ad cA z)) C hS (fun sz => c_sg_segmentFor l D n ad cA k z r_1 r_2 hcl sz) gX5_copyRow_X3_segmentFor rfl ⟨rfl, rfl⟩ (by decide +kernel) ⟨Nat.le_of_ble_eq_true rfl, Nat.le_of_ble_eq_true rfl⟩ oC_1 rfl rfl hl.1 rfl (Nat.le_of_ble_eq_true rfl) dX5_copyRow_14 (fun H locs hS => ?_)
  refine lv_istore (lv' := [(4, .int r_2), (3, .int r_1), (0, .ref (ad 0)), (1, .int x1), (2, .int x2)]) hx hb dX5_copyRow_17 hl (by decide) rfl (fun ls hl => ?_)
  refine lv_iload hx hb dX5_copyRow_19 (lv_at hl 0 rfl) ?_
  refine lv_iconst (v := (-1)) hx hb dX5_copyRow_21 (by decide) ?_
  refine lv_icmp_ne (x := r_2) (y := (-1)) (tgt := 26) hx hb dX5_copyRow_22 (by decide) (fun hc => ?_) (fun hc => ?_)
  · replace hf := it_f hc hf
    refine lv_aload_n hx hb dX5_copyRow_26 rfl (lv_at hl 2 rfl) ?_
    refine hC_1 C hS in_X5_copyRow_X5 lk_X5_copyRow_23 dX5_copyRow_27 ?_
    refine lv_iload hx hb dX5_copyRow_30 (lv_at hl 0 rfl) ?_
    refine pC_25 C hS in_X5_copyRow_X3 lk_X5_copyRow_168 (v := r_2) rfl rfl dX5_copyRow_32 (fun H locs hS => ?_)
    refine lv_aload_n hx hb dX5_copyRow_35 rfl (lv_at hl 2 rfl) ?_
    refine hC_1 C hS in_X5_copyRow_X5 lk_X5_copyRow_23 dX5_copyRow_36 ?_
    refine lv_iload hx hb dX5_copyRow_39 (lv_at hl 0 rfl) ?_
    obtain ⟨r_3, hcl, hf⟩ := bo_s hf
    refine rcVi (n := 1) (As := [.int r_2]) (rest := []) (q0 := 1) (w' := (wC n ad cA (si z 25 r_2))) C hS (fun sz => c_sg_endOf l D n ad cA k (si z 25 r_2) r_2 r_3 hcl sz) gX5_copyRow_X3_endOf rfl ⟨rfl, rfl⟩ (by decide +kernel) ⟨Nat.le_of_ble_eq_true rfl, Nat.le_of_ble_eq_true rfl⟩ oC_1 rfl rfl hl.1 rfl (Nat.le_of_ble_eq_true rfl) dX5_copyRow_41 (fun H locs hS => ?_)
    refine lv_istore (lv' := [(5, .int r_3), (4, .int r_2), (3, .int r_1), (0, .ref (ad 0)), (1, .int x1), (2, .int x2)]) hx hb dX5_copyRow_44 hl (by decide) rfl (fun ls hl => ?_)
    refine lv_iconst (v := 0) hx hb dX5_copyRow_46 (by decide) ?_
    refine lv_istore (lv' := [(6, .int 0), (5, .int r_3), (4, .int r_2), (3, .int r_1), (0, .ref (ad 0)), (1, .int x1), (2, .int x2)]) hx hb dX5_copyRow_47 hl (by decide) rfl (fun ls hl => ?_)
    exact w_gs_copyRow_b49 C k k (si z 25 r_2) x1 x2 r_1 r_2 r_3 0 z' hf H locs ls hS (lv_sub hl [4, 5, 6, 3, 2, 1, 0] rfl)
  · replace hf := it_t hc hf
    cases hf
    exact rtv C hS dX5_copyRow_25
set_option maxHeartbeats 4000000 in
set_option maxRecDepth 100000 in
theorem c_gs_copyRow (l : Launch) (D : va_G) (n : Nat) (ad : Nat → Nat) (cA : Nat → ClassId) (k : Nat) (z : SS) (x1 : Int32) (x2 : Int32) (z' : SS) (hf : gs_copyRow n k z x1 x2 = some z') (sz : Nat) : Met l yX5_copyRow wsX5_copyRow R_gs_copyRow (kP D (tC cA) [.ref (ad 0), .int x1, .int x2] (wC n ad cA z) sz) (kV D (tC cA) (wC n ad cA z) (wC n ad cA z') sz) 0 0 (va_A (wC n ad cA z) sz) := by
  refine ent (by decide) rfl rfl (Nat.le_of_ble_eq_true rfl) (fun p e s m args below meth c hsz C hS ls hl => ?_)
  subst hsz
  exact w_gs_copyRow_0 C k z x1 x2 z' hf s.heap [] ls hS hl
-- gs_copySurvivors: private int copySurvivors(int);
theorem lk_X5_copySurvivors_218 : Cond.fieldLink RX5 218 (TX5 7).1 (TX5 7).2.1 (TX5 7).2.2.1 ∈ wsX5_copySurvivors := by decide +kernel
theorem in_X5_copySurvivors_X5 : ∀ x ∈ u_ws RX5 TX5 12, x ∈ wsX5_copySurvivors := by decide +kernel
theorem lk_X5_copySurvivors_30 : Cond.fieldLink RX5 30 (TX5 1).1 (TX5 1).2.1 (TX5 1).2.2.1 ∈ wsX5_copySurvivors := by decide +kernel
theorem lk_X5_copySurvivors_54 : Cond.fieldLink RX5 54 (TX5 6).1 (TX5 6).2.1 (TX5 6).2.2.1 ∈ wsX5_copySurvivors := by decide +kernel
theorem ml_X5_copySurvivors_min : Cond.methodLink RX5 9 Lib.Math.min.name ∈ wsX5_copySurvivors := by decide +kernel
theorem ms_X5_copySurvivors_min : Cond.static Lib.Math.min.name ∈ wsX5_copySurvivors := by decide +kernel
theorem mi_X5_copySurvivors_min : Cond.initialized "java/lang/Math" ∈ wsX5_copySurvivors := by decide +kernel
theorem mc_X5_copySurvivors_min : Cond.code Lib.Math.min.name Lib.Math.min.code 2 (some .int) ∈ wsX5_copySurvivors := by decide +kernel
def R_gs_copySurvivors : Room := { frames := 4, cells := 0, slots := 0, locals := 89 }
def gs_copySurvivors_b4 (n : Nat) (k : Nat) : Nat → SS → Int32 → Int32 → Int32 → Option (Int32 × SS)
  | 0, _, _, _, _ => none
  | fu + 1, z, x1, x2, x3 => (if (z.1 7) ≤ x3 then some (x2, z) else (if ck x3 12 = true then (bo (ix_bytesOf n k z ((z.2 6) (Int32.toNatClampNeg x3))) fun r_1 => (if ck x3 12 = true then (bo (gs_copyRow n k z ((z.2 6) (Int32.toNatClampNeg x3)) (if (x1 - x2) < r_1 then (x1 - x2) else r_1)) fun z_2 => (if (x2 + r_1) ≤ x1 then gs_copySurvivors_b4 n k fu z_2 x1 (x2 + r_1) (x3 + 1) else some ((x2 + r_1), z_2))) else none)) else none))
def gs_copySurvivors (n : Nat) (k : Nat) (z : SS) (x1 : Int32) : Option (Int32 × SS) :=
  gs_copySurvivors_b4 n k k z x1 0 0
set_option maxHeartbeats 4000000 in
set_option maxRecDepth 100000 in
theorem w_gs_copySurvivors_b4 {p : Program} {l : Launch} {e : Env} {s : State} {m : MethodId} {args : Array Value} {below : List Frame} {meth : Method} {c : Code} {D : va_G} {w0 : va_W} {n : Nat} {ad : Nat → Nat} {cA : Nat → ClassId} (C : Cx p s m args meth c cX5_copySurvivors 5 (some .int) RX5 wsX5_copySurvivors D (tC cA)) (k : Nat) : ∀ (fu : Nat) (z : SS) (x1 : Int32) (x2 : Int32) (x3 : Int32) (r : Int32) (z' : SS), gs_copySurvivors_b4 n k fu z x1 x2 x3 = some (r, z') → ∀ (H : Heap) (locs : List Loc) (ls : Array Slot), St D (va_A w0 s.heap.size) s.heap (wC n ad cA z) H locs → lv_has ls 5 [(0, .ref (ad 0)), (1, .int x1), (2, .int x2), (3, .int x3)] → W p l e R_gs_copySurvivors s m args below meth c H locs 0 0 (MQ below (kI D (tC cA) r w0 (wC n ad cA z') s.heap.size) args s 0 0 (va_A w0 s.heap.size)) (F0 m 4 ls []) := by
  obtain ⟨hx, hb, hr, hml, hown, hts, hlk, hK⟩ := id C
  intro fu
  induction fu with
  | zero =>
    intro z x1 x2 x3 r z' hf
    cases (show (none : Option (Int32 × SS)) = some (r, z') from hf)
  | succ fu ih =>
    intro z x1 x2 x3 r z' hf H locs ls hS hl
    have hf : (if (z.1 7) ≤ x3 then some (x2, z) else (if ck x3 12 = true then (bo (ix_bytesOf n k z ((z.2 6) (Int32.toNatClampNeg x3))) fun r_1 => (if ck x3 12 = true then (bo (gs_copyRow n k z ((z.2 6) (Int32.toNatClampNeg x3)) (if (x1 - x2) < r_1 then (x1 - x2) else r_1)) fun z_2 => (if (x2 + r_1) ≤ x1 then gs_copySurvivors_b4 n k fu z_2 x1 (x2 + r_1) (x3 + 1) else some ((x2 + r_1), z_2))) else none)) else none)) = some (r, z') := hf
    refine lv_iload_n hx hb dX5_copySurvivors_4 rfl (lv_at hl 3 rfl) ?_
    refine lv_aload_n hx hb dX5_copySurvivors_5 rfl (lv_at hl 0 rfl) ?_
    refine gC_7 C hS in_X5_copySurvivors_X5 lk_X5_copySurvivors_218 (v := (z.1 7)) rfl dX5_copySurvivors_6 ?_
    refine lv_icmp_ge (x := x3) (y := (z.1 7)) (tgt := 64) hx hb dX5_copySurvivors_9 (by decide) (fun hc => ?_) (fun hc => ?_)
    · replace hf := it_t hc hf
      refine lv_iload_n hx hb dX5_copySurvivors_64 rfl (lv_at hl 2 rfl) ?_
      cases hf
      exact rti C hS dX5_copySurvivors_65
    · replace hf := it_f hc hf
      refine lv_aload_n hx hb dX5_copySurvivors_12 rfl (lv_at hl 0 rfl) ?_
      refine hC_2 C hS in_X5_copySurvivors_X5 lk_X5_copySurvivors_30 dX5_copySurvivors_13 ?_
      refine lv_aload_n hx hb dX5_copySurvivors_16 rfl (lv_at hl 0 rfl) ?_
      refine hC_6 C hS in_X5_copySurvivors_X5 lk_X5_copySurvivors_54 dX5_copySurvivors_17 ?_
      refine lv_iload_n hx hb dX5_copySurvivors_20 rfl (lv_at hl 3 rfl) ?_
      obtain ⟨hck, hf⟩ := cs hf
      refine lC_6 C hS (f := (z.2 6)) rfl (i := x3) hck dX5_copySurvivors_21 ?_
      obtain ⟨r_1, hcl, hf⟩ := bo_s hf
      refine rcVi (n := 1) (As := [.int ((z.2 6) (Int32.toNatClampNeg x3))]) (rest := []) (q0 := 2) (w' := (wC n ad cA z)) C hS (fun sz => c_ix_bytesOf l D n ad cA k z ((z.2 6) (Int32.toNatClampNeg x3)) r_1 hcl sz) gX5_copySurvivors_X1_bytesOf rfl ⟨rfl, rfl⟩ (by decide +kernel) ⟨Nat.le_of_ble_eq_true rfl, Nat.le_of_ble_eq_true rfl⟩ oC_2 rfl rfl hl.1 rfl (Nat.le_of_ble_eq_true rfl) dX5_copySurvivors_22 (fun H locs hS => ?_)
      refine lv_istore (lv' := [(4, .int r_1), (0, .ref (ad 0)), (1, .int x1), (2, .int x2), (3, .int x3)]) hx hb dX5_copySurvivors_25 hl (by decide) rfl (fun ls hl => ?_)
      refine lv_aload_n hx hb dX5_copySurvivors_27 rfl (lv_at hl 1 rfl) ?_
      refine lv_aload_n hx hb dX5_copySurvivors_28 rfl (lv_at hl 1 rfl) ?_
      refine hC_6 C hS in_X5_copySurvivors_X5 lk_X5_copySurvivors_54 dX5_copySurvivors_29 ?_
      refine lv_iload_n hx hb dX5_copySurvivors_32 rfl (lv_at hl 4 rfl) ?_
      obtain ⟨hck, hf⟩ := cs hf
      refine lC_6 C hS (f := (z.2 6)) rfl (i := x3) hck dX5_copySurvivors_33 ?_
      refine lv_iload hx hb dX5_copySurvivors_34 (lv_at hl 0 rfl) ?_
      refine lv_iload_n hx hb dX5_copySurvivors_36 rfl (lv_at hl 2 rfl) ?_
      refine lv_iload_n hx hb dX5_copySurvivors_37 rfl (lv_at hl 3 rfl) ?_
      refine lv_isub (x := x1) (y := x2) hx hb dX5_copySurvivors_38 ?_
      refine rmin (x := r_1) (z := (x1 - x2)) C hl.1 ml_X5_copySurvivors_min ms_X5_copySurvivors_min mi_X5_copySurvivors_min mc_X5_copySurvivors_min (Nat.le_of_ble_eq_true rfl) (Nat.le_of_ble_eq_true rfl) dX5_copySurvivors_39 ?_
      obtain ⟨z_2, hcl, hf⟩ := bo_s hf
      refine rcVv (n := 2) (As := [.int ((z.2 6) (Int32.toNatClampNeg x3)), .int (if (x1 - x2) < r_1 then (x1 - x2) else r_1)]) (rest := []) (q0 := 0) (w' := (wC n ad cA z_2)) C hS (fun sz => c_gs_copyRow l D n ad cA k z ((z.2 6) (Int32.toNatClampNeg x3)) (if (x1 - x2) < r_1 then (x1 - x2) else r_1) z_2 hcl sz) gX5_copySurvivors_X5_copyRow rfl ⟨rfl, rfl⟩ (by decide +kernel) ⟨Nat.le_of_ble_eq_true rfl, Nat.le_of_ble_eq_true rfl⟩ oC_0 rfl rfl hl.1 rfl (Nat.le_of_ble_eq_true rfl) dX5_copySurvivors_42 (fun H locs hS => ?_)
      refine lv_iload_n hx hb dX5_copySurvivors_45 rfl (lv_at hl 3 rfl) ?_
      refine lv_iload hx hb dX5_copySurvivors_46 (lv_at hl 0 rfl) ?_
      refine lv_iadd (x := x2) (y := r_1) hx hb dX5_copySurvivors_48 ?_
      refine lv_istore_n (lv' := [(2, .int (x2 + r_1)), (4, .int r_1), (0, .ref (ad 0)), (1, .int x1), (3, .int x3)]) hx hb dX5_copySurvivors_49 rfl hl (by decide) rfl (fun ls hl => ?_)
      refine lv_iload_n hx hb dX5_copySurvivors_50 rfl (lv_at hl 0 rfl) ?_
      refine lv_iload_n hx hb dX5_copySurvivors_51 rfl (lv_at hl 3 rfl) ?_
      refine lv_icmp_le (x := (x2 + r_1)) (y := x1) (tgt := 58) hx hb dX5_copySurvivors_52 (by decide) (fun hc => ?_) (fun hc => ?_)
      · replace hf := it_t hc hf
        refine lv_iinc (v := (x3 + 1)) (lv' := [(3, .int (x3 + 1)), (2, .int (x2 + r_1)), (4, .int r_1), (0, .ref (ad 0)), (1, .int x1)]) hx hb dX5_copySurvivors_58 hl (k := 4) rfl (congrArg (fun q => x3 + q) (by decide : Int32.ofInt 1 = (1 : Int32))) (by decide) rfl (fun ls hl => ?_)
        refine lv_goto (tgt := 4) hx hb dX5_copySurvivors_61 (by decide) ?_
        exact ih z_2 x1 (x2 + r_1) (x3 + 1) r z' hf H locs ls hS (lv_sub hl [3, 4, 1, 0] rfl)
      · replace hf := it_f hc hf
        refine lv_goto (tgt := 64) hx hb dX5_copySurvivors_55 (by decide) ?_
        refine lv_iload_n hx hb dX5_copySurvivors_64 rfl (lv_at hl 0 rfl) ?_
        cases hf
        exact rti C hS dX5_copySurvivors_65
set_option maxHeartbeats 4000000 in
set_option maxRecDepth 100000 in
theorem w_gs_copySurvivors_0 {p : Program} {l : Launch} {e : Env} {s : State} {m : MethodId} {args : Array Value} {below : List Frame} {meth : Method} {c : Code} {D : va_G} {w0 : va_W} {n : Nat} {ad : Nat → Nat} {cA : Nat → ClassId} (C : Cx p s m args meth c cX5_copySurvivors 5 (some .int) RX5 wsX5_copySurvivors D (tC cA)) (k : Nat) (z : SS) (x1 : Int32) (r : Int32) (z' : SS) (hf : gs_copySurvivors n k z x1 = some (r, z')) : ∀ (H : Heap) (locs : List Loc) (ls : Array Slot), St D (va_A w0 s.heap.size) s.heap (wC n ad cA z) H locs → lv_has ls 5 [(0, .ref (ad 0)), (1, .int x1)] → W p l e R_gs_copySurvivors s m args below meth c H locs 0 0 (MQ below (kI D (tC cA) r w0 (wC n ad cA z') s.heap.size) args s 0 0 (va_A w0 s.heap.size)) (F0 m 0 ls []) := by
  obtain ⟨hx, hb, hr, hml, hown, hts, hlk, hK⟩ := id C
  intro H locs ls hS hl
  have hf : gs_copySurvivors_b4 n k k z x1 0 0 = some (r, z') := hf
  refine lv_iconst (v := 0) hx hb dX5_copySurvivors_0 (by decide) ?_
  refine lv_istore_n (lv' := [(2, .int 0), (0, .ref (ad 0)), (1, .int x1)]) hx hb dX5_copySurvivors_1 rfl hl (by decide) rfl (fun ls hl => ?_)
  refine lv_iconst (v := 0) hx hb dX5_copySurvivors_2 (by decide) ?_
  refine lv_istore_n (lv' := [(3, .int 0), (2, .int 0), (0, .ref (ad 0)), (1, .int x1)]) hx hb dX5_copySurvivors_3 rfl hl (by decide) rfl (fun ls hl => ?_)
  exact w_gs_copySurvivors_b4 C k k z x1 0 0 r z' hf H locs ls hS (lv_sub hl [2, 3, 1, 0] rfl)
set_option maxHeartbeats 4000000 in
set_option maxRecDepth 100000 in
theorem c_gs_copySurvivors (l : Launch) (D : va_G) (n : Nat) (ad : Nat → Nat) (cA : Nat → ClassId) (k : Nat) (z : SS) (x1 : Int32) (r : Int32) (z' : SS) (hf : gs_copySurvivors n k z x1 = some (r, z')) (sz : Nat) : Met l yX5_copySurvivors wsX5_copySurvivors R_gs_copySurvivors (kP D (tC cA) [.ref (ad 0), .int x1] (wC n ad cA z) sz) (kI D (tC cA) r (wC n ad cA z) (wC n ad cA z') sz) 0 0 (va_A (wC n ad cA z) sz) := by
  refine ent (by decide) rfl rfl (Nat.le_of_ble_eq_true rfl) (fun p e s m args below meth c hsz C hS ls hl => ?_)
  subst hsz
  exact w_gs_copySurvivors_0 C k z x1 r z' hf s.heap [] ls hS hl
-- gs_isDue: private boolean isDue(int, int, int);
theorem lk_X5_isDue_23 : Cond.fieldLink RX5 23 (TX5 0).1 (TX5 0).2.1 (TX5 0).2.2.1 ∈ wsX5_isDue := by decide +kernel
theorem in_X5_isDue_X5 : ∀ x ∈ u_ws RX5 TX5 12, x ∈ wsX5_isDue := by decide +kernel
theorem lk_X5_isDue_168 : Cond.fieldLink RX5 168 (TX3 5).1 (TX3 5).2.1 (TX3 5).2.2.1 ∈ wsX5_isDue := by decide +kernel
theorem in_X5_isDue_X3 : ∀ x ∈ u_ws RX3 TX3 6, x ∈ wsX5_isDue := by decide +kernel
theorem lk_X5_isDue_156 : Cond.fieldLink RX5 156 (TX3 2).1 (TX3 2).2.1 (TX3 2).2.2.1 ∈ wsX5_isDue := by decide +kernel
theorem lk_X5_isDue_30 : Cond.fieldLink RX5 30 (TX5 1).1 (TX5 1).2.1 (TX5 1).2.2.1 ∈ wsX5_isDue := by decide +kernel
theorem lk_X5_isDue_37 : Cond.fieldLink RX5 37 (TX5 2).1 (TX5 2).2.1 (TX5 2).2.2.1 ∈ wsX5_isDue := by decide +kernel
def R_gs_isDue : Room := { frames := 3, cells := 0, slots := 0, locals := 73 }
def gs_isDue (n : Nat) (k : Nat) (z : SS) (x1 : Int32) (x2 : Int32) (x3 : Int32) : Option Int32 :=
  (bo (sg_isFree n k z x1) fun r_1 => (if r_1 = 0 then (if x1 = (z.1 25) then some 0 else (if ck x1 n = true then (bo (ix_livingBytes_3 n k z x1) fun r_2 => (if ((((z.2 8) (Int32.toNatClampNeg x1)) - r_2) * x3) < (x2 * ((z.2 8) (Int32.toNatClampNeg x1))) then some 0 else some 1)) else none)) else some 0))
set_option maxHeartbeats 4000000 in
set_option maxRecDepth 100000 in
theorem w_gs_isDue_0 {p : Program} {l : Launch} {e : Env} {s : State} {m : MethodId} {args : Array Value} {below : List Frame} {meth : Method} {c : Code} {D : va_G} {w0 : va_W} {n : Nat} {ad : Nat → Nat} {cA : Nat → ClassId} (C : Cx p s m args meth c cX5_isDue 6 (some .boolean) RX5 wsX5_isDue D (tC cA)) (k : Nat) (z : SS) (x1 : Int32) (x2 : Int32) (x3 : Int32) (r : Int32) (hf : gs_isDue n k z x1 x2 x3 = some r) : ∀ (H : Heap) (locs : List Loc) (ls : Array Slot), St D (va_A w0 s.heap.size) s.heap (wC n ad cA z) H locs → lv_has ls 6 [(0, .ref (ad 0)), (1, .int x1), (2, .int x2), (3, .int x3)] → W p l e R_gs_isDue s m args below meth c H locs 0 0 (MQ below (kI D (tC cA) r w0 (wC n ad cA z) s.heap.size) args s 0 0 (va_A w0 s.heap.size)) (F0 m 0 ls []) := by
  obtain ⟨hx, hb, hr, hml, hown, hts, hlk, hK⟩ := id C
  intro H locs ls hS hl
  have hf : (bo (sg_isFree n k z x1) fun r_1 => (if r_1 = 0 then (if x1 = (z.1 25) then some 0 else (if ck x1 n = true then (bo (ix_livingBytes_3 n k z x1) fun r_2 => (if ((((z.2 8) (Int32.toNatClampNeg x1)) - r_2) * x3) < (x2 * ((z.2 8) (Int32.toNatClampNeg x1))) then some 0 else some 1)) else none)) else some 0)) = some r := hf
  refine lv_aload_n hx hb dX5_isDue_0 rfl (lv_at hl 0 rfl) ?_
  refine hC_1 C hS in_X5_isDue_X5 lk_X5_isDue_23 dX5_isDue_1 ?_
  refine lv_iload_n hx hb dX5_isDue_4 rfl (lv_at hl 1 rfl) ?_
  obtain ⟨r_1, hcl, hf⟩ := bo_s hf
  refine rcVi (n := 1) (As := [.int x1]) (rest := []) (q0 := 1) (w' := (wC n ad cA z)) C hS (fun sz => c_sg_isFree l D n ad cA k z x1 r_1 hcl sz) gX5_isDue_X3_isFree rfl ⟨rfl, rfl⟩ (by decide +kernel) ⟨Nat.le_of_ble_eq_true rfl, Nat.le_of_ble_eq_true rfl⟩ oC_1 rfl rfl hl.1 rfl (Nat.le_of_ble_eq_true rfl) dX5_isDue_5 (fun H locs hS => ?_)
  refine lv_if_ne (x := r_1) (tgt := 22) hx hb dX5_isDue_8 (by decide) (fun hc => ?_) (fun hc => ?_)
  · replace hf := it_f hc hf
    refine lv_iconst (v := 0) hx hb dX5_isDue_22 (by decide) ?_
    cases hf
    exact rtz C hS (by decide) dX5_isDue_23
  · replace hf := it_t hc hf
    refine lv_iload_n hx hb dX5_isDue_11 rfl (lv_at hl 1 rfl) ?_
    refine lv_aload_n hx hb dX5_isDue_12 rfl (lv_at hl 0 rfl) ?_
    refine hC_1 C hS in_X5_isDue_X5 lk_X5_isDue_23 dX5_isDue_13 ?_
    refine gC_25 C hS in_X5_isDue_X3 lk_X5_isDue_168 (v := (z.1 25)) rfl dX5_isDue_16 ?_
    refine lv_icmp_ne (x := x1) (y := (z.1 25)) (tgt := 24) hx hb dX5_isDue_19 (by decide) (fun hc => ?_) (fun hc => ?_)
    · replace hf := it_f hc hf
      refine lv_aload_n hx hb dX5_isDue_24 rfl (lv_at hl 0 rfl) ?_
      refine hC_1 C hS in_X5_isDue_X5 lk_X5_isDue_23 dX5_isDue_25 ?_
      refine hC_8 C hS in_X5_isDue_X3 lk_X5_isDue_156 dX5_isDue_28 ?_
      refine lv_iload_n hx hb dX5_isDue_31 rfl (lv_at hl 1 rfl) ?_
      obtain ⟨hck, hf⟩ := cs hf
      refine lC_8 C hS (f := (z.2 8)) rfl (i := x1) hck dX5_isDue_32 ?_
      refine lv_istore (lv' := [(4, .int ((z.2 8) (Int32.toNatClampNeg x1))), (0, .ref (ad 0)), (1, .int x1), (2, .int x2), (3, .int x3)]) hx hb dX5_isDue_33 hl (by decide) rfl (fun ls hl => ?_)
      refine lv_iload hx hb dX5_isDue_35 (lv_at hl 0 rfl) ?_
      refine lv_aload_n hx hb dX5_isDue_37 rfl (lv_at hl 1 rfl) ?_
      refine hC_2 C hS in_X5_isDue_X5 lk_X5_isDue_30 dX5_isDue_38 ?_
      refine lv_iload_n hx hb dX5_isDue_41 rfl (lv_at hl 2 rfl) ?_
      refine lv_aload_n hx hb dX5_isDue_42 rfl (lv_at hl 1 rfl) ?_
      refine hC_3 C hS in_X5_isDue_X5 lk_X5_isDue_37 dX5_isDue_43 ?_
      obtain ⟨r_2, hcl, hf⟩ := bo_s hf
      refine rcVi (n := 2) (As := [.int x1, .ref (ad 3)]) (rest := [.int ((z.2 8) (Int32.toNatClampNeg x1))]) (q0 := 2) (w' := (wC n ad cA z)) C hS (fun sz => c_ix_livingBytes_3 l D n ad cA k z x1 r_2 hcl sz) gX5_isDue_X1_livingBytes rfl ⟨rfl, rfl⟩ (by decide +kernel) ⟨Nat.le_of_ble_eq_true rfl, Nat.le_of_ble_eq_true rfl⟩ oC_2 rfl rfl hl.1 rfl (Nat.le_of_ble_eq_true rfl) dX5_isDue_46 (fun H locs hS => ?_)
      refine lv_isub (x := ((z.2 8) (Int32.toNatClampNeg x1))) (y := r_2) hx hb dX5_isDue_49 ?_
      refine lv_istore (lv' := [(5, .int (((z.2 8) (Int32.toNatClampNeg x1)) - r_2)), (4, .int ((z.2 8) (Int32.toNatClampNeg x1))), (0, .ref (ad 0)), (1, .int x1), (2, .int x2), (3, .int x3)]) hx hb dX5_isDue_50 hl (by decide) rfl (fun ls hl => ?_)
      refine lv_iload hx hb dX5_isDue_52 (lv_at hl 0 rfl) ?_
      refine lv_iload_n hx hb dX5_isDue_54 rfl (lv_at hl 5 rfl) ?_
      refine lv_imul (x := (((z.2 8) (Int32.toNatClampNeg x1)) - r_2)) (y := x3) hx hb dX5_isDue_55 ?_
      refine lv_iload_n hx hb dX5_isDue_56 rfl (lv_at hl 4 rfl) ?_
      refine lv_iload hx hb dX5_isDue_57 (lv_at hl 1 rfl) ?_
      refine lv_imul (x := x2) (y := ((z.2 8) (Int32.toNatClampNeg x1))) hx hb dX5_isDue_59 ?_
      refine lv_icmp_lt (x := ((((z.2 8) (Int32.toNatClampNeg x1)) - r_2) * x3)) (y := (x2 * ((z.2 8) (Int32.toNatClampNeg x1)))) (tgt := 67) hx hb dX5_isDue_60 (by decide) (fun hc => ?_) (fun hc => ?_)
      · replace hf := it_t hc hf
        refine lv_iconst (v := 0) hx hb dX5_isDue_67 (by decide) ?_
        cases hf
        exact rtz C hS (by decide) dX5_isDue_68
      · replace hf := it_f hc hf
        refine lv_iconst (v := 1) hx hb dX5_isDue_63 (by decide) ?_
        refine lv_goto (tgt := 68) hx hb dX5_isDue_64 (by decide) ?_
        cases hf
        exact rtz C hS (by decide) dX5_isDue_68
    · replace hf := it_t hc hf
      refine lv_iconst (v := 0) hx hb dX5_isDue_22 (by decide) ?_
      cases hf
      exact rtz C hS (by decide) dX5_isDue_23
set_option maxHeartbeats 4000000 in
set_option maxRecDepth 100000 in
theorem c_gs_isDue (l : Launch) (D : va_G) (n : Nat) (ad : Nat → Nat) (cA : Nat → ClassId) (k : Nat) (z : SS) (x1 : Int32) (x2 : Int32) (x3 : Int32) (r : Int32) (hf : gs_isDue n k z x1 x2 x3 = some r) (sz : Nat) : Met l yX5_isDue wsX5_isDue R_gs_isDue (kP D (tC cA) [.ref (ad 0), .int x1, .int x2, .int x3] (wC n ad cA z) sz) (kI D (tC cA) r (wC n ad cA z) (wC n ad cA z) sz) 0 0 (va_A (wC n ad cA z) sz) := by
  refine ent (by decide) rfl rfl (Nat.le_of_ble_eq_true rfl) (fun p e s m args below meth c hsz C hS ls hl => ?_)
  subst hsz
  exact w_gs_isDue_0 C k z x1 x2 x3 r hf s.heap [] ls hS hl
-- gs_gatherSurvivors: private void gatherSurvivors(int);
theorem lk_X5_gatherSurvivors_30 : Cond.fieldLink RX5 30 (TX5 1).1 (TX5 1).2.1 (TX5 1).2.2.1 ∈ wsX5_gatherSurvivors := by decide +kernel
theorem in_X5_gatherSurvivors_X5 : ∀ x ∈ u_ws RX5 TX5 12, x ∈ wsX5_gatherSurvivors := by decide +kernel
theorem lk_X5_gatherSurvivors_37 : Cond.fieldLink RX5 37 (TX5 2).1 (TX5 2).2.1 (TX5 2).2.2.1 ∈ wsX5_gatherSurvivors := by decide +kernel
theorem lk_X5_gatherSurvivors_54 : Cond.fieldLink RX5 54 (TX5 6).1 (TX5 6).2.1 (TX5 6).2.2.1 ∈ wsX5_gatherSurvivors := by decide +kernel
theorem lk_X5_gatherSurvivors_218 : Cond.fieldLink RX5 218 (TX5 7).1 (TX5 7).2.1 (TX5 7).2.2.1 ∈ wsX5_gatherSurvivors := by decide +kernel
def R_gs_gatherSurvivors : Room := { frames := 2, cells := 0, slots := 0, locals := 49 }
def gs_gatherSurvivors_b12 (n : Nat) (k : Nat) : Nat → SS → Int32 → Int32 → Option SS
  | 0, _, _, _ => none
  | fu + 1, z, x2, x3 => (if (x2 + 12) ≤ x3 then some z else (bo (ix_lives_3 n k z x3) fun r_1 => (if r_1 = 0 then gs_gatherSurvivors_b12 n k fu z x2 (x3 + 1) else (if ck (z.1 7) 12 = true then gs_gatherSurvivors_b12 n k fu (si (sa z 6 (Int32.toNatClampNeg (z.1 7)) x3) 7 ((z.1 7) + 1)) x2 (x3 + 1) else none))))
def gs_gatherSurvivors (n : Nat) (k : Nat) (z : SS) (x1 : Int32) : Option SS :=
  gs_gatherSurvivors_b12 n k k (si z 7 0) (x1 * 12) (x1 * 12)
set_option maxHeartbeats 4000000 in
set_option maxRecDepth 100000 in
theorem w_gs_gatherSurvivors_b12 {p : Program} {l : Launch} {e : Env} {s : State} {m : MethodId} {args : Array Value} {below : List Frame} {meth : Method} {c : Code} {D : va_G} {w0 : va_W} {n : Nat} {ad : Nat → Nat} {cA : Nat → ClassId} (C : Cx p s m args meth c cX5_gatherSurvivors 4 none RX5 wsX5_gatherSurvivors D (tC cA)) (k : Nat) : ∀ (fu : Nat) (z : SS) (x2 : Int32) (x3 : Int32) (z' : SS), gs_gatherSurvivors_b12 n k fu z x2 x3 = some z' → ∀ (H : Heap) (locs : List Loc) (ls : Array Slot), St D (va_A w0 s.heap.size) s.heap (wC n ad cA z) H locs → lv_has ls 4 [(0, .ref (ad 0)), (2, .int x2), (3, .int x3)] → W p l e R_gs_gatherSurvivors s m args below meth c H locs 0 0 (MQ below (kV D (tC cA) w0 (wC n ad cA z') s.heap.size) args s 0 0 (va_A w0 s.heap.size)) (F0 m 12 ls []) := by
  obtain ⟨hx, hb, hr, hml, hown, hts, hlk, hK⟩ := id C
  intro fu
  induction fu with
  | zero =>
    intro z x2 x3 z' hf
    cases (show (none : Option SS) = some z' from hf)
  | succ fu ih =>
    intro z x2 x3 z' hf H locs ls hS hl
    have hf : (if (x2 + 12) ≤ x3 then some z else (bo (ix_lives_3 n k z x3) fun r_1 => (if r_1 = 0 then gs_gatherSurvivors_b12 n k fu z x2 (x3 + 1) else (if ck (z.1 7) 12 = true then gs_gatherSurvivors_b12 n k fu (si (sa z 6 (Int32.toNatClampNeg (z.1 7)) x3) 7 ((z.1 7) + 1)) x2 (x3 + 1) else none)))) = some z' := hf
    refine lv_iload_n hx hb dX5_gatherSurvivors_12 rfl (lv_at hl 2 rfl) ?_
    refine lv_iload_n hx hb dX5_gatherSurvivors_13 rfl (lv_at hl 1 rfl) ?_
    refine lv_bipush (v := 12) hx hb dX5_gatherSurvivors_14 (by decide) ?_
    refine lv_iadd (x := x2) (y := 12) hx hb dX5_gatherSurvivors_16 ?_
    refine lv_icmp_ge (x := x3) (y := (x2 + 12)) (tgt := 61) hx hb dX5_gatherSurvivors_17 (by decide) (fun hc => ?_) (fun hc => ?_)
    · replace hf := it_t hc hf
      cases hf
      exact rtv C hS dX5_gatherSurvivors_61
    · replace hf := it_f hc hf
      refine lv_aload_n hx hb dX5_gatherSurvivors_20 rfl (lv_at hl 0 rfl) ?_
      refine hC_2 C hS in_X5_gatherSurvivors_X5 lk_X5_gatherSurvivors_30 dX5_gatherSurvivors_21 ?_
      refine lv_iload_n hx hb dX5_gatherSurvivors_24 rfl (lv_at hl 2 rfl) ?_
      refine lv_aload_n hx hb dX5_gatherSurvivors_25 rfl (lv_at hl 0 rfl) ?_
      refine hC_3 C hS in_X5_gatherSurvivors_X5 lk_X5_gatherSurvivors_37 dX5_gatherSurvivors_26 ?_
      obtain ⟨r_1, hcl, hf⟩ := bo_s hf
      refine rcVi (n := 2) (As := [.int x3, .ref (ad 3)]) (rest := []) (q0 := 2) (w' := (wC n ad cA z)) C hS (fun sz => c_ix_lives_3 l D n ad cA k z x3 r_1 hcl sz) gX5_gatherSurvivors_X1_lives rfl ⟨rfl, rfl⟩ (by decide +kernel) ⟨Nat.le_of_ble_eq_true rfl, Nat.le_of_ble_eq_true rfl⟩ oC_2 rfl rfl hl.1 rfl (Nat.le_of_ble_eq_true rfl) dX5_gatherSurvivors_29 (fun H locs hS => ?_)
      refine lv_if_eq (x := r_1) (tgt := 55) hx hb dX5_gatherSurvivors_32 (by decide) (fun hc => ?_) (fun hc => ?_)
      · replace hf := it_t hc hf
        refine lv_iinc (v := (x3 + 1)) (lv' := [(3, .int (x3 + 1)), (0, .ref (ad 0)), (2, .int x2)]) hx hb dX5_gatherSurvivors_55 hl (k := 2) rfl (congrArg (fun q => x3 + q) (by decide : Int32.ofInt 1 = (1 : Int32))) (by decide) rfl (fun ls hl => ?_)
        refine lv_goto (tgt := 12) hx hb dX5_gatherSurvivors_58 (by decide) ?_
        exact ih z x2 (x3 + 1) z' hf H locs ls hS (lv_sub hl [1, 2, 0] rfl)
      · replace hf := it_f hc hf
        refine lv_aload_n hx hb dX5_gatherSurvivors_35 rfl (lv_at hl 0 rfl) ?_
        refine hC_6 C hS in_X5_gatherSurvivors_X5 lk_X5_gatherSurvivors_54 dX5_gatherSurvivors_36 ?_
        refine lv_aload_n hx hb dX5_gatherSurvivors_39 rfl (lv_at hl 0 rfl) ?_
        refine gC_7 C hS in_X5_gatherSurvivors_X5 lk_X5_gatherSurvivors_218 (v := (z.1 7)) rfl dX5_gatherSurvivors_40 ?_
        refine lv_iload_n hx hb dX5_gatherSurvivors_43 rfl (lv_at hl 2 rfl) ?_
        obtain ⟨hck, hf⟩ := cs hf
        refine sC_6 C hS (i := (z.1 7)) (x := x3) hck dX5_gatherSurvivors_44 (fun H locs hS => ?_)
        refine lv_aload_n hx hb dX5_gatherSurvivors_45 rfl (lv_at hl 0 rfl) ?_
        refine lv_dup hx hb dX5_gatherSurvivors_46 rfl ?_
        refine gC_7 C hS in_X5_gatherSurvivors_X5 lk_X5_gatherSurvivors_218 (v := (z.1 7)) (sa_i.trans rfl) dX5_gatherSurvivors_47 ?_
        refine lv_iconst (v := 1) hx hb dX5_gatherSurvivors_50 (by decide) ?_
        refine lv_iadd (x := (z.1 7)) (y := 1) hx hb dX5_gatherSurvivors_51 ?_
        refine pC_7 C hS in_X5_gatherSurvivors_X5 lk_X5_gatherSurvivors_218 (v := ((z.1 7) + 1)) rfl rfl dX5_gatherSurvivors_52 (fun H locs hS => ?_)
        refine lv_iinc (v := (x3 + 1)) (lv' := [(3, .int (x3 + 1)), (0, .ref (ad 0)), (2, .int x2)]) hx hb dX5_gatherSurvivors_55 hl (k := 2) rfl (congrArg (fun q => x3 + q) (by decide : Int32.ofInt 1 = (1 : Int32))) (by decide) rfl (fun ls hl => ?_)
        refine lv_goto (tgt := 12) hx hb dX5_gatherSurvivors_58 (by decide) ?_
        exact ih (si (sa z 6 (Int32.toNatClampNeg (z.1 7)) x3) 7 ((z.1 7) + 1)) x2 (x3 + 1) z' hf H locs ls hS (lv_sub hl [1, 2, 0] rfl)
set_option maxHeartbeats 4000000 in
set_option maxRecDepth 100000 in
theorem w_gs_gatherSurvivors_0 {p : Program} {l : Launch} {e : Env} {s : State} {m : MethodId} {args : Array Value} {below : List Frame} {meth : Method} {c : Code} {D : va_G} {w0 : va_W} {n : Nat} {ad : Nat → Nat} {cA : Nat → ClassId} (C : Cx p s m args meth c cX5_gatherSurvivors 4 none RX5 wsX5_gatherSurvivors D (tC cA)) (k : Nat) (z : SS) (x1 : Int32) (z' : SS) (hf : gs_gatherSurvivors n k z x1 = some z') : ∀ (H : Heap) (locs : List Loc) (ls : Array Slot), St D (va_A w0 s.heap.size) s.heap (wC n ad cA z) H locs → lv_has ls 4 [(0, .ref (ad 0)), (1, .int x1)] → W p l e R_gs_gatherSurvivors s m args below meth c H locs 0 0 (MQ below (kV D (tC cA) w0 (wC n ad cA z') s.heap.size) args s 0 0 (va_A w0 s.heap.size)) (F0 m 0 ls []) := by
  obtain ⟨hx, hb, hr, hml, hown, hts, hlk, hK⟩ := id C
  intro H locs ls hS hl
  have hf : gs_gatherSurvivors_b12 n k k (si z 7 0) (x1 * 12) (x1 * 12) = some z' := hf
  refine lv_aload_n hx hb dX5_gatherSurvivors_0 rfl (lv_at hl 0 rfl) ?_
  refine lv_iconst (v := 0) hx hb dX5_gatherSurvivors_1 (by decide) ?_
  refine pC_7 C hS in_X5_gatherSurvivors_X5 lk_X5_gatherSurvivors_218 (v := 0) rfl rfl dX5_gatherSurvivors_2 (fun H locs hS => ?_)
  refine lv_iload_n hx hb dX5_gatherSurvivors_5 rfl (lv_at hl 1 rfl) ?_
  refine lv_bipush (v := 12) hx hb dX5_gatherSurvivors_6 (by decide) ?_
  refine lv_imul (x := x1) (y := 12) hx hb dX5_gatherSurvivors_8 ?_
  refine lv_istore_n (lv' := [(2, .int (x1 * 12)), (0, .ref (ad 0)), (1, .int x1)]) hx hb dX5_gatherSurvivors_9 rfl hl (by decide) rfl (fun ls hl => ?_)
  refine lv_iload_n hx hb dX5_gatherSurvivors_10 rfl (lv_at hl 0 rfl) ?_
  refine lv_istore_n (lv' := [(3, .int (x1 * 12)), (2, .int (x1 * 12)), (0, .ref (ad 0)), (1, .int x1)]) hx hb dX5_gatherSurvivors_11 rfl hl (by decide) rfl (fun ls hl => ?_)
  exact w_gs_gatherSurvivors_b12 C k k (si z 7 0) (x1 * 12) (x1 * 12) z' hf H locs ls hS (lv_sub hl [2, 1, 0] rfl)
set_option maxHeartbeats 4000000 in
set_option maxRecDepth 100000 in
theorem c_gs_gatherSurvivors (l : Launch) (D : va_G) (n : Nat) (ad : Nat → Nat) (cA : Nat → ClassId) (k : Nat) (z : SS) (x1 : Int32) (z' : SS) (hf : gs_gatherSurvivors n k z x1 = some z') (sz : Nat) : Met l yX5_gatherSurvivors wsX5_gatherSurvivors R_gs_gatherSurvivors (kP D (tC cA) [.ref (ad 0), .int x1] (wC n ad cA z) sz) (kV D (tC cA) (wC n ad cA z) (wC n ad cA z') sz) 0 0 (va_A (wC n ad cA z) sz) := by
  refine ent (by decide) rfl rfl (Nat.le_of_ble_eq_true rfl) (fun p e s m args below meth c hsz C hS ls hl => ?_)
  subst hsz
  exact w_gs_gatherSurvivors_0 C k z x1 z' hf s.heap [] ls hS hl
