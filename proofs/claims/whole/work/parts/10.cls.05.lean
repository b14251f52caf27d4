-- gs_put: public int put(int);
theorem lk_X5_put_61 : Cond.fieldLink RX5 61 (TX5 9).1 (TX5 9).2.1 (TX5 9).2.2.1 ∈ wsX5_put := by decide +kernel
theorem in_X5_put_X5 : ∀ x ∈ u_ws RX5 TX5 12, x ∈ wsX5_put := by decide +kernel
theorem lk_X5_put_57 : Cond.fieldLink RX5 57 (TX5 5).1 (TX5 5).2.1 (TX5 5).2.2.1 ∈ wsX5_put := by decide +kernel
def R_gs_put : Room := { frames := 4, cells := 0, slots := 0, locals := 89 }
def gs_put (n : Nat) (k : Nat) (z : SS) (x1 : Int32) : Option (Int32 × SS) :=
  (if (z.1 9) = 0 then (bo (rf_isKey n k z x1) fun r_1 => (if r_1 = 0 then some ((-2), z) else (bi (gs_writeRow n k z 1 x1 (z.1 5)) fun r_2 z_2 => (if r_2 = (-4) then some (r_2, z_2) else some (r_2, (si z_2 5 0)))))) else some ((-3), z))
set_option maxHeartbeats 4000000 in
set_option maxRecDepth 100000 in
theorem w_gs_put_0 {p : Program} {l : Launch} {e : Env} {s : State} {m : MethodId} {args : Array Value} {below : List Frame} {meth : Method} {c : Code} {D : va_G} {w0 : va_W} {n : Nat} {ad : Nat → Nat} {cA : Nat → ClassId} (C : Cx p s m args meth c cX5_put 3 (some .int) RX5 wsX5_put D (tC cA)) (k : Nat) (z : SS) (x1 : Int32) (r : Int32) (z' : SS) (hf : gs_put n k z x1 = some (r, z')) : ∀ (H : Heap) (locs : List Loc) (ls : Array Slot), St D (va_A w0 s.heap.size) s.heap (wC n ad cA z) H locs → lv_has ls 3 [(0, .ref (ad 0)), (1, .int x1)] → W p l e R_gs_put s m args below meth c H locs 0 0 (MQ below (kI D (tC cA) r w0 (wC n ad cA z') s.heap.size) args s 0 0 (va_A w0 s.heap.size)) (F0 m 0 ls []) := by
  obtain ⟨hx, hb, hr, hml, hown, hts, hlk, hK⟩ := id C
  intro H locs ls hS hl
  have hf : (if (z.1 9) = 0 then (bo (rf_isKey n k z x1) fun r_1 => (if r_1 = 0 then some ((-2), z) else (bi (gs_writeRow n k z 1 x1 (z.1 5)) fun r_2 z_2 => (if r_2 = (-4) then some (r_2, z_2) else some (r_2, (si z_2 5 0)))))) else some ((-3), z)) = some (r, z') := hf
  refine lv_aload_n hx hb dX5_put_0 rfl (lv_at hl 0 rfl) ?_
  refine gC_9 C hS in_X5_put_X5 lk_X5_put_61 (v := (z.1 9)) rfl dX5_put_1 ?_
  refine lv_if_eq (x := (z.1 9)) (tgt := 10) hx hb dX5_put_4 (by decide) (fun hc => ?_) (fun hc => ?_)
  · replace hf := it_t hc hf
    refine lv_iload_n hx hb dX5_put_10 rfl (lv_at hl 1 rfl) ?_
    obtain ⟨r_1, hcl, hf⟩ := bo_s hf
    refine rcSi (n := 1) (As := [.int x1]) (rest := []) (w' := (wC n ad cA z)) C hS (fun sz => c_rf_isKey l D n ad cA k z x1 r_1 hcl sz) gX5_put_X2_isKey rfl ⟨rfl, rfl⟩ (by decide +kernel) ⟨Nat.le_of_ble_eq_true rfl, Nat.le_of_ble_eq_true rfl⟩ rfl hl.1 rfl (Nat.le_of_ble_eq_true rfl) dX5_put_11 (fun H locs hS => ?_)
    refine lv_if_ne (x := r_1) (tgt := 20) hx hb dX5_put_14 (by decide) (fun hc => ?_) (fun hc => ?_)
    · replace hf := it_f hc hf
      refine lv_aload_n hx hb dX5_put_20 rfl (lv_at hl 0 rfl) ?_
      refine lv_iconst (v := 1) hx hb dX5_put_21 (by decide) ?_
      refine lv_iload_n hx hb dX5_put_22 rfl (lv_at hl 1 rfl) ?_
      refine lv_aload_n hx hb dX5_put_23 rfl (lv_at hl 0 rfl) ?_
      refine gC_5 C hS in_X5_put_X5 lk_X5_put_57 (v := (z.1 5)) rfl dX5_put_24 ?_
      obtain ⟨r_2, z_2, hcl, hf⟩ := bi_s hf
      refine rcVi (n := 3) (As := [.int 1, .int x1, .int (z.1 5)]) (rest := []) (q0 := 0) (w' := (wC n ad cA z_2)) C hS (fun sz => c_gs_writeRow l D n ad cA k z 1 x1 (z.1 5) r_2 z_2 hcl sz) gX5_put_X5_writeRow rfl ⟨rfl, rfl⟩ (by decide +kernel) ⟨Nat.le_of_ble_eq_true rfl, Nat.le_of_ble_eq_true rfl⟩ oC_0 rfl rfl hl.1 rfl (Nat.le_of_ble_eq_true rfl) dX5_put_27 (fun H locs hS => ?_)
      refine lv_istore_n (lv' := [(2, .int r_2), (0, .ref (ad 0)), (1, .int x1)]) hx hb dX5_put_30 rfl hl (by decide) rfl (fun ls hl => ?_)
      refine lv_iload_n hx hb dX5_put_31 rfl (lv_at hl 0 rfl) ?_
      refine lv_bipush (v := (-4)) hx hb dX5_put_32 (by decide) ?_
      refine lv_icmp_eq (x := r_2) (y := (-4)) (tgt := 42) hx hb dX5_put_34 (by decide) (fun hc => ?_) (fun hc => ?_)
      · replace hf := it_t hc hf
        refine lv_iload_n hx hb dX5_put_42 rfl (lv_at hl 0 rfl) ?_
        cases hf
        exact rti C hS dX5_put_43
      · replace hf := it_f hc hf
        refine lv_aload_n hx hb dX5_put_37 rfl (lv_at hl 1 rfl) ?_
        refine lv_iconst (v := 0) hx hb dX5_put_38 (by decide) ?_
        refine pC_5 C hS in_X5_put_X5 lk_X5_put_57 (v := 0) rfl rfl dX5_put_39 (fun H locs hS => ?_)
        refine lv_iload_n hx hb dX5_put_42 rfl (lv_at hl 0 rfl) ?_
        cases hf
        exact rti C hS dX5_put_43
    · replace hf := it_t hc hf
      refine lv_bipush (v := (-2)) hx hb dX5_put_17 (by decide) ?_
      cases hf
      exact rti C hS dX5_put_19
  · replace hf := it_f hc hf
    refine lv_bipush (v := (-3)) hx hb dX5_put_7 (by decide) ?_
    cases hf
    exact rti C hS dX5_put_9
set_option maxHeartbeats 4000000 in
set_option maxRecDepth 100000 in
theorem c_gs_put (l : Launch) (D : va_G) (n : Nat) (ad : Nat → Nat) (cA : Nat → ClassId) (k : Nat) (z : SS) (x1 : Int32) (r : Int32) (z' : SS) (hf : gs_put n k z x1 = some (r, z')) (sz : Nat) : Met l yX5_put wsX5_put R_gs_put (kP D (tC cA) [.ref (ad 0), .int x1] (wC n ad cA z) sz) (kI D (tC cA) r (wC n ad cA z) (wC n ad cA z') sz) 0 0 (va_A (wC n ad cA z) sz) := by
  refine ent (by decide) rfl rfl (Nat.le_of_ble_eq_true rfl) (fun p e s m args below meth c hsz C hS ls hl => ?_)
  subst hsz
  exact w_gs_put_0 C k z x1 r z' hf s.heap [] ls hS hl
-- gs_slotSeen: private int slotSeen(int, int);
theorem lk_X5_slotSeen_30 : Cond.fieldLink RX5 30 (TX5 1).1 (TX5 1).2.1 (TX5 1).2.2.1 ∈ wsX5_slotSeen := by decide +kernel
theorem in_X5_slotSeen_X5 : ∀ x ∈ u_ws RX5 TX5 12, x ∈ wsX5_slotSeen := by decide +kernel
theorem lk_X5_slotSeen_180 : Cond.fieldLink RX5 180 (TX1 5).1 (TX1 5).2.1 (TX1 5).2.2.1 ∈ wsX5_slotSeen := by decide +kernel
theorem in_X5_slotSeen_X1 : ∀ x ∈ u_ws RX1 TX1 6, x ∈ wsX5_slotSeen := by decide +kernel
theorem lk_X5_slotSeen_37 : Cond.fieldLink RX5 37 (TX5 2).1 (TX5 2).2.1 (TX5 2).2.2.1 ∈ wsX5_slotSeen := by decide +kernel
theorem lk_X5_slotSeen_174 : Cond.fieldLink RX5 174 (TX4 1).1 (TX4 1).2.1 (TX4 1).2.2.1 ∈ wsX5_slotSeen := by decide +kernel
theorem in_X5_slotSeen_X4 : ∀ x ∈ u_ws RX4 TX4 2, x ∈ wsX5_slotSeen := by decide +kernel
theorem lk_X5_slotSeen_88 : Cond.fieldLink RX5 88 (TX5 8).1 (TX5 8).2.1 (TX5 8).2.2.1 ∈ wsX5_slotSeen := by decide +kernel
theorem lk_X5_slotSeen_61 : Cond.fieldLink RX5 61 (TX5 9).1 (TX5 9).2.1 (TX5 9).2.2.1 ∈ wsX5_slotSeen := by decide +kernel
def R_gs_slotSeen : Room := { frames := 1, cells := 0, slots := 0, locals := 24 }
def gs_slotSeen_b55 (n : Nat) (k : Nat) (z : SS) (x2 : Int32) (y0 : Int32) : Option Int32 :=
  (bo (ix_slotAt n k z x2 y0) fun r_1 => (if r_1 = (-1) then some (-1) else (if ck r_1 (n * 12) = true then (if ((z.2 15) (Int32.toNatClampNeg r_1)) = 0 then some r_1 else some (-1)) else none)))
def gs_slotSeen_b34 (n : Nat) (k : Nat) (z : SS) (x1 : Int32) (x2 : Int32) : Option Int32 :=
  (if x1 = (-1) then gs_slotSeen_b55 n k z x2 (z.1 8) else (if ck x1 4 = true then gs_slotSeen_b55 n k z x2 ((z.2 17) (Int32.toNatClampNeg x1)) else none))
def gs_slotSeen (n : Nat) (k : Nat) (z : SS) (x1 : Int32) (x2 : Int32) : Option Int32 :=
  (if (z.1 9) = 0 then (bo (rf_isKey n k z x2) fun r_1 => (if r_1 = 0 then some (-1) else (if x1 = (-1) then gs_slotSeen_b34 n k z x1 x2 else (bo (sn_isOpen n k z x1) fun r_2 => (if r_2 = 0 then some (-1) else gs_slotSeen_b34 n k z x1 x2))))) else some (-1))
set_option maxHeartbeats 4000000 in
set_option maxRecDepth 100000 in
theorem w_gs_slotSeen_b55 {p : Program} {l : Launch} {e : Env} {s : State} {m : MethodId} {args : Array Value} {below : List Frame} {meth : Method} {c : Code} {D : va_G} {w0 : va_W} {n : Nat} {ad : Nat → Nat} {cA : Nat → ClassId} (C : Cx p s m args meth c cX5_slotSeen 5 (some .int) RX5 wsX5_slotSeen D (tC cA)) (k : Nat) (z : SS) (x2 : Int32) (y0 : Int32) (r : Int32) (hf : gs_slotSeen_b55 n k z x2 y0 = some r) : ∀ (H : Heap) (locs : List Loc) (ls : Array Slot), St D (va_A w0 s.heap.size) s.heap (wC n ad cA z) H locs → lv_has ls 5 [(0, .ref (ad 0)), (2, .int x2)] → W p l e R_gs_slotSeen s m args below meth c H locs 0 0 (MQ below (kI D (tC cA) r w0 (wC n ad cA z) s.heap.size) args s 0 0 (va_A w0 s.heap.size)) (F0 m 55 ls [.int y0]) := by
  obtain ⟨hx, hb, hr, hml, hown, hts, hlk, hK⟩ := id C
  intro H locs ls hS hl
  have hf : (bo (ix_slotAt n k z x2 y0) fun r_1 => (if r_1 = (-1) then some (-1) else (if ck r_1 (n * 12) = true then (if ((z.2 15) (Int32.toNatClampNeg r_1)) = 0 then some r_1 else some (-1)) else none))) = some r := hf
  refine lv_istore_n (lv' := [(3, .int y0), (0, .ref (ad 0)), (2, .int x2)]) hx hb dX5_slotSeen_55 rfl hl (by decide) rfl (fun ls hl => ?_)
  refine lv_aload_n hx hb dX5_slotSeen_56 rfl (lv_at hl 1 rfl) ?_
  refine hC_2 C hS in_X5_slotSeen_X5 lk_X5_slotSeen_30 dX5_slotSeen_57 ?_
  refine lv_iload_n hx hb dX5_slotSeen_60 rfl (lv_at hl 2 rfl) ?_
  refine lv_iload_n hx hb dX5_slotSeen_61 rfl (lv_at hl 0 rfl) ?_
  obtain ⟨r_1, hcl, hf⟩ := bo_s hf
  refine rcVi (n := 2) (As := [.int x2, .int y0]) (rest := []) (q0 := 2) (w' := (wC n ad cA z)) C hS (fun sz => c_ix_slotAt l D n ad cA k z x2 y0 r_1 hcl sz) gX5_slotSeen_X1_slotAt rfl ⟨rfl, rfl⟩ (by decide +kernel) ⟨Nat.le_of_ble_eq_true rfl, Nat.le_of_ble_eq_true rfl⟩ oC_2 rfl rfl hl.1 rfl (Nat.le_of_ble_eq_true rfl) dX5_slotSeen_62 (fun H locs hS => ?_)
  refine lv_istore (lv' := [(4, .int r_1), (3, .int y0), (0, .ref (ad 0)), (2, .int x2)]) hx hb dX5_slotSeen_65 hl (by decide) rfl (fun ls hl => ?_)
  refine lv_iload hx hb dX5_slotSeen_67 (lv_at hl 0 rfl) ?_
  refine lv_iconst (v := (-1)) hx hb dX5_slotSeen_69 (by decide) ?_
  refine lv_icmp_eq (x := r_1) (y := (-1)) (tgt := 86) hx hb dX5_slotSeen_70 (by decide) (fun hc => ?_) (fun hc => ?_)
  · replace hf := it_t hc hf
    refine lv_iconst (v := (-1)) hx hb dX5_slotSeen_86 (by decide) ?_
    refine lv_goto (tgt := 92) hx hb dX5_slotSeen_87 (by decide) ?_
    cases hf
    exact rti C hS dX5_slotSeen_92
  · replace hf := it_f hc hf
    refine lv_aload_n hx hb dX5_slotSeen_73 rfl (lv_at hl 2 rfl) ?_
    refine hC_2 C hS in_X5_slotSeen_X5 lk_X5_slotSeen_30 dX5_slotSeen_74 ?_
    refine hC_15 C hS in_X5_slotSeen_X1 lk_X5_slotSeen_180 dX5_slotSeen_77 ?_
    refine lv_iload hx hb dX5_slotSeen_80 (lv_at hl 0 rfl) ?_
    obtain ⟨hck, hf⟩ := cs hf
    refine lC_15 C hS (f := (z.2 15)) rfl (i := r_1) hck dX5_slotSeen_82 ?_
    refine lv_if_eq (x := ((z.2 15) (Int32.toNatClampNeg r_1))) (tgt := 90) hx hb dX5_slotSeen_83 (by decide) (fun hc => ?_) (fun hc => ?_)
    · replace hf := it_t hc hf
      refine lv_iload hx hb dX5_slotSeen_90 (lv_at hl 0 rfl) ?_
      cases hf
      exact rti C hS dX5_slotSeen_92
    · replace hf := it_f hc hf
      refine lv_iconst (v := (-1)) hx hb dX5_slotSeen_86 (by decide) ?_
      refine lv_goto (tgt := 92) hx hb dX5_slotSeen_87 (by decide) ?_
      cases hf
      exact rti C hS dX5_slotSeen_92
set_option maxHeartbeats 4000000 in
set_option maxRecDepth 100000 in
theorem w_gs_slotSeen_b34 {p : Program} {l : Launch} {e : Env} {s : State} {m : MethodId} {args : Array Value} {below : List Frame} {meth : Method} {c : Code} {D : va_G} {w0 : va_W} {n : Nat} {ad : Nat → Nat} {cA : Nat → ClassId} (C : Cx p s m args meth c cX5_slotSeen 5 (some .int) RX5 wsX5_slotSeen D (tC cA)) (k : Nat) (z : SS) (x1 : Int32) (x2 : Int32) (r : Int32) (hf : gs_slotSeen_b34 n k z x1 x2 = some r) : ∀ (H : Heap) (locs : List Loc) (ls : Array Slot), St D (va_A w0 s.heap.size) s.heap (wC n ad cA z) H locs → lv_has ls 5 [(0, .ref (ad 0)), (1, .int x1), (2, .int x2)] → W p l e R_gs_slotSeen s m args below meth c H locs 0 0 (MQ below (kI D (tC cA) r w0 (wC n ad cA z) s.heap.size) args s 0 0 (va_A w0 s.heap.size)) (F0 m 34 ls []) := by
  obtain ⟨hx, hb, hr, hml, hown, hts, hlk, hK⟩ := id C
  intro H locs ls hS hl
  have hf : (if x1 = (-1) then gs_slotSeen_b55 n k z x2 (z.1 8) else (if ck x1 4 = true then gs_slotSeen_b55 n k z x2 ((z.2 17) (Int32.toNatClampNeg x1)) else none)) = some r := hf
  refine lv_iload_n hx hb dX5_slotSeen_34 rfl (lv_at hl 1 rfl) ?_
  refine lv_iconst (v := (-1)) hx hb dX5_slotSeen_35 (by decide) ?_
  refine lv_icmp_ne (x := x1) (y := (-1)) (tgt := 46) hx hb dX5_slotSeen_36 (by decide) (fun hc => ?_) (fun hc => ?_)
  · replace hf := it_f hc hf
    refine lv_aload_n hx hb dX5_slotSeen_46 rfl (lv_at hl 0 rfl) ?_
    refine hC_3 C hS in_X5_slotSeen_X5 lk_X5_slotSeen_37 dX5_slotSeen_47 ?_
    refine hC_17 C hS in_X5_slotSeen_X4 lk_X5_slotSeen_174 dX5_slotSeen_50 ?_
    refine lv_iload_n hx hb dX5_slotSeen_53 rfl (lv_at hl 1 rfl) ?_
    obtain ⟨hck, hf⟩ := cs hf
    refine lC_17 C hS (f := (z.2 17)) rfl (i := x1) hck dX5_slotSeen_54 ?_
    exact w_gs_slotSeen_b55 C k z x2 ((z.2 17) (Int32.toNatClampNeg x1)) r hf H locs ls hS (lv_sub hl [0, 2] rfl)
  · replace hf := it_t hc hf
    refine lv_aload_n hx hb dX5_slotSeen_39 rfl (lv_at hl 0 rfl) ?_
    refine gC_8 C hS in_X5_slotSeen_X5 lk_X5_slotSeen_88 (v := (z.1 8)) rfl dX5_slotSeen_40 ?_
    refine lv_goto (tgt := 55) hx hb dX5_slotSeen_43 (by decide) ?_
    exact w_gs_slotSeen_b55 C k z x2 (z.1 8) r hf H locs ls hS (lv_sub hl [0, 2] rfl)
set_option maxHeartbeats 4000000 in
set_option maxRecDepth 100000 in
theorem w_gs_slotSeen_0 {p : Program} {l : Launch} {e : Env} {s : State} {m : MethodId} {args : Array Value} {below : List Frame} {meth : Method} {c : Code} {D : va_G} {w0 : va_W} {n : Nat} {ad : Nat → Nat} {cA : Nat → ClassId} (C : Cx p s m args meth c cX5_slotSeen 5 (some .int) RX5 wsX5_slotSeen D (tC cA)) (k : Nat) (z : SS) (x1 : Int32) (x2 : Int32) (r : Int32) (hf : gs_slotSeen n k z x1 x2 = some r) : ∀ (H : Heap) (locs : List Loc) (ls : Array Slot), St D (va_A w0 s.heap.size) s.heap (wC n ad cA z) H locs → lv_has ls 5 [(0, .ref (ad 0)), (1, .int x1), (2, .int x2)] → W p l e R_gs_slotSeen s m args below meth c H locs 0 0 (MQ below (kI D (tC cA) r w0 (wC n ad cA z) s.heap.size) args s 0 0 (va_A w0 s.heap.size)) (F0 m 0 ls []) := by
  obtain ⟨hx, hb, hr, hml, hown, hts, hlk, hK⟩ := id C
  intro H locs ls hS hl
  have hf : (if (z.1 9) = 0 then (bo (rf_isKey n k z x2) fun r_1 => (if r_1 = 0 then some (-1) else (if x1 = (-1) then gs_slotSeen_b34 n k z x1 x2 else (bo (sn_isOpen n k z x1) fun r_2 => (if r_2 = 0 then some (-1) else gs_slotSeen_b34 n k z x1 x2))))) else some (-1)) = some r := hf
  refine lv_aload_n hx hb dX5_slotSeen_0 rfl (lv_at hl 0 rfl) ?_
  refine gC_9 C hS in_X5_slotSeen_X5 lk_X5_slotSeen_61 (v := (z.1 9)) rfl dX5_slotSeen_1 ?_
  refine lv_if_ne (x := (z.1 9)) (tgt := 14) hx hb dX5_slotSeen_4 (by decide) (fun hc => ?_) (fun hc => ?_)
  · replace hf := it_f hc hf
    refine lv_iconst (v := (-1)) hx hb dX5_slotSeen_14 (by decide) ?_
    cases hf
    exact rti C hS dX5_slotSeen_15
  · replace hf := it_t hc hf
    refine lv_iload_n hx hb dX5_slotSeen_7 rfl (lv_at hl 2 rfl) ?_
    obtain ⟨r_1, hcl, hf⟩ := bo_s hf
    refine rcSi (n := 1) (As := [.int x2]) (rest := []) (w' := (wC n ad cA z)) C hS (fun sz => c_rf_isKey l D n ad cA k z x2 r_1 hcl sz) gX5_slotSeen_X2_isKey rfl ⟨rfl, rfl⟩ (by decide +kernel) ⟨Nat.le_of_ble_eq_true rfl, Nat.le_of_ble_eq_true rfl⟩ rfl hl.1 rfl (Nat.le_of_ble_eq_true rfl) dX5_slotSeen_8 (fun H locs hS => ?_)
    refine lv_if_ne (x := r_1) (tgt := 16) hx hb dX5_slotSeen_11 (by decide) (fun hc => ?_) (fun hc => ?_)
    · replace hf := it_f hc hf
      refine lv_iload_n hx hb dX5_slotSeen_16 rfl (lv_at hl 1 rfl) ?_
      refine lv_iconst (v := (-1)) hx hb dX5_slotSeen_17 (by decide) ?_
      refine lv_icmp_eq (x := x1) (y := (-1)) (tgt := 34) hx hb dX5_slotSeen_18 (by decide) (fun hc => ?_) (fun hc => ?_)
      · replace hf := it_t hc hf
        exact w_gs_slotSeen_b34 C k z x1 x2 r hf H locs ls hS (lv_sub hl [0, 1, 2] rfl)
      · replace hf := it_f hc hf
        refine lv_aload_n hx hb dX5_slotSeen_21 rfl (lv_at hl 0 rfl) ?_
        refine hC_3 C hS in_X5_slotSeen_X5 lk_X5_slotSeen_37 dX5_slotSeen_22 ?_
        refine lv_iload_n hx hb dX5_slotSeen_25 rfl (lv_at hl 1 rfl) ?_
        obtain ⟨r_2, hcl, hf⟩ := bo_s hf
        refine rcVi (n := 1) (As := [.int x1]) (rest := []) (q0 := 3) (w' := (wC n ad cA z)) C hS (fun sz => c_sn_isOpen l D n ad cA k z x1 r_2 hcl sz) gX5_slotSeen_X4_isOpen rfl ⟨rfl, rfl⟩ (by decide +kernel) ⟨Nat.le_of_ble_eq_true rfl, Nat.le_of_ble_eq_true rfl⟩ oC_3 rfl rfl hl.1 rfl (Nat.le_of_ble_eq_true rfl) dX5_slotSeen_26 (fun H locs hS => ?_)
        refine lv_if_ne (x := r_2) (tgt := 34) hx hb dX5_slotSeen_29 (by decide) (fun hc => ?_) (fun hc => ?_)
        · replace hf := it_f hc hf
          exact w_gs_slotSeen_b34 C k z x1 x2 r hf H locs ls hS (lv_sub hl [0, 1, 2] rfl)
        · replace hf := it_t hc hf
          refine lv_iconst (v := (-1)) hx hb dX5_slotSeen_32 (by decide) ?_
          cases hf
          exact rti C hS dX5_slotSeen_33
    · replace hf := it_t hc hf
      refine lv_iconst (v := (-1)) hx hb dX5_slotSeen_14 (by decide) ?_
      cases hf
      exact rti C hS dX5_slotSeen_15
set_option maxHeartbeats 4000000 in
set_option maxRecDepth 100000 in
theorem c_gs_slotSeen (l : Launch) (D : va_G) (n : Nat) (ad : Nat → Nat) (cA : Nat → ClassId) (k : Nat) (z : SS) (x1 : Int32) (x2 : Int32) (r : Int32) (hf : gs_slotSeen n k z x1 x2 = some r) (sz : Nat) : Met l yX5_slotSeen wsX5_slotSeen R_gs_slotSeen (kP D (tC cA) [.ref (ad 0), .int x1, .int x2] (wC n ad cA z) sz) (kI D (tC cA) r (wC n ad cA z) (wC n ad cA z) sz) 0 0 (va_A (wC n ad cA z) sz) := by
  refine ent (by decide) rfl rfl (Nat.le_of_ble_eq_true rfl) (fun p e s m args below meth c hsz C hS ls hl => ?_)
  subst hsz
  exact w_gs_slotSeen_0 C k z x1 x2 r hf s.heap [] ls hS hl
-- gs_drop: public int drop(int);
theorem lk_X5_drop_61 : Cond.fieldLink RX5 61 (TX5 9).1 (TX5 9).2.1 (TX5 9).2.2.1 ∈ wsX5_drop := by decide +kernel
theorem in_X5_drop_X5 : ∀ x ∈ u_ws RX5 TX5 12, x ∈ wsX5_drop := by decide +kernel
def R_gs_drop : Room := { frames := 4, cells := 0, slots := 0, locals := 89 }
def gs_drop (n : Nat) (k : Nat) (z : SS) (x1 : Int32) : Option (Int32 × SS) :=
  (if (z.1 9) = 0 then (bo (gs_slotSeen n k z (-1) x1) fun r_1 => (if r_1 = (-1) then some ((-1), z) else (bi (gs_writeRow n k z 2 x1 0) fun r_2 z_2 => some (r_2, z_2)))) else some ((-3), z))
set_option maxHeartbeats 4000000 in
set_option maxRecDepth 100000 in
theorem w_gs_drop_0 {p : Program} {l : Launch} {e : Env} {s : State} {m : MethodId} {args : Array Value} {below : List Frame} {meth : Method} {c : Code} {D : va_G} {w0 : va_W} {n : Nat} {ad : Nat → Nat} {cA : Nat → ClassId} (C : Cx p s m args meth c cX5_drop 2 (some .int) RX5 wsX5_drop D (tC cA)) (k : Nat) (z : SS) (x1 : Int32) (r : Int32) (z' : SS) (hf : gs_drop n k z x1 = some (r, z')) : ∀ (H : Heap) (locs : List Loc) (ls : Array Slot), St D (va_A w0 s.heap.size) s.heap (wC n ad cA z) H locs → lv_has ls 2 [(0, .ref (ad 0)), (1, .int x1)] → W p l e R_gs_drop s m args below meth c H locs 0 0 (MQ below (kI D (tC cA) r w0 (wC n ad cA z') s.heap.size) args s 0 0 (va_A w0 s.heap.size)) (F0 m 0 ls []) := by
  obtain ⟨hx, hb, hr, hml, hown, hts, hlk, hK⟩ := id C
  intro H locs ls hS hl
  have hf : (if (z.1 9) = 0 then (bo (gs_slotSeen n k z (-1) x1) fun r_1 => (if r_1 = (-1) then some ((-1), z) else (bi (gs_writeRow n k z 2 x1 0) fun r_2 z_2 => some (r_2, z_2)))) else some ((-3), z)) = some (r, z') := hf
  refine lv_aload_n hx hb dX5_drop_0 rfl (lv_at hl 0 rfl) ?_
  refine gC_9 C hS in_X5_drop_X5 lk_X5_drop_61 (v := (z.1 9)) rfl dX5_drop_1 ?_
  refine lv_if_eq (x := (z.1 9)) (tgt := 10) hx hb dX5_drop_4 (by decide) (fun hc => ?_) (fun hc => ?_)
  · replace hf := it_t hc hf
    refine lv_aload_n hx hb dX5_drop_10 rfl (lv_at hl 0 rfl) ?_
    refine lv_iconst (v := (-1)) hx hb dX5_drop_11 (by decide) ?_
    refine lv_iload_n hx hb dX5_drop_12 rfl (lv_at hl 1 rfl) ?_
    obtain ⟨r_1, hcl, hf⟩ := bo_s hf
    refine rcVi (n := 2) (As := [.int (-1), .int x1]) (rest := []) (q0 := 0) (w' := (wC n ad cA z)) C hS (fun sz => c_gs_slotSeen l D n ad cA k z (-1) x1 r_1 hcl sz) gX5_drop_X5_slotSeen rfl ⟨rfl, rfl⟩ (by decide +kernel) ⟨Nat.le_of_ble_eq_true rfl, Nat.le_of_ble_eq_true rfl⟩ oC_0 rfl rfl hl.1 rfl (Nat.le_of_ble_eq_true rfl) dX5_drop_13 (fun H locs hS => ?_)
    refine lv_iconst (v := (-1)) hx hb dX5_drop_16 (by decide) ?_
    refine lv_icmp_ne (x := r_1) (y := (-1)) (tgt := 22) hx hb dX5_drop_17 (by decide) (fun hc => ?_) (fun hc => ?_)
    · replace hf := it_f hc hf
      refine lv_aload_n hx hb dX5_drop_22 rfl (lv_at hl 0 rfl) ?_
      refine lv_iconst (v := 2) hx hb dX5_drop_23 (by decide) ?_
      refine lv_iload_n hx hb dX5_drop_24 rfl (lv_at hl 1 rfl) ?_
      refine lv_iconst (v := 0) hx hb dX5_drop_25 (by decide) ?_
      obtain ⟨r_2, z_2, hcl, hf⟩ := bi_s hf
      refine rcVi (n := 3) (As := [.int 2, .int x1, .int 0]) (rest := []) (q0 := 0) (w' := (wC n ad cA z_2)) C hS (fun sz => c_gs_writeRow l D n ad cA k z 2 x1 0 r_2 z_2 hcl sz) gX5_drop_X5_writeRow rfl ⟨rfl, rfl⟩ (by decide +kernel) ⟨Nat.le_of_ble_eq_true rfl, Nat.le_of_ble_eq_true rfl⟩ oC_0 rfl rfl hl.1 rfl (Nat.le_of_ble_eq_true rfl) dX5_drop_26 (fun H locs hS => ?_)
      cases hf
      exact rti C hS dX5_drop_29
    · replace hf := it_t hc hf
      refine lv_iconst (v := (-1)) hx hb dX5_drop_20 (by decide) ?_
      cases hf
      exact rti C hS dX5_drop_21
  · replace hf := it_f hc hf
    refine lv_bipush (v := (-3)) hx hb dX5_drop_7 (by decide) ?_
    cases hf
    exact rti C hS dX5_drop_9
set_option maxHeartbeats 4000000 in
set_option maxRecDepth 100000 in
theorem c_gs_drop (l : Launch) (D : va_G) (n : Nat) (ad : Nat → Nat) (cA : Nat → ClassId) (k : Nat) (z : SS) (x1 : Int32) (r : Int32) (z' : SS) (hf : gs_drop n k z x1 = some (r, z')) (sz : Nat) : Met l yX5_drop wsX5_drop R_gs_drop (kP D (tC cA) [.ref (ad 0), .int x1] (wC n ad cA z) sz) (kI D (tC cA) r (wC n ad cA z) (wC n ad cA z') sz) 0 0 (va_A (wC n ad cA z) sz) := by
  refine ent (by decide) rfl rfl (Nat.le_of_ble_eq_true rfl) (fun p e s m args below meth c hsz C hS ls hl => ?_)
  subst hsz
  exact w_gs_drop_0 C k z x1 r z' hf s.heap [] ls hS hl
-- gs_length: public int length(int, int);
theorem lk_X5_length_30 : Cond.fieldLink RX5 30 (TX5 1).1 (TX5 1).2.1 (TX5 1).2.2.1 ∈ wsX5_length := by decide +kernel
theorem in_X5_length_X5 : ∀ x ∈ u_ws RX5 TX5 12, x ∈ wsX5_length := by decide +kernel
theorem lk_X5_length_76 : Cond.fieldLink RX5 76 (TX1 4).1 (TX1 4).2.1 (TX1 4).2.2.1 ∈ wsX5_length := by decide +kernel
theorem in_X5_length_X1 : ∀ x ∈ u_ws RX1 TX1 6, x ∈ wsX5_length := by decide +kernel
def R_gs_length : Room := { frames := 2, cells := 0, slots := 0, locals := 48 }
def gs_length (n : Nat) (k : Nat) (z : SS) (x1 : Int32) (x2 : Int32) : Option Int32 :=
  (bo (gs_slotSeen n k z x1 x2) fun r_1 => (if r_1 = (-1) then some (-1) else (if ck r_1 (n * 12) = true then some ((z.2 14) (Int32.toNatClampNeg r_1)) else none)))
set_option maxHeartbeats 4000000 in
set_option maxRecDepth 100000 in
theorem w_gs_length_0 {p : Program} {l : Launch} {e : Env} {s : State} {m : MethodId} {args : Array Value} {below : List Frame} {meth : Method} {c : Code} {D : va_G} {w0 : va_W} {n : Nat} {ad : Nat → Nat} {cA : Nat → ClassId} (C : Cx p s m args meth c cX5_length 4 (some .int) RX5 wsX5_length D (tC cA)) (k : Nat) (z : SS) (x1 : Int32) (x2 : Int32) (r : Int32) (hf : gs_length n k z x1 x2 = some r) : ∀ (H : Heap) (locs : List Loc) (ls : Array Slot), St D (va_A w0 s.heap.size) s.heap (wC n ad cA z) H locs → lv_has ls 4 [(0, .ref (ad 0)), (1, .int x1), (2, .int x2)] → W p l e R_gs_length s m args below meth c H locs 0 0 (MQ below (kI D (tC cA) r w0 (wC n ad cA z) s.heap.size) args s 0 0 (va_A w0 s.heap.size)) (F0 m 0 ls []) := by
  obtain ⟨hx, hb, hr, hml, hown, hts, hlk, hK⟩ := id C
  intro H locs ls hS hl
  have hf : (bo (gs_slotSeen n k z x1 x2) fun r_1 => (if r_1 = (-1) then some (-1) else (if ck r_1 (n * 12) = true then some ((z.2 14) (Int32.toNatClampNeg r_1)) else none))) = some r := hf
  refine lv_aload_n hx hb dX5_length_0 rfl (lv_at hl 0 rfl) ?_
  refine lv_iload_n hx hb dX5_length_1 rfl (lv_at hl 1 rfl) ?_
  refine lv_iload_n hx hb dX5_length_2 rfl (lv_at hl 2 rfl) ?_
  obtain ⟨r_1, hcl, hf⟩ := bo_s hf
  refine rcVi (n := 2) (As := [.int x1, .int x2]) (rest := []) (q0 := 0) (w' := (wC n ad cA z)) C hS (fun sz => c_gs_slotSeen l D n ad cA k z x1 x2 r_1 hcl sz) gX5_length_X5_slotSeen rfl ⟨rfl, rfl⟩ (by decide +kernel) ⟨Nat.le_of_ble_eq_true rfl, Nat.le_of_ble_eq_true rfl⟩ oC_0 rfl rfl hl.1 rfl (Nat.le_of_ble_eq_true rfl) dX5_length_3 (fun H locs hS => ?_)
  refine lv_istore_n (lv' := [(3, .int r_1), (0, .ref (ad 0)), (1, .int x1), (2, .int x2)]) hx hb dX5_length_6 rfl hl (by decide) rfl (fun ls hl => ?_)
  refine lv_iload_n hx hb dX5_length_7 rfl (lv_at hl 0 rfl) ?_
  refine lv_iconst (v := (-1)) hx hb dX5_length_8 (by decide) ?_
  refine lv_icmp_ne (x := r_1) (y := (-1)) (tgt := 16) hx hb dX5_length_9 (by decide) (fun hc => ?_) (fun hc => ?_)
  · replace hf := it_f hc hf
    refine lv_aload_n hx hb dX5_length_16 rfl (lv_at hl 1 rfl) ?_
    refine hC_2 C hS in_X5_length_X5 lk_X5_length_30 dX5_length_17 ?_
    refine hC_14 C hS in_X5_length_X1 lk_X5_length_76 dX5_length_20 ?_
    refine lv_iload_n hx hb dX5_length_23 rfl (lv_at hl 0 rfl) ?_
    obtain ⟨hck, hf⟩ := cs hf
    refine lC_14 C hS (f := (z.2 14)) rfl (i := r_1) hck dX5_length_24 ?_
    cases hf
    exact rti C hS dX5_length_25
  · replace hf := it_t hc hf
    refine lv_iconst (v := (-1)) hx hb dX5_length_12 (by decide) ?_
    refine lv_goto (tgt := 25) hx hb dX5_length_13 (by decide) ?_
    cases hf
    exact rti C hS dX5_length_25
set_option maxHeartbeats 4000000 in
set_option maxRecDepth 100000 in
theorem c_gs_length (l : Launch) (D : va_G) (n : Nat) (ad : Nat → Nat) (cA : Nat → ClassId) (k : Nat) (z : SS) (x1 : Int32) (x2 : Int32) (r : Int32) (hf : gs_length n k z x1 x2 = some r) (sz : Nat) : Met l yX5_length wsX5_length R_gs_length (kP D (tC cA) [.ref (ad 0), .int x1, .int x2] (wC n ad cA z) sz) (kI D (tC cA) r (wC n ad cA z) (wC n ad cA z) sz) 0 0 (va_A (wC n ad cA z) sz) := by
  refine ent (by decide) rfl rfl (Nat.le_of_ble_eq_true rfl) (fun p e s m args below meth c hsz C hS ls hl => ?_)
  subst hsz
  exact w_gs_length_0 C k z x1 x2 r hf s.heap [] ls hS hl
-- gs_find: public int find(int, int, int);
theorem lk_X5_find_30 : Cond.fieldLink RX5 30 (TX5 1).1 (TX5 1).2.1 (TX5 1).2.2.1 ∈ wsX5_find := by decide +kernel
theorem in_X5_find_X5 : ∀ x ∈ u_ws RX5 TX5 12, x ∈ wsX5_find := by decide +kernel
theorem lk_X5_find_76 : Cond.fieldLink RX5 76 (TX1 4).1 (TX1 4).2.1 (TX1 4).2.2.1 ∈ wsX5_find := by decide +kernel
theorem in_X5_find_X1 : ∀ x ∈ u_ws RX1 TX1 6, x ∈ wsX5_find := by decide +kernel
theorem lk_X5_find_23 : Cond.fieldLink RX5 23 (TX5 0).1 (TX5 0).2.1 (TX5 0).2.2.1 ∈ wsX5_find := by decide +kernel
theorem lk_X5_find_78 : Cond.fieldLink RX5 78 (TX3 1).1 (TX3 1).2.1 (TX3 1).2.2.1 ∈ wsX5_find := by decide +kernel
theorem in_X5_find_X3 : ∀ x ∈ u_ws RX3 TX3 6, x ∈ wsX5_find := by decide +kernel
theorem lk_X5_find_81 : Cond.fieldLink RX5 81 (TX1 1).1 (TX1 1).2.1 (TX1 1).2.2.1 ∈ wsX5_find := by decide +kernel
def R_gs_find : Room := { frames := 2, cells := 0, slots := 0, locals := 48 }
def gs_find (n : Nat) (k : Nat) (z : SS) (x1 : Int32) (x2 : Int32) (x3 : Int32) : Option Int32 :=
  (bo (gs_slotSeen n k z x1 x2) fun r_1 => (if r_1 = (-1) then some (-1) else (if x3 < 0 then some (-1) else (if ck r_1 (n * 12) = true then (if x3 < ((z.2 14) (Int32.toNatClampNeg r_1)) then (if ck r_1 (n * 12) = true then (if ck ((((z.2 11) (Int32.toNatClampNeg r_1)) + 8) + x3) (n * 200) = true then some ((z.2 7) (Int32.toNatClampNeg ((((z.2 11) (Int32.toNatClampNeg r_1)) + 8) + x3))) else none) else none) else some (-1)) else none))))
set_option maxHeartbeats 4000000 in
set_option maxRecDepth 100000 in
theorem w_gs_find_0 {p : Program} {l : Launch} {e : Env} {s : State} {m : MethodId} {args : Array Value} {below : List Frame} {meth : Method} {c : Code} {D : va_G} {w0 : va_W} {n : Nat} {ad : Nat → Nat} {cA : Nat → ClassId} (C : Cx p s m args meth c cX5_find 5 (some .int) RX5 wsX5_find D (tC cA)) (k : Nat) (z : SS) (x1 : Int32) (x2 : Int32) (x3 : Int32) (r : Int32) (hf : gs_find n k z x1 x2 x3 = some r) : ∀ (H : Heap) (locs : List Loc) (ls : Array Slot), St D (va_A w0 s.heap.size) s.heap (wC n ad cA z) H locs → lv_has ls 5 [(0, .ref (ad 0)), (1, .int x1), (2, .int x2), (3, .int x3)] → W p l e R_gs_find s m args below meth c H locs 0 0 (MQ below (kI D (tC cA) r w0 (wC n ad cA z) s.heap.size) args s 0 0 (va_A w0 s.heap.size)) (F0 m 0 ls []) := by
  obtain ⟨hx, hb, hr, hml, hown, hts, hlk, hK⟩ := id C
  intro H locs ls hS hl
  have hf : (bo (gs_slotSeen n k z x1 x2) fun r_1 => (if r_1 = (-1) then some (-1) else (if x3 < 0 then some (-1) else (if ck r_1 (n * 12) = true then (if x3 < ((z.2 14) (Int32.toNatClampNeg r_1)) then (if ck r_1 (n * 12) = true then (if ck ((((z.2 11) (Int32.toNatClampNeg r_1)) + 8) + x3) (n * 200) = true then some ((z.2 7) (Int32.toNatClampNeg ((((z.2 11) (Int32.toNatClampNeg r_1)) + 8) + x3))) else none) else none) else some (-1)) else none)))) = some r := hf
  refine lv_aload_n hx hb dX5_find_0 rfl (lv_at hl 0 rfl) ?_
  refine lv_iload_n hx hb dX5_find_1 rfl (lv_at hl 1 rfl) ?_
  refine lv_iload_n hx hb dX5_find_2 rfl (lv_at hl 2 rfl) ?_
  obtain ⟨r_1, hcl, hf⟩ := bo_s hf
  refine rcVi (n := 2) (As := [.int x1, .int x2]) (rest := []) (q0 := 0) (w' := (wC n ad cA z)) C hS (fun sz => c_gs_slotSeen l D n ad cA k z x1 x2 r_1 hcl sz) gX5_find_X5_slotSeen rfl ⟨rfl, rfl⟩ (by decide +kernel) ⟨Nat.le_of_ble_eq_true rfl, Nat.le_of_ble_eq_true rfl⟩ oC_0 rfl rfl hl.1 rfl (Nat.le_of_ble_eq_true rfl) dX5_find_3 (fun H locs hS => ?_)
  refine lv_istore (lv' := [(4, .int r_1), (0, .ref (ad 0)), (1, .int x1), (2, .int x2), (3, .int x3)]) hx hb dX5_find_6 hl (by decide) rfl (fun ls hl => ?_)
  refine lv_iload hx hb dX5_find_8 (lv_at hl 0 rfl) ?_
  refine lv_iconst (v := (-1)) hx hb dX5_find_10 (by decide) ?_
  refine lv_icmp_eq (x := r_1) (y := (-1)) (tgt := 32) hx hb dX5_find_11 (by decide) (fun hc => ?_) (fun hc => ?_)
  · replace hf := it_t hc hf
    refine lv_iconst (v := (-1)) hx hb dX5_find_32 (by decide) ?_
    cases hf
    exact rti C hS dX5_find_33
  · replace hf := it_f hc hf
    refine lv_iload_n hx hb dX5_find_14 rfl (lv_at hl 4 rfl) ?_
    refine lv_if_lt (x := x3) (tgt := 32) hx hb dX5_find_15 (by decide) (fun hc => ?_) (fun hc => ?_)
    · replace hf := it_t hc hf
      refine lv_iconst (v := (-1)) hx hb dX5_find_32 (by decide) ?_
      cases hf
      exact rti C hS dX5_find_33
    · replace hf := it_f hc hf
      refine lv_iload_n hx hb dX5_find_18 rfl (lv_at hl 4 rfl) ?_
      refine lv_aload_n hx hb dX5_find_19 rfl (lv_at hl 1 rfl) ?_
      refine hC_2 C hS in_X5_find_X5 lk_X5_find_30 dX5_find_20 ?_
      refine hC_14 C hS in_X5_find_X1 lk_X5_find_76 dX5_find_23 ?_
      refine lv_iload hx hb dX5_find_26 (lv_at hl 0 rfl) ?_
      obtain ⟨hck, hf⟩ := cs hf
      refine lC_14 C hS (f := (z.2 14)) rfl (i := r_1) hck dX5_find_28 ?_
      refine lv_icmp_lt (x := x3) (y := ((z.2 14) (Int32.toNatClampNeg r_1))) (tgt := 34) hx hb dX5_find_29 (by decide) (fun hc => ?_) (fun hc => ?_)
      · replace hf := it_t hc hf
        refine lv_aload_n hx hb dX5_find_34 rfl (lv_at hl 1 rfl) ?_
        refine hC_1 C hS in_X5_find_X5 lk_X5_find_23 dX5_find_35 ?_
        refine hC_7 C hS in_X5_find_X3 lk_X5_find_78 dX5_find_38 ?_
        refine lv_aload_n hx hb dX5_find_41 rfl (lv_at hl 1 rfl) ?_
        refine hC_2 C hS in_X5_find_X5 lk_X5_find_30 dX5_find_42 ?_
        refine hC_11 C hS in_X5_find_X1 lk_X5_find_81 dX5_find_45 ?_
        refine lv_iload hx hb dX5_find_48 (lv_at hl 0 rfl) ?_
        obtain ⟨hck, hf⟩ := cs hf
        refine lC_11 C hS (f := (z.2 11)) rfl (i := r_1) hck dX5_find_50 ?_
        refine lv_bipush (v := 8) hx hb dX5_find_51 (by decide) ?_
        refine lv_iadd (x := ((z.2 11) (Int32.toNatClampNeg r_1))) (y := 8) hx hb dX5_find_53 ?_
        refine lv_iload_n hx hb dX5_find_54 rfl (lv_at hl 4 rfl) ?_
        refine lv_iadd (x := (((z.2 11) (Int32.toNatClampNeg r_1)) + 8)) (y := x3) hx hb dX5_find_55 ?_
        obtain ⟨hck, hf⟩ := cs hf
        refine lC_7 C hS (f := (z.2 7)) rfl (i := ((((z.2 11) (Int32.toNatClampNeg r_1)) + 8) + x3)) hck dX5_find_56 ?_
        cases hf
        exact rti C hS dX5_find_57
      · replace hf := it_f hc hf
        refine lv_iconst (v := (-1)) hx hb dX5_find_32 (by decide) ?_
        cases hf
        exact rti C hS dX5_find_33
set_option maxHeartbeats 4000000 in
set_option maxRecDepth 100000 in
theorem c_gs_find (l : Launch) (D : va_G) (n : Nat) (ad : Nat → Nat) (cA : Nat → ClassId) (k : Nat) (z : SS) (x1 : Int32) (x2 : Int32) (x3 : Int32) (r : Int32) (hf : gs_find n k z x1 x2 x3 = some r) (sz : Nat) : Met l yX5_find wsX5_find R_gs_find (kP D (tC cA) [.ref (ad 0), .int x1, .int x2, .int x3] (wC n ad cA z) sz) (kI D (tC cA) r (wC n ad cA z) (wC n ad cA z) sz) 0 0 (va_A (wC n ad cA z) sz) := by
  refine ent (by decide) rfl rfl (Nat.le_of_ble_eq_true rfl) (fun p e s m args below meth c hsz C hS ls hl => ?_)
  subst hsz
  exact w_gs_find_0 C k z x1 x2 x3 r hf s.heap [] ls hS hl
-- gs_snapshot: public int snapshot();
theorem lk_X5_snapshot_61 : Cond.fieldLink RX5 61 (TX5 9).1 (TX5 9).2.1 (TX5 9).2.2.1 ∈ wsX5_snapshot := by decide +kernel
theorem in_X5_snapshot_X5 : ∀ x ∈ u_ws RX5 TX5 12, x ∈ wsX5_snapshot := by decide +kernel
theorem lk_X5_snapshot_37 : Cond.fieldLink RX5 37 (TX5 2).1 (TX5 2).2.1 (TX5 2).2.2.1 ∈ wsX5_snapshot := by decide +kernel
theorem lk_X5_snapshot_88 : Cond.fieldLink RX5 88 (TX5 8).1 (TX5 8).2.1 (TX5 8).2.2.1 ∈ wsX5_snapshot := by decide +kernel
def R_gs_snapshot : Room := { frames := 1, cells := 0, slots := 0, locals := 22 }
def gs_snapshot (n : Nat) (k : Nat) (z : SS) : Option (Int32 × SS) :=
  (if (z.1 9) = 0 then (bo (sn_leastNotOpen n k z) fun r_1 => (if r_1 = (-1) then some ((-4), z) else (bo (sn_open n k z r_1 (z.1 8)) fun z_2 => some (r_1, z_2)))) else some ((-3), z))
set_option maxHeartbeats 4000000 in
set_option maxRecDepth 100000 in
theorem w_gs_snapshot_0 {p : Program} {l : Launch} {e : Env} {s : State} {m : MethodId} {args : Array Value} {below : List Frame} {meth : Method} {c : Code} {D : va_G} {w0 : va_W} {n : Nat} {ad : Nat → Nat} {cA : Nat → ClassId} (C : Cx p s m args meth c cX5_snapshot 2 (some .int) RX5 wsX5_snapshot D (tC cA)) (k : Nat) (z : SS) (r : Int32) (z' : SS) (hf : gs_snapshot n k z = some (r, z')) : ∀ (H : Heap) (locs : List Loc) (ls : Array Slot), St D (va_A w0 s.heap.size) s.heap (wC n ad cA z) H locs → lv_has ls 2 [(0, .ref (ad 0))] → W p l e R_gs_snapshot s m args below meth c H locs 0 0 (MQ below (kI D (tC cA) r w0 (wC n ad cA z') s.heap.size) args s 0 0 (va_A w0 s.heap.size)) (F0 m 0 ls []) := by
  obtain ⟨hx, hb, hr, hml, hown, hts, hlk, hK⟩ := id C
  intro H locs ls hS hl
  have hf : (if (z.1 9) = 0 then (bo (sn_leastNotOpen n k z) fun r_1 => (if r_1 = (-1) then some ((-4), z) else (bo (sn_open n k z r_1 (z.1 8)) fun z_2 => some (r_1, z_2)))) else some ((-3), z)) = some (r, z') := hf
  refine lv_aload_n hx hb dX5_snapshot_0 rfl (lv_at hl 0 rfl) ?_
  refine gC_9 C hS in_X5_snapshot_X5 lk_X5_snapshot_61 (v := (z.1 9)) rfl dX5_snapshot_1 ?_
  refine lv_if_eq (x := (z.1 9)) (tgt := 10) hx hb dX5_snapshot_4 (by decide) (fun hc => ?_) (fun hc => ?_)
  · replace hf := it_t hc hf
    refine lv_aload_n hx hb dX5_snapshot_10 rfl (lv_at hl 0 rfl) ?_
    refine hC_3 C hS in_X5_snapshot_X5 lk_X5_snapshot_37 dX5_snapshot_11 ?_
    obtain ⟨r_1, hcl, hf⟩ := bo_s hf
    refine rcVi (n := 0) (As := []) (rest := []) (q0 := 3) (w' := (wC n ad cA z)) C hS (fun sz => c_sn_leastNotOpen l D n ad cA k z r_1 hcl sz) gX5_snapshot_X4_leastNotOpen rfl ⟨rfl, rfl⟩ (by decide +kernel) ⟨Nat.le_of_ble_eq_true rfl, Nat.le_of_ble_eq_true rfl⟩ oC_3 rfl rfl hl.1 rfl (Nat.le_of_ble_eq_true rfl) dX5_snapshot_14 (fun H locs hS => ?_)
    refine lv_istore_n (lv' := [(1, .int r_1), (0, .ref (ad 0))]) hx hb dX5_snapshot_17 rfl hl (by decide) rfl (fun ls hl => ?_)
    refine lv_iload_n hx hb dX5_snapshot_18 rfl (lv_at hl 0 rfl) ?_
    refine lv_iconst (v := (-1)) hx hb dX5_snapshot_19 (by decide) ?_
    refine lv_icmp_ne (x := r_1) (y := (-1)) (tgt := 26) hx hb dX5_snapshot_20 (by decide) (fun hc => ?_) (fun hc => ?_)
    · replace hf := it_f hc hf
      refine lv_aload_n hx hb dX5_snapshot_26 rfl (lv_at hl 1 rfl) ?_
      refine hC_3 C hS in_X5_snapshot_X5 lk_X5_snapshot_37 dX5_snapshot_27 ?_
      refine lv_iload_n hx hb dX5_snapshot_30 rfl (lv_at hl 0 rfl) ?_
      refine lv_aload_n hx hb dX5_snapshot_31 rfl (lv_at hl 1 rfl) ?_
      refine gC_8 C hS in_X5_snapshot_X5 lk_X5_snapshot_88 (v := (z.1 8)) rfl dX5_snapshot_32 ?_
      obtain ⟨z_2, hcl, hf⟩ := bo_s hf
      refine rcVv (n := 2) (As := [.int r_1, .int (z.1 8)]) (rest := []) (q0 := 3) (w' := (wC n ad cA z_2)) C hS (fun sz => c_sn_open l D n ad cA k z r_1 (z.1 8) z_2 hcl sz) gX5_snapshot_X4_open rfl ⟨rfl, rfl⟩ (by decide +kernel) ⟨Nat.le_of_ble_eq_true rfl, Nat.le_of_ble_eq_true rfl⟩ oC_3 rfl rfl hl.1 rfl (Nat.le_of_ble_eq_true rfl) dX5_snapshot_35 (fun H locs hS => ?_)
      refine lv_iload_n hx hb dX5_snapshot_38 rfl (lv_at hl 0 rfl) ?_
      cases hf
      exact rti C hS dX5_snapshot_39
    · replace hf := it_t hc hf
      refine lv_bipush (v := (-4)) hx hb dX5_snapshot_23 (by decide) ?_
      cases hf
      exact rti C hS dX5_snapshot_25
  · replace hf := it_f hc hf
    refine lv_bipush (v := (-3)) hx hb dX5_snapshot_7 (by decide) ?_
    cases hf
    exact rti C hS dX5_snapshot_9
set_option maxHeartbeats 4000000 in
set_option maxRecDepth 100000 in
theorem c_gs_snapshot (l : Launch) (D : va_G) (n : Nat) (ad : Nat → Nat) (cA : Nat → ClassId) (k : Nat) (z : SS) (r : Int32) (z' : SS) (hf : gs_snapshot n k z = some (r, z')) (sz : Nat) : Met l yX5_snapshot wsX5_snapshot R_gs_snapshot (kP D (tC cA) [.ref (ad 0)] (wC n ad cA z) sz) (kI D (tC cA) r (wC n ad cA z) (wC n ad cA z') sz) 0 0 (va_A (wC n ad cA z) sz) := by
  refine ent (by decide) rfl rfl (Nat.le_of_ble_eq_true rfl) (fun p e s m args below meth c hsz C hS ls hl => ?_)
  subst hsz
  exact w_gs_snapshot_0 C k z r z' hf s.heap [] ls hS hl
-- gs_release: public int release(int);
theorem lk_X5_release_61 : Cond.fieldLink RX5 61 (TX5 9).1 (TX5 9).2.1 (TX5 9).2.2.1 ∈ wsX5_release := by decide +kernel
theorem in_X5_release_X5 : ∀ x ∈ u_ws RX5 TX5 12, x ∈ wsX5_release := by decide +kernel
theorem lk_X5_release_37 : Cond.fieldLink RX5 37 (TX5 2).1 (TX5 2).2.1 (TX5 2).2.2.1 ∈ wsX5_release := by decide +kernel
def R_gs_release : Room := { frames := 1, cells := 0, slots := 0, locals := 21 }
def gs_release (n : Nat) (k : Nat) (z : SS) (x1 : Int32) : Option (Int32 × SS) :=
  (if (z.1 9) = 0 then (bo (sn_isOpen n k z x1) fun r_1 => (if r_1 = 0 then some ((-1), z) else (bo (sn_close n k z x1) fun z_2 => some (1, z_2)))) else some ((-3), z))
set_option maxHeartbeats 4000000 in
set_option maxRecDepth 100000 in
theorem w_gs_release_0 {p : Program} {l : Launch} {e : Env} {s : State} {m : MethodId} {args : Array Value} {below : List Frame} {meth : Method} {c : Code} {D : va_G} {w0 : va_W} {n : Nat} {ad : Nat → Nat} {cA : Nat → ClassId} (C : Cx p s m args meth c cX5_release 2 (some .int) RX5 wsX5_release D (tC cA)) (k : Nat) (z : SS) (x1 : Int32) (r : Int32) (z' : SS) (hf : gs_release n k z x1 = some (r, z')) : ∀ (H : Heap) (locs : List Loc) (ls : Array Slot), St D (va_A w0 s.heap.size) s.heap (wC n ad cA z) H locs → lv_has ls 2 [(0, .ref (ad 0)), (1, .int x1)] → W p l e R_gs_release s m args below meth c H locs 0 0 (MQ below (kI D (tC cA) r w0 (wC n ad cA z') s.heap.size) args s 0 0 (va_A w0 s.heap.size)) (F0 m 0 ls []) := by
  obtain ⟨hx, hb, hr, hml, hown, hts, hlk, hK⟩ := id C
  intro H locs ls hS hl
  have hf : (if (z.1 9) = 0 then (bo (sn_isOpen n k z x1) fun r_1 => (if r_1 = 0 then some ((-1), z) else (bo (sn_close n k z x1) fun z_2 => some (1, z_2)))) else some ((-3), z)) = some (r, z') := hf
  refine lv_aload_n hx hb dX5_release_0 rfl (lv_at hl 0 rfl) ?_
  refine gC_9 C hS in_X5_release_X5 lk_X5_release_61 (v := (z.1 9)) rfl dX5_release_1 ?_
  refine lv_if_eq (x := (z.1 9)) (tgt := 10) hx hb dX5_release_4 (by decide) (fun hc => ?_) (fun hc => ?_)
  · replace hf := it_t hc hf
    refine lv_aload_n hx hb dX5_release_10 rfl (lv_at hl 0 rfl) ?_
    refine hC_3 C hS in_X5_release_X5 lk_X5_release_37 dX5_release_11 ?_
    refine lv_iload_n hx hb dX5_release_14 rfl (lv_at hl 1 rfl) ?_
    obtain ⟨r_1, hcl, hf⟩ := bo_s hf
    refine rcVi (n := 1) (As := [.int x1]) (rest := []) (q0 := 3) (w' := (wC n ad cA z)) C hS (fun sz => c_sn_isOpen l D n ad cA k z x1 r_1 hcl sz) gX5_release_X4_isOpen rfl ⟨rfl, rfl⟩ (by decide +kernel) ⟨Nat.le_of_ble_eq_true rfl, Nat.le_of_ble_eq_true rfl⟩ oC_3 rfl rfl hl.1 rfl (Nat.le_of_ble_eq_true rfl) dX5_release_15 (fun H locs hS => ?_)
    refine lv_if_ne (x := r_1) (tgt := 23) hx hb dX5_release_18 (by decide) (fun hc => ?_) (fun hc => ?_)
    · replace hf := it_f hc hf
      refine lv_aload_n hx hb dX5_release_23 rfl (lv_at hl 0 rfl) ?_
      refine hC_3 C hS in_X5_release_X5 lk_X5_release_37 dX5_release_24 ?_
      refine lv_iload_n hx hb dX5_release_27 rfl (lv_at hl 1 rfl) ?_
      obtain ⟨z_2, hcl, hf⟩ := bo_s hf
      refine rcVv (n := 1) (As := [.int x1]) (rest := []) (q0 := 3) (w' := (wC n ad cA z_2)) C hS (fun sz => c_sn_close l D n ad cA k z x1 z_2 hcl sz) gX5_release_X4_close rfl ⟨rfl, rfl⟩ (by decide +kernel) ⟨Nat.le_of_ble_eq_true rfl, Nat.le_of_ble_eq_true rfl⟩ oC_3 rfl rfl hl.1 rfl (Nat.le_of_ble_eq_true rfl) dX5_release_28 (fun H locs hS => ?_)
      refine lv_iconst (v := 1) hx hb dX5_release_31 (by decide) ?_
      cases hf
      exact rti C hS dX5_release_32
    · replace hf := it_t hc hf
      refine lv_iconst (v := (-1)) hx hb dX5_release_21 (by decide) ?_
      cases hf
      exact rti C hS dX5_release_22
  · replace hf := it_f hc hf
    refine lv_bipush (v := (-3)) hx hb dX5_release_7 (by decide) ?_
    cases hf
    exact rti C hS dX5_release_9
set_option maxHeartbeats 4000000 in
set_option maxRecDepth 100000 in
theorem c_gs_release (l : Launch) (D : va_G) (n : Nat) (ad : Nat → Nat) (cA : Nat → ClassId) (k : Nat) (z : SS) (x1 : Int32) (r : Int32) (z' : SS) (hf : gs_release n k z x1 = some (r, z')) (sz : Nat) : Met l yX5_release wsX5_release R_gs_release (kP D (tC cA) [.ref (ad 0), .int x1] (wC n ad cA z) sz) (kI D (tC cA) r (wC n ad cA z) (wC n ad cA z') sz) 0 0 (va_A (wC n ad cA z) sz) := by
  refine ent (by decide) rfl rfl (Nat.le_of_ble_eq_true rfl) (fun p e s m args below meth c hsz C hS ls hl => ?_)
  subst hsz
  exact w_gs_release_0 C k z x1 r z' hf s.heap [] ls hS hl
-- gs_sync: public int sync();
theorem lk_X5_sync_61 : Cond.fieldLink RX5 61 (TX5 9).1 (TX5 9).2.1 (TX5 9).2.2.1 ∈ wsX5_sync := by decide +kernel
theorem in_X5_sync_X5 : ∀ x ∈ u_ws RX5 TX5 12, x ∈ wsX5_sync := by decide +kernel
theorem lk_X5_sync_23 : Cond.fieldLink RX5 23 (TX5 0).1 (TX5 0).2.1 (TX5 0).2.2.1 ∈ wsX5_sync := by decide +kernel
def R_gs_sync : Room := { frames := 1, cells := 0, slots := 0, locals := 21 }
def gs_sync (n : Nat) (k : Nat) (z : SS) : Option (Int32 × SS) :=
  (if (z.1 9) = 0 then (bi (sg_settle n k z) fun r_1 z_1 => some (r_1, z_1)) else some ((-3), z))
set_option maxHeartbeats 4000000 in
set_option maxRecDepth 100000 in
theorem w_gs_sync_0 {p : Program} {l : Launch} {e : Env} {s : State} {m : MethodId} {args : Array Value} {below : List Frame} {meth : Method} {c : Code} {D : va_G} {w0 : va_W} {n : Nat} {ad : Nat → Nat} {cA : Nat → ClassId} (C : Cx p s m args meth c cX5_sync 1 (some .int) RX5 wsX5_sync D (tC cA)) (k : Nat) (z : SS) (r : Int32) (z' : SS) (hf : gs_sync n k z = some (r, z')) : ∀ (H : Heap) (locs : List Loc) (ls : Array Slot), St D (va_A w0 s.heap.size) s.heap (wC n ad cA z) H locs → lv_has ls 1 [(0, .ref (ad 0))] → W p l e R_gs_sync s m args below meth c H locs 0 0 (MQ below (kI D (tC cA) r w0 (wC n ad cA z') s.heap.size) args s 0 0 (va_A w0 s.heap.size)) (F0 m 0 ls []) := by
  obtain ⟨hx, hb, hr, hml, hown, hts, hlk, hK⟩ := id C
  intro H locs ls hS hl
  have hf : (if (z.1 9) = 0 then (bi (sg_settle n k z) fun r_1 z_1 => some (r_1, z_1)) else some ((-3), z)) = some (r, z') := hf
  refine lv_aload_n hx hb dX5_sync_0 rfl (lv_at hl 0 rfl) ?_
  refine gC_9 C hS in_X5_sync_X5 lk_X5_sync_61 (v := (z.1 9)) rfl dX5_sync_1 ?_
  refine lv_if_eq (x := (z.1 9)) (tgt := 10) hx hb dX5_sync_4 (by decide) (fun hc => ?_) (fun hc => ?_)
  · replace hf := it_t hc hf
    refine lv_aload_n hx hb dX5_sync_10 rfl (lv_at hl 0 rfl) ?_
    refine hC_1 C hS in_X5_sync_X5 lk_X5_sync_23 dX5_sync_11 ?_
    obtain ⟨r_1, z_1, hcl, hf⟩ := bi_s hf
    refine rcVi (n := 0) (As := []) (rest := []) (q0 := 1) (w' := (wC n ad cA z_1)) C hS (fun sz => c_sg_settle l D n ad cA k z r_1 z_1 hcl sz) gX5_sync_X3_settle rfl ⟨rfl, rfl⟩ (by decide +kernel) ⟨Nat.le_of_ble_eq_true rfl, Nat.le_of_ble_eq_true rfl⟩ oC_1 rfl rfl hl.1 rfl (Nat.le_of_ble_eq_true rfl) dX5_sync_14 (fun H locs hS => ?_)
    cases hf
    exact rti C hS dX5_sync_17
  · replace hf := it_f hc hf
    refine lv_bipush (v := (-3)) hx hb dX5_sync_7 (by decide) ?_
    cases hf
    exact rti C hS dX5_sync_9
set_option maxHeartbeats 4000000 in
set_option maxRecDepth 100000 in
theorem c_gs_sync (l : Launch) (D : va_G) (n : Nat) (ad : Nat → Nat) (cA : Nat → ClassId) (k : Nat) (z : SS) (r : Int32) (z' : SS) (hf : gs_sync n k z = some (r, z')) (sz : Nat) : Met l yX5_sync wsX5_sync R_gs_sync (kP D (tC cA) [.ref (ad 0)] (wC n ad cA z) sz) (kI D (tC cA) r (wC n ad cA z) (wC n ad cA z') sz) 0 0 (va_A (wC n ad cA z) sz) := by
  refine ent (by decide) rfl rfl (Nat.le_of_ble_eq_true rfl) (fun p e s m args below meth c hsz C hS ls hl => ?_)
  subst hsz
  exact w_gs_sync_0 C k z r z' hf s.heap [] ls hS hl
