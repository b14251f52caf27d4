-- gs_survivorsHaveRoom: private boolean survivorsHaveRoom();
theorem lk_X5_survivorsHaveRoom_218 : Cond.fieldLink RX5 218 (TX5 7).1 (TX5 7).2.1 (TX5 7).2.2.1 ∈ wsX5_survivorsHaveRoom := by decide +kernel
theorem in_X5_survivorsHaveRoom_X5 : ∀ x ∈ u_ws RX5 TX5 12, x ∈ wsX5_survivorsHaveRoom := by decide +kernel
theorem lk_X5_survivorsHaveRoom_30 : Cond.fieldLink RX5 30 (TX5 1).1 (TX5 1).2.1 (TX5 1).2.2.1 ∈ wsX5_survivorsHaveRoom := by decide +kernel
theorem lk_X5_survivorsHaveRoom_54 : Cond.fieldLink RX5 54 (TX5 6).1 (TX5 6).2.1 (TX5 6).2.2.1 ∈ wsX5_survivorsHaveRoom := by decide +kernel
theorem lk_X5_survivorsHaveRoom_23 : Cond.fieldLink RX5 23 (TX5 0).1 (TX5 0).2.1 (TX5 0).2.2.1 ∈ wsX5_survivorsHaveRoom := by decide +kernel
def R_gs_survivorsHaveRoom : Room := { frames := 2, cells := 0, slots := 0, locals := 42 }
def gs_survivorsHaveRoom_b10 (n : Nat) (k : Nat) (z : SS) : Nat → Int32 → Int32 → Option Int32
  | 0, _, _ => none
  | fu + 1, x1, x2 => (if (z.1 7) ≤ x2 then some 1 else (if ck x2 12 = true then (bo (ix_bytesOf n k z ((z.2 6) (Int32.toNatClampNeg x2))) fun r_1 => (if r_1 ≤ x1 then gs_survivorsHaveRoom_b10 n k z fu (x1 - r_1) (x2 + 1) else (bo (sg_leastFree n k z) fun r_2 => (if r_2 = (-1) then some 0 else some 1)))) else none))
def gs_survivorsHaveRoom (n : Nat) (k : Nat) (z : SS) : Option Int32 :=
  (bo (sg_roomInWritten n k z) fun r_1 => gs_survivorsHaveRoom_b10 n k z k r_1 0)
set_option maxHeartbeats 4000000 in
set_option maxRecDepth 100000 in
theorem w_gs_survivorsHaveRoom_b10 {p : Program} {l : Launch} {e : Env} {s : State} {m : MethodId} {args : Array Value} {below : List Frame} {meth : Method} {c : Code} {D : va_G} {w0 : va_W} {n : Nat} {ad : Nat → Nat} {cA : Nat → ClassId} (C : Cx p s m args meth c cX5_survivorsHaveRoom 4 (some .boolean) RX5 wsX5_survivorsHaveRoom D (tC cA)) (k : Nat) (z : SS) : ∀ (fu : Nat) (x1 : Int32) (x2 : Int32) (r : Int32), gs_survivorsHaveRoom_b10 n k z fu x1 x2 = some r → ∀ (H : Heap) (locs : List Loc) (ls : Array Slot), St D (va_A w0 s.heap.size) s.heap (wC n ad cA z) H locs → lv_has ls 4 [(0, .ref (ad 0)), (1, .int x1), (2, .int x2)] → W p l e R_gs_survivorsHaveRoom s m args below meth c H locs 0 0 (MQ below (kI D (tC cA) r w0 (wC n ad cA z) s.heap.size) args s 0 0 (va_A w0 s.heap.size)) (F0 m 10 ls []) := by
  obtain ⟨hx, hb, hr, hml, hown, hts, hlk, hK⟩ := id C
  intro fu
  induction fu with
  | zero =>
    intro x1 x2 r hf
    cases (show (none : Option Int32) = some r from hf)
  | succ fu ih =>
    intro x1 x2 r hf H locs ls hS hl
    have hf : (if (z.1 7) ≤ x2 then some 1 else (if ck x2 12 = true then (bo (ix_bytesOf n k z ((z.2 6) (Int32.toNatClampNeg x2))) fun r_1 => (if r_1 ≤ x1 then gs_survivorsHaveRoom_b10 n k z fu (x1 - r_1) (x2 + 1) else (bo (sg_leastFree n k z) fun r_2 => (if r_2 = (-1) then some 0 else some 1)))) else none)) = some r := hf
    refine lv_iload_n hx hb dX5_survivorsHaveRoom_10 rfl (lv_at hl 2 rfl) ?_
    refine lv_aload_n hx hb dX5_survivorsHaveRoom_11 rfl (lv_at hl 0 rfl) ?_
    refine gC_7 C hS in_X5_survivorsHaveRoom_X5 lk_X5_survivorsHaveRoom_218 (v := (z.1 7)) rfl dX5_survivorsHaveRoom_12 ?_
    refine lv_icmp_ge (x := x2) (y := (z.1 7)) (tgt := 64) hx hb dX5_survivorsHaveRoom_15 (by decide) (fun hc => ?_) (fun hc => ?_)
    · replace hf := it_t hc hf
      refine lv_iconst (v := 1) hx hb dX5_survivorsHaveRoom_64 (by decide) ?_
      cases hf
      exact rtz C hS (by decide) dX5_survivorsHaveRoom_65
    · replace hf := it_f hc hf
      refine lv_aload_n hx hb dX5_survivorsHaveRoom_18 rfl (lv_at hl 0 rfl) ?_
      refine hC_2 C hS in_X5_survivorsHaveRoom_X5 lk_X5_survivorsHaveRoom_30 dX5_survivorsHaveRoom_19 ?_
      refine lv_aload_n hx hb dX5_survivorsHaveRoom_22 rfl (lv_at hl 0 rfl) ?_
      refine hC_6 C hS in_X5_survivorsHaveRoom_X5 lk_X5_survivorsHaveRoom_54 dX5_survivorsHaveRoom_23 ?_
      refine lv_iload_n hx hb dX5_survivorsHaveRoom_26 rfl (lv_at hl 2 rfl) ?_
      obtain ⟨hck, hf⟩ := cs hf
      refine lC_6 C hS (f := (z.2 6)) rfl (i := x2) hck dX5_survivorsHaveRoom_27 ?_
      obtain ⟨r_1, hcl, hf⟩ := bo_s hf
      refine rcVi (n := 1) (As := [.int ((z.2 6) (Int32.toNatClampNeg x2))]) (rest := []) (q0 := 2) (w' := (wC n ad cA z)) C hS (fun sz => c_ix_bytesOf l D n ad cA k z ((z.2 6) (Int32.toNatClampNeg x2)) r_1 hcl sz) gX5_survivorsHaveRoom_X1_bytesOf rfl ⟨rfl, rfl⟩ (by decide +kernel) ⟨Nat.le_of_ble_eq_true rfl, Nat.le_of_ble_eq_true rfl⟩ oC_2 rfl rfl hl.1 rfl (Nat.le_of_ble_eq_true rfl) dX5_survivorsHaveRoom_28 (fun H locs hS => ?_)
      refine lv_istore_n (lv' := [(3, .int r_1), (0, .ref (ad 0)), (1, .int x1), (2, .int x2)]) hx hb dX5_survivorsHaveRoom_31 rfl hl (by decide) rfl (fun ls hl => ?_)
      refine lv_iload_n hx hb dX5_survivorsHaveRoom_32 rfl (lv_at hl 0 rfl) ?_
      refine lv_iload_n hx hb dX5_survivorsHaveRoom_33 rfl (lv_at hl 2 rfl) ?_
      refine lv_icmp_le (x := r_1) (y := x1) (tgt := 54) hx hb dX5_survivorsHaveRoom_34 (by decide) (fun hc => ?_) (fun hc => ?_)
      · replace hf := it_t hc hf
        refine lv_iload_n hx hb dX5_survivorsHaveRoom_54 rfl (lv_at hl 2 rfl) ?_
        refine lv_iload_n hx hb dX5_survivorsHaveRoom_55 rfl (lv_at hl 0 rfl) ?_
        refine lv_isub (x := x1) (y := r_1) hx hb dX5_survivorsHaveRoom_56 ?_
        refine lv_istore_n (lv' := [(1, .int (x1 - r_1)), (3, .int r_1), (0, .ref (ad 0)), (2, .int x2)]) hx hb dX5_survivorsHaveRoom_57 rfl hl (by decide) rfl (fun ls hl => ?_)
        refine lv_iinc (v := (x2 + 1)) (lv' := [(2, .int (x2 + 1)), (1, .int (x1 - r_1)), (3, .int r_1), (0, .ref (ad 0))]) hx hb dX5_survivorsHaveRoom_58 hl (k := 3) rfl (congrArg (fun q => x2 + q) (by decide : Int32.ofInt 1 = (1 : Int32))) (by decide) rfl (fun ls hl => ?_)
        refine lv_goto (tgt := 10) hx hb dX5_survivorsHaveRoom_61 (by decide) ?_
        exact ih (x1 - r_1) (x2 + 1) r hf H locs ls hS (lv_sub hl [3, 1, 0] rfl)
      · replace hf := it_f hc hf
        refine lv_aload_n hx hb dX5_survivorsHaveRoom_37 rfl (lv_at hl 1 rfl) ?_
        refine hC_1 C hS in_X5_survivorsHaveRoom_X5 lk_X5_survivorsHaveRoom_23 dX5_survivorsHaveRoom_38 ?_
        obtain ⟨r_2, hcl, hf⟩ := bo_s hf
        refine rcVi (n := 0) (As := []) (rest := []) (q0 := 1) (w' := (wC n ad cA z)) C hS (fun sz => c_sg_leastFree l D n ad cA k z r_2 hcl sz) gX5_survivorsHaveRoom_X3_leastFree rfl ⟨rfl, rfl⟩ (by decide +kernel) ⟨Nat.le_of_ble_eq_true rfl, Nat.le_of_ble_eq_true rfl⟩ oC_1 rfl rfl hl.1 rfl (Nat.le_of_ble_eq_true rfl) dX5_survivorsHaveRoom_41 (fun H locs hS => ?_)
        refine lv_iconst (v := (-1)) hx hb dX5_survivorsHaveRoom_44 (by decide) ?_
        refine lv_icmp_eq (x := r_2) (y := (-1)) (tgt := 52) hx hb dX5_survivorsHaveRoom_45 (by decide) (fun hc => ?_) (fun hc => ?_)
        · replace hf := it_t hc hf
          refine lv_iconst (v := 0) hx hb dX5_survivorsHaveRoom_52 (by decide) ?_
          cases hf
          exact rtz C hS (by decide) dX5_survivorsHaveRoom_53
        · replace hf := it_f hc hf
          refine lv_iconst (v := 1) hx hb dX5_survivorsHaveRoom_48 (by decide) ?_
          refine lv_goto (tgt := 53) hx hb dX5_survivorsHaveRoom_49 (by decide) ?_
          cases hf
          exact rtz C hS (by decide) dX5_survivorsHaveRoom_53
set_option maxHeartbeats 4000000 in
set_option maxRecDepth 100000 in
theorem w_gs_survivorsHaveRoom_0 {p : Program} {l : Launch} {e : Env} {s : State} {m : MethodId} {args : Array Value} {below : List Frame} {meth : Method} {c : Code} {D : va_G} {w0 : va_W} {n : Nat} {ad : Nat → Nat} {cA : Nat → ClassId} (C : Cx p s m args meth c cX5_survivorsHaveRoom 4 (some .boolean) RX5 wsX5_survivorsHaveRoom D (tC cA)) (k : Nat) (z : SS) (r : Int32) (hf : gs_survivorsHaveRoom n k z = some r) : ∀ (H : Heap) (locs : List Loc) (ls : Array Slot), St D (va_A w0 s.heap.size) s.heap (wC n ad cA z) H locs → lv_has ls 4 [(0, .ref (ad 0))] → W p l e R_gs_survivorsHaveRoom s m args below meth c H locs 0 0 (MQ below (kI D (tC cA) r w0 (wC n ad cA z) s.heap.size) args s 0 0 (va_A w0 s.heap.size)) (F0 m 0 ls []) := by
  obtain ⟨hx, hb, hr, hml, hown, hts, hlk, hK⟩ := id C
  intro H locs ls hS hl
  have hf : (bo (sg_roomInWritten n k z) fun r_1 => gs_survivorsHaveRoom_b10 n k z k r_1 0) = some r := hf
  refine lv_aload_n hx hb dX5_survivorsHaveRoom_0 rfl (lv_at hl 0 rfl) ?_
  refine hC_1 C hS in_X5_survivorsHaveRoom_X5 lk_X5_survivorsHaveRoom_23 dX5_survivorsHaveRoom_1 ?_
  obtain ⟨r_1, hcl, hf⟩ := bo_s hf
  refine rcVi (n := 0) (As := []) (rest := []) (q0 := 1) (w' := (wC n ad cA z)) C hS (fun sz => c_sg_roomInWritten l D n ad cA k z r_1 hcl sz) gX5_survivorsHaveRoom_X3_roomInWritten rfl ⟨rfl, rfl⟩ (by decide +kernel) ⟨Nat.le_of_ble_eq_true rfl, Nat.le_of_ble_eq_true rfl⟩ oC_1 rfl rfl hl.1 rfl (Nat.le_of_ble_eq_true rfl) dX5_survivorsHaveRoom_4 (fun H locs hS => ?_)
  refine lv_istore_n (lv' := [(1, .int r_1), (0, .ref (ad 0))]) hx hb dX5_survivorsHaveRoom_7 rfl hl (by decide) rfl (fun ls hl => ?_)
  refine lv_iconst (v := 0) hx hb dX5_survivorsHaveRoom_8 (by decide) ?_
  refine lv_istore_n (lv' := [(2, .int 0), (1, .int r_1), (0, .ref (ad 0))]) hx hb dX5_survivorsHaveRoom_9 rfl hl (by decide) rfl (fun ls hl => ?_)
  exact w_gs_survivorsHaveRoom_b10 C k z k r_1 0 r hf H locs ls hS (lv_sub hl [2, 1, 0] rfl)
set_option maxHeartbeats 4000000 in
set_option maxRecDepth 100000 in
theorem c_gs_survivorsHaveRoom (l : Launch) (D : va_G) (n : Nat) (ad : Nat → Nat) (cA : Nat → ClassId) (k : Nat) (z : SS) (r : Int32) (hf : gs_survivorsHaveRoom n k z = some r) (sz : Nat) : Met l yX5_survivorsHaveRoom wsX5_survivorsHaveRoom R_gs_survivorsHaveRoom (kP D (tC cA) [.ref (ad 0)] (wC n ad cA z) sz) (kI D (tC cA) r (wC n ad cA z) (wC n ad cA z) sz) 0 0 (va_A (wC n ad cA z) sz) := by
  refine ent (by decide) rfl rfl (Nat.le_of_ble_eq_true rfl) (fun p e s m args below meth c hsz C hS ls hl => ?_)
  subst hsz
  exact w_gs_survivorsHaveRoom_0 C k z r hf s.heap [] ls hS hl
-- gs_clean: public int clean(int, int, int);
theorem lk_X5_clean_23 : Cond.fieldLink RX5 23 (TX5 0).1 (TX5 0).2.1 (TX5 0).2.2.1 ∈ wsX5_clean := by decide +kernel
theorem in_X5_clean_X5 : ∀ x ∈ u_ws RX5 TX5 12, x ∈ wsX5_clean := by decide +kernel
theorem lk_X5_clean_30 : Cond.fieldLink RX5 30 (TX5 1).1 (TX5 1).2.1 (TX5 1).2.2.1 ∈ wsX5_clean := by decide +kernel
theorem lk_X5_clean_111 : Cond.fieldLink RX5 111 (TX3 0).1 (TX3 0).2.1 (TX3 0).2.2.1 ∈ wsX5_clean := by decide +kernel
theorem in_X5_clean_X3 : ∀ x ∈ u_ws RX3 TX3 6, x ∈ wsX5_clean := by decide +kernel
theorem lk_X5_clean_61 : Cond.fieldLink RX5 61 (TX5 9).1 (TX5 9).2.1 (TX5 9).2.2.1 ∈ wsX5_clean := by decide +kernel
def R_gs_clean : Room := { frames := 5, cells := 0, slots := 0, locals := 113 }
def gs_clean_b112 (n : Nat) (k : Nat) (rc55 : SS → Int32 → Int32 → Int32 → Int32 → Int32 → Int32 → Option (Int32 × SS)) (z : SS) (x1 : Int32) (x2 : Int32) (x3 : Int32) (x4 : Int32) (x5 : Int32) (x6 : Int32) (y0 : Int32) : Option (Int32 × SS) :=
  (bi (gs_copySurvivors n k z y0) fun r_1 z_1 => (if r_1 ≤ y0 then (bi (sg_settle n k z_1) fun r_2 z_2 => (bo (sg_wipe n k z_2 x6) fun z_3 => (bo (ix_forget n k z_3 x6) fun z_4 => rc55 z_4 x1 x2 x3 (x4 + r_1) (x5 + 1) (x6 + 1)))) else (bo (gs_shut n k z_1) fun z_5 => some (x5, z_5))))
def gs_clean_b55 (n : Nat) (k : Nat) : Nat → SS → Int32 → Int32 → Int32 → Int32 → Int32 → Int32 → Option (Int32 × SS)
  | 0, _, _, _, _, _, _, _ => none
  | fu + 1, z, x1, x2, x3, x4, x5, x6 => (if (z.1 20) ≤ x6 then some (x5, z) else (bo (gs_isDue n k z x6 x1 x2) fun r_1 => (if r_1 = 0 then gs_clean_b55 n k fu z x1 x2 x3 x4 x5 (x6 + 1) else (bo (gs_gatherSurvivors n k z x6) fun z_2 => (bo (gs_survivorsHaveRoom n k z_2) fun r_3 => (if r_3 = 0 then some (x5, z_2) else (if x3 = (-1) then gs_clean_b112 n k (gs_clean_b55 n k fu) z_2 x1 x2 x3 x4 x5 x6 200 else gs_clean_b112 n k (gs_clean_b55 n k fu) z_2 x1 x2 x3 x4 x5 x6 (x3 - x4))))))))
def gs_clean (n : Nat) (k : Nat) (z : SS) (x1 : Int32) (x2 : Int32) (x3 : Int32) : Option (Int32 × SS) :=
  (if (z.1 9) = 0 then (if x2 < 1 then some ((-2), z) else (if 100 < x2 then some ((-2), z) else (if x1 < 0 then some ((-2), z) else (if x2 < x1 then some ((-2), z) else (if (-1) ≤ x3 then (bi (sg_settle n k z) fun r_1 z_1 => gs_clean_b55 n k k z_1 x1 x2 x3 0 0 0) else some ((-2), z)))))) else some ((-3), z))
set_option maxHeartbeats 4000000 in
set_option maxRecDepth 100000 in
theorem w_gs_clean_b112 {p : Program} {l : Launch} {e : Env} {s : State} {m : MethodId} {args : Array Value} {below : List Frame} {meth : Method} {c : Code} {D : va_G} {w0 : va_W} {n : Nat} {ad : Nat → Nat} {cA : Nat → ClassId} (C : Cx p s m args meth c cX5_clean 9 (some .int) RX5 wsX5_clean D (tC cA)) (k : Nat) {rc55 : SS → Int32 → Int32 → Int32 → Int32 → Int32 → Int32 → Option (Int32 × SS)} (hrc55 : ∀ (z : SS) (x1 : Int32) (x2 : Int32) (x3 : Int32) (x4 : Int32) (x5 : Int32) (x6 : Int32) (r : Int32) (z' : SS), rc55 z x1 x2 x3 x4 x5 x6 = some (r, z') → ∀ (H : Heap) (locs : List Loc) (ls : Array Slot), St D (va_A w0 s.heap.size) s.heap (wC n ad cA z) H locs → lv_has ls 9 [(0, .ref (ad 0)), (1, .int x1), (2, .int x2), (3, .int x3), (4, .int x4), (5, .int x5), (6, .int x6)] → W p l e R_gs_clean s m args below meth c H locs 0 0 (MQ below (kI D (tC cA) r w0 (wC n ad cA z') s.heap.size) args s 0 0 (va_A w0 s.heap.size)) (F0 m 55 ls [])) (z : SS) (x1 : Int32) (x2 : Int32) (x3 : Int32) (x4 : Int32) (x5 : Int32) (x6 : Int32) (y0 : Int32) (r : Int32) (z' : SS) (hf : gs_clean_b112 n k rc55 z x1 x2 x3 x4 x5 x6 y0 = some (r, z')) : ∀ (H : Heap) (locs : List Loc) (ls : Array Slot), St D (va_A w0 s.heap.size) s.heap (wC n ad cA z) H locs → lv_has ls 9 [(0, .ref (ad 0)), (1, .int x1), (2, .int x2), (3, .int x3), (4, .int x4), (5, .int x5), (6, .int x6)] → W p l e R_gs_clean s m args below meth c H locs 0 0 (MQ below (kI D (tC cA) r w0 (wC n ad cA z') s.heap.size) args s 0 0 (va_A w0 s.heap.size)) (F0 m 112 ls [.int y0]) := by
  obtain ⟨hx, hb, hr, hml, hown, hts, hlk, hK⟩ := id C
  intro H locs ls hS hl
  have hf : (bi (gs_copySurvivors n k z y0) fun r_1 z_1 => (if r_1 ≤ y0 then (bi (sg_settle n k z_1) fun r_2 z_2 => (bo (sg_wipe n k z_2 x6) fun z_3 => (bo (ix_forget n k z_3 x6) fun z_4 => rc55 z_4 x1 x2 x3 (x4 + r_1) (x5 + 1) (x6 + 1)))) else (bo (gs_shut n k z_1) fun z_5 => some (x5, z_5)))) = some (r, z') := hf
  refine lv_istore (lv' := [(7, .int y0), (0, .ref (ad 0)), (1, .int x1), (2, .int x2), (3, .int x3), (4, .int x4), (5, .int x5), (6, .int x6)]) hx hb dX5_clean_112 hl (by decide) rfl (fun ls hl => ?_)
  refine lv_aload_n hx hb dX5_clean_114 rfl (lv_at hl 1 rfl) ?_
  refine lv_iload hx hb dX5_clean_115 (lv_at hl 0 rfl) ?_
  obtain ⟨r_1, z_1, hcl, hf⟩ := bi_s hf
  refine rcVi (n := 1) (As := [.int y0]) (rest := []) (q0 := 0) (w' := (wC n ad cA z_1)) C hS (fun sz => c_gs_copySurvivors l D n ad cA k z y0 r_1 z_1 hcl sz) gX5_clean_X5_copySurvivors rfl ⟨rfl, rfl⟩ (by decide +kernel) ⟨Nat.le_of_ble_eq_true rfl, Nat.le_of_ble_eq_true rfl⟩ oC_0 rfl rfl hl.1 rfl (Nat.le_of_ble_eq_true rfl) dX5_clean_117 (fun H locs hS => ?_)
  refine lv_istore (lv' := [(8, .int r_1), (7, .int y0), (0, .ref (ad 0)), (1, .int x1), (2, .int x2), (3, .int x3), (4, .int x4), (5, .int x5), (6, .int x6)]) hx hb dX5_clean_120 hl (by decide) rfl (fun ls hl => ?_)
  refine lv_iload hx hb dX5_clean_122 (lv_at hl 0 rfl) ?_
  refine lv_iload hx hb dX5_clean_124 (lv_at hl 1 rfl) ?_
  refine lv_icmp_le (x := r_1) (y := y0) (tgt := 136) hx hb dX5_clean_126 (by decide) (fun hc => ?_) (fun hc => ?_)
  · replace hf := it_t hc hf
    refine lv_iload hx hb dX5_clean_136 (lv_at hl 6 rfl) ?_
    refine lv_iload hx hb dX5_clean_138 (lv_at hl 0 rfl) ?_
    refine lv_iadd (x := x4) (y := r_1) hx hb dX5_clean_140 ?_
    refine lv_istore (lv' := [(4, .int (x4 + r_1)), (8, .int r_1), (7, .int y0), (0, .ref (ad 0)), (1, .int x1), (2, .int x2), (3, .int x3), (5, .int x5), (6, .int x6)]) hx hb dX5_clean_141 hl (by decide) rfl (fun ls hl => ?_)
    refine lv_aload_n hx hb dX5_clean_143 rfl (lv_at hl 3 rfl) ?_
    refine hC_1 C hS in_X5_clean_X5 lk_X5_clean_23 dX5_clean_144 ?_
    obtain ⟨r_2, z_2, hcl, hf⟩ := bi_s hf
    refine rcVi (n := 0) (As := []) (rest := []) (q0 := 1) (w' := (wC n ad cA z_2)) C hS (fun sz => c_sg_settle l D n ad cA k z_1 r_2 z_2 hcl sz) gX5_clean_X3_settle rfl ⟨rfl, rfl⟩ (by decide +kernel) ⟨Nat.le_of_ble_eq_true rfl, Nat.le_of_ble_eq_true rfl⟩ oC_1 rfl rfl hl.1 rfl (Nat.le_of_ble_eq_true rfl) dX5_clean_147 (fun H locs hS => ?_)
    refine lv_pop hx hb dX5_clean_150 rfl ?_
    refine lv_aload_n hx hb dX5_clean_151 rfl (lv_at hl 3 rfl) ?_
    refine hC_1 C hS in_X5_clean_X5 lk_X5_clean_23 dX5_clean_152 ?_
    refine lv_iload hx hb dX5_clean_155 (lv_at hl 8 rfl) ?_
    obtain ⟨z_3, hcl, hf⟩ := bo_s hf
    refine rcVv (n := 1) (As := [.int x6]) (rest := []) (q0 := 1) (w' := (wC n ad cA z_3)) C hS (fun sz => c_sg_wipe l D n ad cA k z_2 x6 z_3 hcl sz) gX5_clean_X3_wipe rfl ⟨rfl, rfl⟩ (by decide +kernel) ⟨Nat.le_of_ble_eq_true rfl, Nat.le_of_ble_eq_true rfl⟩ oC_1 rfl rfl hl.1 rfl (Nat.le_of_ble_eq_true rfl) dX5_clean_157 (fun H locs hS => ?_)
    refine lv_aload_n hx hb dX5_clean_160 rfl (lv_at hl 3 rfl) ?_
    refine hC_2 C hS in_X5_clean_X5 lk_X5_clean_30 dX5_clean_161 ?_
    refine lv_iload hx hb dX5_clean_164 (lv_at hl 8 rfl) ?_
    obtain ⟨z_4, hcl, hf⟩ := bo_s hf
    refine rcVv (n := 1) (As := [.int x6]) (rest := []) (q0 := 2) (w' := (wC n ad cA z_4)) C hS (fun sz => c_ix_forget l D n ad cA k z_3 x6 z_4 hcl sz) gX5_clean_X1_forget rfl ⟨rfl, rfl⟩ (by decide +kernel) ⟨Nat.le_of_ble_eq_true rfl, Nat.le_of_ble_eq_true rfl⟩ oC_2 rfl rfl hl.1 rfl (Nat.le_of_ble_eq_true rfl) dX5_clean_166 (fun H locs hS => ?_)
    refine lv_iinc (v := (x5 + 1)) (lv' := [(5, .int (x5 + 1)), (4, .int (x4 + r_1)), (8, .int r_1), (7, .int y0), (0, .ref (ad 0)), (1, .int x1), (2, .int x2), (3, .int x3), (6, .int x6)]) hx hb dX5_clean_169 hl (k := 7) rfl (congrArg (fun q => x5 + q) (by decide : Int32.ofInt 1 = (1 : Int32))) (by decide) rfl (fun ls hl => ?_)
    refine lv_iinc (v := (x6 + 1)) (lv' := [(6, .int (x6 + 1)), (5, .int (x5 + 1)), (4, .int (x4 + r_1)), (8, .int r_1), (7, .int y0), (0, .ref (ad 0)), (1, .int x1), (2, .int x2), (3, .int x3)]) hx hb dX5_clean_172 hl (k := 8) rfl (congrArg (fun q => x6 + q) (by decide : Int32.ofInt 1 = (1 : Int32))) (by decide) rfl (fun ls hl => ?_)
    refine lv_goto (tgt := 55) hx hb dX5_clean_175 (by decide) ?_
    exact hrc55 z_4 x1 x2 x3 (x4 + r_1) (x5 + 1) (x6 + 1) r z' hf H locs ls hS (lv_sub hl [5, 6, 7, 8, 2, 1, 0] rfl)
  · replace hf := it_f hc hf
    refine lv_aload_n hx hb dX5_clean_129 rfl (lv_at hl 2 rfl) ?_
    obtain ⟨z_5, hcl, hf⟩ := bo_s hf
    refine rcVv (n := 0) (As := []) (rest := []) (q0 := 0) (w' := (wC n ad cA z_5)) C hS (fun sz => c_gs_shut l D n ad cA k z_1 z_5 hcl sz) gX5_clean_X5_shut rfl ⟨rfl, rfl⟩ (by decide +kernel) ⟨Nat.le_of_ble_eq_true rfl, Nat.le_of_ble_eq_true rfl⟩ oC_0 rfl rfl hl.1 rfl (Nat.le_of_ble_eq_true rfl) dX5_clean_130 (fun H locs hS => ?_)
    refine lv_goto (tgt := 178) hx hb dX5_clean_133 (by decide) ?_
    refine lv_iload hx hb dX5_clean_178 (lv_at hl 7 rfl) ?_
    cases hf
    exact rti C hS dX5_clean_180
set_option maxHeartbeats 4000000 in
set_option maxRecDepth 100000 in
theorem w_gs_clean_b55 {p : Program} {l : Launch} {e : Env} {s : State} {m : MethodId} {args : Array Value} {below : List Frame} {meth : Method} {c : Code} {D : va_G} {w0 : va_W} {n : Nat} {ad : Nat → Nat} {cA : Nat → ClassId} (C : Cx p s m args meth c cX5_clean 9 (some .int) RX5 wsX5_clean D (tC cA)) (k : Nat) : ∀ (fu : Nat) (z : SS) (x1 : Int32) (x2 : Int32) (x3 : Int32) (x4 : Int32) (x5 : Int32) (x6 : Int32) (r : Int32) (z' : SS), gs_clean_b55 n k fu z x1 x2 x3 x4 x5 x6 = some (r, z') → ∀ (H : Heap) (locs : List Loc) (ls : Array Slot), St D (va_A w0 s.heap.size) s.heap (wC n ad cA z) H locs → lv_has ls 9 [(0, .ref (ad 0)), (1, .int x1), (2, .int x2), (3, .int x3), (4, .int x4), (5, .int x5), (6, .int x6)] → W p l e R_gs_clean s m args below meth c H locs 0 0 (MQ below (kI D (tC cA) r w0 (wC n ad cA z') s.heap.size) args s 0 0 (va_A w0 s.heap.size)) (F0 m 55 ls []) := by
  obtain ⟨hx, hb, hr, hml, hown, hts, hlk, hK⟩ := id C
  intro fu
  induction fu with
  | zero =>
    intro z x1 x2 x3 x4 x5 x6 r z' hf
    cases (show (none : Option (Int32 × SS)) = some (r, z') from hf)
  | succ fu ih =>
    intro z x1 x2 x3 x4 x5 x6 r z' hf H locs ls hS hl
    have hf : (if (z.1 20) ≤ x6 then some (x5, z) else (bo (gs_isDue n k z x6 x1 x2) fun r_1 => (if r_1 = 0 then gs_clean_b55 n k fu z x1 x2 x3 x4 x5 (x6 + 1) else (bo (gs_gatherSurvivors n k z x6) fun z_2 => (bo (gs_survivorsHaveRoom n k z_2) fun r_3 => (if r_3 = 0 then some (x5, z_2) else (if x3 = (-1) then gs_clean_b112 n k (gs_clean_b55 n k fu) z_2 x1 x2 x3 x4 x5 x6 200 else gs_clean_b112 n k (gs_clean_b55 n k fu) z_2 x1 x2 x3 x4 x5 x6 (x3 - x4)))))))) = some (r, z') := hf
    refine lv_iload hx hb dX5_clean_55 (lv_at hl 6 rfl) ?_
    refine lv_aload_n hx hb dX5_clean_57 rfl (lv_at hl 0 rfl) ?_
    refine hC_1 C hS in_X5_clean_X5 lk_X5_clean_23 dX5_clean_58 ?_
    refine gC_20 C hS in_X5_clean_X3 lk_X5_clean_111 (v := (z.1 20)) rfl dX5_clean_61 ?_
    refine lv_icmp_ge (x := x6) (y := (z.1 20)) (tgt := 178) hx hb dX5_clean_64 (by decide) (fun hc => ?_) (fun hc => ?_)
    · replace hf := it_t hc hf
      refine lv_iload hx hb dX5_clean_178 (lv_at hl 5 rfl) ?_
      cases hf
      exact rti C hS dX5_clean_180
    · replace hf := it_f hc hf
      refine lv_aload_n hx hb dX5_clean_67 rfl (lv_at hl 0 rfl) ?_
      refine lv_iload hx hb dX5_clean_68 (lv_at hl 6 rfl) ?_
      refine lv_iload_n hx hb dX5_clean_70 rfl (lv_at hl 1 rfl) ?_
      refine lv_iload_n hx hb dX5_clean_71 rfl (lv_at hl 2 rfl) ?_
      obtain ⟨r_1, hcl, hf⟩ := bo_s hf
      refine rcVi (n := 3) (As := [.int x6, .int x1, .int x2]) (rest := []) (q0 := 0) (w' := (wC n ad cA z)) C hS (fun sz => c_gs_isDue l D n ad cA k z x6 x1 x2 r_1 hcl sz) gX5_clean_X5_isDue rfl ⟨rfl, rfl⟩ (by decide +kernel) ⟨Nat.le_of_ble_eq_true rfl, Nat.le_of_ble_eq_true rfl⟩ oC_0 rfl rfl hl.1 rfl (Nat.le_of_ble_eq_true rfl) dX5_clean_72 (fun H locs hS => ?_)
      refine lv_if_ne (x := r_1) (tgt := 81) hx hb dX5_clean_75 (by decide) (fun hc => ?_) (fun hc => ?_)
      · replace hf := it_f hc hf
        refine lv_aload_n hx hb dX5_clean_81 rfl (lv_at hl 0 rfl) ?_
        refine lv_iload hx hb dX5_clean_82 (lv_at hl 6 rfl) ?_
        obtain ⟨z_2, hcl, hf⟩ := bo_s hf
        refine rcVv (n := 1) (As := [.int x6]) (rest := []) (q0 := 0) (w' := (wC n ad cA z_2)) C hS (fun sz => c_gs_gatherSurvivors l D n ad cA k z x6 z_2 hcl sz) gX5_clean_X5_gatherSurvivors rfl ⟨rfl, rfl⟩ (by decide +kernel) ⟨Nat.le_of_ble_eq_true rfl, Nat.le_of_ble_eq_true rfl⟩ oC_0 rfl rfl hl.1 rfl (Nat.le_of_ble_eq_true rfl) dX5_clean_84 (fun H locs hS => ?_)
        refine lv_aload_n hx hb dX5_clean_87 rfl (lv_at hl 0 rfl) ?_
        obtain ⟨r_3, hcl, hf⟩ := bo_s hf
        refine rcVi (n := 0) (As := []) (rest := []) (q0 := 0) (w' := (wC n ad cA z_2)) C hS (fun sz => c_gs_survivorsHaveRoom l D n ad cA k z_2 r_3 hcl sz) gX5_clean_X5_survivorsHaveRoom rfl ⟨rfl, rfl⟩ (by decide +kernel) ⟨Nat.le_of_ble_eq_true rfl, Nat.le_of_ble_eq_true rfl⟩ oC_0 rfl rfl hl.1 rfl (Nat.le_of_ble_eq_true rfl) dX5_clean_88 (fun H locs hS => ?_)
        refine lv_if_ne (x := r_3) (tgt := 97) hx hb dX5_clean_91 (by decide) (fun hc => ?_) (fun hc => ?_)
        · replace hf := it_f hc hf
          refine lv_iload_n hx hb dX5_clean_97 rfl (lv_at hl 3 rfl) ?_
          refine lv_iconst (v := (-1)) hx hb dX5_clean_98 (by decide) ?_
          refine lv_icmp_ne (x := x3) (y := (-1)) (tgt := 108) hx hb dX5_clean_99 (by decide) (fun hc => ?_) (fun hc => ?_)
          · replace hf := it_f hc hf
            refine lv_iload_n hx hb dX5_clean_108 rfl (lv_at hl 3 rfl) ?_
            refine lv_iload hx hb dX5_clean_109 (lv_at hl 4 rfl) ?_
            refine lv_isub (x := x3) (y := x4) hx hb dX5_clean_111 ?_
            exact w_gs_clean_b112 C k ih z_2 x1 x2 x3 x4 x5 x6 (x3 - x4) r z' hf H locs ls hS (lv_sub hl [0, 1, 2, 3, 4, 5, 6] rfl)
          · replace hf := it_t hc hf
            refine lv_sipush (v := 200) hx hb dX5_clean_102 (by decide) ?_
            refine lv_goto (tgt := 112) hx hb dX5_clean_105 (by decide) ?_
            exact w_gs_clean_b112 C k ih z_2 x1 x2 x3 x4 x5 x6 200 r z' hf H locs ls hS (lv_sub hl [0, 1, 2, 3, 4, 5, 6] rfl)
        · replace hf := it_t hc hf
          refine lv_goto (tgt := 178) hx hb dX5_clean_94 (by decide) ?_
          refine lv_iload hx hb dX5_clean_178 (lv_at hl 5 rfl) ?_
          cases hf
          exact rti C hS dX5_clean_180
      · replace hf := it_t hc hf
        refine lv_goto (tgt := 172) hx hb dX5_clean_78 (by decide) ?_
        refine lv_iinc (v := (x6 + 1)) (lv' := [(6, .int (x6 + 1)), (0, .ref (ad 0)), (1, .int x1), (2, .int x2), (3, .int x3), (4, .int x4), (5, .int x5)]) hx hb dX5_clean_172 hl (k := 6) rfl (congrArg (fun q => x6 + q) (by decide : Int32.ofInt 1 = (1 : Int32))) (by decide) rfl (fun ls hl => ?_)
        refine lv_goto (tgt := 55) hx hb dX5_clean_175 (by decide) ?_
        exact ih z x1 x2 x3 x4 x5 (x6 + 1) r z' hf H locs ls hS (lv_sub hl [1, 2, 3, 4, 5, 6, 0] rfl)
set_option maxHeartbeats 4000000 in
set_option maxRecDepth 100000 in
theorem w_gs_clean_0 {p : Program} {l : Launch} {e : Env} {s : State} {m : MethodId} {args : Array Value} {below : List Frame} {meth : Method} {c : Code} {D : va_G} {w0 : va_W} {n : Nat} {ad : Nat → Nat} {cA : Nat → ClassId} (C : Cx p s m args meth c cX5_clean 9 (some .int) RX5 wsX5_clean D (tC cA)) (k : Nat) (z : SS) (x1 : Int32) (x2 : Int32) (x3 : Int32) (r : Int32) (z' : SS) (hf : gs_clean n k z x1 x2 x3 = some (r, z')) : ∀ (H : Heap) (locs : List Loc) (ls : Array Slot), St D (va_A w0 s.heap.size) s.heap (wC n ad cA z) H locs → lv_has ls 9 [(0, .ref (ad 0)), (1, .int x1), (2, .int x2), (3, .int x3)] → W p l e R_gs_clean s m args below meth c H locs 0 0 (MQ below (kI D (tC cA) r w0 (wC n ad cA z') s.heap.size) args s 0 0 (va_A w0 s.heap.size)) (F0 m 0 ls []) := by
  obtain ⟨hx, hb, hr, hml, hown, hts, hlk, hK⟩ := id C
  intro H locs ls hS hl
  have hf : (if (z.1 9) = 0 then (if x2 < 1 then some ((-2), z) else (if 100 < x2 then some ((-2), z) else (if x1 < 0 then some ((-2), z) else (if x2 < x1 then some ((-2), z) else (if (-1) ≤ x3 then (bi (sg_settle n k z) fun r_1 z_1 => gs_clean_b55 n k k z_1 x1 x2 x3 0 0 0) else some ((-2), z)))))) else some ((-3), z)) = some (r, z') := hf
  refine lv_aload_n hx hb dX5_clean_0 rfl (lv_at hl 0 rfl) ?_
  refine gC_9 C hS in_X5_clean_X5 lk_X5_clean_61 (v := (z.1 9)) rfl dX5_clean_1 ?_
  refine lv_if_eq (x := (z.1 9)) (tgt := 10) hx hb dX5_clean_4 (by decide) (fun hc => ?_) (fun hc => ?_)
  · replace hf := it_t hc hf
    refine lv_iload_n hx hb dX5_clean_10 rfl (lv_at hl 2 rfl) ?_
    refine lv_iconst (v := 1) hx hb dX5_clean_11 (by decide) ?_
    refine lv_icmp_lt (x := x2) (y := 1) (tgt := 35) hx hb dX5_clean_12 (by decide) (fun hc => ?_) (fun hc => ?_)
    · replace hf := it_t hc hf
      refine lv_bipush (v := (-2)) hx hb dX5_clean_35 (by decide) ?_
      cases hf
      exact rti C hS dX5_clean_37
    · replace hf := it_f hc hf
      refine lv_iload_n hx hb dX5_clean_15 rfl (lv_at hl 2 rfl) ?_
      refine lv_bipush (v := 100) hx hb dX5_clean_16 (by decide) ?_
      refine lv_icmp_gt (x := x2) (y := 100) (tgt := 35) hx hb dX5_clean_18 (by decide) (fun hc => ?_) (fun hc => ?_)
      · replace hf := it_t hc hf
        refine lv_bipush (v := (-2)) hx hb dX5_clean_35 (by decide) ?_
        cases hf
        exact rti C hS dX5_clean_37
      · replace hf := it_f hc hf
        refine lv_iload_n hx hb dX5_clean_21 rfl (lv_at hl 1 rfl) ?_
        refine lv_if_lt (x := x1) (tgt := 35) hx hb dX5_clean_22 (by decide) (fun hc => ?_) (fun hc => ?_)
        · replace hf := it_t hc hf
          refine lv_bipush (v := (-2)) hx hb dX5_clean_35 (by decide) ?_
          cases hf
          exact rti C hS dX5_clean_37
        · replace hf := it_f hc hf
          refine lv_iload_n hx hb dX5_clean_25 rfl (lv_at hl 1 rfl) ?_
          refine lv_iload_n hx hb dX5_clean_26 rfl (lv_at hl 2 rfl) ?_
          refine lv_icmp_gt (x := x1) (y := x2) (tgt := 35) hx hb dX5_clean_27 (by decide) (fun hc => ?_) (fun hc => ?_)
          · replace hf := it_t hc hf
            refine lv_bipush (v := (-2)) hx hb dX5_clean_35 (by decide) ?_
            cases hf
            exact rti C hS dX5_clean_37
          · replace hf := it_f hc hf
            refine lv_iload_n hx hb dX5_clean_30 rfl (lv_at hl 3 rfl) ?_
            refine lv_iconst (v := (-1)) hx hb dX5_clean_31 (by decide) ?_
            refine lv_icmp_ge (x := x3) (y := (-1)) (tgt := 38) hx hb dX5_clean_32 (by decide) (fun hc => ?_) (fun hc => ?_)
            · replace hf := it_t hc hf
              refine lv_aload_n hx hb dX5_clean_38 rfl (lv_at hl 0 rfl) ?_
              refine hC_1 C hS in_X5_clean_X5 lk_X5_clean_23 dX5_clean_39 ?_
              obtain ⟨r_1, z_1, hcl, hf⟩ := bi_s hf
              refine rcVi (n := 0) (As := []) (rest := []) (q0 := 1) (w' := (wC n ad cA z_1)) C hS (fun sz => c_sg_settle l D n ad cA k z r_1 z_1 hcl sz) gX5_clean_X3_settle rfl ⟨rfl, rfl⟩ (by decide +kernel) ⟨Nat.le_of_ble_eq_true rfl, Nat.le_of_ble_eq_true rfl⟩ oC_1 rfl rfl hl.1 rfl (Nat.le_of_ble_eq_true rfl) dX5_clean_42 (fun H locs hS => ?_)
              refine lv_pop hx hb dX5_clean_45 rfl ?_
              refine lv_iconst (v := 0) hx hb dX5_clean_46 (by decide) ?_
              refine lv_istore (lv' := [(4, .int 0), (0, .ref (ad 0)), (1, .int x1), (2, .int x2), (3, .int x3)]) hx hb dX5_clean_47 hl (by decide) rfl (fun ls hl => ?_)
              refine lv_iconst (v := 0) hx hb dX5_clean_49 (by decide) ?_
              refine lv_istore (lv' := [(5, .int 0), (4, .int 0), (0, .ref (ad 0)), (1, .int x1), (2, .int x2), (3, .int x3)]) hx hb dX5_clean_50 hl (by decide) rfl (fun ls hl => ?_)
              refine lv_iconst (v := 0) hx hb dX5_clean_52 (by decide) ?_
              refine lv_istore (lv' := [(6, .int 0), (5, .int 0), (4, .int 0), (0, .ref (ad 0)), (1, .int x1), (2, .int x2), (3, .int x3)]) hx hb dX5_clean_53 hl (by decide) rfl (fun ls hl => ?_)
              exact w_gs_clean_b55 C k k z_1 x1 x2 x3 0 0 0 r z' hf H locs ls hS (lv_sub hl [3, 4, 5, 6, 2, 1, 0] rfl)
            · replace hf := it_f hc hf
              refine lv_bipush (v := (-2)) hx hb dX5_clean_35 (by decide) ?_
              cases hf
              exact rti C hS dX5_clean_37
  · replace hf := it_f hc hf
    refine lv_bipush (v := (-3)) hx hb dX5_clean_7 (by decide) ?_
    cases hf
    exact rti C hS dX5_clean_9
set_option maxHeartbeats 4000000 in
set_option maxRecDepth 100000 in
theorem c_gs_clean (l : Launch) (D : va_G) (n : Nat) (ad : Nat → Nat) (cA : Nat → ClassId) (k : Nat) (z : SS) (x1 : Int32) (x2 : Int32) (x3 : Int32) (r : Int32) (z' : SS) (hf : gs_clean n k z x1 x2 x3 = some (r, z')) (sz : Nat) : Met l yX5_clean wsX5_clean R_gs_clean (kP D (tC cA) [.ref (ad 0), .int x1, .int x2, .int x3] (wC n ad cA z) sz) (kI D (tC cA) r (wC n ad cA z) (wC n ad cA z') sz) 0 0 (va_A (wC n ad cA z) sz) := by
  refine ent (by decide) rfl rfl (Nat.le_of_ble_eq_true rfl) (fun p e s m args below meth c hsz C hS ls hl => ?_)
  subst hsz
  exact w_gs_clean_0 C k z x1 x2 x3 r z' hf s.heap [] ls hS hl
-- gs_noteBad: private void noteBad(int, int);
theorem lk_X5_noteBad_143 : Cond.fieldLink RX5 143 (TX5 11).1 (TX5 11).2.1 (TX5 11).2.2.1 ∈ wsX5_noteBad := by decide +kernel
theorem in_X5_noteBad_X5 : ∀ x ∈ u_ws RX5 TX5 12, x ∈ wsX5_noteBad := by decide +kernel
theorem lk_X5_noteBad_134 : Cond.fieldLink RX5 134 (TX5 10).1 (TX5 10).2.1 (TX5 10).2.2.1 ∈ wsX5_noteBad := by decide +kernel
theorem lk_X5_noteBad_23 : Cond.fieldLink RX5 23 (TX5 0).1 (TX5 0).2.1 (TX5 0).2.2.1 ∈ wsX5_noteBad := by decide +kernel
theorem lk_X5_noteBad_78 : Cond.fieldLink RX5 78 (TX3 1).1 (TX3 1).2.1 (TX3 1).2.2.1 ∈ wsX5_noteBad := by decide +kernel
theorem in_X5_noteBad_X3 : ∀ x ∈ u_ws RX3 TX3 6, x ∈ wsX5_noteBad := by decide +kernel
def R_gs_noteBad : Room := { frames := 1, cells := 0, slots := 0, locals := 21 }
def gs_noteBad_b37 (n : Nat) (k : Nat) (z : SS) (y0 : Int32) : Option SS :=
  some (si z 11 y0)
def gs_noteBad (n : Nat) (k : Nat) (z : SS) (x1 : Int32) (x2 : Int32) : Option SS :=
  (if (z.1 10) = 0 then (if x2 < (x1 + 7) then gs_noteBad_b37 n k (si z 10 1) 0 else (bo (rf_numberAt_7 n k (si z 10 1) x1) fun r_1 => gs_noteBad_b37 n k (si z 10 1) r_1)) else some z)
set_option maxHeartbeats 4000000 in
set_option maxRecDepth 100000 in
theorem w_gs_noteBad_b37 {p : Program} {l : Launch} {e : Env} {s : State} {m : MethodId} {args : Array Value} {below : List Frame} {meth : Method} {c : Code} {D : va_G} {w0 : va_W} {n : Nat} {ad : Nat → Nat} {cA : Nat → ClassId} (C : Cx p s m args meth c cX5_noteBad 3 none RX5 wsX5_noteBad D (tC cA)) (k : Nat) (z : SS) (y0 : Int32) (z' : SS) (hf : gs_noteBad_b37 n k z y0 = some z') : ∀ (H : Heap) (locs : List Loc) (ls : Array Slot), St D (va_A w0 s.heap.size) s.heap (wC n ad cA z) H locs → lv_has ls 3 [] → W p l e R_gs_noteBad s m args below meth c H locs 0 0 (MQ below (kV D (tC cA) w0 (wC n ad cA z') s.heap.size) args s 0 0 (va_A w0 s.heap.size)) (F0 m 37 ls [.int y0, .ref (ad 0)]) := by
  obtain ⟨hx, hb, hr, hml, hown, hts, hlk, hK⟩ := id C
  intro H locs ls hS hl
  have hf : some (si z 11 y0) = some z' := hf
  refine pC_11 C hS in_X5_noteBad_X5 lk_X5_noteBad_143 (v := y0) rfl rfl dX5_noteBad_37 (fun H locs hS => ?_)
  cases hf
  exact rtv C hS dX5_noteBad_40
set_option maxHeartbeats 4000000 in
set_option maxRecDepth 100000 in
theorem w_gs_noteBad_0 {p : Program} {l : Launch} {e : Env} {s : State} {m : MethodId} {args : Array Value} {below : List Frame} {meth : Method} {c : Code} {D : va_G} {w0 : va_W} {n : Nat} {ad : Nat → Nat} {cA : Nat → ClassId} (C : Cx p s m args meth c cX5_noteBad 3 none RX5 wsX5_noteBad D (tC cA)) (k : Nat) (z : SS) (x1 : Int32) (x2 : Int32) (z' : SS) (hf : gs_noteBad n k z x1 x2 = some z') : ∀ (H : Heap) (locs : List Loc) (ls : Array Slot), St D (va_A w0 s.heap.size) s.heap (wC n ad cA z) H locs → lv_has ls 3 [(0, .ref (ad 0)), (1, .int x1), (2, .int x2)] → W p l e R_gs_noteBad s m args below meth c H locs 0 0 (MQ below (kV D (tC cA) w0 (wC n ad cA z') s.heap.size) args s 0 0 (va_A w0 s.heap.size)) (F0 m 0 ls []) := by
  obtain ⟨hx, hb, hr, hml, hown, hts, hlk, hK⟩ := id C
  intro H locs ls hS hl
  have hf : (if (z.1 10) = 0 then (if x2 < (x1 + 7) then gs_noteBad_b37 n k (si z 10 1) 0 else (bo (rf_numberAt_7 n k (si z 10 1) x1) fun r_1 => gs_noteBad_b37 n k (si z 10 1) r_1)) else some z) = some z' := hf
  refine lv_aload_n hx hb dX5_noteBad_0 rfl (lv_at hl 0 rfl) ?_
  refine gC_10 C hS in_X5_noteBad_X5 lk_X5_noteBad_134 (v := (z.1 10)) rfl dX5_noteBad_1 ?_
  refine lv_if_eq (x := (z.1 10)) (tgt := 8) hx hb dX5_noteBad_4 (by decide) (fun hc => ?_) (fun hc => ?_)
  · replace hf := it_t hc hf
    refine lv_aload_n hx hb dX5_noteBad_8 rfl (lv_at hl 0 rfl) ?_
    refine lv_iconst (v := 1) hx hb dX5_noteBad_9 (by decide) ?_
    refine pC_10 C hS in_X5_noteBad_X5 lk_X5_noteBad_134 (v := 1) rfl rfl dX5_noteBad_10 (fun H locs hS => ?_)
    refine lv_aload_n hx hb dX5_noteBad_13 rfl (lv_at hl 0 rfl) ?_
    refine lv_iload_n hx hb dX5_noteBad_14 rfl (lv_at hl 1 rfl) ?_
    refine lv_bipush (v := 7) hx hb dX5_noteBad_15 (by decide) ?_
    refine lv_iadd (x := x1) (y := 7) hx hb dX5_noteBad_17 ?_
    refine lv_iload_n hx hb dX5_noteBad_18 rfl (lv_at hl 2 rfl) ?_
    refine lv_icmp_gt (x := (x1 + 7)) (y := x2) (tgt := 36) hx hb dX5_noteBad_19 (by decide) (fun hc => ?_) (fun hc => ?_)
    · replace hf := it_t hc hf
      refine lv_iconst (v := 0) hx hb dX5_noteBad_36 (by decide) ?_
      exact w_gs_noteBad_b37 C k (si z 10 1) 0 z' hf H locs ls hS (lv_sub hl [] rfl)
    · replace hf := it_f hc hf
      refine lv_aload_n hx hb dX5_noteBad_22 rfl (lv_at hl 0 rfl) ?_
      refine hC_1 C hS in_X5_noteBad_X5 lk_X5_noteBad_23 dX5_noteBad_23 ?_
      refine hC_7 C hS in_X5_noteBad_X3 lk_X5_noteBad_78 dX5_noteBad_26 ?_
      refine lv_iload_n hx hb dX5_noteBad_29 rfl (lv_at hl 1 rfl) ?_
      obtain ⟨r_1, hcl, hf⟩ := bo_s hf
      refine rcSi (n := 2) (As := [.ref (ad 7), .int x1]) (rest := [.ref (ad 0)]) (w' := (wC n ad cA (si z 10 1))) C hS (fun sz => c_rf_numberAt_7 l D n ad cA k (si z 10 1) x1 r_1 hcl sz) gX5_noteBad_X2_numberAt rfl ⟨rfl, rfl⟩ (by decide +kernel) ⟨Nat.le_of_ble_eq_true rfl, Nat.le_of_ble_eq_true rfl⟩ rfl hl.1 rfl (Nat.le_of_ble_eq_true rfl) dX5_noteBad_30 (fun H locs hS => ?_)
      refine lv_goto (tgt := 37) hx hb dX5_noteBad_33 (by decide) ?_
      exact w_gs_noteBad_b37 C k (si z 10 1) r_1 z' hf H locs ls hS (lv_sub hl [] rfl)
  · replace hf := it_f hc hf
    cases hf
    exact rtv C hS dX5_noteBad_7
set_option maxHeartbeats 4000000 in
set_option maxRecDepth 100000 in
theorem c_gs_noteBad (l : Launch) (D : va_G) (n : Nat) (ad : Nat → Nat) (cA : Nat → ClassId) (k : Nat) (z : SS) (x1 : Int32) (x2 : Int32) (z' : SS) (hf : gs_noteBad n k z x1 x2 = some z') (sz : Nat) : Met l yX5_noteBad wsX5_noteBad R_gs_noteBad (kP D (tC cA) [.ref (ad 0), .int x1, .int x2] (wC n ad cA z) sz) (kV D (tC cA) (wC n ad cA z) (wC n ad cA z') sz) 0 0 (va_A (wC n ad cA z) sz) := by
  refine ent (by decide) rfl rfl (Nat.le_of_ble_eq_true rfl) (fun p e s m args below meth c hsz C hS ls hl => ?_)
  subst hsz
  exact w_gs_noteBad_0 C k z x1 x2 z' hf s.heap [] ls hS hl
-- gs_readSegment: private void readSegment(int);
theorem lk_X5_readSegment_23 : Cond.fieldLink RX5 23 (TX5 0).1 (TX5 0).2.1 (TX5 0).2.2.1 ∈ wsX5_readSegment := by decide +kernel
theorem in_X5_readSegment_X5 : ∀ x ∈ u_ws RX5 TX5 12, x ∈ wsX5_readSegment := by decide +kernel
theorem lk_X5_readSegment_156 : Cond.fieldLink RX5 156 (TX3 2).1 (TX3 2).2.1 (TX3 2).2.2.1 ∈ wsX5_readSegment := by decide +kernel
theorem in_X5_readSegment_X3 : ∀ x ∈ u_ws RX3 TX3 6, x ∈ wsX5_readSegment := by decide +kernel
theorem lk_X5_readSegment_78 : Cond.fieldLink RX5 78 (TX3 1).1 (TX3 1).2.1 (TX3 1).2.2.1 ∈ wsX5_readSegment := by decide +kernel
theorem lk_X5_readSegment_30 : Cond.fieldLink RX5 30 (TX5 1).1 (TX5 1).2.1 (TX5 1).2.2.1 ∈ wsX5_readSegment := by decide +kernel
theorem lk_X5_readSegment_88 : Cond.fieldLink RX5 88 (TX5 8).1 (TX5 8).2.1 (TX5 8).2.2.1 ∈ wsX5_readSegment := by decide +kernel
theorem ml_X5_readSegment_max : Cond.methodLink RX5 15 Lib.Math.max.name ∈ wsX5_readSegment := by decide +kernel
theorem ms_X5_readSegment_max : Cond.static Lib.Math.max.name ∈ wsX5_readSegment := by decide +kernel
theorem mi_X5_readSegment_max : Cond.initialized "java/lang/Math" ∈ wsX5_readSegment := by decide +kernel
theorem mc_X5_readSegment_max : Cond.code Lib.Math.max.name Lib.Math.max.code 2 (some .int) ∈ wsX5_readSegment := by decide +kernel
def R_gs_readSegment : Room := { frames := 3, cells := 0, slots := 0, locals := 75 }
def gs_readSegment_b132 (n : Nat) (k : Nat) (z : SS) (x1 : Int32) (x2 : Int32) (x4 : Int32) : Option SS :=
  (if ck x1 n = true then some (sa z 8 (Int32.toNatClampNeg x1) (x4 - x2)) else none)
def gs_readSegment_b100 (n : Nat) (k : Nat) (rc15 : SS → Int32 → Int32 → Int32 → Int32 → Option SS) (z : SS) (x1 : Int32) (x2 : Int32) (x3 : Int32) (x4 : Int32) : Option SS :=
  (bo (rf_behind_7 n k z x4 x3) fun r_1 => (if x4 < r_1 then rc15 z x1 x2 x3 r_1 else gs_readSegment_b132 n k z x1 x2 x4))
def gs_readSegment_b15 (n : Nat) (k : Nat) : Nat → SS → Int32 → Int32 → Int32 → Int32 → Option SS
  | 0, _, _, _, _, _ => none
  | fu + 1, z, x1, x2, x3, x4 => (if x3 ≤ x4 then gs_readSegment_b132 n k z x1 x2 x4 else (if ck x4 (n * 200) = true then (if ((z.2 7) (Int32.toNatClampNeg x4)) = 0 then gs_readSegment_b132 n k z x1 x2 x4 else (bo (rf_isGood_7 n k z x4 x3) fun r_1 => (if r_1 = 0 then (bo (gs_noteBad n k z x4 x3) fun z_2 => gs_readSegment_b100 n k (gs_readSegment_b15 n k fu) z_2 x1 x2 x3 x4) else (bo (ix_add_7 n k z x1 x4) fun z_3 => (bo (rf_numberAt_7 n k z_3 x4) fun r_4 => gs_readSegment_b100 n k (gs_readSegment_b15 n k fu) (si z_3 8 (if (z_3.1 8) < r_4 then r_4 else (z_3.1 8))) x1 x2 x3 x4))))) else none))
def gs_readSegment (n : Nat) (k : Nat) (z : SS) (x1 : Int32) : Option SS :=
  gs_readSegment_b15 n k k z x1 (x1 * 200) ((x1 * 200) + 200) (x1 * 200)
set_option maxHeartbeats 4000000 in
set_option maxRecDepth 100000 in
theorem w_gs_readSegment_b132 {p : Program} {l : Launch} {e : Env} {s : State} {m : MethodId} {args : Array Value} {below : List Frame} {meth : Method} {c : Code} {D : va_G} {w0 : va_W} {n : Nat} {ad : Nat → Nat} {cA : Nat → ClassId} (C : Cx p s m args meth c cX5_readSegment 6 none RX5 wsX5_readSegment D (tC cA)) (k : Nat) (z : SS) (x1 : Int32) (x2 : Int32) (x4 : Int32) (z' : SS) (hf : gs_readSegment_b132 n k z x1 x2 x4 = some z') : ∀ (H : Heap) (locs : List Loc) (ls : Array Slot), St D (va_A w0 s.heap.size) s.heap (wC n ad cA z) H locs → lv_has ls 6 [(0, .ref (ad 0)), (1, .int x1), (2, .int x2), (4, .int x4)] → W p l e R_gs_readSegment s m args below meth c H locs 0 0 (MQ below (kV D (tC cA) w0 (wC n ad cA z') s.heap.size) args s 0 0 (va_A w0 s.heap.size)) (F0 m 132 ls []) := by
  obtain ⟨hx, hb, hr, hml, hown, hts, hlk, hK⟩ := id C
  intro H locs ls hS hl
  have hf : (if ck x1 n = true then some (sa z 8 (Int32.toNatClampNeg x1) (x4 - x2)) else none) = some z' := hf
  refine lv_aload_n hx hb dX5_readSegment_132 rfl (lv_at hl 0 rfl) ?_
  refine hC_1 C hS in_X5_readSegment_X5 lk_X5_readSegment_23 dX5_readSegment_133 ?_
  refine hC_8 C hS in_X5_readSegment_X3 lk_X5_readSegment_156 dX5_readSegment_136 ?_
  refine lv_iload_n hx hb dX5_readSegment_139 rfl (lv_at hl 1 rfl) ?_
  refine lv_iload hx hb dX5_readSegment_140 (lv_at hl 3 rfl) ?_
  refine lv_iload_n hx hb dX5_readSegment_142 rfl (lv_at hl 2 rfl) ?_
  refine lv_isub (x := x4) (y := x2) hx hb dX5_readSegment_143 ?_
  obtain ⟨hck, hf⟩ := cs hf
  refine sC_8 C hS (i := x1) (x := (x4 - x2)) hck dX5_readSegment_144 (fun H locs hS => ?_)
  cases hf
  exact rtv C hS dX5_readSegment_145
set_option maxHeartbeats 4000000 in
set_option maxRecDepth 100000 in
theorem w_gs_readSegment_b100 {p : Program} {l : Launch} {e : Env} {s : State} {m : MethodId} {args : Array Value} {below : List Frame} {meth : Method} {c : Code} {D : va_G} {w0 : va_W} {n : Nat} {ad : Nat → Nat} {cA : Nat → ClassId} (C : Cx p s m args meth c cX5_readSegment 6 none RX5 wsX5_readSegment D (tC cA)) (k : Nat) {rc15 : SS → Int32 → Int32 → Int32 → Int32 → Option SS} (hrc15 : ∀ (z : SS) (x1 : Int32) (x2 : Int32) (x3 : Int32) (x4 : Int32) (z' : SS), rc15 z x1 x2 x3 x4 = some z' → ∀ (H : Heap) (locs : List Loc) (ls : Array Slot), St D (va_A w0 s.heap.size) s.heap (wC n ad cA z) H locs → lv_has ls 6 [(0, .ref (ad 0)), (1, .int x1), (2, .int x2), (3, .int x3), (4, .int x4)] → W p l e R_gs_readSegment s m args below meth c H locs 0 0 (MQ below (kV D (tC cA) w0 (wC n ad cA z') s.heap.size) args s 0 0 (va_A w0 s.heap.size)) (F0 m 15 ls [])) (z : SS) (x1 : Int32) (x2 : Int32) (x3 : Int32) (x4 : Int32) (z' : SS) (hf : gs_readSegment_b100 n k rc15 z x1 x2 x3 x4 = some z') : ∀ (H : Heap) (locs : List Loc) (ls : Array Slot), St D (va_A w0 s.heap.size) s.heap (wC n ad cA z) H locs → lv_has ls 6 [(0, .ref (ad 0)), (1, .int x1), (2, .int x2), (3, .int x3), (4, .int x4)] → W p l e R_gs_readSegment s m args below meth c H locs 0 0 (MQ below (kV D (tC cA) w0 (wC n ad cA z') s.heap.size) args s 0 0 (va_A w0 s.heap.size)) (F0 m 100 ls []) := by
  obtain ⟨hx, hb, hr, hml, hown, hts, hlk, hK⟩ := id C
  intro H locs ls hS hl
  have hf : (bo (rf_behind_7 n k z x4 x3) fun r_1 => (if x4 < r_1 then rc15 z x1 x2 x3 r_1 else gs_readSegment_b132 n k z x1 x2 x4)) = some z' := hf
  refine lv_aload_n hx hb dX5_readSegment_100 rfl (lv_at hl 0 rfl) ?_
  refine hC_1 C hS in_X5_readSegment_X5 lk_X5_readSegment_23 dX5_readSegment_101 ?_
  refine hC_7 C hS in_X5_readSegment_X3 lk_X5_readSegment_78 dX5_readSegment_104 ?_
  refine lv_iload hx hb dX5_readSegment_107 (lv_at hl 4 rfl) ?_
  refine lv_iload_n hx hb dX5_readSegment_109 rfl (lv_at hl 3 rfl) ?_
  obtain ⟨r_1, hcl, hf⟩ := bo_s hf
  refine rcSi (n := 3) (As := [.ref (ad 7), .int x4, .int x3]) (rest := []) (w' := (wC n ad cA z)) C hS (fun sz => c_rf_behind_7 l D n ad cA k z x4 x3 r_1 hcl sz) gX5_readSegment_X2_behind rfl ⟨rfl, rfl⟩ (by decide +kernel) ⟨Nat.le_of_ble_eq_true rfl, Nat.le_of_ble_eq_true rfl⟩ rfl hl.1 rfl (Nat.le_of_ble_eq_true rfl) dX5_readSegment_110 (fun H locs hS => ?_)
  refine lv_istore (lv' := [(5, .int r_1), (0, .ref (ad 0)), (1, .int x1), (2, .int x2), (3, .int x3), (4, .int x4)]) hx hb dX5_readSegment_113 hl (by decide) rfl (fun ls hl => ?_)
  refine lv_iload hx hb dX5_readSegment_115 (lv_at hl 0 rfl) ?_
  refine lv_iload hx hb dX5_readSegment_117 (lv_at hl 5 rfl) ?_
  refine lv_icmp_gt (x := r_1) (y := x4) (tgt := 125) hx hb dX5_readSegment_119 (by decide) (fun hc => ?_) (fun hc => ?_)
  · replace hf := it_t hc hf
    refine lv_iload hx hb dX5_readSegment_125 (lv_at hl 0 rfl) ?_
    refine lv_istore (lv' := [(4, .int r_1), (5, .int r_1), (0, .ref (ad 0)), (1, .int x1), (2, .int x2), (3, .int x3)]) hx hb dX5_readSegment_127 hl (by decide) rfl (fun ls hl => ?_)
    refine lv_goto (tgt := 15) hx hb dX5_readSegment_129 (by decide) ?_
    exact hrc15 z x1 x2 x3 r_1 z' hf H locs ls hS (lv_sub hl [2, 3, 4, 5, 0] rfl)
  · replace hf := it_f hc hf
    refine lv_goto (tgt := 132) hx hb dX5_readSegment_122 (by decide) ?_
    exact w_gs_readSegment_b132 C k z x1 x2 x4 z' hf H locs ls hS (lv_sub hl [1, 2, 3, 5] rfl)
set_option maxHeartbeats 4000000 in
set_option maxRecDepth 100000 in
theorem w_gs_readSegment_b15 {p : Program} {l : Launch} {e : Env} {s : State} {m : MethodId} {args : Array Value} {below : List Frame} {meth : Method} {c : Code} {D : va_G} {w0 : va_W} {n : Nat} {ad : Nat → Nat} {cA : Nat → ClassId} (C : Cx p s m args meth c cX5_readSegment 6 none RX5 wsX5_readSegment D (tC cA)) (k : Nat) : ∀ (fu : Nat) (z : SS) (x1 : Int32) (x2 : Int32) (x3 : Int32) (x4 : Int32) (z' : SS), gs_readSegment_b15 n k fu z x1 x2 x3 x4 = some z' → ∀ (H : Heap) (locs : List Loc) (ls : Array Slot), St D (va_A w0 s.heap.size) s.heap (wC n ad cA z) H locs → lv_has ls 6 [(0, .ref (ad 0)), (1, .int x1), (2, .int x2), (3, .int x3), (4, .int x4)] → W p l e R_gs_readSegment s m args below meth c H locs 0 0 (MQ below (kV D (tC cA) w0 (wC n ad cA z') s.heap.size) args s 0 0 (va_A w0 s.heap.size)) (F0 m 15 ls []) := by
  obtain ⟨hx, hb, hr, hml, hown, hts, hlk, hK⟩ := id C
  intro fu
  induction fu with
  | zero =>
    intro z x1 x2 x3 x4 z' hf
    cases (show (none : Option SS) = some z' from hf)
  | succ fu ih =>
    intro z x1 x2 x3 x4 z' hf H locs ls hS hl
    have hf : (if x3 ≤ x4 then gs_readSegment_b132 n k z x1 x2 x4 else (if ck x4 (n * 200) = true then (if ((z.2 7) (Int32.toNatClampNeg x4)) = 0 then gs_readSegment_b132 n k z x1 x2 x4 else (bo (rf_isGood_7 n k z x4 x3) fun r_1 => (if r_1 = 0 then (bo (gs_noteBad n k z x4 x3) fun z_2 => gs_readSegment_b100 n k (gs_readSegment_b15 n k fu) z_2 x1 x2 x3 x4) else (bo (ix_add_7 n k z x1 x4) fun z_3 => (bo (rf_numberAt_7 n k z_3 x4) fun r_4 => gs_readSegment_b100 n k (gs_readSegment_b15 n k fu) (si z_3 8 (if (z_3.1 8) < r_4 then r_4 else (z_3.1 8))) x1 x2 x3 x4))))) else none)) = some z' := hf
    refine lv_iload hx hb dX5_readSegment_15 (lv_at hl 4 rfl) ?_
    refine lv_iload_n hx hb dX5_readSegment_17 rfl (lv_at hl 3 rfl) ?_
    refine lv_icmp_ge (x := x4) (y := x3) (tgt := 132) hx hb dX5_readSegment_18 (by decide) (fun hc => ?_) (fun hc => ?_)
    · replace hf := it_t hc hf
      exact w_gs_readSegment_b132 C k z x1 x2 x4 z' hf H locs ls hS (lv_sub hl [0, 1, 2, 4] rfl)
    · replace hf := it_f hc hf
      refine lv_aload_n hx hb dX5_readSegment_21 rfl (lv_at hl 0 rfl) ?_
      refine hC_1 C hS in_X5_readSegment_X5 lk_X5_readSegment_23 dX5_readSegment_22 ?_
      refine hC_7 C hS in_X5_readSegment_X3 lk_X5_readSegment_78 dX5_readSegment_25 ?_
      refine lv_iload hx hb dX5_readSegment_28 (lv_at hl 4 rfl) ?_
      obtain ⟨hck, hf⟩ := cs hf
      refine lC_7 C hS (f := (z.2 7)) rfl (i := x4) hck dX5_readSegment_30 ?_
      refine lv_if_eq (x := ((z.2 7) (Int32.toNatClampNeg x4))) (tgt := 132) hx hb dX5_readSegment_31 (by decide) (fun hc => ?_) (fun hc => ?_)
      · replace hf := it_t hc hf
        exact w_gs_readSegment_b132 C k z x1 x2 x4 z' hf H locs ls hS (lv_sub hl [0, 1, 2, 4] rfl)
      · replace hf := it_f hc hf
        refine lv_aload_n hx hb dX5_readSegment_34 rfl (lv_at hl 0 rfl) ?_
        refine hC_1 C hS in_X5_readSegment_X5 lk_X5_readSegment_23 dX5_readSegment_35 ?_
        refine hC_7 C hS in_X5_readSegment_X3 lk_X5_readSegment_78 dX5_readSegment_38 ?_
        refine lv_iload hx hb dX5_readSegment_41 (lv_at hl 4 rfl) ?_
        refine lv_iload_n hx hb dX5_readSegment_43 rfl (lv_at hl 3 rfl) ?_
        obtain ⟨r_1, hcl, hf⟩ := bo_s hf
        refine rcSi (n := 3) (As := [.ref (ad 7), .int x4, .int x3]) (rest := []) (w' := (wC n ad cA z)) C hS (fun sz => c_rf_isGood_7 l D n ad cA k z x4 x3 r_1 hcl sz) gX5_readSegment_X2_isGood rfl ⟨rfl, rfl⟩ (by decide +kernel) ⟨Nat.le_of_ble_eq_true rfl, Nat.le_of_ble_eq_true rfl⟩ rfl hl.1 rfl (Nat.le_of_ble_eq_true rfl) dX5_readSegment_44 (fun H locs hS => ?_)
        refine lv_if_eq (x := r_1) (tgt := 93) hx hb dX5_readSegment_47 (by decide) (fun hc => ?_) (fun hc => ?_)
        · replace hf := it_t hc hf
          refine lv_aload_n hx hb dX5_readSegment_93 rfl (lv_at hl 0 rfl) ?_
          refine lv_iload hx hb dX5_readSegment_94 (lv_at hl 4 rfl) ?_
          refine lv_iload_n hx hb dX5_readSegment_96 rfl (lv_at hl 3 rfl) ?_
          obtain ⟨z_2, hcl, hf⟩ := bo_s hf
          refine rcVv (n := 2) (As := [.int x4, .int x3]) (rest := []) (q0 := 0) (w' := (wC n ad cA z_2)) C hS (fun sz => c_gs_noteBad l D n ad cA k z x4 x3 z_2 hcl sz) gX5_readSegment_X5_noteBad rfl ⟨rfl, rfl⟩ (by decide +kernel) ⟨Nat.le_of_ble_eq_true rfl, Nat.le_of_ble_eq_true rfl⟩ oC_0 rfl rfl hl.1 rfl (Nat.le_of_ble_eq_true rfl) dX5_readSegment_97 (fun H locs hS => ?_)
          exact w_gs_readSegment_b100 C k ih z_2 x1 x2 x3 x4 z' hf H locs ls hS (lv_sub hl [0, 1, 2, 3, 4] rfl)
        · replace hf := it_f hc hf
          refine lv_aload_n hx hb dX5_readSegment_50 rfl (lv_at hl 0 rfl) ?_
          refine hC_2 C hS in_X5_readSegment_X5 lk_X5_readSegment_30 dX5_readSegment_51 ?_
          refine lv_iload_n hx hb dX5_readSegment_54 rfl (lv_at hl 1 rfl) ?_
          refine lv_iload hx hb dX5_readSegment_55 (lv_at hl 4 rfl) ?_
          refine lv_aload_n hx hb dX5_readSegment_57 rfl (lv_at hl 0 rfl) ?_
          refine hC_1 C hS in_X5_readSegment_X5 lk_X5_readSegment_23 dX5_readSegment_58 ?_
          refine hC_7 C hS in_X5_readSegment_X3 lk_X5_readSegment_78 dX5_readSegment_61 ?_
          obtain ⟨z_3, hcl, hf⟩ := bo_s hf
          refine rcVv (n := 3) (As := [.int x1, .int x4, .ref (ad 7)]) (rest := []) (q0 := 2) (w' := (wC n ad cA z_3)) C hS (fun sz => c_ix_add_7 l D n ad cA k z x1 x4 z_3 hcl sz) gX5_readSegment_X1_add rfl ⟨rfl, rfl⟩ (by decide +kernel) ⟨Nat.le_of_ble_eq_true rfl, Nat.le_of_ble_eq_true rfl⟩ oC_2 rfl rfl hl.1 rfl (Nat.le_of_ble_eq_true rfl) dX5_readSegment_64 (fun H locs hS => ?_)
          refine lv_aload_n hx hb dX5_readSegment_67 rfl (lv_at hl 0 rfl) ?_
          refine lv_aload_n hx hb dX5_readSegment_68 rfl (lv_at hl 0 rfl) ?_
          refine gC_8 C hS in_X5_readSegment_X5 lk_X5_readSegment_88 (v := (z_3.1 8)) rfl dX5_readSegment_69 ?_
          refine lv_aload_n hx hb dX5_readSegment_72 rfl (lv_at hl 0 rfl) ?_
          refine hC_1 C hS in_X5_readSegment_X5 lk_X5_readSegment_23 dX5_readSegment_73 ?_
          refine hC_7 C hS in_X5_readSegment_X3 lk_X5_readSegment_78 dX5_readSegment_76 ?_
          refine lv_iload hx hb dX5_readSegment_79 (lv_at hl 4 rfl) ?_
          obtain ⟨r_4, hcl, hf⟩ := bo_s hf
          refine rcSi (n := 2) (As := [.ref (ad 7), .int x4]) (rest := [.int (z_3.1 8), .ref (ad 0)]) (w' := (wC n ad cA z_3)) C hS (fun sz => c_rf_numberAt_7 l D n ad cA k z_3 x4 r_4 hcl sz) gX5_readSegment_X2_numberAt rfl ⟨rfl, rfl⟩ (by decide +kernel) ⟨Nat.le_of_ble_eq_true rfl, Nat.le_of_ble_eq_true rfl⟩ rfl hl.1 rfl (Nat.le_of_ble_eq_true rfl) dX5_readSegment_81 (fun H locs hS => ?_)
          refine rmax (x := (z_3.1 8)) (z := r_4) C hl.1 ml_X5_readSegment_max ms_X5_readSegment_max mi_X5_readSegment_max mc_X5_readSegment_max (Nat.le_of_ble_eq_true rfl) (Nat.le_of_ble_eq_true rfl) dX5_readSegment_84 ?_
          refine pC_8 C hS in_X5_readSegment_X5 lk_X5_readSegment_88 (v := (if (z_3.1 8) < r_4 then r_4 else (z_3.1 8))) rfl rfl dX5_readSegment_87 (fun H locs hS => ?_)
          refine lv_goto (tgt := 100) hx hb dX5_readSegment_90 (by decide) ?_
          exact w_gs_readSegment_b100 C k ih (si z_3 8 (if (z_3.1 8) < r_4 then r_4 else (z_3.1 8))) x1 x2 x3 x4 z' hf H locs ls hS (lv_sub hl [0, 1, 2, 3, 4] rfl)
set_option maxHeartbeats 4000000 in
set_option maxRecDepth 100000 in
theorem w_gs_readSegment_0 {p : Program} {l : Launch} {e : Env} {s : State} {m : MethodId} {args : Array Value} {below : List Frame} {meth : Method} {c : Code} {D : va_G} {w0 : va_W} {n : Nat} {ad : Nat → Nat} {cA : Nat → ClassId} (C : Cx p s m args meth c cX5_readSegment 6 none RX5 wsX5_readSegment D (tC cA)) (k : Nat) (z : SS) (x1 : Int32) (z' : SS) (hf : gs_readSegment n k z x1 = some z') : ∀ (H : Heap) (locs : List Loc) (ls : Array Slot), St D (va_A w0 s.heap.size) s.heap (wC n ad cA z) H locs → lv_has ls 6 [(0, .ref (ad 0)), (1, .int x1)] → W p l e R_gs_readSegment s m args below meth c H locs 0 0 (MQ below (kV D (tC cA) w0 (wC n ad cA z') s.heap.size) args s 0 0 (va_A w0 s.heap.size)) (F0 m 0 ls []) := by
  obtain ⟨hx, hb, hr, hml, hown, hts, hlk, hK⟩ := id C
  intro H locs ls hS hl
  have hf : gs_readSegment_b15 n k k z x1 (x1 * 200) ((x1 * 200) + 200) (x1 * 200) = some z' := hf
  refine lv_iload_n hx hb dX5_readSegment_0 rfl (lv_at hl 1 rfl) ?_
  refine lv_sipush (v := 200) hx hb dX5_readSegment_1 (by decide) ?_
  refine lv_imul (x := x1) (y := 200) hx hb dX5_readSegment_4 ?_
  refine lv_istore_n (lv' := [(2, .int (x1 * 200)), (0, .ref (ad 0)), (1, .int x1)]) hx hb dX5_readSegment_5 rfl hl (by decide) rfl (fun ls hl => ?_)
  refine lv_iload_n hx hb dX5_readSegment_6 rfl (lv_at hl 0 rfl) ?_
  refine lv_sipush (v := 200) hx hb dX5_readSegment_7 (by decide) ?_
  refine lv_iadd (x := (x1 * 200)) (y := 200) hx hb dX5_readSegment_10 ?_
  refine lv_istore_n (lv' := [(3, .int ((x1 * 200) + 200)), (2, .int (x1 * 200)), (0, .ref (ad 0)), (1, .int x1)]) hx hb dX5_readSegment_11 rfl hl (by decide) rfl (fun ls hl => ?_)
  refine lv_iload_n hx hb dX5_readSegment_12 rfl (lv_at hl 1 rfl) ?_
  refine lv_istore (lv' := [(4, .int (x1 * 200)), (3, .int ((x1 * 200) + 200)), (2, .int (x1 * 200)), (0, .ref (ad 0)), (1, .int x1)]) hx hb dX5_readSegment_13 hl (by decide) rfl (fun ls hl => ?_)
  exact w_gs_readSegment_b15 C k k z x1 (x1 * 200) ((x1 * 200) + 200) (x1 * 200) z' hf H locs ls hS (lv_sub hl [3, 4, 2, 1, 0] rfl)
set_option maxHeartbeats 4000000 in
set_option maxRecDepth 100000 in
theorem c_gs_readSegment (l : Launch) (D : va_G) (n : Nat) (ad : Nat → Nat) (cA : Nat → ClassId) (k : Nat) (z : SS) (x1 : Int32) (z' : SS) (hf : gs_readSegment n k z x1 = some z') (sz : Nat) : Met l yX5_readSegment wsX5_readSegment R_gs_readSegment (kP D (tC cA) [.ref (ad 0), .int x1] (wC n ad cA z) sz) (kV D (tC cA) (wC n ad cA z) (wC n ad cA z') sz) 0 0 (va_A (wC n ad cA z) sz) := by
  refine ent (by decide) rfl rfl (Nat.le_of_ble_eq_true rfl) (fun p e s m args below meth c hsz C hS ls hl => ?_)
  subst hsz
  exact w_gs_readSegment_0 C k z x1 z' hf s.heap [] ls hS hl
