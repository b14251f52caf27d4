-- rm_momentOf: private int momentOf(int);
theorem lk_X6_momentOf_149 : Cond.fieldLink RX6 149 (TX6 12).1 (TX6 12).2.1 (TX6 12).2.2.1 ∈ wsX6_momentOf := by decide +kernel
theorem in_X6_momentOf_X6 : ∀ x ∈ u_ws RX6 TX6 29, x ∈ wsX6_momentOf := by decide +kernel
theorem lk_X6_momentOf_26 : Cond.fieldLink RX6 26 (TX6 10).1 (TX6 10).2.1 (TX6 10).2.2.1 ∈ wsX6_momentOf := by decide +kernel
theorem lk_X6_momentOf_30 : Cond.fieldLink RX6 30 (TX6 11).1 (TX6 11).2.1 (TX6 11).2.2.1 ∈ wsX6_momentOf := by decide +kernel
theorem lc_X6_momentOf_111 : Cond.constant RX6 111 2147483647 ∈ wsX6_momentOf := by decide +kernel
def R_rm_momentOf : Room := { frames := 1, cells := 0, slots := 0, locals := 22 }
def rm_momentOf (k : Nat) (z : SS) (x1 : Int32) : Option Int32 :=
  (if (z.1 12) = 0 then (if x1 = (-1) then some 2147483647 else (bo (rm_in k z x1 0 3) fun r_1 => (if r_1 = 0 then some (-1) else (if ck x1 4 = true then (if ((z.2 5) (Int32.toNatClampNeg x1)) = 0 then some (-1) else (if ck x1 4 = true then some ((z.2 6) (Int32.toNatClampNeg x1)) else none)) else none)))) else some (-1))
set_option maxHeartbeats 4000000 in
set_option maxRecDepth 100000 in
theorem w_rm_momentOf_0 {p : Program} {l : Launch} {e : Env} {s : State} {m : MethodId} {args : Array Value} {below : List Frame} {meth : Method} {c : Code} {D : va_G} {w0 : va_W} {ad : Nat → Nat} {cA : Nat → ClassId} (C : Cx p s m args meth c cX6_momentOf 2 (some .int) RX6 wsX6_momentOf D (tM cA)) (k : Nat) (z : SS) (x1 : Int32) (r : Int32) (hf : rm_momentOf k z x1 = some r) : ∀ (H : Heap) (locs : List Loc) (ls : Array Slot), St D (va_A w0 s.heap.size) s.heap (wM ad cA z) H locs → lv_has ls 2 [(0, .ref (ad 0)), (1, .int x1)] → W p l e R_rm_momentOf s m args below meth c H locs 0 0 (MQ below (kI D (tM cA) r w0 (wM ad cA z) s.heap.size) args s 0 0 (va_A w0 s.heap.size)) (F0 m 0 ls []) := by
  obtain ⟨hx, hb, hr, hml, hown, hts, hlk, hK⟩ := id C
  intro H locs ls hS hl
  have hf : (if (z.1 12) = 0 then (if x1 = (-1) then some 2147483647 else (bo (rm_in k z x1 0 3) fun r_1 => (if r_1 = 0 then some (-1) else (if ck x1 4 = true then (if ((z.2 5) (Int32.toNatClampNeg x1)) = 0 then some (-1) else (if ck x1 4 = true then some ((z.2 6) (Int32.toNatClampNeg x1)) else none)) else none)))) else some (-1)) = some r := hf
  refine lv_aload_n hx hb dX6_momentOf_0 rfl (lv_at hl 0 rfl) ?_
  refine gM_12 C hS in_X6_momentOf_X6 lk_X6_momentOf_149 (v := (z.1 12)) rfl dX6_momentOf_1 ?_
  refine lv_if_eq (x := (z.1 12)) (tgt := 11) hx hb dX6_momentOf_4 (by decide) (fun hc => ?_) (fun hc => ?_)
  · replace hf := it_t hc hf
    refine lv_iload_n hx hb dX6_momentOf_11 rfl (lv_at hl 1 rfl) ?_
    refine lv_iconst (v := (-1)) hx hb dX6_momentOf_12 (by decide) ?_
    refine lv_icmp_ne (x := x1) (y := (-1)) (tgt := 21) hx hb dX6_momentOf_13 (by decide) (fun hc => ?_) (fun hc => ?_)
    · replace hf := it_f hc hf
      refine lv_iload_n hx hb dX6_momentOf_21 rfl (lv_at hl 1 rfl) ?_
      refine lv_iconst (v := 0) hx hb dX6_momentOf_22 (by decide) ?_
      refine lv_iconst (v := 3) hx hb dX6_momentOf_23 (by decide) ?_
      obtain ⟨r_1, hcl, hf⟩ := bo_s hf
      refine rcSi (n := 3) (As := [.int x1, .int 0, .int 3]) (rest := []) (w' := (wM ad cA z)) C hS (fun sz => c_rm_in l D ad cA k z x1 0 3 r_1 hcl sz) gX6_momentOf_X6_in rfl ⟨rfl, rfl⟩ (by decide +kernel) ⟨Nat.le_of_ble_eq_true rfl, Nat.le_of_ble_eq_true rfl⟩ rfl hl.1 rfl (Nat.le_of_ble_eq_true rfl) dX6_momentOf_24 (fun H locs hS => ?_)
      refine lv_if_eq (x := r_1) (tgt := 48) hx hb dX6_momentOf_27 (by decide) (fun hc => ?_) (fun hc => ?_)
      · replace hf := it_t hc hf
        refine lv_iconst (v := (-1)) hx hb dX6_momentOf_48 (by decide) ?_
        cases hf
        exact rti C hS dX6_momentOf_49
      · replace hf := it_f hc hf
        refine lv_aload_n hx hb dX6_momentOf_30 rfl (lv_at hl 0 rfl) ?_
        refine hM_5 C hS in_X6_momentOf_X6 lk_X6_momentOf_26 dX6_momentOf_31 ?_
        refine lv_iload_n hx hb dX6_momentOf_34 rfl (lv_at hl 1 rfl) ?_
        obtain ⟨hck, hf⟩ := cs hf
        refine lM_5 C hS (f := (z.2 5)) rfl (i := x1) hck dX6_momentOf_35 ?_
        refine lv_if_eq (x := ((z.2 5) (Int32.toNatClampNeg x1))) (tgt := 48) hx hb dX6_momentOf_36 (by decide) (fun hc => ?_) (fun hc => ?_)
        · replace hf := it_t hc hf
          refine lv_iconst (v := (-1)) hx hb dX6_momentOf_48 (by decide) ?_
          cases hf
          exact rti C hS dX6_momentOf_49
        · replace hf := it_f hc hf
          refine lv_aload_n hx hb dX6_momentOf_39 rfl (lv_at hl 0 rfl) ?_
          refine hM_6 C hS in_X6_momentOf_X6 lk_X6_momentOf_30 dX6_momentOf_40 ?_
          refine lv_iload_n hx hb dX6_momentOf_43 rfl (lv_at hl 1 rfl) ?_
          obtain ⟨hck, hf⟩ := cs hf
          refine lM_6 C hS (f := (z.2 6)) rfl (i := x1) hck dX6_momentOf_44 ?_
          refine lv_goto (tgt := 49) hx hb dX6_momentOf_45 (by decide) ?_
          cases hf
          exact rti C hS dX6_momentOf_49
    · replace hf := it_t hc hf
      refine lv_ldc (v := 2147483647) hx hb hown (hts _ lc_X6_momentOf_111) dX6_momentOf_16 ?_
      refine lv_goto (tgt := 49) hx hb dX6_momentOf_18 (by decide) ?_
      cases hf
      exact rti C hS dX6_momentOf_49
  · replace hf := it_f hc hf
    refine lv_iconst (v := (-1)) hx hb dX6_momentOf_7 (by decide) ?_
    refine lv_goto (tgt := 49) hx hb dX6_momentOf_8 (by decide) ?_
    cases hf
    exact rti C hS dX6_momentOf_49
set_option maxHeartbeats 4000000 in
set_option maxRecDepth 100000 in
theorem c_rm_momentOf (l : Launch) (D : va_G) (ad : Nat → Nat) (cA : Nat → ClassId) (k : Nat) (z : SS) (x1 : Int32) (r : Int32) (hf : rm_momentOf k z x1 = some r) (sz : Nat) : Met l yX6_momentOf wsX6_momentOf R_rm_momentOf (kP D (tM cA) [.ref (ad 0), .int x1] (wM ad cA z) sz) (kI D (tM cA) r (wM ad cA z) (wM ad cA z) sz) 0 0 (va_A (wM ad cA z) sz) := by
  refine ent (by decide) rfl rfl (Nat.le_of_ble_eq_true rfl) (fun p e s m args below meth c hsz C hS ls hl => ?_)
  subst hsz
  exact w_rm_momentOf_0 C k z x1 r hf s.heap [] ls hS hl
-- rm_rowFor: private int rowFor(int, int);
def R_rm_rowFor : Room := { frames := 7, cells := 0, slots := 0, locals := 168 }
def rm_rowFor (k : Nat) (z : SS) (x1 : Int32) (x2 : Int32) : Option (Int32 × SS) :=
  (bo (rm_momentOf k z x1) fun r_1 => (if 0 ≤ r_1 then (bi (rm_has k z x2 r_1) fun r_2 z_2 => some (r_2, z_2)) else some ((-1), z)))
set_option maxHeartbeats 4000000 in
set_option maxRecDepth 100000 in
theorem w_rm_rowFor_0 {p : Program} {l : Launch} {e : Env} {s : State} {m : MethodId} {args : Array Value} {below : List Frame} {meth : Method} {c : Code} {D : va_G} {w0 : va_W} {ad : Nat → Nat} {cA : Nat → ClassId} (C : Cx p s m args meth c cX6_rowFor 4 (some .int) RX6 wsX6_rowFor D (tM cA)) (k : Nat) (z : SS) (x1 : Int32) (x2 : Int32) (r : Int32) (z' : SS) (hf : rm_rowFor k z x1 x2 = some (r, z')) : ∀ (H : Heap) (locs : List Loc) (ls : Array Slot), St D (va_A w0 s.heap.size) s.heap (wM ad cA z) H locs → lv_has ls 4 [(0, .ref (ad 0)), (1, .int x1), (2, .int x2)] → W p l e R_rm_rowFor s m args below meth c H locs 0 0 (MQ below (kI D (tM cA) r w0 (wM ad cA z') s.heap.size) args s 0 0 (va_A w0 s.heap.size)) (F0 m 0 ls []) := by
  obtain ⟨hx, hb, hr, hml, hown, hts, hlk, hK⟩ := id C
  intro H locs ls hS hl
  have hf : (bo (rm_momentOf k z x1) fun r_1 => (if 0 ≤ r_1 then (bi (rm_has k z x2 r_1) fun r_2 z_2 => some (r_2, z_2)) else some ((-1), z))) = some (r, z') := hf
  refine lv_aload_n hx hb dX6_rowFor_0 rfl (lv_at hl 0 rfl) ?_
  refine lv_iload_n hx hb dX6_rowFor_1 rfl (lv_at hl 1 rfl) ?_
  obtain ⟨r_1, hcl, hf⟩ := bo_s hf
  refine rcVi (n := 1) (As := [.int x1]) (rest := []) (q0 := 0) (w' := (wM ad cA z)) C hS (fun sz => c_rm_momentOf l D ad cA k z x1 r_1 hcl sz) gX6_rowFor_X6_momentOf rfl ⟨rfl, rfl⟩ (by decide +kernel) ⟨Nat.le_of_ble_eq_true rfl, Nat.le_of_ble_eq_true rfl⟩ oM_0 rfl rfl hl.1 rfl (Nat.le_of_ble_eq_true rfl) dX6_rowFor_2 (fun H locs hS => ?_)
  refine lv_istore_n (lv' := [(3, .int r_1), (0, .ref (ad 0)), (1, .int x1), (2, .int x2)]) hx hb dX6_rowFor_5 rfl hl (by decide) rfl (fun ls hl => ?_)
  refine lv_iload_n hx hb dX6_rowFor_6 rfl (lv_at hl 0 rfl) ?_
  refine lv_if_ge (x := r_1) (tgt := 14) hx hb dX6_rowFor_7 (by decide) (fun hc => ?_) (fun hc => ?_)
  · replace hf := it_t hc hf
    refine lv_aload_n hx hb dX6_rowFor_14 rfl (lv_at hl 1 rfl) ?_
    refine lv_iload_n hx hb dX6_rowFor_15 rfl (lv_at hl 3 rfl) ?_
    refine lv_iload_n hx hb dX6_rowFor_16 rfl (lv_at hl 0 rfl) ?_
    obtain ⟨r_2, z_2, hcl, hf⟩ := bi_s hf
    refine rcVi (n := 2) (As := [.int x2, .int r_1]) (rest := []) (q0 := 0) (w' := (wM ad cA z_2)) C hS (fun sz => c_rm_has l D ad cA k z x2 r_1 r_2 z_2 hcl sz) gX6_rowFor_X6_has rfl ⟨rfl, rfl⟩ (by decide +kernel) ⟨Nat.le_of_ble_eq_true rfl, Nat.le_of_ble_eq_true rfl⟩ oM_0 rfl rfl hl.1 rfl (Nat.le_of_ble_eq_true rfl) dX6_rowFor_17 (fun H locs hS => ?_)
    cases hf
    exact rti C hS dX6_rowFor_20
  · replace hf := it_f hc hf
    refine lv_iconst (v := (-1)) hx hb dX6_rowFor_10 (by decide) ?_
    refine lv_goto (tgt := 20) hx hb dX6_rowFor_11 (by decide) ?_
    cases hf
    exact rti C hS dX6_rowFor_20
set_option maxHeartbeats 4000000 in
set_option maxRecDepth 100000 in
theorem c_rm_rowFor (l : Launch) (D : va_G) (ad : Nat → Nat) (cA : Nat → ClassId) (k : Nat) (z : SS) (x1 : Int32) (x2 : Int32) (r : Int32) (z' : SS) (hf : rm_rowFor k z x1 x2 = some (r, z')) (sz : Nat) : Met l yX6_rowFor wsX6_rowFor R_rm_rowFor (kP D (tM cA) [.ref (ad 0), .int x1, .int x2] (wM ad cA z) sz) (kI D (tM cA) r (wM ad cA z) (wM ad cA z') sz) 0 0 (va_A (wM ad cA z) sz) := by
  refine ent (by decide) rfl rfl (Nat.le_of_ble_eq_true rfl) (fun p e s m args below meth c hsz C hS ls hl => ?_)
  subst hsz
  exact w_rm_rowFor_0 C k z x1 x2 r z' hf s.heap [] ls hS hl
-- rm_length: public int length(int, int);
theorem lk_X6_length_67 : Cond.fieldLink RX6 67 (TX6 1).1 (TX6 1).2.1 (TX6 1).2.2.1 ∈ wsX6_length := by decide +kernel
theorem in_X6_length_X6 : ∀ x ∈ u_ws RX6 TX6 29, x ∈ wsX6_length := by decide +kernel
theorem lk_X6_length_7 : Cond.fieldLink RX6 7 (TX6 2).1 (TX6 2).2.1 (TX6 2).2.2.1 ∈ wsX6_length := by decide +kernel
theorem lk_X6_length_36 : Cond.fieldLink RX6 36 (TX6 16).1 (TX6 16).2.1 (TX6 16).2.2.1 ∈ wsX6_length := by decide +kernel
def R_rm_length : Room := { frames := 8, cells := 0, slots := 0, locals := 191 }
def rm_length (k : Nat) (z : SS) (x1 : Int32) (x2 : Int32) : Option (Int32 × SS) :=
  (bi (rm_rowFor k (si z 1 0) x1 x2) fun r_1 z_1 => (if 0 ≤ r_1 then (if ck r_1 160 = true then (if ck (((z_1.2 7) (Int32.toNatClampNeg r_1)) + 7) 2400 = true then some (((z_1.2 1) (Int32.toNatClampNeg (((z_1.2 7) (Int32.toNatClampNeg r_1)) + 7))), z_1) else none) else none) else some ((-1), z_1)))
set_option maxHeartbeats 4000000 in
set_option maxRecDepth 100000 in
theorem w_rm_length_0 {p : Program} {l : Launch} {e : Env} {s : State} {m : MethodId} {args : Array Value} {below : List Frame} {meth : Method} {c : Code} {D : va_G} {w0 : va_W} {ad : Nat → Nat} {cA : Nat → ClassId} (C : Cx p s m args meth c cX6_length 4 (some .int) RX6 wsX6_length D (tM cA)) (k : Nat) (z : SS) (x1 : Int32) (x2 : Int32) (r : Int32) (z' : SS) (hf : rm_length k z x1 x2 = some (r, z')) : ∀ (H : Heap) (locs : List Loc) (ls : Array Slot), St D (va_A w0 s.heap.size) s.heap (wM ad cA z) H locs → lv_has ls 4 [(0, .ref (ad 0)), (1, .int x1), (2, .int x2)] → W p l e R_rm_length s m args below meth c H locs 0 0 (MQ below (kI D (tM cA) r w0 (wM ad cA z') s.heap.size) args s 0 0 (va_A w0 s.heap.size)) (F0 m 0 ls []) := by
  obtain ⟨hx, hb, hr, hml, hown, hts, hlk, hK⟩ := id C
  intro H locs ls hS hl
  have hf : (bi (rm_rowFor k (si z 1 0) x1 x2) fun r_1 z_1 => (if 0 ≤ r_1 then (if ck r_1 160 = true then (if ck (((z_1.2 7) (Int32.toNatClampNeg r_1)) + 7) 2400 = true then some (((z_1.2 1) (Int32.toNatClampNeg (((z_1.2 7) (Int32.toNatClampNeg r_1)) + 7))), z_1) else none) else none) else some ((-1), z_1))) = some (r, z') := hf
  refine lv_aload_n hx hb dX6_length_0 rfl (lv_at hl 0 rfl) ?_
  refine lv_iconst (v := 0) hx hb dX6_length_1 (by decide) ?_
  refine pM_1 C hS in_X6_length_X6 lk_X6_length_67 (v := 0) rfl rfl dX6_length_2 (fun H locs hS => ?_)
  refine lv_aload_n hx hb dX6_length_5 rfl (lv_at hl 0 rfl) ?_
  refine lv_iload_n hx hb dX6_length_6 rfl (lv_at hl 1 rfl) ?_
  refine lv_iload_n hx hb dX6_length_7 rfl (lv_at hl 2 rfl) ?_
  obtain ⟨r_1, z_1, hcl, hf⟩ := bi_s hf
  refine rcVi (n := 2) (As := [.int x1, .int x2]) (rest := []) (q0 := 0) (w' := (wM ad cA z_1)) C hS (fun sz => c_rm_rowFor l D ad cA k (si z 1 0) x1 x2 r_1 z_1 hcl sz) gX6_length_X6_rowFor rfl ⟨rfl, rfl⟩ (by decide +kernel) ⟨Nat.le_of_ble_eq_true rfl, Nat.le_of_ble_eq_true rfl⟩ oM_0 rfl rfl hl.1 rfl (Nat.le_of_ble_eq_true rfl) dX6_length_8 (fun H locs hS => ?_)
  refine lv_istore_n (lv' := [(3, .int r_1), (0, .ref (ad 0)), (1, .int x1), (2, .int x2)]) hx hb dX6_length_11 rfl hl (by decide) rfl (fun ls hl => ?_)
  refine lv_iload_n hx hb dX6_length_12 rfl (lv_at hl 0 rfl) ?_
  refine lv_if_ge (x := r_1) (tgt := 20) hx hb dX6_length_13 (by decide) (fun hc => ?_) (fun hc => ?_)
  · replace hf := it_t hc hf
    refine lv_aload_n hx hb dX6_length_20 rfl (lv_at hl 1 rfl) ?_
    refine hM_1 C hS in_X6_length_X6 lk_X6_length_7 dX6_length_21 ?_
    refine lv_aload_n hx hb dX6_length_24 rfl (lv_at hl 1 rfl) ?_
    refine hM_7 C hS in_X6_length_X6 lk_X6_length_36 dX6_length_25 ?_
    refine lv_iload_n hx hb dX6_length_28 rfl (lv_at hl 0 rfl) ?_
    obtain ⟨hck, hf⟩ := cs hf
    refine lM_7 C hS (f := (z_1.2 7)) rfl (i := r_1) hck dX6_length_29 ?_
    refine lv_bipush (v := 7) hx hb dX6_length_30 (by decide) ?_
    refine lv_iadd (x := ((z_1.2 7) (Int32.toNatClampNeg r_1))) (y := 7) hx hb dX6_length_32 ?_
    obtain ⟨hck, hf⟩ := cs hf
    refine lM_1 C hS (f := (z_1.2 1)) rfl (i := (((z_1.2 7) (Int32.toNatClampNeg r_1)) + 7)) hck dX6_length_33 ?_
    cases hf
    exact rti C hS dX6_length_34
  · replace hf := it_f hc hf
    refine lv_iconst (v := (-1)) hx hb dX6_length_16 (by decide) ?_
    refine lv_goto (tgt := 34) hx hb dX6_length_17 (by decide) ?_
    cases hf
    exact rti C hS dX6_length_34
set_option maxHeartbeats 4000000 in
set_option maxRecDepth 100000 in
theorem c_rm_length (l : Launch) (D : va_G) (ad : Nat → Nat) (cA : Nat → ClassId) (k : Nat) (z : SS) (x1 : Int32) (x2 : Int32) (r : Int32) (z' : SS) (hf : rm_length k z x1 x2 = some (r, z')) (sz : Nat) : Met l yX6_length wsX6_length R_rm_length (kP D (tM cA) [.ref (ad 0), .int x1, .int x2] (wM ad cA z) sz) (kI D (tM cA) r (wM ad cA z) (wM ad cA z') sz) 0 0 (va_A (wM ad cA z) sz) := by
  refine ent (by decide) rfl rfl (Nat.le_of_ble_eq_true rfl) (fun p e s m args below meth c hsz C hS ls hl => ?_)
  subst hsz
  exact w_rm_length_0 C k z x1 x2 r z' hf s.heap [] ls hS hl
-- rm_find: public int find(int, int, int);
theorem lk_X6_find_67 : Cond.fieldLink RX6 67 (TX6 1).1 (TX6 1).2.1 (TX6 1).2.2.1 ∈ wsX6_find := by decide +kernel
theorem in_X6_find_X6 : ∀ x ∈ u_ws RX6 TX6 29, x ∈ wsX6_find := by decide +kernel
theorem lk_X6_find_7 : Cond.fieldLink RX6 7 (TX6 2).1 (TX6 2).2.1 (TX6 2).2.2.1 ∈ wsX6_find := by decide +kernel
theorem lk_X6_find_36 : Cond.fieldLink RX6 36 (TX6 16).1 (TX6 16).2.1 (TX6 16).2.2.1 ∈ wsX6_find := by decide +kernel
def R_rm_find : Room := { frames := 8, cells := 0, slots := 0, locals := 191 }
def rm_find (k : Nat) (z : SS) (x1 : Int32) (x2 : Int32) (x3 : Int32) : Option (Int32 × SS) :=
  (bi (rm_rowFor k (si z 1 0) x1 x2) fun r_1 z_1 => (if r_1 < 0 then some ((-1), z_1) else (if x3 < 0 then some ((-1), z_1) else (if ck r_1 160 = true then (if ck (((z_1.2 7) (Int32.toNatClampNeg r_1)) + 7) 2400 = true then (if x3 < ((z_1.2 1) (Int32.toNatClampNeg (((z_1.2 7) (Int32.toNatClampNeg r_1)) + 7))) then (if ck r_1 160 = true then (if ck ((((z_1.2 7) (Int32.toNatClampNeg r_1)) + 8) + x3) 2400 = true then some (((z_1.2 1) (Int32.toNatClampNeg ((((z_1.2 7) (Int32.toNatClampNeg r_1)) + 8) + x3))), z_1) else none) else none) else some ((-1), z_1)) else none) else none))))
set_option maxHeartbeats 4000000 in
set_option maxRecDepth 100000 in
theorem w_rm_find_0 {p : Program} {l : Launch} {e : Env} {s : State} {m : MethodId} {args : Array Value} {below : List Frame} {meth : Method} {c : Code} {D : va_G} {w0 : va_W} {ad : Nat → Nat} {cA : Nat → ClassId} (C : Cx p s m args meth c cX6_find 5 (some .int) RX6 wsX6_find D (tM cA)) (k : Nat) (z : SS) (x1 : Int32) (x2 : Int32) (x3 : Int32) (r : Int32) (z' : SS) (hf : rm_find k z x1 x2 x3 = some (r, z')) : ∀ (H : Heap) (locs : List Loc) (ls : Array Slot), St D (va_A w0 s.heap.size) s.heap (wM ad cA z) H locs → lv_has ls 5 [(0, .ref (ad 0)), (1, .int x1), (2, .int x2), (3, .int x3)] → W p l e R_rm_find s m args below meth c H locs 0 0 (MQ below (kI D (tM cA) r w0 (wM ad cA z') s.heap.size) args s 0 0 (va_A w0 s.heap.size)) (F0 m 0 ls []) := by
  obtain ⟨hx, hb, hr, hml, hown, hts, hlk, hK⟩ := id C
  intro H locs ls hS hl
  have hf : (bi (rm_rowFor k (si z 1 0) x1 x2) fun r_1 z_1 => (if r_1 < 0 then some ((-1), z_1) else (if x3 < 0 then some ((-1), z_1) else (if ck r_1 160 = true then (if ck (((z_1.2 7) (Int32.toNatClampNeg r_1)) + 7) 2400 = true then (if x3 < ((z_1.2 1) (Int32.toNatClampNeg (((z_1.2 7) (Int32.toNatClampNeg r_1)) + 7))) then (if ck r_1 160 = true then (if ck ((((z_1.2 7) (Int32.toNatClampNeg r_1)) + 8) + x3) 2400 = true then some (((z_1.2 1) (Int32.toNatClampNeg ((((z_1.2 7) (Int32.toNatClampNeg r_1)) + 8) + x3))), z_1) else none) else none) else some ((-1), z_1)) else none) else none)))) = some (r, z') := hf
  refine lv_aload_n hx hb dX6_find_0 rfl (lv_at hl 0 rfl) ?_
  refine lv_iconst (v := 0) hx hb dX6_find_1 (by decide) ?_
  refine pM_1 C hS in_X6_find_X6 lk_X6_find_67 (v := 0) rfl rfl dX6_find_2 (fun H locs hS => ?_)
  refine lv_aload_n hx hb dX6_find_5 rfl (lv_at hl 0 rfl) ?_
  refine lv_iload_n hx hb dX6_find_6 rfl (lv_at hl 1 rfl) ?_
  refine lv_iload_n hx hb dX6_find_7 rfl (lv_at hl 2 rfl) ?_
  obtain ⟨r_1, z_1, hcl, hf⟩ := bi_s hf
  refine rcVi (n := 2) (As := [.int x1, .int x2]) (rest := []) (q0 := 0) (w' := (wM ad cA z_1)) C hS (fun sz => c_rm_rowFor l D ad cA k (si z 1 0) x1 x2 r_1 z_1 hcl sz) gX6_find_X6_rowFor rfl ⟨rfl, rfl⟩ (by decide +kernel) ⟨Nat.le_of_ble_eq_true rfl, Nat.le_of_ble_eq_true rfl⟩ oM_0 rfl rfl hl.1 rfl (Nat.le_of_ble_eq_true rfl) dX6_find_8 (fun H locs hS => ?_)
  refine lv_istore (lv' := [(4, .int r_1), (0, .ref (ad 0)), (1, .int x1), (2, .int x2), (3, .int x3)]) hx hb dX6_find_11 hl (by decide) rfl (fun ls hl => ?_)
  refine lv_iload hx hb dX6_find_13 (lv_at hl 0 rfl) ?_
  refine lv_if_lt (x := r_1) (tgt := 41) hx hb dX6_find_15 (by decide) (fun hc => ?_) (fun hc => ?_)
  · replace hf := it_t hc hf
    refine lv_iconst (v := (-1)) hx hb dX6_find_41 (by decide) ?_
    refine lv_goto (tgt := 62) hx hb dX6_find_42 (by decide) ?_
    cases hf
    exact rti C hS dX6_find_62
  · replace hf := it_f hc hf
    refine lv_iload_n hx hb dX6_find_18 rfl (lv_at hl 4 rfl) ?_
    refine lv_if_lt (x := x3) (tgt := 41) hx hb dX6_find_19 (by decide) (fun hc => ?_) (fun hc => ?_)
    · replace hf := it_t hc hf
      refine lv_iconst (v := (-1)) hx hb dX6_find_41 (by decide) ?_
      refine lv_goto (tgt := 62) hx hb dX6_find_42 (by decide) ?_
      cases hf
      exact rti C hS dX6_find_62
    · replace hf := it_f hc hf
      refine lv_iload_n hx hb dX6_find_22 rfl (lv_at hl 4 rfl) ?_
      refine lv_aload_n hx hb dX6_find_23 rfl (lv_at hl 1 rfl) ?_
      refine hM_1 C hS in_X6_find_X6 lk_X6_find_7 dX6_find_24 ?_
      refine lv_aload_n hx hb dX6_find_27 rfl (lv_at hl 1 rfl) ?_
      refine hM_7 C hS in_X6_find_X6 lk_X6_find_36 dX6_find_28 ?_
      refine lv_iload hx hb dX6_find_31 (lv_at hl 0 rfl) ?_
      obtain ⟨hck, hf⟩ := cs hf
      refine lM_7 C hS (f := (z_1.2 7)) rfl (i := r_1) hck dX6_find_33 ?_
      refine lv_bipush (v := 7) hx hb dX6_find_34 (by decide) ?_
      refine lv_iadd (x := ((z_1.2 7) (Int32.toNatClampNeg r_1))) (y := 7) hx hb dX6_find_36 ?_
      obtain ⟨hck, hf⟩ := cs hf
      refine lM_1 C hS (f := (z_1.2 1)) rfl (i := (((z_1.2 7) (Int32.toNatClampNeg r_1)) + 7)) hck dX6_find_37 ?_
      refine lv_icmp_lt (x := x3) (y := ((z_1.2 1) (Int32.toNatClampNeg (((z_1.2 7) (Int32.toNatClampNeg r_1)) + 7)))) (tgt := 45) hx hb dX6_find_38 (by decide) (fun hc => ?_) (fun hc => ?_)
      · replace hf := it_t hc hf
        refine lv_aload_n hx hb dX6_find_45 rfl (lv_at hl 1 rfl) ?_
        refine hM_1 C hS in_X6_find_X6 lk_X6_find_7 dX6_find_46 ?_
        refine lv_aload_n hx hb dX6_find_49 rfl (lv_at hl 1 rfl) ?_
        refine hM_7 C hS in_X6_find_X6 lk_X6_find_36 dX6_find_50 ?_
        refine lv_iload hx hb dX6_find_53 (lv_at hl 0 rfl) ?_
        obtain ⟨hck, hf⟩ := cs hf
        refine lM_7 C hS (f := (z_1.2 7)) rfl (i := r_1) hck dX6_find_55 ?_
        refine lv_bipush (v := 8) hx hb dX6_find_56 (by decide) ?_
        refine lv_iadd (x := ((z_1.2 7) (Int32.toNatClampNeg r_1))) (y := 8) hx hb dX6_find_58 ?_
        refine lv_iload_n hx hb dX6_find_59 rfl (lv_at hl 4 rfl) ?_
        refine lv_iadd (x := (((z_1.2 7) (Int32.toNatClampNeg r_1)) + 8)) (y := x3) hx hb dX6_find_60 ?_
        obtain ⟨hck, hf⟩ := cs hf
        refine lM_1 C hS (f := (z_1.2 1)) rfl (i := ((((z_1.2 7) (Int32.toNatClampNeg r_1)) + 8) + x3)) hck dX6_find_61 ?_
        cases hf
        exact rti C hS dX6_find_62
      · replace hf := it_f hc hf
        refine lv_iconst (v := (-1)) hx hb dX6_find_41 (by decide) ?_
        refine lv_goto (tgt := 62) hx hb dX6_find_42 (by decide) ?_
        cases hf
        exact rti C hS dX6_find_62
set_option maxHeartbeats 4000000 in
set_option maxRecDepth 100000 in
theorem c_rm_find (l : Launch) (D : va_G) (ad : Nat → Nat) (cA : Nat → ClassId) (k : Nat) (z : SS) (x1 : Int32) (x2 : Int32) (x3 : Int32) (r : Int32) (z' : SS) (hf : rm_find k z x1 x2 x3 = some (r, z')) (sz : Nat) : Met l yX6_find wsX6_find R_rm_find (kP D (tM cA) [.ref (ad 0), .int x1, .int x2, .int x3] (wM ad cA z) sz) (kI D (tM cA) r (wM ad cA z) (wM ad cA z') sz) 0 0 (va_A (wM ad cA z) sz) := by
  refine ent (by decide) rfl rfl (Nat.le_of_ble_eq_true rfl) (fun p e s m args below meth c hsz C hS ls hl => ?_)
  subst hsz
  exact w_rm_find_0 C k z x1 x2 x3 r z' hf s.heap [] ls hS hl
-- rm_snapshot: public int snapshot();
theorem lk_X6_snapshot_26 : Cond.fieldLink RX6 26 (TX6 10).1 (TX6 10).2.1 (TX6 10).2.2.1 ∈ wsX6_snapshot := by decide +kernel
theorem in_X6_snapshot_X6 : ∀ x ∈ u_ws RX6 TX6 29, x ∈ wsX6_snapshot := by decide +kernel
theorem lk_X6_snapshot_30 : Cond.fieldLink RX6 30 (TX6 11).1 (TX6 11).2.1 (TX6 11).2.2.1 ∈ wsX6_snapshot := by decide +kernel
theorem lk_X6_snapshot_132 : Cond.fieldLink RX6 132 (TX6 5).1 (TX6 5).2.1 (TX6 5).2.2.1 ∈ wsX6_snapshot := by decide +kernel
theorem lk_X6_snapshot_67 : Cond.fieldLink RX6 67 (TX6 1).1 (TX6 1).2.1 (TX6 1).2.2.1 ∈ wsX6_snapshot := by decide +kernel
theorem lk_X6_snapshot_149 : Cond.fieldLink RX6 149 (TX6 12).1 (TX6 12).2.1 (TX6 12).2.2.1 ∈ wsX6_snapshot := by decide +kernel
def R_rm_snapshot : Room := { frames := 0, cells := 0, slots := 0, locals := 0 }
def rm_snapshot_b17 (k : Nat) : Nat → SS → Int32 → Option (Int32 × SS)
  | 0, _, _ => none
  | fu + 1, z, x1 => (if 4 ≤ x1 then some ((-4), z) else (if ck x1 4 = true then (if ((z.2 5) (Int32.toNatClampNeg x1)) = 0 then (if ck x1 4 = true then (if ck x1 4 = true then some (x1, (sa (sa z 5 (Int32.toNatClampNeg x1) (vp_nar .boolean 1)) 6 (Int32.toNatClampNeg x1) (z.1 5))) else none) else none) else rm_snapshot_b17 k fu z (x1 + 1)) else none))
def rm_snapshot (k : Nat) (z : SS) : Option (Int32 × SS) :=
  (if (z.1 12) = 0 then rm_snapshot_b17 k k (si z 1 0) 0 else some ((-3), (si z 1 0)))
set_option maxHeartbeats 4000000 in
set_option maxRecDepth 100000 in
theorem w_rm_snapshot_b17 {p : Program} {l : Launch} {e : Env} {s : State} {m : MethodId} {args : Array Value} {below : List Frame} {meth : Method} {c : Code} {D : va_G} {w0 : va_W} {ad : Nat → Nat} {cA : Nat → ClassId} (C : Cx p s m args meth c cX6_snapshot 2 (some .int) RX6 wsX6_snapshot D (tM cA)) (k : Nat) : ∀ (fu : Nat) (z : SS) (x1 : Int32) (r : Int32) (z' : SS), rm_snapshot_b17 k fu z x1 = some (r, z') → ∀ (H : Heap) (locs : List Loc) (ls : Array Slot), St D (va_A w0 s.heap.size) s.heap (wM ad cA z) H locs → lv_has ls 2 [(0, .ref (ad 0)), (1, .int x1)] → W p l e R_rm_snapshot s m args below meth c H locs 0 0 (MQ below (kI D (tM cA) r w0 (wM ad cA z') s.heap.size) args s 0 0 (va_A w0 s.heap.size)) (F0 m 17 ls []) := by
  obtain ⟨hx, hb, hr, hml, hown, hts, hlk, hK⟩ := id C
  intro fu
  induction fu with
  | zero =>
    intro z x1 r z' hf
    cases (show (none : Option (Int32 × SS)) = some (r, z') from hf)
  | succ fu ih =>
    intro z x1 r z' hf H locs ls hS hl
    have hf : (if 4 ≤ x1 then some ((-4), z) else (if ck x1 4 = true then (if ((z.2 5) (Int32.toNatClampNeg x1)) = 0 then (if ck x1 4 = true then (if ck x1 4 = true then some (x1, (sa (sa z 5 (Int32.toNatClampNeg x1) (vp_nar .boolean 1)) 6 (Int32.toNatClampNeg x1) (z.1 5))) else none) else none) else rm_snapshot_b17 k fu z (x1 + 1)) else none)) = some (r, z') := hf
    refine lv_iload_n hx hb dX6_snapshot_17 rfl (lv_at hl 1 rfl) ?_
    refine lv_iconst (v := 4) hx hb dX6_snapshot_18 (by decide) ?_
    refine lv_icmp_ge (x := x1) (y := 4) (tgt := 56) hx hb dX6_snapshot_19 (by decide) (fun hc => ?_) (fun hc => ?_)
    · replace hf := it_t hc hf
      refine lv_bipush (v := (-4)) hx hb dX6_snapshot_56 (by decide) ?_
      cases hf
      exact rti C hS dX6_snapshot_58
    · replace hf := it_f hc hf
      refine lv_aload_n hx hb dX6_snapshot_22 rfl (lv_at hl 0 rfl) ?_
      refine hM_5 C hS in_X6_snapshot_X6 lk_X6_snapshot_26 dX6_snapshot_23 ?_
      refine lv_iload_n hx hb dX6_snapshot_26 rfl (lv_at hl 1 rfl) ?_
      obtain ⟨hck, hf⟩ := cs hf
      refine lM_5 C hS (f := (z.2 5)) rfl (i := x1) hck dX6_snapshot_27 ?_
      refine lv_if_ne (x := ((z.2 5) (Int32.toNatClampNeg x1))) (tgt := 50) hx hb dX6_snapshot_28 (by decide) (fun hc => ?_) (fun hc => ?_)
      · replace hf := it_f hc hf
        refine lv_iinc (v := (x1 + 1)) (lv' := [(1, .int (x1 + 1)), (0, .ref (ad 0))]) hx hb dX6_snapshot_50 hl (k := 1) rfl (congrArg (fun q => x1 + q) (by decide : Int32.ofInt 1 = (1 : Int32))) (by decide) rfl (fun ls hl => ?_)
        refine lv_goto (tgt := 17) hx hb dX6_snapshot_53 (by decide) ?_
        exact ih z (x1 + 1) r z' hf H locs ls hS (lv_sub hl [1, 0] rfl)
      · replace hf := it_t hc hf
        refine lv_aload_n hx hb dX6_snapshot_31 rfl (lv_at hl 0 rfl) ?_
        refine hM_5 C hS in_X6_snapshot_X6 lk_X6_snapshot_26 dX6_snapshot_32 ?_
        refine lv_iload_n hx hb dX6_snapshot_35 rfl (lv_at hl 1 rfl) ?_
        refine lv_iconst (v := 1) hx hb dX6_snapshot_36 (by decide) ?_
        obtain ⟨hck, hf⟩ := cs hf
        refine sM_5 C hS (i := x1) (x := 1) hck dX6_snapshot_37 (fun H locs hS => ?_)
        refine lv_aload_n hx hb dX6_snapshot_38 rfl (lv_at hl 0 rfl) ?_
        refine hM_6 C hS in_X6_snapshot_X6 lk_X6_snapshot_30 dX6_snapshot_39 ?_
        refine lv_iload_n hx hb dX6_snapshot_42 rfl (lv_at hl 1 rfl) ?_
        refine lv_aload_n hx hb dX6_snapshot_43 rfl (lv_at hl 0 rfl) ?_
        refine gM_5 C hS in_X6_snapshot_X6 lk_X6_snapshot_132 (v := (z.1 5)) (sa_i.trans rfl) dX6_snapshot_44 ?_
        obtain ⟨hck, hf⟩ := cs hf
        refine sM_6 C hS (i := x1) (x := (z.1 5)) hck dX6_snapshot_47 (fun H locs hS => ?_)
        refine lv_iload_n hx hb dX6_snapshot_48 rfl (lv_at hl 1 rfl) ?_
        cases hf
        exact rti C hS dX6_snapshot_49
set_option maxHeartbeats 4000000 in
set_option maxRecDepth 100000 in
theorem w_rm_snapshot_0 {p : Program} {l : Launch} {e : Env} {s : State} {m : MethodId} {args : Array Value} {below : List Frame} {meth : Method} {c : Code} {D : va_G} {w0 : va_W} {ad : Nat → Nat} {cA : Nat → ClassId} (C : Cx p s m args meth c cX6_snapshot 2 (some .int) RX6 wsX6_snapshot D (tM cA)) (k : Nat) (z : SS) (r : Int32) (z' : SS) (hf : rm_snapshot k z = some (r, z')) : ∀ (H : Heap) (locs : List Loc) (ls : Array Slot), St D (va_A w0 s.heap.size) s.heap (wM ad cA z) H locs → lv_has ls 2 [(0, .ref (ad 0))] → W p l e R_rm_snapshot s m args below meth c H locs 0 0 (MQ below (kI D (tM cA) r w0 (wM ad cA z') s.heap.size) args s 0 0 (va_A w0 s.heap.size)) (F0 m 0 ls []) := by
  obtain ⟨hx, hb, hr, hml, hown, hts, hlk, hK⟩ := id C
  intro H locs ls hS hl
  have hf : (if (z.1 12) = 0 then rm_snapshot_b17 k k (si z 1 0) 0 else some ((-3), (si z 1 0))) = some (r, z') := hf
  refine lv_aload_n hx hb dX6_snapshot_0 rfl (lv_at hl 0 rfl) ?_
  refine lv_iconst (v := 0) hx hb dX6_snapshot_1 (by decide) ?_
  refine pM_1 C hS in_X6_snapshot_X6 lk_X6_snapshot_67 (v := 0) rfl rfl dX6_snapshot_2 (fun H locs hS => ?_)
  refine lv_aload_n hx hb dX6_snapshot_5 rfl (lv_at hl 0 rfl) ?_
  refine gM_12 C hS in_X6_snapshot_X6 lk_X6_snapshot_149 (v := (z.1 12)) ((si_o (by decide)).trans rfl) dX6_snapshot_6 ?_
  refine lv_if_eq (x := (z.1 12)) (tgt := 15) hx hb dX6_snapshot_9 (by decide) (fun hc => ?_) (fun hc => ?_)
  · replace hf := it_t hc hf
    refine lv_iconst (v := 0) hx hb dX6_snapshot_15 (by decide) ?_
    refine lv_istore_n (lv' := [(1, .int 0), (0, .ref (ad 0))]) hx hb dX6_snapshot_16 rfl hl (by decide) rfl (fun ls hl => ?_)
    exact w_rm_snapshot_b17 C k k (si z 1 0) 0 r z' hf H locs ls hS (lv_sub hl [1, 0] rfl)
  · replace hf := it_f hc hf
    refine lv_bipush (v := (-3)) hx hb dX6_snapshot_12 (by decide) ?_
    cases hf
    exact rti C hS dX6_snapshot_14
set_option maxHeartbeats 4000000 in
set_option maxRecDepth 100000 in
theorem c_rm_snapshot (l : Launch) (D : va_G) (ad : Nat → Nat) (cA : Nat → ClassId) (k : Nat) (z : SS) (r : Int32) (z' : SS) (hf : rm_snapshot k z = some (r, z')) (sz : Nat) : Met l yX6_snapshot wsX6_snapshot R_rm_snapshot (kP D (tM cA) [.ref (ad 0)] (wM ad cA z) sz) (kI D (tM cA) r (wM ad cA z) (wM ad cA z') sz) 0 0 (va_A (wM ad cA z) sz) := by
  refine ent (by decide) rfl rfl (Nat.le_of_ble_eq_true rfl) (fun p e s m args below meth c hsz C hS ls hl => ?_)
  subst hsz
  exact w_rm_snapshot_0 C k z r z' hf s.heap [] ls hS hl
-- rm_release: public int release(int);
theorem lk_X6_release_67 : Cond.fieldLink RX6 67 (TX6 1).1 (TX6 1).2.1 (TX6 1).2.2.1 ∈ wsX6_release := by decide +kernel
theorem in_X6_release_X6 : ∀ x ∈ u_ws RX6 TX6 29, x ∈ wsX6_release := by decide +kernel
theorem lk_X6_release_149 : Cond.fieldLink RX6 149 (TX6 12).1 (TX6 12).2.1 (TX6 12).2.2.1 ∈ wsX6_release := by decide +kernel
theorem lk_X6_release_26 : Cond.fieldLink RX6 26 (TX6 10).1 (TX6 10).2.1 (TX6 10).2.2.1 ∈ wsX6_release := by decide +kernel
def R_rm_release : Room := { frames := 1, cells := 0, slots := 0, locals := 22 }
def rm_release (k : Nat) (z : SS) (x1 : Int32) : Option (Int32 × SS) :=
  (if (z.1 12) = 0 then (bo (rm_in k (si z 1 0) x1 0 3) fun r_1 => (if r_1 = 0 then some ((-1), (si z 1 0)) else (if ck x1 4 = true then (if ((z.2 5) (Int32.toNatClampNeg x1)) = 0 then some ((-1), (si z 1 0)) else (if ck x1 4 = true then some (1, (sa (si z 1 0) 5 (Int32.toNatClampNeg x1) (vp_nar .boolean 0))) else none)) else none))) else some ((-3), (si z 1 0)))
set_option maxHeartbeats 4000000 in
set_option maxRecDepth 100000 in
theorem w_rm_release_0 {p : Program} {l : Launch} {e : Env} {s : State} {m : MethodId} {args : Array Value} {below : List Frame} {meth : Method} {c : Code} {D : va_G} {w0 : va_W} {ad : Nat → Nat} {cA : Nat → ClassId} (C : Cx p s m args meth c cX6_release 2 (some .int) RX6 wsX6_release D (tM cA)) (k : Nat) (z : SS) (x1 : Int32) (r : Int32) (z' : SS) (hf : rm_release k z x1 = some (r, z')) : ∀ (H : Heap) (locs : List Loc) (ls : Array Slot), St D (va_A w0 s.heap.size) s.heap (wM ad cA z) H locs → lv_has ls 2 [(0, .ref (ad 0)), (1, .int x1)] → W p l e R_rm_release s m args below meth c H locs 0 0 (MQ below (kI D (tM cA) r w0 (wM ad cA z') s.heap.size) args s 0 0 (va_A w0 s.heap.size)) (F0 m 0 ls []) := by
  obtain ⟨hx, hb, hr, hml, hown, hts, hlk, hK⟩ := id C
  intro H locs ls hS hl
  have hf : (if (z.1 12) = 0 then (bo (rm_in k (si z 1 0) x1 0 3) fun r_1 => (if r_1 = 0 then some ((-1), (si z 1 0)) else (if ck x1 4 = true then (if ((z.2 5) (Int32.toNatClampNeg x1)) = 0 then some ((-1), (si z 1 0)) else (if ck x1 4 = true then some (1, (sa (si z 1 0) 5 (Int32.toNatClampNeg x1) (vp_nar .boolean 0))) else none)) else none))) else some ((-3), (si z 1 0))) = some (r, z') := hf
  refine lv_aload_n hx hb dX6_release_0 rfl (lv_at hl 0 rfl) ?_
  refine lv_iconst (v := 0) hx hb dX6_release_1 (by decide) ?_
  refine pM_1 C hS in_X6_release_X6 lk_X6_release_67 (v := 0) rfl rfl dX6_release_2 (fun H locs hS => ?_)
  refine lv_aload_n hx hb dX6_release_5 rfl (lv_at hl 0 rfl) ?_
  refine gM_12 C hS in_X6_release_X6 lk_X6_release_149 (v := (z.1 12)) ((si_o (by decide)).trans rfl) dX6_release_6 ?_
  refine lv_if_eq (x := (z.1 12)) (tgt := 15) hx hb dX6_release_9 (by decide) (fun hc => ?_) (fun hc => ?_)
  · replace hf := it_t hc hf
    refine lv_iload_n hx hb dX6_release_15 rfl (lv_at hl 1 rfl) ?_
    refine lv_iconst (v := 0) hx hb dX6_release_16 (by decide) ?_
    refine lv_iconst (v := 3) hx hb dX6_release_17 (by decide) ?_
    obtain ⟨r_1, hcl, hf⟩ := bo_s hf
    refine rcSi (n := 3) (As := [.int x1, .int 0, .int 3]) (rest := []) (w' := (wM ad cA (si z 1 0))) C hS (fun sz => c_rm_in l D ad cA k (si z 1 0) x1 0 3 r_1 hcl sz) gX6_release_X6_in rfl ⟨rfl, rfl⟩ (by decide +kernel) ⟨Nat.le_of_ble_eq_true rfl, Nat.le_of_ble_eq_true rfl⟩ rfl hl.1 rfl (Nat.le_of_ble_eq_true rfl) dX6_release_18 (fun H locs hS => ?_)
    refine lv_if_eq (x := r_1) (tgt := 33) hx hb dX6_release_21 (by decide) (fun hc => ?_) (fun hc => ?_)
    · replace hf := it_t hc hf
      refine lv_iconst (v := (-1)) hx hb dX6_release_33 (by decide) ?_
      cases hf
      exact rti C hS dX6_release_34
    · replace hf := it_f hc hf
      refine lv_aload_n hx hb dX6_release_24 rfl (lv_at hl 0 rfl) ?_
      refine hM_5 C hS in_X6_release_X6 lk_X6_release_26 dX6_release_25 ?_
      refine lv_iload_n hx hb dX6_release_28 rfl (lv_at hl 1 rfl) ?_
      obtain ⟨hck, hf⟩ := cs hf
      refine lM_5 C hS (f := (z.2 5)) (si_a.trans rfl) (i := x1) hck dX6_release_29 ?_
      refine lv_if_ne (x := ((z.2 5) (Int32.toNatClampNeg x1))) (tgt := 35) hx hb dX6_release_30 (by decide) (fun hc => ?_) (fun hc => ?_)
      · replace hf := it_f hc hf
        refine lv_aload_n hx hb dX6_release_35 rfl (lv_at hl 0 rfl) ?_
        refine hM_5 C hS in_X6_release_X6 lk_X6_release_26 dX6_release_36 ?_
        refine lv_iload_n hx hb dX6_release_39 rfl (lv_at hl 1 rfl) ?_
        refine lv_iconst (v := 0) hx hb dX6_release_40 (by decide) ?_
        obtain ⟨hck, hf⟩ := cs hf
        refine sM_5 C hS (i := x1) (x := 0) hck dX6_release_41 (fun H locs hS => ?_)
        refine lv_iconst (v := 1) hx hb dX6_release_42 (by decide) ?_
        cases hf
        exact rti C hS dX6_release_43
      · replace hf := it_t hc hf
        refine lv_iconst (v := (-1)) hx hb dX6_release_33 (by decide) ?_
        cases hf
        exact rti C hS dX6_release_34
  · replace hf := it_f hc hf
    refine lv_bipush (v := (-3)) hx hb dX6_release_12 (by decide) ?_
    cases hf
    exact rti C hS dX6_release_14
set_option maxHeartbeats 4000000 in
set_option maxRecDepth 100000 in
theorem c_rm_release (l : Launch) (D : va_G) (ad : Nat → Nat) (cA : Nat → ClassId) (k : Nat) (z : SS) (x1 : Int32) (r : Int32) (z' : SS) (hf : rm_release k z x1 = some (r, z')) (sz : Nat) : Met l yX6_release wsX6_release R_rm_release (kP D (tM cA) [.ref (ad 0), .int x1] (wM ad cA z) sz) (kI D (tM cA) r (wM ad cA z) (wM ad cA z') sz) 0 0 (va_A (wM ad cA z) sz) := by
  refine ent (by decide) rfl rfl (Nat.le_of_ble_eq_true rfl) (fun p e s m args below meth c hsz C hS ls hl => ?_)
  subst hsz
  exact w_rm_release_0 C k z x1 r z' hf s.heap [] ls hS hl
-- rm_sync: public int sync();
theorem lk_X6_sync_67 : Cond.fieldLink RX6 67 (TX6 1).1 (TX6 1).2.1 (TX6 1).2.2.1 ∈ wsX6_sync := by decide +kernel
theorem in_X6_sync_X6 : ∀ x ∈ u_ws RX6 TX6 29, x ∈ wsX6_sync := by decide +kernel
theorem lk_X6_sync_149 : Cond.fieldLink RX6 149 (TX6 12).1 (TX6 12).2.1 (TX6 12).2.2.1 ∈ wsX6_sync := by decide +kernel
theorem lk_X6_sync_129 : Cond.fieldLink RX6 129 (TX6 8).1 (TX6 8).2.1 (TX6 8).2.2.1 ∈ wsX6_sync := by decide +kernel
def R_rm_sync : Room := { frames := 0, cells := 0, slots := 0, locals := 0 }
def rm_sync (k : Nat) (z : SS) : Option (Int32 × SS) :=
  (if (z.1 12) = 0 then some ((z.1 8), (si (si z 1 0) 8 0)) else some ((-3), (si z 1 0)))
set_option maxHeartbeats 4000000 in
set_option maxRecDepth 100000 in
theorem w_rm_sync_0 {p : Program} {l : Launch} {e : Env} {s : State} {m : MethodId} {args : Array Value} {below : List Frame} {meth : Method} {c : Code} {D : va_G} {w0 : va_W} {ad : Nat → Nat} {cA : Nat → ClassId} (C : Cx p s m args meth c cX6_sync 2 (some .int) RX6 wsX6_sync D (tM cA)) (k : Nat) (z : SS) (r : Int32) (z' : SS) (hf : rm_sync k z = some (r, z')) : ∀ (H : Heap) (locs : List Loc) (ls : Array Slot), St D (va_A w0 s.heap.size) s.heap (wM ad cA z) H locs → lv_has ls 2 [(0, .ref (ad 0))] → W p l e R_rm_sync s m args below meth c H locs 0 0 (MQ below (kI D (tM cA) r w0 (wM ad cA z') s.heap.size) args s 0 0 (va_A w0 s.heap.size)) (F0 m 0 ls []) := by
  obtain ⟨hx, hb, hr, hml, hown, hts, hlk, hK⟩ := id C
  intro H locs ls hS hl
  have hf : (if (z.1 12) = 0 then some ((z.1 8), (si (si z 1 0) 8 0)) else some ((-3), (si z 1 0))) = some (r, z') := hf
  refine lv_aload_n hx hb dX6_sync_0 rfl (lv_at hl 0 rfl) ?_
  refine lv_iconst (v := 0) hx hb dX6_sync_1 (by decide) ?_
  refine pM_1 C hS in_X6_sync_X6 lk_X6_sync_67 (v := 0) rfl rfl dX6_sync_2 (fun H locs hS => ?_)
  refine lv_aload_n hx hb dX6_sync_5 rfl (lv_at hl 0 rfl) ?_
  refine gM_12 C hS in_X6_sync_X6 lk_X6_sync_149 (v := (z.1 12)) ((si_o (by decide)).trans rfl) dX6_sync_6 ?_
  refine lv_if_eq (x := (z.1 12)) (tgt := 15) hx hb dX6_sync_9 (by decide) (fun hc => ?_) (fun hc => ?_)
  · replace hf := it_t hc hf
    refine lv_aload_n hx hb dX6_sync_15 rfl (lv_at hl 0 rfl) ?_
    refine gM_8 C hS in_X6_sync_X6 lk_X6_sync_129 (v := (z.1 8)) ((si_o (by decide)).trans rfl) dX6_sync_16 ?_
    refine lv_istore_n (lv' := [(1, .int (z.1 8)), (0, .ref (ad 0))]) hx hb dX6_sync_19 rfl hl (by decide) rfl (fun ls hl => ?_)
    refine lv_aload_n hx hb dX6_sync_20 rfl (lv_at hl 1 rfl) ?_
    refine lv_iconst (v := 0) hx hb dX6_sync_21 (by decide) ?_
    refine pM_8 C hS in_X6_sync_X6 lk_X6_sync_129 (v := 0) rfl rfl dX6_sync_22 (fun H locs hS => ?_)
    refine lv_iload_n hx hb dX6_sync_25 rfl (lv_at hl 0 rfl) ?_
    cases hf
    exact rti C hS dX6_sync_26
  · replace hf := it_f hc hf
    refine lv_bipush (v := (-3)) hx hb dX6_sync_12 (by decide) ?_
    cases hf
    exact rti C hS dX6_sync_14
set_option maxHeartbeats 4000000 in
set_option maxRecDepth 100000 in
theorem c_rm_sync (l : Launch) (D : va_G) (ad : Nat → Nat) (cA : Nat → ClassId) (k : Nat) (z : SS) (r : Int32) (z' : SS) (hf : rm_sync k z = some (r, z')) (sz : Nat) : Met l yX6_sync wsX6_sync R_rm_sync (kP D (tM cA) [.ref (ad 0)] (wM ad cA z) sz) (kI D (tM cA) r (wM ad cA z) (wM ad cA z') sz) 0 0 (va_A (wM ad cA z) sz) := by
  refine ent (by decide) rfl rfl (Nat.le_of_ble_eq_true rfl) (fun p e s m args below meth c hsz C hS ls hl => ?_)
  subst hsz
  exact w_rm_sync_0 C k z r z' hf s.heap [] ls hS hl
-- rm_close: private void close();
theorem lk_X6_close_26 : Cond.fieldLink RX6 26 (TX6 10).1 (TX6 10).2.1 (TX6 10).2.2.1 ∈ wsX6_close := by decide +kernel
theorem in_X6_close_X6 : ∀ x ∈ u_ws RX6 TX6 29, x ∈ wsX6_close := by decide +kernel
theorem lk_X6_close_149 : Cond.fieldLink RX6 149 (TX6 12).1 (TX6 12).2.1 (TX6 12).2.2.1 ∈ wsX6_close := by decide +kernel
theorem lk_X6_close_129 : Cond.fieldLink RX6 129 (TX6 8).1 (TX6 8).2.1 (TX6 8).2.2.1 ∈ wsX6_close := by decide +kernel
theorem lk_X6_close_16 : Cond.fieldLink RX6 16 (TX6 4).1 (TX6 4).2.1 (TX6 4).2.2.1 ∈ wsX6_close := by decide +kernel
theorem lk_X6_close_99 : Cond.fieldLink RX6 99 (TX6 14).1 (TX6 14).2.1 (TX6 14).2.2.1 ∈ wsX6_close := by decide +kernel
def R_rm_close : Room := { frames := 0, cells := 0, slots := 0, locals := 0 }
def rm_close_b22 (k : Nat) : Nat → SS → Int32 → Option SS
  | 0, _, _ => none
  | fu + 1, z, x1 => (if 4 ≤ x1 then some z else (if ck x1 4 = true then rm_close_b22 k fu (sa z 5 (Int32.toNatClampNeg x1) (vp_nar .boolean 0)) (x1 + 1) else none))
def rm_close (k : Nat) (z : SS) : Option SS :=
  rm_close_b22 k k (si (si (si (si z 12 1) 8 0) 4 (-1)) 14 0) 0
set_option maxHeartbeats 4000000 in
set_option maxRecDepth 100000 in
theorem w_rm_close_b22 {p : Program} {l : Launch} {e : Env} {s : State} {m : MethodId} {args : Array Value} {below : List Frame} {meth : Method} {c : Code} {D : va_G} {w0 : va_W} {ad : Nat → Nat} {cA : Nat → ClassId} (C : Cx p s m args meth c cX6_close 2 none RX6 wsX6_close D (tM cA)) (k : Nat) : ∀ (fu : Nat) (z : SS) (x1 : Int32) (z' : SS), rm_close_b22 k fu z x1 = some z' → ∀ (H : Heap) (locs : List Loc) (ls : Array Slot), St D (va_A w0 s.heap.size) s.heap (wM ad cA z) H locs → lv_has ls 2 [(0, .ref (ad 0)), (1, .int x1)] → W p l e R_rm_close s m args below meth c H locs 0 0 (MQ below (kV D (tM cA) w0 (wM ad cA z') s.heap.size) args s 0 0 (va_A w0 s.heap.size)) (F0 m 22 ls []) := by
  obtain ⟨hx, hb, hr, hml, hown, hts, hlk, hK⟩ := id C
  intro fu
  induction fu with
  | zero =>
    intro z x1 z' hf
    cases (show (none : Option SS) = some z' from hf)
  | succ fu ih =>
    intro z x1 z' hf H locs ls hS hl
    have hf : (if 4 ≤ x1 then some z else (if ck x1 4 = true then rm_close_b22 k fu (sa z 5 (Int32.toNatClampNeg x1) (vp_nar .boolean 0)) (x1 + 1) else none)) = some z' := hf
    refine lv_iload_n hx hb dX6_close_22 rfl (lv_at hl 1 rfl) ?_
    refine lv_iconst (v := 4) hx hb dX6_close_23 (by decide) ?_
    refine lv_icmp_ge (x := x1) (y := 4) (tgt := 40) hx hb dX6_close_24 (by decide) (fun hc => ?_) (fun hc => ?_)
    · replace hf := it_t hc hf
      cases hf
      exact rtv C hS dX6_close_40
    · replace hf := it_f hc hf
      refine lv_aload_n hx hb dX6_close_27 rfl (lv_at hl 0 rfl) ?_
      refine hM_5 C hS in_X6_close_X6 lk_X6_close_26 dX6_close_28 ?_
      refine lv_iload_n hx hb dX6_close_31 rfl (lv_at hl 1 rfl) ?_
      refine lv_iconst (v := 0) hx hb dX6_close_32 (by decide) ?_
      obtain ⟨hck, hf⟩ := cs hf
      refine sM_5 C hS (i := x1) (x := 0) hck dX6_close_33 (fun H locs hS => ?_)
      refine lv_iinc (v := (x1 + 1)) (lv' := [(1, .int (x1 + 1)), (0, .ref (ad 0))]) hx hb dX6_close_34 hl (k := 1) rfl (congrArg (fun q => x1 + q) (by decide : Int32.ofInt 1 = (1 : Int32))) (by decide) rfl (fun ls hl => ?_)
      refine lv_goto (tgt := 22) hx hb dX6_close_37 (by decide) ?_
      exact ih (sa z 5 (Int32.toNatClampNeg x1) (vp_nar .boolean 0)) (x1 + 1) z' hf H locs ls hS (lv_sub hl [1, 0] rfl)
set_option maxHeartbeats 4000000 in
set_option maxRecDepth 100000 in
theorem w_rm_close_0 {p : Program} {l : Launch} {e : Env} {s : State} {m : MethodId} {args : Array Value} {below : List Frame} {meth : Method} {c : Code} {D : va_G} {w0 : va_W} {ad : Nat → Nat} {cA : Nat → ClassId} (C : Cx p s m args meth c cX6_close 2 none RX6 wsX6_close D (tM cA)) (k : Nat) (z : SS) (z' : SS) (hf : rm_close k z = some z') : ∀ (H : Heap) (locs : List Loc) (ls : Array Slot), St D (va_A w0 s.heap.size) s.heap (wM ad cA z) H locs → lv_has ls 2 [(0, .ref (ad 0))] → W p l e R_rm_close s m args below meth c H locs 0 0 (MQ below (kV D (tM cA) w0 (wM ad cA z') s.heap.size) args s 0 0 (va_A w0 s.heap.size)) (F0 m 0 ls []) := by
  obtain ⟨hx, hb, hr, hml, hown, hts, hlk, hK⟩ := id C
  intro H locs ls hS hl
  have hf : rm_close_b22 k k (si (si (si (si z 12 1) 8 0) 4 (-1)) 14 0) 0 = some z' := hf
  refine lv_aload_n hx hb dX6_close_0 rfl (lv_at hl 0 rfl) ?_
  refine lv_iconst (v := 1) hx hb dX6_close_1 (by decide) ?_
  refine pM_12 C hS in_X6_close_X6 lk_X6_close_149 (v := 1) rfl rfl dX6_close_2 (fun H locs hS => ?_)
  refine lv_aload_n hx hb dX6_close_5 rfl (lv_at hl 0 rfl) ?_
  refine lv_iconst (v := 0) hx hb dX6_close_6 (by decide) ?_
  refine pM_8 C hS in_X6_close_X6 lk_X6_close_129 (v := 0) rfl rfl dX6_close_7 (fun H locs hS => ?_)
  refine lv_aload_n hx hb dX6_close_10 rfl (lv_at hl 0 rfl) ?_
  refine lv_iconst (v := (-1)) hx hb dX6_close_11 (by decide) ?_
  refine pM_4 C hS in_X6_close_X6 lk_X6_close_16 (v := (-1)) rfl rfl dX6_close_12 (fun H locs hS => ?_)
  refine lv_aload_n hx hb dX6_close_15 rfl (lv_at hl 0 rfl) ?_
  refine lv_iconst (v := 0) hx hb dX6_close_16 (by decide) ?_
  refine pM_14 C hS in_X6_close_X6 lk_X6_close_99 (v := 0) rfl rfl dX6_close_17 (fun H locs hS => ?_)
  refine lv_iconst (v := 0) hx hb dX6_close_20 (by decide) ?_
  refine lv_istore_n (lv' := [(1, .int 0), (0, .ref (ad 0))]) hx hb dX6_close_21 rfl hl (by decide) rfl (fun ls hl => ?_)
  exact w_rm_close_b22 C k k (si (si (si (si z 12 1) 8 0) 4 (-1)) 14 0) 0 z' hf H locs ls hS (lv_sub hl [1, 0] rfl)
set_option maxHeartbeats 4000000 in
set_option maxRecDepth 100000 in
theorem c_rm_close (l : Launch) (D : va_G) (ad : Nat → Nat) (cA : Nat → ClassId) (k : Nat) (z : SS) (z' : SS) (hf : rm_close k z = some z') (sz : Nat) : Met l yX6_close wsX6_close R_rm_close (kP D (tM cA) [.ref (ad 0)] (wM ad cA z) sz) (kV D (tM cA) (wM ad cA z) (wM ad cA z') sz) 0 0 (va_A (wM ad cA z) sz) := by
  refine ent (by decide) rfl rfl (Nat.le_of_ble_eq_true rfl) (fun p e s m args below meth c hsz C hS ls hl => ?_)
  subst hsz
  exact w_rm_close_0 C k z z' hf s.heap [] ls hS hl
