-- rm_count: public int count(int);
theorem lk_X6_count_67 : Cond.fieldLink RX6 67 (TX6 1).1 (TX6 1).2.1 (TX6 1).2.2.1 ∈ wsX6_count := by decide +kernel
theorem in_X6_count_X6 : ∀ x ∈ u_ws RX6 TX6 29, x ∈ wsX6_count := by decide +kernel
theorem lk_X6_count_16 : Cond.fieldLink RX6 16 (TX6 4).1 (TX6 4).2.1 (TX6 4).2.2.1 ∈ wsX6_count := by decide +kernel
theorem lk_X6_count_146 : Cond.fieldLink RX6 146 (TX6 6).1 (TX6 6).2.1 (TX6 6).2.2.1 ∈ wsX6_count := by decide +kernel
theorem lk_X6_count_149 : Cond.fieldLink RX6 149 (TX6 12).1 (TX6 12).2.1 (TX6 12).2.2.1 ∈ wsX6_count := by decide +kernel
theorem lk_X6_count_129 : Cond.fieldLink RX6 129 (TX6 8).1 (TX6 8).2.1 (TX6 8).2.2.1 ∈ wsX6_count := by decide +kernel
theorem lk_X6_count_132 : Cond.fieldLink RX6 132 (TX6 5).1 (TX6 5).2.1 (TX6 5).2.2.1 ∈ wsX6_count := by decide +kernel
theorem lk_X6_count_26 : Cond.fieldLink RX6 26 (TX6 10).1 (TX6 10).2.1 (TX6 10).2.2.1 ∈ wsX6_count := by decide +kernel
theorem lk_X6_count_64 : Cond.fieldLink RX6 64 (TX6 0).1 (TX6 0).2.1 (TX6 0).2.2.1 ∈ wsX6_count := by decide +kernel
def R_rm_count : Room := { frames := 8, cells := 0, slots := 0, locals := 190 }
def rm_count_b113 (k : Nat) (z : SS) (x1 : Int32) (x2 : Int32) : Option (Int32 × SS) :=
  (if (z.1 1) ≤ 0 then (if x1 = 2 then some ((z.1 5), z) else (if x1 = 3 then some ((z.1 8), z) else (if x1 = 4 then (if (z.1 12) = 0 then some (0, z) else some (1, z)) else (if x1 = 6 then some ((z.1 6), z) else (if x1 = 7 then some ((z.1 4), z) else some (x2, z)))))) else some (0, z))
def rm_count_b112 (k : Nat) (z : SS) (x1 : Int32) (y0 : Int32) : Option (Int32 × SS) :=
  rm_count_b113 k z x1 y0
def rm_count_b93 (k : Nat) (z : SS) (x1 : Int32) (x2 : Int32) : Option (Int32 × SS) :=
  (if x1 = 0 then (if (z.1 12) = 0 then (bi (rm_keysNow k z) fun r_1 z_1 => rm_count_b112 k z_1 x1 r_1) else rm_count_b112 k z x1 0) else rm_count_b113 k z x1 x2)
def rm_count_b60 (k : Nat) : Nat → SS → Int32 → Int32 → Int32 → Option (Int32 × SS)
  | 0, _, _, _, _ => none
  | fu + 1, z, x1, x2, x3 => (if 4 ≤ x3 then rm_count_b93 k z x1 x2 else (if x1 = 5 then (if ck x3 4 = true then (if ((z.2 5) (Int32.toNatClampNeg x3)) = 0 then rm_count_b60 k fu z x1 x2 (x3 + 1) else rm_count_b60 k fu z x1 (x2 + 1) (x3 + 1)) else none) else rm_count_b93 k z x1 x2))
def rm_count_b58 (k : Nat) (z : SS) (x1 : Int32) (x2 : Int32) : Option (Int32 × SS) :=
  rm_count_b60 k k z x1 x2 0
def rm_count_b23 (k : Nat) : Nat → SS → Int32 → Int32 → Int32 → Option (Int32 × SS)
  | 0, _, _, _, _ => none
  | fu + 1, z, x1, x2, x3 => (if (z.1 0) ≤ x3 then rm_count_b58 k z x1 x2 else (if x1 = 1 then (bo (rm_isFree k z x3) fun r_1 => (if r_1 = 0 then rm_count_b23 k fu z x1 (x2 + 1) (x3 + 1) else rm_count_b23 k fu z x1 x2 (x3 + 1))) else rm_count_b58 k z x1 x2))
def rm_count_b16 (k : Nat) (z : SS) (x1 : Int32) (y0 : Int32) : Option (Int32 × SS) :=
  rm_count_b23 k k (si z 1 y0) x1 0 0
def rm_count (k : Nat) (z : SS) (x1 : Int32) : Option (Int32 × SS) :=
  (bo (rm_in k z x1 0 7) fun r_1 => (if r_1 = 0 then rm_count_b16 k z x1 1 else rm_count_b16 k z x1 0))
set_option maxHeartbeats 4000000 in
set_option maxRecDepth 100000 in
theorem w_rm_count_b113 {p : Program} {l : Launch} {e : Env} {s : State} {m : MethodId} {args : Array Value} {below : List Frame} {meth : Method} {c : Code} {D : va_G} {w0 : va_W} {ad : Nat → Nat} {cA : Nat → ClassId} (C : Cx p s m args meth c cX6_count 4 (some .int) RX6 wsX6_count D (tM cA)) (k : Nat) (z : SS) (x1 : Int32) (x2 : Int32) (r : Int32) (z' : SS) (hf : rm_count_b113 k z x1 x2 = some (r, z')) : ∀ (H : Heap) (locs : List Loc) (ls : Array Slot), St D (va_A w0 s.heap.size) s.heap (wM ad cA z) H locs → lv_has ls 4 [(0, .ref (ad 0)), (1, .int x1), (2, .int x2)] → W p l e R_rm_count s m args below meth c H locs 0 0 (MQ below (kI D (tM cA) r w0 (wM ad cA z') s.heap.size) args s 0 0 (va_A w0 s.heap.size)) (F0 m 113 ls []) := by
  obtain ⟨hx, hb, hr, hml, hown, hts, hlk, hK⟩ := id C
  intro H locs ls hS hl
  have hf : (if (z.1 1) ≤ 0 then (if x1 = 2 then some ((z.1 5), z) else (if x1 = 3 then some ((z.1 8), z) else (if x1 = 4 then (if (z.1 12) = 0 then some (0, z) else some (1, z)) else (if x1 = 6 then some ((z.1 6), z) else (if x1 = 7 then some ((z.1 4), z) else some (x2, z)))))) else some (0, z)) = some (r, z') := hf
  refine lv_aload_n hx hb dX6_count_113 rfl (lv_at hl 0 rfl) ?_
  refine gM_1 C hS in_X6_count_X6 lk_X6_count_67 (v := (z.1 1)) rfl dX6_count_114 ?_
  refine lv_if_le (x := (z.1 1)) (tgt := 124) hx hb dX6_count_117 (by decide) (fun hc => ?_) (fun hc => ?_)
  · replace hf := it_t hc hf
    refine lv_iload_n hx hb dX6_count_124 rfl (lv_at hl 1 rfl) ?_
    refine lv_iconst (v := 2) hx hb dX6_count_125 (by decide) ?_
    refine lv_icmp_ne (x := x1) (y := 2) (tgt := 136) hx hb dX6_count_126 (by decide) (fun hc => ?_) (fun hc => ?_)
    · replace hf := it_f hc hf
      refine lv_iload_n hx hb dX6_count_136 rfl (lv_at hl 1 rfl) ?_
      refine lv_iconst (v := 3) hx hb dX6_count_137 (by decide) ?_
      refine lv_icmp_ne (x := x1) (y := 3) (tgt := 148) hx hb dX6_count_138 (by decide) (fun hc => ?_) (fun hc => ?_)
      · replace hf := it_f hc hf
        refine lv_iload_n hx hb dX6_count_148 rfl (lv_at hl 1 rfl) ?_
        refine lv_iconst (v := 4) hx hb dX6_count_149 (by decide) ?_
        refine lv_icmp_ne (x := x1) (y := 4) (tgt := 168) hx hb dX6_count_150 (by decide) (fun hc => ?_) (fun hc => ?_)
        · replace hf := it_f hc hf
          refine lv_iload_n hx hb dX6_count_168 rfl (lv_at hl 1 rfl) ?_
          refine lv_bipush (v := 6) hx hb dX6_count_169 (by decide) ?_
          refine lv_icmp_ne (x := x1) (y := 6) (tgt := 181) hx hb dX6_count_171 (by decide) (fun hc => ?_) (fun hc => ?_)
          · replace hf := it_f hc hf
            refine lv_iload_n hx hb dX6_count_181 rfl (lv_at hl 1 rfl) ?_
            refine lv_bipush (v := 7) hx hb dX6_count_182 (by decide) ?_
            refine lv_icmp_ne (x := x1) (y := 7) (tgt := 194) hx hb dX6_count_184 (by decide) (fun hc => ?_) (fun hc => ?_)
            · replace hf := it_f hc hf
              refine lv_iload_n hx hb dX6_count_194 rfl (lv_at hl 2 rfl) ?_
              cases hf
              exact rti C hS dX6_count_195
            · replace hf := it_t hc hf
              refine lv_aload_n hx hb dX6_count_187 rfl (lv_at hl 0 rfl) ?_
              refine gM_4 C hS in_X6_count_X6 lk_X6_count_16 (v := (z.1 4)) rfl dX6_count_188 ?_
              refine lv_goto (tgt := 195) hx hb dX6_count_191 (by decide) ?_
              cases hf
              exact rti C hS dX6_count_195
          · replace hf := it_t hc hf
            refine lv_aload_n hx hb dX6_count_174 rfl (lv_at hl 0 rfl) ?_
            refine gM_6 C hS in_X6_count_X6 lk_X6_count_146 (v := (z.1 6)) rfl dX6_count_175 ?_
            refine lv_goto (tgt := 195) hx hb dX6_count_178 (by decide) ?_
            cases hf
            exact rti C hS dX6_count_195
        · replace hf := it_t hc hf
          refine lv_aload_n hx hb dX6_count_153 rfl (lv_at hl 0 rfl) ?_
          refine gM_12 C hS in_X6_count_X6 lk_X6_count_149 (v := (z.1 12)) rfl dX6_count_154 ?_
          refine lv_if_eq (x := (z.1 12)) (tgt := 164) hx hb dX6_count_157 (by decide) (fun hc => ?_) (fun hc => ?_)
          · replace hf := it_t hc hf
            refine lv_iconst (v := 0) hx hb dX6_count_164 (by decide) ?_
            refine lv_goto (tgt := 195) hx hb dX6_count_165 (by decide) ?_
            cases hf
            exact rti C hS dX6_count_195
          · replace hf := it_f hc hf
            refine lv_iconst (v := 1) hx hb dX6_count_160 (by decide) ?_
            refine lv_goto (tgt := 195) hx hb dX6_count_161 (by decide) ?_
            cases hf
            exact rti C hS dX6_count_195
      · replace hf := it_t hc hf
        refine lv_aload_n hx hb dX6_count_141 rfl (lv_at hl 0 rfl) ?_
        refine gM_8 C hS in_X6_count_X6 lk_X6_count_129 (v := (z.1 8)) rfl dX6_count_142 ?_
        refine lv_goto (tgt := 195) hx hb dX6_count_145 (by decide) ?_
        cases hf
        exact rti C hS dX6_count_195
    · replace hf := it_t hc hf
      refine lv_aload_n hx hb dX6_count_129 rfl (lv_at hl 0 rfl) ?_
      refine gM_5 C hS in_X6_count_X6 lk_X6_count_132 (v := (z.1 5)) rfl dX6_count_130 ?_
      refine lv_goto (tgt := 195) hx hb dX6_count_133 (by decide) ?_
      cases hf
      exact rti C hS dX6_count_195
  · replace hf := it_f hc hf
    refine lv_iconst (v := 0) hx hb dX6_count_120 (by decide) ?_
    refine lv_goto (tgt := 195) hx hb dX6_count_121 (by decide) ?_
    cases hf
    exact rti C hS dX6_count_195
set_option maxHeartbeats 4000000 in
set_option maxRecDepth 100000 in
theorem w_rm_count_b112 {p : Program} {l : Launch} {e : Env} {s : State} {m : MethodId} {args : Array Value} {below : List Frame} {meth : Method} {c : Code} {D : va_G} {w0 : va_W} {ad : Nat → Nat} {cA : Nat → ClassId} (C : Cx p s m args meth c cX6_count 4 (some .int) RX6 wsX6_count D (tM cA)) (k : Nat) (z : SS) (x1 : Int32) (y0 : Int32) (r : Int32) (z' : SS) (hf : rm_count_b112 k z x1 y0 = some (r, z')) : ∀ (H : Heap) (locs : List Loc) (ls : Array Slot), St D (va_A w0 s.heap.size) s.heap (wM ad cA z) H locs → lv_has ls 4 [(0, .ref (ad 0)), (1, .int x1)] → W p l e R_rm_count s m args below meth c H locs 0 0 (MQ below (kI D (tM cA) r w0 (wM ad cA z') s.heap.size) args s 0 0 (va_A w0 s.heap.size)) (F0 m 112 ls [.int y0]) := by
  obtain ⟨hx, hb, hr, hml, hown, hts, hlk, hK⟩ := id C
  intro H locs ls hS hl
  have hf : rm_count_b113 k z x1 y0 = some (r, z') := hf
  refine lv_istore_n (lv' := [(2, .int y0), (0, .ref (ad 0)), (1, .int x1)]) hx hb dX6_count_112 rfl hl (by decide) rfl (fun ls hl => ?_)
  exact w_rm_count_b113 C k z x1 y0 r z' hf H locs ls hS (lv_sub hl [1, 2, 0] rfl)
set_option maxHeartbeats 4000000 in
set_option maxRecDepth 100000 in
theorem w_rm_count_b93 {p : Program} {l : Launch} {e : Env} {s : State} {m : MethodId} {args : Array Value} {below : List Frame} {meth : Method} {c : Code} {D : va_G} {w0 : va_W} {ad : Nat → Nat} {cA : Nat → ClassId} (C : Cx p s m args meth c cX6_count 4 (some .int) RX6 wsX6_count D (tM cA)) (k : Nat) (z : SS) (x1 : Int32) (x2 : Int32) (r : Int32) (z' : SS) (hf : rm_count_b93 k z x1 x2 = some (r, z')) : ∀ (H : Heap) (locs : List Loc) (ls : Array Slot), St D (va_A w0 s.heap.size) s.heap (wM ad cA z) H locs → lv_has ls 4 [(0, .ref (ad 0)), (1, .int x1), (2, .int x2)] → W p l e R_rm_count s m args below meth c H locs 0 0 (MQ below (kI D (tM cA) r w0 (wM ad cA z') s.heap.size) args s 0 0 (va_A w0 s.heap.size)) (F0 m 93 ls []) := by
  obtain ⟨hx, hb, hr, hml, hown, hts, hlk, hK⟩ := id C
  intro H locs ls hS hl
  have hf : (if x1 = 0 then (if (z.1 12) = 0 then (bi (rm_keysNow k z) fun r_1 z_1 => rm_count_b112 k z_1 x1 r_1) else rm_count_b112 k z x1 0) else rm_count_b113 k z x1 x2) = some (r, z') := hf
  refine lv_iload_n hx hb dX6_count_93 rfl (lv_at hl 1 rfl) ?_
  refine lv_if_ne (x := x1) (tgt := 113) hx hb dX6_count_94 (by decide) (fun hc => ?_) (fun hc => ?_)
  · replace hf := it_f hc hf
    exact w_rm_count_b113 C k z x1 x2 r z' hf H locs ls hS (lv_sub hl [0, 1, 2] rfl)
  · replace hf := it_t hc hf
    refine lv_aload_n hx hb dX6_count_97 rfl (lv_at hl 0 rfl) ?_
    refine gM_12 C hS in_X6_count_X6 lk_X6_count_149 (v := (z.1 12)) rfl dX6_count_98 ?_
    refine lv_if_eq (x := (z.1 12)) (tgt := 108) hx hb dX6_count_101 (by decide) (fun hc => ?_) (fun hc => ?_)
    · replace hf := it_t hc hf
      refine lv_aload_n hx hb dX6_count_108 rfl (lv_at hl 0 rfl) ?_
      obtain ⟨r_1, z_1, hcl, hf⟩ := bi_s hf
      refine rcVi (n := 0) (As := []) (rest := []) (q0 := 0) (w' := (wM ad cA z_1)) C hS (fun sz => c_rm_keysNow l D ad cA k z r_1 z_1 hcl sz) gX6_count_X6_keysNow rfl ⟨rfl, rfl⟩ (by decide +kernel) ⟨Nat.le_of_ble_eq_true rfl, Nat.le_of_ble_eq_true rfl⟩ oM_0 rfl rfl hl.1 rfl (Nat.le_of_ble_eq_true rfl) dX6_count_109 (fun H locs hS => ?_)
      exact w_rm_count_b112 C k z_1 x1 r_1 r z' hf H locs ls hS (lv_sub hl [0, 1] rfl)
    · replace hf := it_f hc hf
      refine lv_iconst (v := 0) hx hb dX6_count_104 (by decide) ?_
      refine lv_goto (tgt := 112) hx hb dX6_count_105 (by decide) ?_
      exact w_rm_count_b112 C k z x1 0 r z' hf H locs ls hS (lv_sub hl [0, 1] rfl)
set_option maxHeartbeats 4000000 in
set_option maxRecDepth 100000 in
theorem w_rm_count_b60 {p : Program} {l : Launch} {e : Env} {s : State} {m : MethodId} {args : Array Value} {below : List Frame} {meth : Method} {c : Code} {D : va_G} {w0 : va_W} {ad : Nat → Nat} {cA : Nat → ClassId} (C : Cx p s m args meth c cX6_count 4 (some .int) RX6 wsX6_count D (tM cA)) (k : Nat) : ∀ (fu : Nat) (z : SS) (x1 : Int32) (x2 : Int32) (x3 : Int32) (r : Int32) (z' : SS), rm_count_b60 k fu z x1 x2 x3 = some (r, z') → ∀ (H : Heap) (locs : List Loc) (ls : Array Slot), St D (va_A w0 s.heap.size) s.heap (wM ad cA z) H locs → lv_has ls 4 [(0, .ref (ad 0)), (1, .int x1), (2, .int x2), (3, .int x3)] → W p l e R_rm_count s m args below meth c H locs 0 0 (MQ below (kI D (tM cA) r w0 (wM ad cA z') s.heap.size) args s 0 0 (va_A w0 s.heap.size)) (F0 m 60 ls []) := by
  obtain ⟨hx, hb, hr, hml, hown, hts, hlk, hK⟩ := id C
  intro fu
  induction fu with
  | zero =>
    intro z x1 x2 x3 r z' hf
    cases (show (none : Option (Int32 × SS)) = some (r, z') from hf)
  | succ fu ih =>
    intro z x1 x2 x3 r z' hf H locs ls hS hl
    have hf : (if 4 ≤ x3 then rm_count_b93 k z x1 x2 else (if x1 = 5 then (if ck x3 4 = true then (if ((z.2 5) (Int32.toNatClampNeg x3)) = 0 then rm_count_b60 k fu z x1 x2 (x3 + 1) else rm_count_b60 k fu z x1 (x2 + 1) (x3 + 1)) else none) else rm_count_b93 k z x1 x2)) = some (r, z') := hf
    refine lv_iload_n hx hb dX6_count_60 rfl (lv_at hl 3 rfl) ?_
    refine lv_iconst (v := 4) hx hb dX6_count_61 (by decide) ?_
    refine lv_icmp_ge (x := x3) (y := 4) (tgt := 93) hx hb dX6_count_62 (by decide) (fun hc => ?_) (fun hc => ?_)
    · replace hf := it_t hc hf
      exact w_rm_count_b93 C k z x1 x2 r z' hf H locs ls hS (lv_sub hl [0, 1, 2] rfl)
    · replace hf := it_f hc hf
      refine lv_iload_n hx hb dX6_count_65 rfl (lv_at hl 1 rfl) ?_
      refine lv_iconst (v := 5) hx hb dX6_count_66 (by decide) ?_
      refine lv_icmp_ne (x := x1) (y := 5) (tgt := 93) hx hb dX6_count_67 (by decide) (fun hc => ?_) (fun hc => ?_)
      · replace hf := it_f hc hf
        exact w_rm_count_b93 C k z x1 x2 r z' hf H locs ls hS (lv_sub hl [0, 1, 2] rfl)
      · replace hf := it_t hc hf
        refine lv_aload_n hx hb dX6_count_70 rfl (lv_at hl 0 rfl) ?_
        refine hM_5 C hS in_X6_count_X6 lk_X6_count_26 dX6_count_71 ?_
        refine lv_iload_n hx hb dX6_count_74 rfl (lv_at hl 3 rfl) ?_
        obtain ⟨hck, hf⟩ := cs hf
        refine lM_5 C hS (f := (z.2 5)) rfl (i := x3) hck dX6_count_75 ?_
        refine lv_if_eq (x := ((z.2 5) (Int32.toNatClampNeg x3))) (tgt := 85) hx hb dX6_count_76 (by decide) (fun hc => ?_) (fun hc => ?_)
        · replace hf := it_t hc hf
          refine lv_iload_n hx hb dX6_count_85 rfl (lv_at hl 2 rfl) ?_
          refine lv_istore_n (lv' := [(2, .int x2), (0, .ref (ad 0)), (1, .int x1), (3, .int x3)]) hx hb dX6_count_86 rfl hl (by decide) rfl (fun ls hl => ?_)
          refine lv_iinc (v := (x3 + 1)) (lv' := [(3, .int (x3 + 1)), (2, .int x2), (0, .ref (ad 0)), (1, .int x1)]) hx hb dX6_count_87 hl (k := 3) rfl (congrArg (fun q => x3 + q) (by decide : Int32.ofInt 1 = (1 : Int32))) (by decide) rfl (fun ls hl => ?_)
          refine lv_goto (tgt := 60) hx hb dX6_count_90 (by decide) ?_
          exact ih z x1 x2 (x3 + 1) r z' hf H locs ls hS (lv_sub hl [2, 3, 1, 0] rfl)
        · replace hf := it_f hc hf
          refine lv_iload_n hx hb dX6_count_79 rfl (lv_at hl 2 rfl) ?_
          refine lv_iconst (v := 1) hx hb dX6_count_80 (by decide) ?_
          refine lv_iadd (x := x2) (y := 1) hx hb dX6_count_81 ?_
          refine lv_goto (tgt := 86) hx hb dX6_count_82 (by decide) ?_
          refine lv_istore_n (lv' := [(2, .int (x2 + 1)), (0, .ref (ad 0)), (1, .int x1), (3, .int x3)]) hx hb dX6_count_86 rfl hl (by decide) rfl (fun ls hl => ?_)
          refine lv_iinc (v := (x3 + 1)) (lv' := [(3, .int (x3 + 1)), (2, .int (x2 + 1)), (0, .ref (ad 0)), (1, .int x1)]) hx hb dX6_count_87 hl (k := 3) rfl (congrArg (fun q => x3 + q) (by decide : Int32.ofInt 1 = (1 : Int32))) (by decide) rfl (fun ls hl => ?_)
          refine lv_goto (tgt := 60) hx hb dX6_count_90 (by decide) ?_
          exact ih z x1 (x2 + 1) (x3 + 1) r z' hf H locs ls hS (lv_sub hl [2, 3, 1, 0] rfl)
set_option maxHeartbeats 4000000 in
set_option maxRecDepth 100000 in
theorem w_rm_count_b58 {p : Program} {l : Launch} {e : Env} {s : State} {m : MethodId} {args : Array Value} {below : List Frame} {meth : Method} {c : Code} {D : va_G} {w0 : va_W} {ad : Nat → Nat} {cA : Nat → ClassId} (C : Cx p s m args meth c cX6_count 4 (some .int) RX6 wsX6_count D (tM cA)) (k : Nat) (z : SS) (x1 : Int32) (x2 : Int32) (r : Int32) (z' : SS) (hf : rm_count_b58 k z x1 x2 = some (r, z')) : ∀ (H : Heap) (locs : List Loc) (ls : Array Slot), St D (va_A w0 s.heap.size) s.heap (wM ad cA z) H locs → lv_has ls 4 [(0, .ref (ad 0)), (1, .int x1), (2, .int x2)] → W p l e R_rm_count s m args below meth c H locs 0 0 (MQ below (kI D (tM cA) r w0 (wM ad cA z') s.heap.size) args s 0 0 (va_A w0 s.heap.size)) (F0 m 58 ls []) := by
  obtain ⟨hx, hb, hr, hml, hown, hts, hlk, hK⟩ := id C
  intro H locs ls hS hl
  have hf : rm_count_b60 k k z x1 x2 0 = some (r, z') := hf
  refine lv_iconst (v := 0) hx hb dX6_count_58 (by decide) ?_
  refine lv_istore_n (lv' := [(3, .int 0), (0, .ref (ad 0)), (1, .int x1), (2, .int x2)]) hx hb dX6_count_59 rfl hl (by decide) rfl (fun ls hl => ?_)
  exact w_rm_count_b60 C k k z x1 x2 0 r z' hf H locs ls hS (lv_sub hl [1, 2, 3, 0] rfl)
set_option maxHeartbeats 4000000 in
set_option maxRecDepth 100000 in
theorem w_rm_count_b23 {p : Program} {l : Launch} {e : Env} {s : State} {m : MethodId} {args : Array Value} {below : List Frame} {meth : Method} {c : Code} {D : va_G} {w0 : va_W} {ad : Nat → Nat} {cA : Nat → ClassId} (C : Cx p s m args meth c cX6_count 4 (some .int) RX6 wsX6_count D (tM cA)) (k : Nat) : ∀ (fu : Nat) (z : SS) (x1 : Int32) (x2 : Int32) (x3 : Int32) (r : Int32) (z' : SS), rm_count_b23 k fu z x1 x2 x3 = some (r, z') → ∀ (H : Heap) (locs : List Loc) (ls : Array Slot), St D (va_A w0 s.heap.size) s.heap (wM ad cA z) H locs → lv_has ls 4 [(0, .ref (ad 0)), (1, .int x1), (2, .int x2), (3, .int x3)] → W p l e R_rm_count s m args below meth c H locs 0 0 (MQ below (kI D (tM cA) r w0 (wM ad cA z') s.heap.size) args s 0 0 (va_A w0 s.heap.size)) (F0 m 23 ls []) := by
  obtain ⟨hx, hb, hr, hml, hown, hts, hlk, hK⟩ := id C
  intro fu
  induction fu with
  | zero =>
    intro z x1 x2 x3 r z' hf
    cases (show (none : Option (Int32 × SS)) = some (r, z') from hf)
  | succ fu ih =>
    intro z x1 x2 x3 r z' hf H locs ls hS hl
    have hf : (if (z.1 0) ≤ x3 then rm_count_b58 k z x1 x2 else (if x1 = 1 then (bo (rm_isFree k z x3) fun r_1 => (if r_1 = 0 then rm_count_b23 k fu z x1 (x2 + 1) (x3 + 1) else rm_count_b23 k fu z x1 x2 (x3 + 1))) else rm_count_b58 k z x1 x2)) = some (r, z') := hf
    refine lv_iload_n hx hb dX6_count_23 rfl (lv_at hl 3 rfl) ?_
    refine lv_aload_n hx hb dX6_count_24 rfl (lv_at hl 0 rfl) ?_
    refine gM_0 C hS in_X6_count_X6 lk_X6_count_64 (v := (z.1 0)) rfl dX6_count_25 ?_
    refine lv_icmp_ge (x := x3) (y := (z.1 0)) (tgt := 58) hx hb dX6_count_28 (by decide) (fun hc => ?_) (fun hc => ?_)
    · replace hf := it_t hc hf
      exact w_rm_count_b58 C k z x1 x2 r z' hf H locs ls hS (lv_sub hl [0, 1, 2] rfl)
    · replace hf := it_f hc hf
      refine lv_iload_n hx hb dX6_count_31 rfl (lv_at hl 1 rfl) ?_
      refine lv_iconst (v := 1) hx hb dX6_count_32 (by decide) ?_
      refine lv_icmp_ne (x := x1) (y := 1) (tgt := 58) hx hb dX6_count_33 (by decide) (fun hc => ?_) (fun hc => ?_)
      · replace hf := it_f hc hf
        exact w_rm_count_b58 C k z x1 x2 r z' hf H locs ls hS (lv_sub hl [0, 1, 2] rfl)
      · replace hf := it_t hc hf
        refine lv_aload_n hx hb dX6_count_36 rfl (lv_at hl 0 rfl) ?_
        refine lv_iload_n hx hb dX6_count_37 rfl (lv_at hl 3 rfl) ?_
        obtain ⟨r_1, hcl, hf⟩ := bo_s hf
        refine rcVi (n := 1) (As := [.int x3]) (rest := []) (q0 := 0) (w' := (wM ad cA z)) C hS (fun sz => c_rm_isFree l D ad cA k z x3 r_1 hcl sz) gX6_count_X6_isFree rfl ⟨rfl, rfl⟩ (by decide +kernel) ⟨Nat.le_of_ble_eq_true rfl, Nat.le_of_ble_eq_true rfl⟩ oM_0 rfl rfl hl.1 rfl (Nat.le_of_ble_eq_true rfl) dX6_count_38 (fun H locs hS => ?_)
        refine lv_if_eq (x := r_1) (tgt := 48) hx hb dX6_count_41 (by decide) (fun hc => ?_) (fun hc => ?_)
        · replace hf := it_t hc hf
          refine lv_iload_n hx hb dX6_count_48 rfl (lv_at hl 2 rfl) ?_
          refine lv_iconst (v := 1) hx hb dX6_count_49 (by decide) ?_
          refine lv_iadd (x := x2) (y := 1) hx hb dX6_count_50 ?_
          refine lv_istore_n (lv' := [(2, .int (x2 + 1)), (0, .ref (ad 0)), (1, .int x1), (3, .int x3)]) hx hb dX6_count_51 rfl hl (by decide) rfl (fun ls hl => ?_)
          refine lv_iinc (v := (x3 + 1)) (lv' := [(3, .int (x3 + 1)), (2, .int (x2 + 1)), (0, .ref (ad 0)), (1, .int x1)]) hx hb dX6_count_52 hl (k := 3) rfl (congrArg (fun q => x3 + q) (by decide : Int32.ofInt 1 = (1 : Int32))) (by decide) rfl (fun ls hl => ?_)
          refine lv_goto (tgt := 23) hx hb dX6_count_55 (by decide) ?_
          exact ih z x1 (x2 + 1) (x3 + 1) r z' hf H locs ls hS (lv_sub hl [2, 3, 1, 0] rfl)
        · replace hf := it_f hc hf
          refine lv_iload_n hx hb dX6_count_44 rfl (lv_at hl 2 rfl) ?_
          refine lv_goto (tgt := 51) hx hb dX6_count_45 (by decide) ?_
          refine lv_istore_n (lv' := [(2, .int x2), (0, .ref (ad 0)), (1, .int x1), (3, .int x3)]) hx hb dX6_count_51 rfl hl (by decide) rfl (fun ls hl => ?_)
          refine lv_iinc (v := (x3 + 1)) (lv' := [(3, .int (x3 + 1)), (2, .int x2), (0, .ref (ad 0)), (1, .int x1)]) hx hb dX6_count_52 hl (k := 3) rfl (congrArg (fun q => x3 + q) (by decide : Int32.ofInt 1 = (1 : Int32))) (by decide) rfl (fun ls hl => ?_)
          refine lv_goto (tgt := 23) hx hb dX6_count_55 (by decide) ?_
          exact ih z x1 x2 (x3 + 1) r z' hf H locs ls hS (lv_sub hl [2, 3, 1, 0] rfl)
set_option maxHeartbeats 4000000 in
set_option maxRecDepth 100000 in
theorem w_rm_count_b16 {p : Program} {l : Launch} {e : Env} {s : State} {m : MethodId} {args : Array Value} {below : List Frame} {meth : Method} {c : Code} {D : va_G} {w0 : va_W} {ad : Nat → Nat} {cA : Nat → ClassId} (C : Cx p s m args meth c cX6_count 4 (some .int) RX6 wsX6_count D (tM cA)) (k : Nat) (z : SS) (x1 : Int32) (y0 : Int32) (r : Int32) (z' : SS) (hf : rm_count_b16 k z x1 y0 = some (r, z')) : ∀ (H : Heap) (locs : List Loc) (ls : Array Slot), St D (va_A w0 s.heap.size) s.heap (wM ad cA z) H locs → lv_has ls 4 [(0, .ref (ad 0)), (1, .int x1)] → W p l e R_rm_count s m args below meth c H locs 0 0 (MQ below (kI D (tM cA) r w0 (wM ad cA z') s.heap.size) args s 0 0 (va_A w0 s.heap.size)) (F0 m 16 ls [.int y0, .ref (ad 0)]) := by
  obtain ⟨hx, hb, hr, hml, hown, hts, hlk, hK⟩ := id C
  intro H locs ls hS hl
  have hf : rm_count_b23 k k (si z 1 y0) x1 0 0 = some (r, z') := hf
  refine pM_1 C hS in_X6_count_X6 lk_X6_count_67 (v := y0) rfl rfl dX6_count_16 (fun H locs hS => ?_)
  refine lv_iconst (v := 0) hx hb dX6_count_19 (by decide) ?_
  refine lv_istore_n (lv' := [(2, .int 0), (0, .ref (ad 0)), (1, .int x1)]) hx hb dX6_count_20 rfl hl (by decide) rfl (fun ls hl => ?_)
  refine lv_iconst (v := 0) hx hb dX6_count_21 (by decide) ?_
  refine lv_istore_n (lv' := [(3, .int 0), (2, .int 0), (0, .ref (ad 0)), (1, .int x1)]) hx hb dX6_count_22 rfl hl (by decide) rfl (fun ls hl => ?_)
  exact w_rm_count_b23 C k k (si z 1 y0) x1 0 0 r z' hf H locs ls hS (lv_sub hl [2, 3, 1, 0] rfl)
set_option maxHeartbeats 4000000 in
set_option maxRecDepth 100000 in
theorem w_rm_count_0 {p : Program} {l : Launch} {e : Env} {s : State} {m : MethodId} {args : Array Value} {below : List Frame} {meth : Method} {c : Code} {D : va_G} {w0 : va_W} {ad : Nat → Nat} {cA : Nat → ClassId} (C : Cx p s m args meth c cX6_count 4 (some .int) RX6 wsX6_count D (tM cA)) (k : Nat) (z : SS) (x1 : Int32) (r : Int32) (z' : SS) (hf : rm_count k z x1 = some (r, z')) : ∀ (H : Heap) (locs : List Loc) (ls : Array Slot), St D (va_A w0 s.heap.size) s.heap (wM ad cA z) H locs → lv_has ls 4 [(0, .ref (ad 0)), (1, .int x1)] → W p l e R_rm_count s m args below meth c H locs 0 0 (MQ below (kI D (tM cA) r w0 (wM ad cA z') s.heap.size) args s 0 0 (va_A w0 s.heap.size)) (F0 m 0 ls []) := by
  obtain ⟨hx, hb, hr, hml, hown, hts, hlk, hK⟩ := id C
  intro H locs ls hS hl
  have hf : (bo (rm_in k z x1 0 7) fun r_1 => (if r_1 = 0 then rm_count_b16 k z x1 1 else rm_count_b16 k z x1 0)) = some (r, z') := hf
  refine lv_aload_n hx hb dX6_count_0 rfl (lv_at hl 0 rfl) ?_
  refine lv_iload_n hx hb dX6_count_1 rfl (lv_at hl 1 rfl) ?_
  refine lv_iconst (v := 0) hx hb dX6_count_2 (by decide) ?_
  refine lv_bipush (v := 7) hx hb dX6_count_3 (by decide) ?_
  obtain ⟨r_1, hcl, hf⟩ := bo_s hf
  refine rcSi (n := 3) (As := [.int x1, .int 0, .int 7]) (rest := [.ref (ad 0)]) (w' := (wM ad cA z)) C hS (fun sz => c_rm_in l D ad cA k z x1 0 7 r_1 hcl sz) gX6_count_X6_in rfl ⟨rfl, rfl⟩ (by decide +kernel) ⟨Nat.le_of_ble_eq_true rfl, Nat.le_of_ble_eq_true rfl⟩ rfl hl.1 rfl (Nat.le_of_ble_eq_true rfl) dX6_count_5 (fun H locs hS => ?_)
  refine lv_if_eq (x := r_1) (tgt := 15) hx hb dX6_count_8 (by decide) (fun hc => ?_) (fun hc => ?_)
  · replace hf := it_t hc hf
    refine lv_iconst (v := 1) hx hb dX6_count_15 (by decide) ?_
    exact w_rm_count_b16 C k z x1 1 r z' hf H locs ls hS (lv_sub hl [0, 1] rfl)
  · replace hf := it_f hc hf
    refine lv_iconst (v := 0) hx hb dX6_count_11 (by decide) ?_
    refine lv_goto (tgt := 16) hx hb dX6_count_12 (by decide) ?_
    exact w_rm_count_b16 C k z x1 0 r z' hf H locs ls hS (lv_sub hl [0, 1] rfl)
set_option maxHeartbeats 4000000 in
set_option maxRecDepth 100000 in
theorem c_rm_count (l : Launch) (D : va_G) (ad : Nat → Nat) (cA : Nat → ClassId) (k : Nat) (z : SS) (x1 : Int32) (r : Int32) (z' : SS) (hf : rm_count k z x1 = some (r, z')) (sz : Nat) : Met l yX6_count wsX6_count R_rm_count (kP D (tM cA) [.ref (ad 0), .int x1] (wM ad cA z) sz) (kI D (tM cA) r (wM ad cA z) (wM ad cA z') sz) 0 0 (va_A (wM ad cA z) sz) := by
  refine ent (by decide) rfl rfl (Nat.le_of_ble_eq_true rfl) (fun p e s m args below meth c hsz C hS ls hl => ?_)
  subst hsz
  exact w_rm_count_0 C k z x1 r z' hf s.heap [] ls hS hl
