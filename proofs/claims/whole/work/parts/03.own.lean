/-! OWN KIT: states as numbered ints and arrays; contracts of the form 'the pure function answers some'; one row an instruction. -/
abbrev SS : Type := (Nat → Int32) × (Nat → Nat → Int32)
def si (z : SS) (k : Nat) (v : Int32) : SS := (va_up z.1 k v, z.2)
def sa (z : SS) (j i : Nat) (v : Int32) : SS := (z.1, va_up z.2 j (upd (z.2 j) i v))
theorem si_s {z : SS} {k : Nat} {v : Int32} : (si z k v).1 k = v := va_up_self _ _ _
theorem si_o {z : SS} {k j : Nat} {v : Int32} (h : j ≠ k) : (si z k v).1 j = z.1 j := va_up_ne _ _ h
theorem si_a {z : SS} {k j : Nat} {v : Int32} : (si z k v).2 j = z.2 j := rfl
theorem sa_i {z : SS} {j i k : Nat} {v : Int32} : (sa z j i v).1 k = z.1 k := rfl
theorem sa_s {z : SS} {j i : Nat} {v : Int32} : (sa z j i v).2 j = upd (z.2 j) i v := va_up_self _ _ _
theorem sa_o {z : SS} {j q i : Nat} {v : Int32} (h : q ≠ j) : (sa z j i v).2 q = z.2 q := va_up_ne _ _ h
def ck (i : Int32) (n : Nat) : Bool := !(decide (i < 0) || decide (n ≤ i.toNatClampNeg))
theorem ck_in {i : Int32} {n : Nat} (h : ck i n = true) : vp_in i n := by
  unfold ck at h
  unfold vp_in
  simpa using h
theorem ck_of {i : Int32} {n : Nat} (h : vp_in i n) : ck i n = true := by
  unfold ck
  unfold vp_in at h
  simpa using h
def bk (x : Int32) : Bool := decide (x = 0) || decide (x = 1)
theorem bk_n {x : Int32} (h : bk x = true) : narrow .boolean (.int x) = .int x := by
  unfold bk at h
  simp at h
  rcases h with rfl | rfl <;> rfl
theorem bk_f {x : Int32} (h : bk x = true) : fits .boolean (.int x) = true := by
  unfold bk at h
  simp at h
  rcases h with rfl | rfl <;> rfl
theorem cs {c : Bool} {α : Type} {a : Option α} {r : α} (h : (if c = true then a else none) = some r) : c = true ∧ a = some r := by
  by_cases hc : c = true
  · rw [if_pos hc] at h; exact ⟨hc, h⟩
  · rw [if_neg hc] at h; cases h
def bi {α β γ : Type} (a : Option (α × β)) (f : α → β → Option γ) : Option γ := match a with
  | some p => f p.1 p.2
  | none => none
def bo {α γ : Type} (a : Option α) (f : α → Option γ) : Option γ := match a with
  | some x => f x
  | none => none
theorem bi_s {α β γ : Type} {a : Option (α × β)} {f : α → β → Option γ} {r : γ} (h : bi a f = some r) : ∃ x y, a = some (x, y) ∧ f x y = some r := by
  cases a with
  | none => cases h
  | some p => exact ⟨p.1, p.2, rfl, h⟩
theorem bo_s {α γ : Type} {a : Option α} {f : α → Option γ} {r : γ} (h : bo a f = some r) : ∃ x, a = some x ∧ f x = some r := by
  cases a with
  | none => cases h
  | some p => exact ⟨p, rfl, h⟩
theorem it_t {c : Prop} {α : Type} {dc : Decidable c} {a b r : α} (hc : c) (h : @ite α c dc a b = r) : a = r := by rw [if_pos hc] at h; exact h
theorem it_f {c : Prop} {α : Type} {dc : Decidable c} {a b r : α} (hc : ¬ c) (h : @ite α c dc a b = r) : b = r := by rw [if_neg hc] at h; exact h
theorem it_ft {c : Prop} {α : Type} {dc : Decidable c} {a b r : α} (hc : ¬ c) (h : @ite α c dc a b = r) : b = r := it_f hc h
def jushr (x y : Int32) : Int32 := (x.toUInt32 >>> (y.toUInt32 &&& Int32.toUInt32 31)).toInt32
def jlushr (x : Int64) (y : Int32) : Int64 := (x.toUInt64 >>> (y.toInt64.toUInt64 &&& Int64.toUInt64 63)).toInt64
def jlshl (x : Int64) (y : Int32) : Int64 := x <<< (y.toInt64 &&& 63)
def kP (D : va_G) (tys : List (ClassId × FieldType)) (av : List Value) (w : va_W) (sz : Nat) : Array Value → State → Prop := va_Pc av (fun U => U.heap.size = sz ∧ va_P D vwCl w U.heap ∧ va_K D vwCl tys U ∧ va_D (fun _ => True) w)
def kB (D : va_G) (tys : List (ClassId × FieldType)) (w w' : va_W) (sz : Nat) (_ : Unit) (t : State) : Prop := va_P D vwCl w' t.heap ∧ va_K D vwCl tys t ∧ va_D (va_A w sz) w'
def kI (D : va_G) (tys : List (ClassId × FieldType)) (r : Int32) (w w' : va_W) (sz : Nat) : Array Value → State → Outcome → State → Prop := va_Qi (fun a (_ : Unit) => a = r) (kB D tys w w' sz) (va_A w sz)
def kL (D : va_G) (tys : List (ClassId × FieldType)) (r : Int64) (w w' : va_W) (sz : Nat) : Array Value → State → Outcome → State → Prop := va_Ql (fun a (_ : Unit) => a = r) (kB D tys w w' sz) (va_A w sz)
def kV (D : va_G) (tys : List (ClassId × FieldType)) (w w' : va_W) (sz : Nat) : Array Value → State → Outcome → State → Prop := va_Qv (fun (_ : Unit) => True) (kB D tys w w' sz) (va_A w sz)
def Cx (p : Program) (s : State) (m : MethodId) (args : Array Value) (meth : Method) (c : Code) (cc : ByteArray) (nL : Nat) (ret : Option FieldType) (own : String) (Ts : List Cond) (D : va_G) (tys : List (ClassId × FieldType)) : Prop :=
  p.tables.exec = Jvm.exec ∧ c.code = cc ∧ meth.sig.returnType = ret ∧ c.maxLocals = nL ∧ s.vm.findClass own = some m.cls ∧ (∀ w ∈ Ts, w.before args s = true) ∧ meth.locks = false ∧ va_K D vwCl tys s
def St (D : va_G) (A : Nat → Prop) (H0 : Heap) (w : va_W) (H : Heap) (locs : List Loc) : Prop := va_P D vwCl w H ∧ va_D A w ∧ va_S A H0 H locs
theorem kP_blind {D : va_G} {tys : List (ClassId × FieldType)} {av : List Value} {w : va_W} {sz : Nat} : FrameBlind (kP D tys av w sz) := fun a U g mk q => by
  obtain ⟨q0, q1, qP, qK, qD⟩ := q
  exact ⟨q0, q1, qP, va_K.moved (u := U) (U := U.calling g mk a) (Vm.Alike.refl U.vm) qK, qD⟩
theorem ent {l : Launch} {y : MethodName} {ws ws' : List Cond} {rm : Room} {cc : ByteArray} {maxL sz : Nat} {ret : Option FieldType} {own : String} {D : va_G} {tys : List (ClassId × FieldType)} {av : List Value} {w : va_W} {Qc : Array Value → State → Outcome → State → Prop}
    (hy : plainName y.cls = true) (hw : ws = Cond.code y cc maxL ret :: ws') (hown : y.cls = own) (hal : (lg_sl av).length ≤ maxL)
    (body : ∀ (p : Program) (e : Env) (s : State) (m : MethodId) (args : Array Value) (below : List Frame) (meth : Method) (c : Code), s.heap.size = sz → Cx p s m args meth c cc maxL ret own ws D tys → St D (va_A w s.heap.size) s.heap w s.heap [] → ∀ ls, lv_has ls maxL (lv_args 0 av) →
      W p l e rm s m args below meth c s.heap [] 0 0 (MQ below Qc args s 0 0 (va_A w s.heap.size)) (F0 m 0 ls [])) : Met l y ws rm (kP D tys av w sz) Qc 0 0 (va_A w sz) := by
  refine Met.ofW (cc := cc) (maxL := maxL) (ret := ret) hy hw ?_
  intro p e s m args below meth c s₁ B hml hv
  obtain ⟨rfl, hsz, hP, hK, hD0⟩ := hv
  have hts := atoms_spec (ws := ws) B.pre
  have ho : s.vm.findClass y.cls = some m.cls := findClass_of_methodNamed B.named
  rw [hown] at ho
  subst hsz
  have hD := hD0.self (sz := s.heap.size)
  have hS : va_S (va_A w s.heap.size) s.heap s.heap [] := va_S.rf
  have hl := lv_entry av (n := maxL) hal
  rw [lg_entry_eq]
  exact body p e s m av.toArray below meth c rfl ⟨B.exec, B.bytes, B.returns, hml, ho, hts, B.notSynchronized, hK⟩ ⟨hP, hD, hS⟩ _ hl
section OW
variable {p : Program} {l : Launch} {e : Env} {R : Room} {s : State} {m : MethodId} {args : Array Value} {below : List Frame} {meth : Method} {c : Code} {H : Heap} {locs : List Loc} {cells slots : Nat} {Q : State → Prop}
variable {cc : ByteArray} {pc nL : Nat} {ret : Option FieldType} {own : String} {Ts : List Cond} {ls : Array Slot} {rest : List Value} {D : va_G} {A : Nat → Prop} {a : Nat} {tys : List (ClassId × FieldType)} {w w' w0 : va_W}
theorem rget (C : Cx p s m args meth c cc nL ret own Ts D tys) (S : St D A s.heap w H locs) {Cn : String} {T : u_T} {N ci index : Nat} (hin : ∀ x ∈ u_ws Cn T N, x ∈ Ts) (q0 : Nat) {fs : List Value} (he : w[q0]? = some (a, .inr (ci, fs))) (hc : vwCl[ci]? = some (Cn, T, N)) (k : Nat) (hk : k < N) (hl : Cond.fieldLink own index (T k).1 (T k).2.1 (T k).2.2.1 ∈ Ts) {v : Value} (hv : fs[k]? = some v) (hdg : decode cc pc = .ok (.getfield index, 3))
    (kk : W p l e R s m args below meth c H locs cells slots Q (F0 m (pc + 3) ls (v :: rest))) : W p l e R s m args below meth c H locs cells slots Q (F0 m pc ls (.ref a :: rest)) := by
  obtain ⟨hx, hb, hr, hml, hown, hts, hlk, hK⟩ := C
  exact va_get hx hb hts hin hown hK S.1 q0 he hc k hk (hts _ hl) (fun _ h => h) hv hdg kk
theorem rput (C : Cx p s m args meth c cc nL ret own Ts D tys) (S : St D A s.heap w H locs) {Cn : String} {T : u_T} {N ci index : Nat} (hin : ∀ x ∈ u_ws Cn T N, x ∈ Ts) {ty0 : Nat → FieldType} (hty : ∀ k, k < N → parseFieldDescriptor (T k).2.2.1 = some (ty0 k)) (hnm : ∀ a, a < N → ∀ b, b < N → a ≠ b → (T a).2.1 ≠ (T b).2.1) (q0 : Nat) {fs : List Value} (he : w[q0]? = some (a, .inr (ci, fs))) (hc : vwCl[ci]? = some (Cn, T, N)) (k : Nat) (hk : k < N) (hl : Cond.fieldLink own index (T k).1 (T k).2.1 (T k).2.2.1 ∈ Ts) (hfin : (T k).2.2.2 = false) {v : Value} (hn : narrow (ty0 k) v = v) (hfit : fits (ty0 k) v = true) (hlen : k < fs.length) (hw : w.set q0 (a, .inr (ci, fs.set k v)) = w') (hdg : decode cc pc = .ok (.putfield index, 3))
    (kk : ∀ (H : Heap) (locs : List Loc), St D A s.heap w' H locs → W p l e R s m args below meth c H locs cells slots Q (F0 m (pc + 3) ls rest)) : W p l e R s m args below meth c H locs cells slots Q (F0 m pc ls (v :: .ref a :: rest)) := by
  obtain ⟨hx, hb, hr, hml, hown, hts, hlk, hK⟩ := C
  subst hw
  exact va_put hx hb hts hin ty0 hty hnm hown hK S.1 S.2.1 S.2.2 q0 he hc k hk (hts _ hl) (fun _ h => h) hfin (hty k hk) hn hfit hlen hdg (fun H1 locs1 h1 h2 h3 => kk H1 locs1 ⟨h1, h2, h3⟩)
theorem rald (C : Cx p s m args meth c cc nL ret own Ts D tys) (S : St D A s.heap w H locs) (q0 t0 : Nat) {cA : ClassId} {n : Nat} {f : Nat → Int32} (ha : w[q0]? = some (a, .inl (cA, n, .inl f))) (ht : tys[t0]? = some (cA, .int)) {i : Int32} (hin : vp_in i n) (hdg : decode cc pc = .ok (.iaload, 1))
    (kk : W p l e R s m args below meth c H locs cells slots Q (F0 m (pc + 1) ls (.int (f i.toNatClampNeg) :: rest))) : W p l e R s m args below meth c H locs cells slots Q (F0 m pc ls (.int i :: .ref a :: rest)) := by
  obtain ⟨hx, hb, hr, hml, hown, hts, hlk, hK⟩ := C
  exact va_iald hx hb hK S.1 q0 t0 ha ht hin hdg kk
theorem rzld (C : Cx p s m args meth c cc nL ret own Ts D tys) (S : St D A s.heap w H locs) (q0 t0 : Nat) {cA : ClassId} {n : Nat} {f : Nat → Int32} (ha : w[q0]? = some (a, .inl (cA, n, .inl f))) (ht : tys[t0]? = some (cA, .boolean)) {i : Int32} (hin : vp_in i n) (hdg : decode cc pc = .ok (.baload, 1))
    (kk : W p l e R s m args below meth c H locs cells slots Q (F0 m (pc + 1) ls (.int (f i.toNatClampNeg) :: rest))) : W p l e R s m args below meth c H locs cells slots Q (F0 m pc ls (.int i :: .ref a :: rest)) := by
  obtain ⟨hx, hb, hr, hml, hown, hts, hlk, hK⟩ := C
  exact va_zald hx hb hK S.1 q0 t0 ha ht hin hdg kk
theorem rast (C : Cx p s m args meth c cc nL ret own Ts D tys) (S : St D A s.heap w H locs) (q0 t0 : Nat) {cA : ClassId} {n : Nat} {f : Nat → Int32} (ha : w[q0]? = some (a, .inl (cA, n, .inl f))) (ht : tys[t0]? = some (cA, .int)) {i x : Int32} (hin : vp_in i n) (hw : w.set q0 (a, .inl (cA, n, .inl (upd f i.toNatClampNeg x))) = w') (hdg : decode cc pc = .ok (.iastore, 1))
    (kk : ∀ (H : Heap) (locs : List Loc), St D A s.heap w' H locs → W p l e R s m args below meth c H locs cells slots Q (F0 m (pc + 1) ls rest)) : W p l e R s m args below meth c H locs cells slots Q (F0 m pc ls (.int x :: .int i :: .ref a :: rest)) := by
  obtain ⟨hx, hb, hr, hml, hown, hts, hlk, hK⟩ := C
  subst hw
  exact va_iast hx hb hK S.1 S.2.1 S.2.2 q0 t0 ha ht hin hdg (fun H1 locs1 h1 h2 h3 => kk H1 locs1 ⟨h1, h2, h3⟩)
theorem rzst (C : Cx p s m args meth c cc nL ret own Ts D tys) (S : St D A s.heap w H locs) (q0 t0 : Nat) {cA : ClassId} {n : Nat} {f : Nat → Int32} (ha : w[q0]? = some (a, .inl (cA, n, .inl f))) (ht : tys[t0]? = some (cA, .boolean)) {i x : Int32} (hin : vp_in i n) (hw : w.set q0 (a, .inl (cA, n, .inl (upd f i.toNatClampNeg (vp_nar .boolean x)))) = w') (hdg : decode cc pc = .ok (.bastore, 1))
    (kk : ∀ (H : Heap) (locs : List Loc), St D A s.heap w' H locs → W p l e R s m args below meth c H locs cells slots Q (F0 m (pc + 1) ls rest)) : W p l e R s m args below meth c H locs cells slots Q (F0 m pc ls (.int x :: .int i :: .ref a :: rest)) := by
  obtain ⟨hx, hb, hr, hml, hown, hts, hlk, hK⟩ := C
  subst hw
  exact va_zast hx hb hK S.1 S.2.1 S.2.2 q0 t0 ha ht hin hdg (fun H1 locs1 h1 h2 h3 => kk H1 locs1 ⟨h1, h2, h3⟩)
theorem ralen (C : Cx p s m args meth c cc nL ret own Ts D tys) (S : St D A s.heap w H locs) (q0 t0 : Nat) {cA : ClassId} {n : Nat} {f : Nat → Int32} (ha : w[q0]? = some (a, .inl (cA, n, .inl f))) {ty : FieldType} (ht : tys[t0]? = some (cA, ty)) (hdg : decode cc pc = .ok (.arraylength, 1))
    (kk : W p l e R s m args below meth c H locs cells slots Q (F0 m (pc + 1) ls (.int (nI n) :: rest))) : W p l e R s m args below meth c H locs cells slots Q (F0 m pc ls (.ref a :: rest)) := by
  obtain ⟨hx, hb, hr, hml, hown, hts, hlk, hK⟩ := C
  exact va_alen hx hb hK S.1 q0 t0 ha ht (v := nI n) rfl hdg kk
theorem rti {r : Int32} (C : Cx p s m args meth c cc nL (some .int) own Ts D tys) (S : St D (va_A w0 s.heap.size) s.heap w' H locs) (hdg : decode cc pc = .ok (.ireturn, 1)) :
    W p l e R s m args below meth c H locs 0 0 (MQ below (kI D tys r w0 w' s.heap.size) args s 0 0 (va_A w0 s.heap.size)) (F0 m pc ls [.int r]) := by
  obtain ⟨hx, hb, hr, hml, hown, hts, hlk, hK⟩ := C
  exact W.iret hx hb hr (fun t ht hW => ⟨⟨r, (), rfl, rfl, by rw [ht]; exact S.1, va_K.moved hW.alike hK, S.2.1⟩, S.2.2.F ht⟩) S.2.2.2.2 hdg hlk
theorem rtz {r : Int32} (C : Cx p s m args meth c cc nL (some .boolean) own Ts D tys) (S : St D (va_A w0 s.heap.size) s.heap w' H locs) (hn : bk r = true) (hdg : decode cc pc = .ok (.ireturn, 1)) :
    W p l e R s m args below meth c H locs 0 0 (MQ below (kI D tys r w0 w' s.heap.size) args s 0 0 (va_A w0 s.heap.size)) (F0 m pc ls [.int r]) := by
  obtain ⟨hx, hb, hr, hml, hown, hts, hlk, hK⟩ := C
  exact W.zret hx hb hr (bk_n hn) (fun t ht hW => ⟨⟨r, (), rfl, rfl, by rw [ht]; exact S.1, va_K.moved hW.alike hK, S.2.1⟩, S.2.2.F ht⟩) S.2.2.2.2 hdg hlk
theorem rtl {r : Int64} (C : Cx p s m args meth c cc nL (some .long) own Ts D tys) (S : St D (va_A w0 s.heap.size) s.heap w' H locs) (hdg : decode cc pc = .ok (.lreturn, 1)) :
    W p l e R s m args below meth c H locs 0 0 (MQ below (kL D tys r w0 w' s.heap.size) args s 0 0 (va_A w0 s.heap.size)) (F0 m pc ls [.long r]) := by
  obtain ⟨hx, hb, hr, hml, hown, hts, hlk, hK⟩ := C
  exact W.lret hx hb hr (fun t ht hW => ⟨⟨r, (), rfl, rfl, by rw [ht]; exact S.1, va_K.moved hW.alike hK, S.2.1⟩, S.2.2.F ht⟩) S.2.2.2.2 hdg hlk
theorem rtv (C : Cx p s m args meth c cc nL none own Ts D tys) (S : St D (va_A w0 s.heap.size) s.heap w' H locs) (hdg : decode cc pc = .ok (.return_, 1)) :
    W p l e R s m args below meth c H locs 0 0 (MQ below (kV D tys w0 w' s.heap.size) args s 0 0 (va_A w0 s.heap.size)) (F0 m pc ls []) := by
  obtain ⟨hx, hb, hr, hml, hown, hts, hlk, hK⟩ := C
  exact W.vret hx hb hr (fun t ht hW => ⟨⟨(), rfl, trivial, by rw [ht]; exact S.1, va_K.moved hW.alike hK, S.2.1⟩, S.2.2.F ht⟩) S.2.2.2.2 hdg hlk
theorem St.free (S : St D (va_A w0 s.heap.size) s.heap w H locs) : ∀ q, va_A w H.size q → va_A w0 s.heap.size q := fun q h => by
  rcases h with ⟨k, e, hk⟩ | h
  · exact S.2.1.2 k _ hk
  · exact Or.inr (Nat.le_trans S.2.2.1 h)
variable {y : MethodName} {wsY wsY' : List Cond} {rmY : Room} {byY : ByteArray} {mlY n index ci N q0 : Nat} {reY : Option FieldType} {Cn : String} {T : u_T} {As st0 : List Value} {b : Nat}
theorem rcVi {r : Int32} (C : Cx p s m args meth c cc nL ret own Ts D tys) (S : St D (va_A w0 s.heap.size) s.heap w H locs) (hM : ∀ sz, Met l y wsY rmY (kP D tys (.ref b :: As) w sz) (kI D tys r w w' sz) 0 0 (va_A w sz)) (hG : GoodIn Ts (wsV own index Cn y wsY)) (hw : wsY = Cond.code y byY mlY reY :: wsY') (hrc : rmY.cells = 0 ∧ rmY.slots = 0)
    (hd : y.cls = Cn ∧ y.cls ≠ "java/lang/invoke/MethodHandle" ∧ y.cls ≠ "java/lang/invoke/VarHandle" ∧ (parseMethodDescriptor y.desc).map (fun d => d.parameters.length) = some n) (hR : rmY.frames + 1 ≤ R.frames ∧ 8 + (mlY + 11) + rmY.locals ≤ R.locals) (he : ∃ fs, w[q0]? = some (b, .inr (ci, fs))) (hc : vwCl[ci]? = some (Cn, T, N))
    (hn : As.length = n) (hsize : ls.size = nL) (hst : st0 = As.reverse ++ .ref b :: rest) (hW : (rest.map fun v => v.category).sum ≤ 8) (hdg : decode cc pc = .ok (.invokevirtual index, 3))
    (kk : ∀ (H : Heap) (locs : List Loc), St D (va_A w0 s.heap.size) s.heap w' H locs → W p l e R s m args below meth c H locs 0 0 Q (F0 m (pc + 3) ls (.int r :: rest))) : W p l e R s m args below meth c H locs 0 0 Q (F0 m pc ls st0) := by
  obtain ⟨hx, hb, hr, hml, hown, hts, hlk, hK⟩ := C
  have hFc := S.free
  obtain ⟨fs, he⟩ := he
  refine va_calli (va_runV (As := As) (rest := rest) ⟨hx, hb, hml, hown, hts⟩ (hM H.size) (cwV n hts hG hw hrc.1 hrc.2 hd hR) ⟨kP_blind, va_recv hK S.1 hc he, fun U hU hW => ⟨rfl, by rw [hU], by rw [hU]; exact S.1, va_K.moved hW.alike hK, S.2.1.weaken (fun _ _ _ _ => trivial)⟩⟩ rfl hn hsize hst (lv_room hW) hdg ⟨Nat.zero_le _, Nat.zero_le _⟩) S.2.2 (fun q _ h => hFc q h) hFc (fun r1 u t H1 locs1 ht hvm hw1 hB hz1 hk1 hS1 => ?_)
  subst hw1
  obtain ⟨h1, h2, h3⟩ := hB
  rw [ht] at h1
  exact kk H1 locs1 ⟨h1, h3.weaken (fun _ _ _ h => hFc _ h), hS1⟩
theorem rcVv (C : Cx p s m args meth c cc nL ret own Ts D tys) (S : St D (va_A w0 s.heap.size) s.heap w H locs) (hM : ∀ sz, Met l y wsY rmY (kP D tys (.ref b :: As) w sz) (kV D tys w w' sz) 0 0 (va_A w sz)) (hG : GoodIn Ts (wsV own index Cn y wsY)) (hw : wsY = Cond.code y byY mlY reY :: wsY') (hrc : rmY.cells = 0 ∧ rmY.slots = 0)
    (hd : y.cls = Cn ∧ y.cls ≠ "java/lang/invoke/MethodHandle" ∧ y.cls ≠ "java/lang/invoke/VarHandle" ∧ (parseMethodDescriptor y.desc).map (fun d => d.parameters.length) = some n) (hR : rmY.frames + 1 ≤ R.frames ∧ 8 + (mlY + 11) + rmY.locals ≤ R.locals) (he : ∃ fs, w[q0]? = some (b, .inr (ci, fs))) (hc : vwCl[ci]? = some (Cn, T, N))
    (hn : As.length = n) (hsize : ls.size = nL) (hst : st0 = As.reverse ++ .ref b :: rest) (hW : (rest.map fun v => v.category).sum ≤ 8) (hdg : decode cc pc = .ok (.invokevirtual index, 3))
    (kk : ∀ (H : Heap) (locs : List Loc), St D (va_A w0 s.heap.size) s.heap w' H locs → W p l e R s m args below meth c H locs 0 0 Q (F0 m (pc + 3) ls rest)) : W p l e R s m args below meth c H locs 0 0 Q (F0 m pc ls st0) := by
  obtain ⟨hx, hb, hr, hml, hown, hts, hlk, hK⟩ := C
  have hFc := S.free
  obtain ⟨fs, he⟩ := he
  refine va_callv (va_runV (As := As) (rest := rest) ⟨hx, hb, hml, hown, hts⟩ (hM H.size) (cwV n hts hG hw hrc.1 hrc.2 hd hR) ⟨kP_blind, va_recv hK S.1 hc he, fun U hU hW => ⟨rfl, by rw [hU], by rw [hU]; exact S.1, va_K.moved hW.alike hK, S.2.1.weaken (fun _ _ _ _ => trivial)⟩⟩ rfl hn hsize hst (lv_room hW) hdg ⟨Nat.zero_le _, Nat.zero_le _⟩) S.2.2 (fun q _ h => hFc q h) hFc (fun u t H1 locs1 ht hvm hw1 hB hz1 hk1 hS1 => ?_)
  obtain ⟨h1, h2, h3⟩ := hB
  rw [ht] at h1
  exact kk H1 locs1 ⟨h1, h3.weaken (fun _ _ _ h => hFc _ h), hS1⟩
theorem rcSi {r : Int32} (C : Cx p s m args meth c cc nL ret own Ts D tys) (S : St D (va_A w0 s.heap.size) s.heap w H locs) (hM : ∀ sz, Met l y wsY rmY (kP D tys As w sz) (kI D tys r w w' sz) 0 0 (va_A w sz)) (hG : GoodIn Ts (va_wsS own index y wsY)) (hw : wsY = Cond.code y byY mlY reY :: wsY') (hrc : rmY.cells = 0 ∧ rmY.slots = 0)
    (hd : y.cls ≠ "java/lang/invoke/MethodHandle" ∧ y.cls ≠ "java/lang/invoke/VarHandle" ∧ (parseMethodDescriptor y.desc).map (fun d => d.parameters.length) = some n) (hR : rmY.frames + 1 ≤ R.frames ∧ 8 + (mlY + 11) + rmY.locals ≤ R.locals)
    (hn : As.length = n) (hsize : ls.size = nL) (hst : st0 = As.reverse ++ rest) (hW : (rest.map fun v => v.category).sum ≤ 8) (hdg : decode cc pc = .ok (.invokestatic index, 3))
    (kk : ∀ (H : Heap) (locs : List Loc), St D (va_A w0 s.heap.size) s.heap w' H locs → W p l e R s m args below meth c H locs 0 0 Q (F0 m (pc + 3) ls (.int r :: rest))) : W p l e R s m args below meth c H locs 0 0 Q (F0 m pc ls st0) := by
  obtain ⟨hx, hb, hr, hml, hown, hts, hlk, hK⟩ := C
  have hFc := S.free
  refine va_calli (va_runS (As := As) (rest := rest) ⟨hx, hb, hml, hown, hts⟩ (hM H.size) (va_cwS n hts hG hw hrc.1 hrc.2 hd hR) ⟨kP_blind, fun U hU hW => ⟨rfl, by rw [hU], by rw [hU]; exact S.1, va_K.moved hW.alike hK, S.2.1.weaken (fun _ _ _ _ => trivial)⟩⟩ rfl hn hsize hst (lv_room hW) hdg ⟨Nat.zero_le _, Nat.zero_le _⟩) S.2.2 (fun q _ h => hFc q h) hFc (fun r1 u t H1 locs1 ht hvm hw1 hB hz1 hk1 hS1 => ?_)
  subst hw1
  obtain ⟨h1, h2, h3⟩ := hB
  rw [ht] at h1
  exact kk H1 locs1 ⟨h1, h3.weaken (fun _ _ _ h => hFc _ h), hS1⟩
theorem rcSl {r : Int64} (C : Cx p s m args meth c cc nL ret own Ts D tys) (S : St D (va_A w0 s.heap.size) s.heap w H locs) (hM : ∀ sz, Met l y wsY rmY (kP D tys As w sz) (kL D tys r w w' sz) 0 0 (va_A w sz)) (hG : GoodIn Ts (va_wsS own index y wsY)) (hw : wsY = Cond.code y byY mlY reY :: wsY') (hrc : rmY.cells = 0 ∧ rmY.slots = 0)
    (hd : y.cls ≠ "java/lang/invoke/MethodHandle" ∧ y.cls ≠ "java/lang/invoke/VarHandle" ∧ (parseMethodDescriptor y.desc).map (fun d => d.parameters.length) = some n) (hR : rmY.frames + 1 ≤ R.frames ∧ 8 + (mlY + 11) + rmY.locals ≤ R.locals)
    (hn : As.length = n) (hsize : ls.size = nL) (hst : st0 = As.reverse ++ rest) (hW : (rest.map fun v => v.category).sum ≤ 8) (hdg : decode cc pc = .ok (.invokestatic index, 3))
    (kk : ∀ (H : Heap) (locs : List Loc), St D (va_A w0 s.heap.size) s.heap w' H locs → W p l e R s m args below meth c H locs 0 0 Q (F0 m (pc + 3) ls (.long r :: rest))) : W p l e R s m args below meth c H locs 0 0 Q (F0 m pc ls st0) := by
  obtain ⟨hx, hb, hr, hml, hown, hts, hlk, hK⟩ := C
  have hFc := S.free
  refine va_calll (va_runS (As := As) (rest := rest) ⟨hx, hb, hml, hown, hts⟩ (hM H.size) (va_cwS n hts hG hw hrc.1 hrc.2 hd hR) ⟨kP_blind, fun U hU hW => ⟨rfl, by rw [hU], by rw [hU]; exact S.1, va_K.moved hW.alike hK, S.2.1.weaken (fun _ _ _ _ => trivial)⟩⟩ rfl hn hsize hst (lv_room hW) hdg ⟨Nat.zero_le _, Nat.zero_le _⟩) S.2.2 (fun q _ h => hFc q h) hFc (fun r1 u t H1 locs1 ht hvm hw1 hB hz1 hk1 hS1 => ?_)
  subst hw1
  obtain ⟨h1, h2, h3⟩ := hB
  rw [ht] at h1
  exact kk H1 locs1 ⟨h1, h3.weaken (fun _ _ _ h => hFc _ h), hS1⟩
theorem rmax (C : Cx p s m args meth c cc nL ret own Ts D tys) (hsize : ls.size = nL) (hl : Cond.methodLink own index Lib.Math.max.name ∈ Ts) (hs : Cond.static Lib.Math.max.name ∈ Ts) (hi : Cond.initialized "java/lang/Math" ∈ Ts) (hco : Cond.code Lib.Math.max.name Lib.Math.max.code 2 (some .int) ∈ Ts) (hf : 1 ≤ R.frames) (hlo : (rest.map fun v => v.category).sum + 13 ≤ R.locals) {x z : Int32} (hdg : decode cc pc = .ok (.invokestatic index, 3))
    (kk : W p l e R s m args below meth c H locs 0 0 Q (F0 m (pc + 3) ls (.int (if x < z then z else x) :: rest))) : W p l e R s m args below meth c H locs 0 0 Q (F0 m pc ls (.int z :: .int x :: rest)) := by
  obtain ⟨hx, hb, hr, hml, hown, hts, hlk, hK⟩ := C
  exact va_mmax hx hb (hml.trans hsize.symm) hown (hts _ hl) (hts _ hs) (hts _ hi) (hts _ hco) hf hlo (Nat.zero_le _) (Nat.zero_le _) hdg kk
theorem rmin (C : Cx p s m args meth c cc nL ret own Ts D tys) (hsize : ls.size = nL) (hl : Cond.methodLink own index Lib.Math.min.name ∈ Ts) (hs : Cond.static Lib.Math.min.name ∈ Ts) (hi : Cond.initialized "java/lang/Math" ∈ Ts) (hco : Cond.code Lib.Math.min.name Lib.Math.min.code 2 (some .int) ∈ Ts) (hf : 1 ≤ R.frames) (hlo : (rest.map fun v => v.category).sum + 13 ≤ R.locals) {x z : Int32} (hdg : decode cc pc = .ok (.invokestatic index, 3))
    (kk : W p l e R s m args below meth c H locs 0 0 Q (F0 m (pc + 3) ls (.int (if z < x then z else x) :: rest))) : W p l e R s m args below meth c H locs 0 0 Q (F0 m pc ls (.int z :: .int x :: rest)) := by
  obtain ⟨hx, hb, hr, hml, hown, hts, hlk, hK⟩ := C
  exact va_mmin hx hb (hml.trans hsize.symm) hown (hts _ hl) (hts _ hs) (hts _ hi) (hts _ hco) hf hlo (Nat.zero_le _) (Nat.zero_le _) hdg kk
end OW
