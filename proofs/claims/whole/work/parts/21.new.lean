/-! OWN KIT 2: constructors -/
def kN {U : Type} (D : va_G) (w : va_W) (wf : U → va_W) (tf : U → List (ClassId × FieldType)) (sz : Nat) : Array Value → State → Outcome → State → Prop := va_Qv (fun (_ : U) => True) (fun u t => va_P D vwCl (wf u) t.heap ∧ va_K D vwCl (tf u) t ∧ va_D (va_A w sz) (wf u)) (va_A w sz)
theorem entI {l : Launch} {y : MethodName} {ws ws' : List Cond} {rm : Room} {cc : ByteArray} {maxL sz mc ms : Nat} {own : String} {D : va_G} {tys : List (ClassId × FieldType)} {av : List Value} {w : va_W} {Qc : Array Value → State → Outcome → State → Prop}
    (hy : plainName y.cls = true) (hw : ws = Cond.code y cc maxL none :: ws') (hown : y.cls = own) (hnm : y.name = "<init>") (hal : (lg_sl av).length ≤ maxL)
    (body : ∀ (p : Program) (e : Env) (s : State) (m : MethodId) (args : Array Value) (below : List Frame) (meth : Method) (c : Code), s.heap.size = sz → Cx p s m args meth c cc maxL none own ws D tys → meth.name = "<init>" → St D (va_A w s.heap.size) s.heap w s.heap [] → ∀ ls, lv_has ls maxL (lv_args 0 av) →
      W p l e rm s m args below meth c s.heap [] 0 0 (MQ below Qc args s mc ms (va_A w s.heap.size)) (F0 m 0 ls [])) : Met l y ws rm (kP D tys av w sz) Qc mc ms (va_A w sz) := by
  refine Met.ofW (cc := cc) (maxL := maxL) (ret := none) hy hw ?_
  intro p e s m args below meth c s₁ B hml hv
  obtain ⟨rfl, hsz, hP, hK, hD0⟩ := hv
  have hts := atoms_spec (ws := ws) B.pre
  have ho : s.vm.findClass y.cls = some m.cls := findClass_of_methodNamed B.named
  have hin : meth.name = y.name := (name_of_methodNamed B.named B.method).1
  rw [hown] at ho
  rw [hnm] at hin
  subst hsz
  have hD := hD0.self (sz := s.heap.size)
  have hS : va_S (va_A w s.heap.size) s.heap s.heap [] := va_S.rf
  have hl := lv_entry av (n := maxL) hal
  rw [lg_entry_eq]
  exact body p e s m av.toArray below meth c rfl ⟨B.exec, B.bytes, B.returns, hml, ho, hts, B.notSynchronized, hK⟩ hin ⟨hP, hD, hS⟩ _ hl
section ON
variable {p : Program} {l : Launch} {e : Env} {R : Room} {s : State} {m : MethodId} {args : Array Value} {below : List Frame} {meth : Method} {c : Code} {H : Heap} {locs : List Loc} {cells slots : Nat} {Q : State → Prop}
variable {cc : ByteArray} {pc nL : Nat} {ret : Option FieldType} {own : String} {Ts : List Cond} {ls : Array Slot} {rest : List Value} {D : va_G} {A : Nat → Prop} {a : Nat} {tys : List (ClassId × FieldType)} {w w' w0 : va_W}
theorem rputF (C : Cx p s m args meth c cc nL ret own Ts D tys) (hin2 : meth.name = "<init>") (S : St D A s.heap w H locs) {Cn : String} {T : u_T} {N ci index : Nat} (hin : ∀ x ∈ u_ws Cn T N, x ∈ Ts) {ty0 : Nat → FieldType} (hty : ∀ k, k < N → parseFieldDescriptor (T k).2.2.1 = some (ty0 k)) (hnm : ∀ a, a < N → ∀ b, b < N → a ≠ b → (T a).2.1 ≠ (T b).2.1) (q0 : Nat) {fs : List Value} (he : w[q0]? = some (a, .inr (ci, fs))) (hc : vwCl[ci]? = some (Cn, T, N)) (k : Nat) (hk : k < N) (hl : Cond.fieldLink own index (T k).1 (T k).2.1 (T k).2.2.1 ∈ Ts) (hfin : (T k).2.2.2 = true) (hdecl : (T k).1 = own) {v : Value} (hn : narrow (ty0 k) v = v) (hfit : fits (ty0 k) v = true) (hlen : k < fs.length) (hw : w.set q0 (a, .inr (ci, fs.set k v)) = w') (hdg : decode cc pc = .ok (.putfield index, 3))
    (kk : ∀ (H : Heap) (locs : List Loc), St D A s.heap w' H locs → W p l e R s m args below meth c H locs cells slots Q (F0 m (pc + 3) ls rest)) : W p l e R s m args below meth c H locs cells slots Q (F0 m pc ls (v :: .ref a :: rest)) := by
  obtain ⟨hx, hb, hr, hml, hown, hts, hlk, hK⟩ := C
  subst hw
  exact va_putF hx hb hts hin ty0 hty hnm hown hK S.1 S.2.1 S.2.2 q0 he hc k hk (hts _ hl) (fun _ h => h) hfin hin2 hdecl (hty k hk) hn hfit hlen hdg (fun H1 locs1 h1 h2 h3 => kk H1 locs1 ⟨h1, h2, h3⟩)
theorem robj (C : Cx p s m args meth c cc nL ret own Ts D tys) (hsize : ls.size = nL) {index : Nat} (hl : Cond.methodLink own index objectInit ∈ Ts) (hi : Cond.instanceMethod objectInit ∈ Ts) (hco : Cond.code objectInit ⟨#[0xb1]⟩ 1 none ∈ Ts) (hf : 1 ≤ R.frames) (hlo : (rest.map fun v => v.category).sum + 12 ≤ R.locals) (hdg : decode cc pc = .ok (.invokespecial index, 3))
    (kk : W p l e R s m args below meth c H locs cells slots Q (F0 m (pc + 3) ls rest)) : W p l e R s m args below meth c H locs cells slots Q (F0 m pc ls (.ref a :: rest)) := by
  obtain ⟨hx, hb, hr, hml, hown, hts, hlk, hK⟩ := C
  refine W.objInit hx hb hown (hts _ hl) (hts _ hi) (hts _ hco) rfl (by rw [hml]; exact hsize) rfl hdg hf ?_ kk
  have h0 : (F0 m pc ls (.ref a :: rest)).monitorRoom = 0 := rfl
  first | exact hlo | (rw [h0]; omega) | (simp only [h0]; omega)
theorem rarr (C : Cx p s m args meth c cc nL ret own Ts D tys) (S : St D A s.heap w H locs) (hA : ∀ q, s.heap.size ≤ q → A q) {atype : ArrayType} {ty : FieldType} (hty : newarray.typeOf atype = ty) (harr : Cond.arrayClass (newarray.typeOf atype) ∈ Ts) {n : Int32} {N : Nat} (ha : ∀ cA : ClassId, vp_cell cA (N, .inl (fun _ => 0)) = arrV cA N (fun _ => defaultValue ty)) (hn : ¬ n < 0) (hN : n.toNatClampNeg = N) (hby : N * componentBytes ty ≤ 536870912) (hcells : cells + 1 ≤ R.cells) (hslots : slots + N ≤ R.slots) (hdg : decode cc pc = .ok (.newarray atype, 2))
    (kk : ∀ (q : Nat) (cA : ClassId) (H : Heap), Cx p s m args meth c cc nL ret own Ts D (tys ++ [(cA, ty)]) → St D A s.heap (w ++ [(q, .inl (cA, N, .inl (fun _ => 0)))]) H locs → W p l e R s m args below meth c H locs (cells + 1) (slots + N) Q (F0 m (pc + 2) ls (.ref q :: rest))) : W p l e R s m args below meth c H locs cells slots Q (F0 m pc ls (.int n :: rest)) := by
  obtain ⟨hx, hb, hr, hml, hown, hts, hlk, hK⟩ := C
  exact va_newa hx hb (hts _ harr) hty hK S.1 S.2.1 S.2.2 hA (a0 := (N, .inl (fun _ => 0))) ha hn hN hby hcells hslots hdg (fun q cA H1 h1 h2 h3 h4 => kk q cA H1 ⟨hx, hb, hr, hml, hown, hts, hlk, h1⟩ ⟨h2, h3, h4⟩)
theorem rnew (C : Cx p s m args meth c cc nL ret own Ts D tys) (S : St D A s.heap w H locs) (hA : ∀ q, s.heap.size ≤ q → A q) {Cn : String} {T : u_T} {N ci index : Nat} (hin : ∀ x ∈ u_ws Cn T N, x ∈ Ts) {ty0 : Nat → FieldType} (hty : ∀ k, k < N → parseFieldDescriptor (T k).2.2.1 = some (ty0 k)) (hcl : Cond.classLink own index Cn ∈ Ts) (hinst : Cond.instantiable Cn N ∈ Ts) (hini : Cond.initialized Cn ∈ Ts) (hc : vwCl[ci]? = some (Cn, T, N)) {fs : List Value} (hfs : ∀ j, j < N → defaultValue (ty0 j) = vp_V fs j) (hcells : cells + 1 ≤ R.cells) (hslots : slots + N ≤ R.slots) (hdg : decode cc pc = .ok (.new index, 3))
    (kk : ∀ (q : Nat) (H : Heap), St D A s.heap (w ++ [(q, .inr (ci, fs))]) H locs → W p l e R s m args below meth c H locs (cells + 1) (slots + N) Q (F0 m (pc + 3) ls (.ref q :: rest))) : W p l e R s m args below meth c H locs cells slots Q (F0 m pc ls rest) := by
  obtain ⟨hx, hb, hr, hml, hown, hts, hlk, hK⟩ := C
  exact va_new hx hb hts hin ty0 hty hown (hts _ hcl) (hts _ hinst) (hts _ hini) hK S.1 S.2.1 S.2.2 hA hc hfs hcells hslots hdg (fun q H1 h2 h3 h4 => kk q H1 ⟨h2, h3, h4⟩)
theorem rtn {U : Type} {wf : U → va_W} {tf : U → List (ClassId × FieldType)} (u : U) (C : Cx p s m args meth c cc nL none own Ts D tys) (S : St D (va_A w0 s.heap.size) s.heap w H locs) (isT : List Nat) (ht : isT.filterMap (fun i => tys[i]?) = tf u) (isW : List Nat) (hnd : va_nd isW = true) (hw : isW.map (fun i => w[i]?) = (wf u).map some) (hw2 : isW.filterMap (fun i => w[i]?) = wf u) (hdg : decode cc pc = .ok (.return_, 1)) :
    W p l e R s m args below meth c H locs cells slots (MQ below (kN D w0 wf tf s.heap.size) args s cells slots (va_A w0 s.heap.size)) (F0 m pc ls []) := by
  obtain ⟨hx, hb, hr, hml, hown, hts, hlk, hK⟩ := C
  have hP9 := S.1.sub isW hw2
  have hD9 := S.2.1.sub isW hnd hw
  have hK9 := hK.sub isT ht
  exact W.vret hx hb hr (fun t ht hW => ⟨⟨u, rfl, trivial, by rw [ht]; exact hP9, va_K.moved hW.alike hK9, hD9⟩, S.2.2.F ht⟩) S.2.2.2.2 hdg hlk
theorem St.freeC (S : St D A s.heap w H locs) (hA : ∀ q, s.heap.size ≤ q → A q) {wc : va_W} (isC : List Nat) (hC : isC.map (fun i => w[i]?) = wc.map some) : ∀ q, va_A wc H.size q → A q := va_free S.2.1 S.2.2 hA isC hC
theorem rjoin {U : Type} {wf : U → va_W} {tf : U → List (ClassId × FieldType)} {t : State} {H1 : Heap} {locs1 : List Loc} {u : U} {wc wr : va_W} (S : St D A s.heap w H locs) (hA : ∀ q, s.heap.size ≤ q → A q) (isC isR : List Nat) (hC : isC.map (fun i => w[i]?) = wc.map some) (hR : isR.map (fun i => w[i]?) = wr.map some) (hn : va_nd isR = true) (hdis : ∀ i ∈ isR, i ∉ isC) (ht : t.heap = H1)
    (hB : va_P D vwCl (wf u) t.heap ∧ va_K D vwCl (tf u) t ∧ va_D (va_A wc H.size) (wf u)) (hk1 : ∀ q : Nat, q < H.size → ¬ va_A wc H.size q → H1[q]? = H[q]?) (hS1 : va_S A s.heap H1 locs1) : St D A s.heap (wr ++ wf u) H1 locs1 := by
  obtain ⟨hP1, hK1, hD1⟩ := hB
  rw [ht] at hP1
  have h := va_join (wr := wr) (w1 := wf u) S.1 S.2.1 isC isR hC hR hn hdis hk1 (S.freeC hA isC hC) hP1 hD1
  exact ⟨h.1, h.2, hS1⟩
variable {y : MethodName} {wsY wsY' : List Cond} {rmY : Room} {byY : ByteArray} {mlY n index mc ms : Nat} {As st0 : List Value} {b : Nat} {host : String}
theorem rcI {U : Type} {wf : U → va_W} {tf : U → List (ClassId × FieldType)} {wc wr : va_W} (C : Cx p s m args meth c cc nL ret own Ts D tys) (S : St D A s.heap w H locs) (hA : ∀ q, s.heap.size ≤ q → A q) (isC isR : List Nat) (hC : isC.map (fun i => w[i]?) = wc.map some) (hC2 : isC.filterMap (fun i => w[i]?) = wc) (hCn : va_nd isC = true) (hR' : isR.map (fun i => w[i]?) = wr.map some) (hn' : va_nd isR = true) (hdis : ∀ i ∈ isR, i ∉ isC)
    (hM : ∀ sz, Met l y wsY rmY (kP D [] (.ref b :: As) wc sz) (kN D wc wf tf sz) mc ms (va_A wc sz)) (hG : GoodIn Ts wsY) (hw : wsY = Cond.code y byY mlY none :: wsY') (hrc : rmY.cells = mc ∧ rmY.slots = ms) (hy1 : y.name = "<init>") (hini : Cond.initialized y.cls ∈ Ts) (hlk : Cond.methodLink own index y ∈ Ts) (him : Cond.instanceMethod y ∈ Ts)
    (hd : y.cls ≠ "java/lang/invoke/MethodHandle" ∧ y.cls ≠ "java/lang/invoke/VarHandle" ∧ (parseMethodDescriptor y.desc).map (fun d => d.parameters.length) = some n) (hR : rmY.frames + 1 ≤ R.frames ∧ 8 + (mlY + 11) + rmY.locals ≤ R.locals)
    (hn : As.length = n) (hsize : ls.size = nL) (hst : st0 = As.reverse ++ .ref b :: rest) (hW : (rest.map fun v => v.category).sum ≤ 8) (hdg : decode cc pc = .ok (.invokespecial index, 3)) (hf : cells + mc ≤ R.cells ∧ slots + ms ≤ R.slots)
    (kk : ∀ (u : U) (H : Heap) (locs : List Loc), Cx p s m args meth c cc nL ret own Ts D (tys ++ tf u) → St D A s.heap (wr ++ wf u) H locs → W p l e R s m args below meth c H locs (cells + mc) (slots + ms) Q (F0 m (pc + 3) ls rest)) : W p l e R s m args below meth c H locs cells slots Q (F0 m pc ls st0) := by
  obtain ⟨hx, hb, hr, hml, hown, hts, hlo, hK⟩ := C
  have hFc := S.freeC hA isC hC
  have hPc := S.1.sub isC hC2
  have hDc := S.2.1.sub isC hCn hC
  have hKc := hK.sub (tys' := []) [] rfl
  refine va_callv (va_runI (As := As) (rest := rest) ⟨hx, hb, hml, hown, hts⟩ (hM H.size) ⟨callB_of n hts hG hw hrc.1 hrc.2 (hts _ hini) (hts _ hlk) hd hR, hy1, hts _ him⟩ ⟨kP_blind, fun U hU hW => ⟨rfl, by rw [hU], by rw [hU]; exact hPc, va_K.moved hW.alike hKc, hDc.weaken (fun _ _ _ _ => trivial)⟩⟩ rfl hn hsize hst (lv_room hW) hdg hf) S.2.2 (fun q _ h => hFc q h) hFc (fun u t H1 locs1 ht hvm hw1 hB hz1 hk1 hS1 => ?_)
  exact kk u H1 locs1 ⟨hx, hb, hr, hml, hown, hts, hlo, hK.app (va_K.moved hvm.symm hB.2.1)⟩ (rjoin S hA isC isR hC hR' hn' hdis ht hB hk1 hS1)
theorem rcIN {U : Type} {wf : U → va_W} {tf : U → List (ClassId × FieldType)} {wc wr : va_W} (C : Cx p s m args meth c cc nL ret own Ts D tys) (S : St D A s.heap w H locs) (hA : ∀ q, s.heap.size ≤ q → A q) (isC isR : List Nat) (hC : isC.map (fun i => w[i]?) = wc.map some) (hC2 : isC.filterMap (fun i => w[i]?) = wc) (hCn : va_nd isC = true) (hR' : isR.map (fun i => w[i]?) = wr.map some) (hn' : va_nd isR = true) (hdis : ∀ i ∈ isR, i ∉ isC)
    (hM : ∀ sz, Met l y wsY rmY (kP D [] (.ref b :: As) wc sz) (kN D wc wf tf sz) mc ms (va_A wc sz)) (hG : GoodIn Ts wsY) (hw : wsY = Cond.code y byY mlY none :: wsY') (hrc : rmY.cells = mc ∧ rmY.slots = ms) (hy1 : y.name = "<init>") (hini : Cond.initialized y.cls ∈ Ts) (hlk : va_Nw (.methodLinkNest own index y host) s) (him : Cond.instanceMethod y ∈ Ts)
    (hd : y.cls ≠ "java/lang/invoke/MethodHandle" ∧ y.cls ≠ "java/lang/invoke/VarHandle" ∧ (parseMethodDescriptor y.desc).map (fun d => d.parameters.length) = some n) (hR : rmY.frames + 1 ≤ R.frames ∧ 8 + (mlY + 11) + rmY.locals ≤ R.locals)
    (hn : As.length = n) (hsize : ls.size = nL) (hst : st0 = As.reverse ++ .ref b :: rest) (hW : (rest.map fun v => v.category).sum ≤ 8) (hdg : decode cc pc = .ok (.invokespecial index, 3)) (hf : cells + mc ≤ R.cells ∧ slots + ms ≤ R.slots)
    (kk : ∀ (u : U) (H : Heap) (locs : List Loc), Cx p s m args meth c cc nL ret own Ts D (tys ++ tf u) → St D A s.heap (wr ++ wf u) H locs → W p l e R s m args below meth c H locs (cells + mc) (slots + ms) Q (F0 m (pc + 3) ls rest)) : W p l e R s m args below meth c H locs cells slots Q (F0 m pc ls st0) := by
  obtain ⟨hx, hb, hr, hml, hown, hts, hlo, hK⟩ := C
  have hFc := S.freeC hA isC hC
  have hPc := S.1.sub isC hC2
  have hDc := S.2.1.sub isC hCn hC
  have hKc := hK.sub (tys' := []) [] rfl
  refine va_callv (va_runIN (As := As) (rest := rest) ⟨hx, hb, hml, hown, hts⟩ (hM H.size) ⟨va_cnB n hts hG hw hrc.1 hrc.2 hlk (hts _ hini) hd hR, hy1, hts _ him⟩ ⟨kP_blind, fun U hU hW => ⟨rfl, by rw [hU], by rw [hU]; exact hPc, va_K.moved hW.alike hKc, hDc.weaken (fun _ _ _ _ => trivial)⟩⟩ rfl hn hsize hst (lv_room hW) hdg hf) S.2.2 (fun q _ h => hFc q h) hFc (fun u t H1 locs1 ht hvm hw1 hB hz1 hk1 hS1 => ?_)
  exact kk u H1 locs1 ⟨hx, hb, hr, hml, hown, hts, hlo, hK.app (va_K.moved hvm.symm hB.2.1)⟩ (rjoin S hA isC isR hC hR' hn' hdis ht hB hk1 hS1)
end ON
