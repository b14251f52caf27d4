/-! OWN KIT 3: what throws. The class throws ArrayIndexOutOfBoundsException by 'new; dup; invokespecial; athrow' out of cellOf and count, ahead of any write; it passes through poke and byteAt; the law's helpers catch it. -/
def EXS : List String := ["java/lang/IndexOutOfBoundsException", "java/lang/RuntimeException", "java/lang/Exception"]
def EXA : List Cond := Bundle.ownAtoms0 RX5 173 RJx00060 EXS
/-- the words of the exception hold in U -/
def xE (U : State) : Prop := ∀ (A : Array Value), ∀ a ∈ EXA, a.before A U = true
def xs1 : Cond := .isRef (.static Bundle.tN "UNASSIGNED_STACK" Bundle.steD)
def xs2 : Cond := .isRef (.static Bundle.tN "SUPPRESSED_SENTINEL" Bundle.listD)
def xs3 : Cond := .laysStatic Bundle.tN "UNASSIGNED_STACK" Bundle.steD
def xs4 : Cond := .laysStatic Bundle.tN "SUPPRESSED_SENTINEL" Bundle.listD
def xOk (a : Cond) : Bool := (a.onTables && a.keepsFace) || decide (a = xs1) || decide (a = xs2) || decide (a = xs3) || decide (a = xs4)
theorem EXA_ok : EXA.all xOk = true := by decide +kernel
theorem EXA_ini : Cond.initialized Bundle.tN ∈ EXA := by decide +kernel
theorem EXA_1 : xs1 ∈ EXA := by decide +kernel
theorem EXA_2 : xs2 ∈ EXA := by decide +kernel
theorem EXA_3 : xs3 ∈ EXA := by decide +kernel
theorem EXA_4 : xs4 ∈ EXA := by decide +kernel
/-- heap cells of s are cells of U -/
def xH (s U : State) : Prop := ∀ (q : Nat) (c : Cell), s.heap[q]? = some c → U.heap[q]? = some c
theorem x_lays {C n d : String} {s U : State} {A A' : Array Value} (hW : s.WarmedH U.vm) (hh : xH s U) (h : (Cond.laysStatic C n d).before A s = true) : (Cond.laysStatic C n d).before A' U = true := by
  obtain ⟨c, k, i, f, a, cell, h1, h2, h3, h4, h5, h6, h7, h8, h9⟩ := Cond.laysStatic_spec h
  obtain ⟨k', hi', he⟩ := State.fieldFound?_setVm hW.alike h2
  show (Cond.laysStatic C n d).holds A' U none U [] = true
  exact Cond.laysStatic_of (by rw [hW.alike.findClass]; exact h1) hi' h3 (by rw [he]; exact h4) (hh a cell h5) h6 h7 h8 (by rw [he]; exact h9)
theorem x_isRef {C n d : String} {s U : State} {A A' : Array Value} (hW : s.WarmedH U.vm) (hh : xH s U) (hl : (Cond.laysStatic C n d).before A s = true) (hi : (Cond.initialized C).before A s = true) (h : (Cond.isRef (.static C n d)).before A s = true) : (Cond.isRef (.static C n d)).before A' U = true := by
  have key : ∀ v : Value, v.isRef = true → va_Z C n d v (fun _ => False) s s.heap → (Cond.isRef (.static C n d)).before A' U = true := by
    intro v hv hz
    obtain ⟨cf, kf, fi, f, a, cell, h1, h2, h3, h4, h5, h6, h7, -⟩ := va_Z.moved hW.alike hz
    have h5' := hh a cell h5
    have he : (Term.static C n d).eval A' U none [] U = some v := by
      simp [Term.eval, State.fieldNamed?, h1, h2, h4, h5', h6, h7]
    simp only [Cond.before, Cond.holds, Cond.value, he]
    cases v <;> simp_all [Value.isRef]
  rcases va_Zqof (A := fun _ => False) hl hi h (fun _ _ z => z) with hz | ⟨t, hz⟩
  · exact key _ rfl hz
  · exact key _ rfl hz
theorem xE_move {s U : State} (hW : s.WarmedH U.vm) (hh : xH s U) (h : xE s) : xE U := by
  intro A a ha
  have hok := List.all_eq_true.mp EXA_ok a ha
  simp only [xOk, Bool.or_eq_true, Bool.and_eq_true, decide_eq_true_eq] at hok
  rcases hok with (((⟨h1, h2⟩ | rfl) | rfl) | rfl) | rfl
  · have h3 : a.before #[] (s.setVm U.vm) = true := Cond.before_shiftedFace (State.Shifted.of_warmed hW) a h2 (h #[] a ha)
    exact va_tabs h1 (rfl : (s.setVm U.vm).vm = U.vm) h3
  · exact x_isRef (A := #[]) hW hh (h #[] _ EXA_3) (h #[] _ EXA_ini) (h #[] _ EXA_1)
  · exact x_isRef (A := #[]) hW hh (h #[] _ EXA_4) (h #[] _ EXA_ini) (h #[] _ EXA_2)
  · exact x_lays (A := #[]) hW hh (h #[] _ EXA_3)
  · exact x_lays (A := #[]) hW hh (h #[] _ EXA_4)
/-- the method threw the exception; no cell that was there has changed; one cell is new -/
def xT (st : State) (o : Outcome) (t : State) : Prop := ∃ (q : Addr) (ce : Cell), o = .threw q ∧ t.heap[q]? = some ce ∧ ce.vm = .none ∧ st.vm.findClass RJx00060 = some ce.cls ∧ st.WarmedH t.vm ∧ st.sameButNew ({ t with vm := st.vm } : State) [] 1 6
def xMQ (below : List Frame) (s : State) : State → Prop := fun t => ∃ o, t.status = .running ∧ Ended t below o ∧ xT s o t
def xP (D : va_G) (tys : List (ClassId × FieldType)) (av : List Value) (w : va_W) (sz : Nat) : Array Value → State → Prop := va_Pc av (fun U => (U.heap.size = sz ∧ va_P D vwCl w U.heap ∧ va_K D vwCl tys U ∧ va_D (fun _ => True) w) ∧ xE U)
theorem xE_calling {U : State} {g : JFrame} {mk : MethodId} {a : Array Value} (h : xE U) : xE (U.calling g mk a) := xE_move (s := U) (U := U.calling g mk a) (State.WarmedH.refl U) (fun _ _ h => h) h
theorem xP_blind {D : va_G} {tys : List (ClassId × FieldType)} {av : List Value} {w : va_W} {sz : Nat} : FrameBlind (xP D tys av w sz) := fun a U g mk q => by
  obtain ⟨q0, ⟨q1, qP, qK, qD⟩, qE⟩ := q
  exact ⟨q0, ⟨q1, qP, va_K.moved (u := U) (U := U.calling g mk a) (Vm.Alike.refl U.vm) qK, qD⟩, xE_calling qE⟩
/-- a contract of a method that throws -/
def MT (l : Launch) (y : MethodName) (ws : List Cond) (rm : Room) (Pc : Array Value → State → Prop) : Prop := MetFree l y (headSpec ws rm) Pc (fun _ _ _ _ _ => True) (fun _ st o t => xT st o t)
theorem entT {l : Launch} {y : MethodName} {ws ws' : List Cond} {rm : Room} {cc : ByteArray} {maxL sz : Nat} {ret : Option FieldType} {own : String} {D : va_G} {tys : List (ClassId × FieldType)} {av : List Value} {w : va_W}
    (hy : plainName y.cls = true) (hw : ws = Cond.code y cc maxL ret :: ws') (hown : y.cls = own) (hal : (lg_sl av).length ≤ maxL)
    (body : ∀ (p : Program) (e : Env) (s : State) (m : MethodId) (args : Array Value) (below : List Frame) (meth : Method) (c : Code), s.heap.size = sz → c.exceptionTable.toList = [] → Cx p s m args meth c cc maxL ret own ws D tys → xE s → va_P D vwCl w s.heap → va_D (fun _ => True) w → ∀ ls, lv_has ls maxL (lv_args 0 av) →
      W p l e rm s m args below meth c s.heap [] 0 0 (xMQ below s) (F0 m 0 ls [])) : MT l y ws rm (xP D tys av w sz) := by
  refine MetFree.of_bodyS (code := cc) (maxLocals := maxL) (ret := ret) hy ?_ ?_
  · intro args s m h hn
    obtain ⟨meth, c, h1, h2, h3, h4, h5, h6, -, -⟩ := Cond.code_spec hn (atoms_spec (ws := ws) h _ (by rw [hw]; exact List.mem_cons_self))
    exact ⟨meth, c, h1, h2, h3, h4, h5, h6⟩
  · intro p e s m args below meth c s₁ B hml hv _
    obtain ⟨rfl, ⟨hsz, hP, hK, hD0⟩, hE⟩ := hv
    have hts := atoms_spec (ws := ws) B.pre
    have ho : s.vm.findClass y.cls = some m.cls := findClass_of_methodNamed B.named
    have hnh := B.noHandlers (hts _ (by rw [hw]; exact List.mem_cons_self))
    have hnl : c.exceptionTable.toList = [] := by
      have h9 := hnh
      rw [Array.isEmpty_iff] at h9
      rw [h9]
    rw [hown] at ho
    have hl := lv_entry av (n := maxL) hal
    have hh0 : s₁.heap = s.heap := by rw [B.state]; rfl
    have K := body p e s m av.toArray below meth c hsz hnl ⟨B.exec, B.bytes, B.returns, hml, ho, hts, B.notSynchronized, hK⟩ hE hP hD0 _ hl
    rw [← lg_entry_eq] at K
    obtain ⟨t, a1, o, b1, b2, b3⟩ := K s₁ hh0 (Stand.of_body B)
    exact ⟨t, o, a1, b1, b2, b3⟩
section OT
variable {p : Program} {l : Launch} {e : Env} {R : Room} {s : State} {m : MethodId} {args : Array Value} {below : List Frame} {meth : Method} {c : Code} {H : Heap} {locs : List Loc} {cells slots : Nat} {Q : State → Prop}
variable {cc : ByteArray} {pc nL : Nat} {ret : Option FieldType} {own : String} {Ts : List Cond} {ls : Array Slot} {rest : List Value} {D : va_G} {tys : List (ClassId × FieldType)} {w : va_W}
/-- nothing of what was there has changed -/
theorem nil_locs {H0 : Heap} (h : va_S (fun _ => False) H0 H locs) : locs = [] := by
  cases locs with
  | nil => rfl
  | cons a t => exact (h.2.2 a List.mem_cons_self).elim
/-- 'throw new ArrayIndexOutOfBoundsException()' in a method of the landed class that has changed nothing -/
theorem rthr (hfl : l.flags = flags0) (C : Cx p s m args meth c cc nL ret RX5 Ts D tys) (hE : xE s) (hnh : c.exceptionTable.toList = []) (hS : va_S (fun _ => False) s.heap H locs) (hsize : ls.size = nL)
    (hk : Cond.classLink RX5 171 RJx00060 ∈ Ts) (hini : Cond.initialized RJx00060 ∈ Ts)
    (d0 : decode cc pc = .ok (.new 171, 3)) (d3 : decode cc (pc + 3) = .ok (.dup, 1)) (d4 : decode cc (pc + 4) = .ok (.invokespecial 173, 3)) (d7 : decode cc (pc + 7) = .ok (.athrow, 1))
    (hRf : 6 < R.frames) (hRl : 94 ≤ R.locals) (hRc : 1 ≤ R.cells) (hRs : 6 ≤ R.slots) :
    W p l e R s m args below meth c H locs 0 0 (xMQ below s) (F0 m pc ls []) := by
  cases nil_locs hS
  obtain ⟨hx, hb, hr, hml, hown, hts, hlk, hK⟩ := C
  intro T hT X
  have htr : e.platform.stackTraces = false := Launch.traces_off hfl X.admits
  have hins : (Cond.instantiable RJx00060 6).before args s = true := hE args _ (by decide +kernel)
  obtain ⟨vm₁, cX, kX, hfX, hkX, -, -, X₁, st1⟩ := X.newCold hx hown (hts _ hk) hins (hts _ hini) (g := F0 m pc ls []) rfl (by rw [hb]; exact d0) hRc hRs
  have d3' : decode c.code (pc + 3) = .ok (.dup, 1) := by rw [hb]; exact d3
  generalize hT1 : (T.setVm vm₁).pushCell { cls := cX, slots := kX.instanceTypes.map defaultValue, vm := .none } = T1 at X₁ st1
  have hcA : T1.heap[T.heap.size]? = some (freshCell cX kX) := by rw [← hT1]; exact State.heap_pushCell_size _ _
  have hge : s.heap.size ≤ T.heap.size := by rw [hT]; exact hS.1
  obtain ⟨U, hst, hrun, hend, hW, hsame, ce, hce, hO⟩ := X₁.ctorThrow0 hx htr (own := RX5) (cls := RJx00060) (names := EXS) (ic := 173) hown (by decide +kernel) (by decide +kernel) (hE args) (fun x hx => nomatch hx) hfX hkX hcA hge
    (g := { method := m, pc := pc + 4, locals := ls, stack := [.ref T.heap.size, .ref T.heap.size], locked := none }) rfl (by rw [hml]; exact hsize) rfl rfl (rest := []) rfl (by rw [hb]; exact d4) (by rw [hb]; exact d7) (by rw [hnh]; exact fun x hx => nomatch hx) hRf (by
      show 2 * 0 + (1 + 0) + (13 * (3 + 1) + 41) ≤ R.locals
      omega) hlk
  refine ⟨U, ?_, .threw T.heap.size, hrun, hend, T.heap.size, ce, rfl, hce, hO.vm, hO.cls, hW, hsame⟩
  refine st1 _ ?_
  show Steps p.tables e below (T1.setTop { method := m, pc := pc + 3, locals := ls, stack := [.ref T.heap.size], locked := none }) _
  jvm_step X₁.here [X₁.here.top, hx, d3', Value.category]
  exact hst
variable {y : MethodName} {wsY wsY' : List Cond} {rmY : Room} {byY : ByteArray} {mlY n index : Nat} {reY : Option FieldType} {Cn : String} {As st0 : List Value} {b : Nat} {Pc : Array Value → State → Prop}
/-- a call of a method that throws: the invocation stands again, the exception over its frame -/
theorem call_thr (hx : p.tables.exec = Jvm.exec) (hb : c.code = cc) (hml : c.maxLocals = nL) (hown : s.vm.findClass own = some m.cls) (hts : ∀ w ∈ Ts, w.before args s = true) (hM : MT l y wsY rmY Pc) (hG : GoodIn Ts (wsV own index Cn y wsY)) (hw : wsY = Cond.code y byY mlY reY :: wsY')
    (hd : y.cls = Cn ∧ y.cls ≠ "java/lang/invoke/MethodHandle" ∧ y.cls ≠ "java/lang/invoke/VarHandle" ∧ (parseMethodDescriptor y.desc).map (fun d => d.parameters.length) = some n) (hR : rmY.frames + 1 ≤ R.frames ∧ 8 + (mlY + 11) + rmY.locals ≤ R.locals)
    {T : State} (X : Stand p l e R s m args below meth c T locs cells slots) {cellB : Cell} (hcell : T.heap[b]? = some cellB) (hobj : cellB.vm.isStatics = false) (hcls : s.vm.findClass Cn = some cellB.cls)
    (hbl : FrameBlind Pc) (hPc : ∀ U : State, U.heap = T.heap → s.WarmedH U.vm → Pc (Value.ref b :: As).toArray U) (hn : As.length = n) (hsize : ls.size = nL) (hst : st0 = As.reverse ++ .ref b :: rest) (hW : (rest.map fun v => v.category).sum ≤ 8) (hdg : decode cc pc = .ok (.invokevirtual index, 3))
    (hc : cells + rmY.cells ≤ R.cells) (hs : slots + rmY.slots ≤ R.slots) :
    ∃ (q : Addr) (ce : Cell) (T' : State), Stand p l e R s m args below meth c T' locs (cells + 1) (slots + 6) ∧ T'.heap[q]? = some ce ∧ ce.vm = .none ∧ s.vm.findClass RJx00060 = some ce.cls ∧ T.heap.size ≤ T'.heap.size ∧ (∀ (a : Nat) (c : Cell), T.heap[a]? = some c → T'.heap[a]? = some c) ∧
      Steps p.tables e below (T.setTop (F0 m pc ls st0)) ((T'.setTop (F0 m pc ls rest)).pushFrame (.throwing q)) := by
  obtain ⟨hC, hd⟩ := hd
  subst hC
  have ok : ∀ w ∈ wsV own index y.cls y wsY, w.before args s = true := fun w h => hts w (hG w h).1
  have hlink : (Cond.methodLink own index y).before args s = true := ok _ (by simp [wsV])
  have hinst : (Cond.instanceMethod y).before args s = true := ok _ (by simp [wsV])
  have hsel : (Cond.selects y.cls y y).before args s = true := ok _ (by simp [wsV])
  have hini : (Cond.initialized y.cls).before args s = true := ok _ (by simp [wsV])
  have hGY : GoodIn Ts wsY := fun w h => hG w (by unfold wsV; exact List.mem_append_right _ h)
  have hcm : Cond.code y byY mlY reY ∈ wsY := by rw [hw]; exact List.mem_cons_self
  have hcode : (Cond.code y byY mlY reY).before args s = true := hts _ (hGY _ hcm).1
  have hy : y.cls ≠ "java/lang/invoke/MethodHandle" ∧ y.cls ≠ "java/lang/invoke/VarHandle" := ⟨hd.1, hd.2.1⟩
  obtain ⟨mk, methM, hnamed, hmethM, hstM, habM⟩ := Cond.instanceMethod_spec hinst
  obtain ⟨methM', cM, hmethM', hcM, -, hlM, -, -, -, hsigM⟩ := Cond.code_spec hnamed hcode
  cases hmethM.symm.trans hmethM'
  obtain ⟨c2, r2, m2, q1, q2, q3, q4, kP, hkP, hkPi⟩ := Cond.selects_spec hsel
  cases hcls.symm.trans q1
  cases (State.methodFound?_of_named hnamed hy).symm.trans q2
  cases hnamed.symm.trans q3
  have hselP : selectMethod e.platform s.vm cellB.cls mk = .method mk := by rw [Launch.admits_selectMethod X.admits]; exact q4
  have hlen : As.length = methM.sig.parameters.length := by
    have h2 := hd.2.2
    rw [hsigM] at h2
    exact hn.trans (Option.some.inj h2).symm
  obtain ⟨vm₁, X₁, hstep₁⟩ := X.invokevirtual hx hown hlink hnamed hmethM hstM hkP hkPi hy (a := b) (cell := cellB) hcell
    (fun z h => by rw [h] at hobj; cases hobj) hselP hmethM habM hkP hkPi (g := F0 m pc ls st0) rfl (argsL := As) (rest := rest) hlen hst (by rw [hb]; exact hdg)
  have hmv := pay_in hts hGY
  have hpre : (headSpec wsY rmY).pre.before (Value.ref b :: As).toArray (T.setVm vm₁) = true := atoms_intro fun w hw => hmv w hw _ _ X₁.warmed
  have hnm1 : (T.setVm vm₁).methodNamed? y = some mk := X₁.named hnamed
  have hcode1 : (Cond.code y byY mlY reY).before (Value.ref b :: As).toArray (T.setVm vm₁) = true := hmv _ hcm _ _ X₁.warmed
  obtain ⟨methY, cY, hmY, hcY, -, hlY, -, -, -, -⟩ := Cond.code_spec hnm1 hcode1
  obtain ⟨kY, hkY, -⟩ := className_of_methodNamed hnm1
  have hini1 : (Cond.initialized y.cls).before (Value.ref b :: As).toArray (T.setVm vm₁) = true := word_at X₁.warmed (Or.inl (by first | rfl | simp [Cond.onTables, Cond.keeps, Cond.steady])) hini
  have hinitY : kY.init = .initialized := Cond.initialized_spec (findClass_of_methodNamed hnm1) hkY hini1
  have h : At (T.setVm vm₁) m c below := X₁.here
  have hdg1 : decode c.code (F0 m pc ls rest).pc = .ok (.invokevirtual index, 3) := by rw [hb]; exact hdg
  have happ : (headSpec wsY rmY).appliesLoose y e.platform ((T.setVm vm₁).calling (F0 m pc ls rest) mk (Value.ref b :: As).toArray) = true :=
    Spec.appliesLoose_calling (g := F0 m pc ls rest) h hdg1 hnm1 hkY hinitY
      (X₁.room_calling (g := F0 m pc ls rest) (R' := rmY) (by rw [hml]; exact hsize) hmY hcY hR.1 (by
        have h8 := lv_room (m := m) (pc := pc) (ls := ls) (rest := rest) hW
        rw [hlY]
        have h9 : 2 * (F0 m pc ls rest).monitorRoom + (rest.map fun v => v.category).sum + (mlY + 11) + rmY.locals ≤ R.locals := by omega
        exact h9) hc hs) hpre
  obtain ⟨mid, hmid⟩ := h.above
  have hfr : ((T.setVm vm₁).setTop (F0 m pc ls rest)).frames = (.java (F0 m pc ls rest) :: mid) ++ below := by rw [State.frames_setTop' _ h.top, hmid]; rfl
  obtain ⟨o, s₂, hsteps, -, hend, hq⟩ := Steps.callFree hM p X.admits X.cas X.clock (acts := []) hfr happ (hbl _ _ _ _ (hPc (T.setVm vm₁) rfl X₁.warmed)) trivial
  rw [State.frames_setTop' _ h.top] at hend
  obtain ⟨q, ce, rfl, hce, hcv, hcl, hW2, hsm⟩ := hq
  obtain ⟨T', X', hW3, hsm3, rfl⟩ := X₁.outOfThrown (g := F0 m pc ls rest) rfl (by rw [← X₁.tail]; exact hend) hW2 hsm
  refine ⟨q, ce, T', by simpa using X', ?_, hcv, ?_, hsm3.2.1, ?_, ?_⟩
  · exact hce
  · have h9 : (T.setVm vm₁).vm.findClass RJx00060 = some ce.cls := hcl
    rw [X₁.warmed.alike.findClass] at h9
    exact h9
  · intro a c9 h9
    obtain ⟨c8, e1, e2, e3, e4⟩ := hsm3.2.2.2.2.2 a c9 h9
    have hs8 : c8.slots = c9.slots := Array.ext_getElem? fun i => e4 i (fun hm => nomatch hm)
    rw [hs8] at e2
    have e5 : c8 = c9 := e2
    rw [← e5]
    exact e1
  · exact hstep₁ _ fun acts => by rw [doInvoke_state]; exact hsteps
/-- .. and it leaves this method too -/
theorem rcT (C : Cx p s m args meth c cc nL ret own Ts D tys) (hnh : c.exceptionTable.toList = []) (hM : MT l y wsY rmY Pc) (hG : GoodIn Ts (wsV own index Cn y wsY)) (hw : wsY = Cond.code y byY mlY reY :: wsY')
    (hd : y.cls = Cn ∧ y.cls ≠ "java/lang/invoke/MethodHandle" ∧ y.cls ≠ "java/lang/invoke/VarHandle" ∧ (parseMethodDescriptor y.desc).map (fun d => d.parameters.length) = some n) (hR : rmY.frames + 1 ≤ R.frames ∧ 8 + (mlY + 11) + rmY.locals ≤ R.locals)
    {cellB : Cell} (hcell : s.heap[b]? = some cellB) (hobj : cellB.vm.isStatics = false) (hcls : s.vm.findClass Cn = some cellB.cls)
    (hbl : FrameBlind Pc) (hPc : ∀ U : State, U.heap = s.heap → s.WarmedH U.vm → Pc (Value.ref b :: As).toArray U) (hn : As.length = n) (hsize : ls.size = nL) (hst : st0 = As.reverse ++ .ref b :: rest) (hW : (rest.map fun v => v.category).sum ≤ 8) (hdg : decode cc pc = .ok (.invokevirtual index, 3))
    (hc : rmY.cells ≤ R.cells) (hs : rmY.slots ≤ R.slots) : W p l e R s m args below meth c s.heap [] 0 0 (xMQ below s) (F0 m pc ls st0) := by
  obtain ⟨hx, hb, hr, hml, hown, hts, hlk, hK⟩ := C
  intro T hT X
  obtain ⟨q, ce, T', X', h1, h2, h3, h4, h5, st⟩ := call_thr (pc := pc) (ls := ls) (st0 := st0) (rest := rest) hx hb hml hown hts hM hG hw hd hR X (by rw [hT]; exact hcell) hobj hcls hbl (fun U hU hW => hPc U (hU.trans hT) hW) hn hsize hst hW hdg (by omega) (by omega)
  obtain ⟨st1, hrun, hend, hWW, hsm⟩ := X'.leaveThrown q (g := F0 m pc ls rest) rfl rfl rfl (by rw [hnh]; exact fun x hx => nomatch hx) hlk
  exact ⟨_, st.trans st1, .threw q, hrun, hend, q, ce, rfl, h1, h2, h3, hWW, hsm⟩
end OT
