/-! the law's helpers: a call, caught -/
theorem goodIn_l {a b ws : List Cond} (h : GoodIn a ws) : GoodIn (a ++ b) ws := fun w hw => ⟨List.mem_append_left _ (h w hw).1, (h w hw).2⟩
theorem x_step {e : Env} {s : State} {a : Addr} {f : JFrame} {r : List Frame} {pc : Nat} {vm' : Vm} (hfind : ∀ (Q : Handler → Pre) (E : CtlPost) (d : Bool) (acts : List Action), Sem.wp (findHandler f a) Q E e d acts s ↔ Q (.found pc) d acts (s.setVm vm')) :
    (stepThrowing e s a (.java f :: r)).Is ((s.setVm vm').setFrames (.java { f with pc := pc, stack := [.ref a] } :: r)) [] := by
  simp only [stepThrowing, searchFrame, vmDo]
  generalize hr : Sem.go _ e false [] s = res
  obtain ⟨as, rfl, ha⟩ := Sem.eq_ok_of hr (a := Handler.found pc) (s' := s.setVm vm') (acts' := []) (by simp [hfind _ _ _ _])
  exact ⟨rfl, ha⟩
section OH
variable {p : Program} {l : Launch} {e : Env} {R : Room} {s : State} {m : MethodId} {args : Array Value} {below : List Frame} {meth : Method} {c : Code} {H : Heap} {locs : List Loc} {cells slots : Nat} {Q : State → Prop}
/-- the exception is caught by the one row of the method's table -/
theorem x_catch {T : State} (X : Stand p l e R s m args below meth c T locs cells slots) {own E : String} {q : Addr} {ce : Cell} {x : ExceptionTableEntry} {pc : Nat} {ls : Array Slot} {rest : List Value} (hown : s.vm.findClass own = some m.cls) (htab : c.exceptionTable.toList = [x]) (hcov : covers x pc = true) (h0 : x.catchType ≠ 0)
    (hlink : (Cond.classLink own x.catchType E).before args s = true) (hcast : (Cond.castable E E).before args s = true) (hcell : T.heap[q]? = some ce) (hv : ce.vm = .none) (hcl : s.vm.findClass E = some ce.cls) :
    ∃ vm', Stand p l e R s m args below meth c (T.setVm vm') locs cells slots ∧ ∀ target, Steps p.tables e below ((T.setVm vm').setTop (F0 m x.handlerPc ls [.ref q])) target → Steps p.tables e below ((T.setTop (F0 m pc ls rest)).pushFrame (.throwing q)) target := by
  have hpl : e.platform.magicAccessors = ({} : Platform).magicAccessors := by rw [X.admits.platform]
  obtain ⟨c3, c4, hc3, hc4, hasg⟩ := Cond.castable_spec hcast
  cases Option.some.inj (hc3.symm.trans hcl)
  cases Option.some.inj (hc4.symm.trans hcl)
  obtain ⟨c5, hc5, hcl5⟩ := Cond.classLink_spec hown hlink e.platform hpl
  cases Option.some.inj (hcl.symm.trans hc5)
  obtain ⟨dk, _, _, kt, hd, _, _, _, _, hkt, _, hopen⟩ := hcl5.here
  obtain ⟨kt', hkt', -⟩ := X.warmed.alike.2.2 _ _ hkt
  have hlk := X.warmed.classLinks hcl5
  have hWn : s.WarmedH (T.vm.noted m.cls x.catchType (.cls ce.cls)) := X.warmed.noted hd hopen (State.rightAt_cls hcl5)
  have hobj : ∀ k, ce.vm ≠ .statics k := fun k h => by rw [hv] at h; cases h
  have hasg' : T.vm.assignable ce.cls ce.cls = true := by rw [X.warmed.alike.assignable]; exact hasg
  have hal : T.vm.Alike (T.vm.noted m.cls x.catchType (.cls ce.cls)) := (Vm.Alike.refl T.vm).noted _ _ _
  obtain ⟨k2, hk2, -⟩ := hal.2.2 _ _ hkt'
  have hasg2 : (T.vm.noted m.cls x.catchType (.cls ce.cls)).assignable ce.cls ce.cls = true := by rw [hal.assignable]; exact hasg'
  refine ⟨_, X.noted hWn, fun target hrest => ?_⟩
  have hcov' := hcov
  simp only [covers] at hcov'
  have hfind : ∀ (Q : Handler → Pre) (E : CtlPost) (d : Bool) (acts : List Action), Sem.wp (findHandler (F0 m pc ls rest) q) Q E e d acts ((T.setTop (F0 m pc ls rest)).pushFrame (.throwing q)) ↔ Q (.found x.handlerPc) d acts (((T.setTop (F0 m pc ls rest)).pushFrame (.throwing q)).setVm (T.vm.noted m.cls x.catchType (.cls ce.cls))) := by
    intro Q E d acts
    rw [Jvm.W.findHandler_eq (meth := meth) (code := c) X.method' X.code, htab]
    have hlk' : ((T.setTop (F0 m pc ls rest)).pushFrame (.throwing q)).vm.ClassLinks e.platform m.cls x.catchType ce.cls := hlk
    have hce' : ((T.setTop (F0 m pc ls rest)).pushFrame (.throwing q)).heap[q]? = some ce := hcell
    obtain ⟨ha, ht⟩ := (resolveClass_links e.toSetting hlk').op (op := VmOp.resolveClass m.cls x.catchType) rfl
    have hvm9 : ((T.setTop (F0 m pc ls rest)).pushFrame (.throwing q)).vm = T.vm := rfl
    rw [hvm9] at ha ht
    simp [findHandler.go, hcov', h0, ha, ht, hce', hobj, hk2, hasg2, VmOp.dirties, VmOp.acts, hvm9]
  obtain ⟨hgo, hw⟩ := At.throwing (s := T) (g := F0 m pc ls rest) (c := c) (below := below) X.here q
  refine Steps.head hgo hw ?_
  rw [stepThread_throwing (frames_entered X.here.top _), (x_step (s := (T.setTop (F0 m pc ls rest)).pushFrame (.throwing q)) hfind).1]
  obtain ⟨g₀, hg⟩ := Option.isSome_iff_exists.mp X.here.top
  obtain ⟨r, hr⟩ := State.topJava?_eq_some.mp hg
  have hr' : (T.setVm (T.vm.noted m.cls x.catchType (.cls ce.cls))).frames = .java g₀ :: r := hr
  rw [State.setTop_of_frames _ hr'] at hrest
  have e1 : ∀ (u : State) (v : Vm) (F G : List Frame), ((u.setFrames F).setVm v).setFrames G = (u.setVm v).setFrames G := fun u v F G => by
    have h1 : (u.setFrames F).setVm v = (u.setVm v).setFrames F := rfl
    rw [h1, State.setFrames_setFrames]
  rw [hr, List.tail_cons, State.pushFrame, e1, State.setTop_of_frames _ hr, e1]
  exact hrest
end OH

/-- the world of a helper: the row of one long, and the landed object's -/
def wH (qo : Nat) (co : ClassId) (f : Nat → Int64) (w : va_W) : va_W := [(qo, .inl (co, 1, .inr (.inl f)))] ++ (w ++ [])
def tH (co : ClassId) (t : List (ClassId × FieldType)) : List (ClassId × FieldType) := [(co, .long)] ++ t
theorem tH_sub {co : ClassId} {t : List (ClassId × FieldType)} : ∀ q ∈ t, q ∈ tH co t := fun _ h => List.mem_append_right _ h
theorem entW {l : Launch} {y : MethodName} {ws ws' : List Cond} {rm : Room} {cc : ByteArray} {maxL sz mc ms : Nat} {ret : Option FieldType} {own : String} {D : va_G} {tys : List (ClassId × FieldType)} {av : List Value} {w : va_W} {Qc : Array Value → State → Outcome → State → Prop} {a1 a2 a3 a4 : Nat}
    (hy : plainName y.cls = true) (hw : ws = Cond.codeWith y cc maxL ret [(a1, a2, a3, a4)] :: ws') (hown : y.cls = own) (hal : (lg_sl av).length ≤ maxL)
    (body : ∀ (p : Program) (e : Env) (s : State) (m : MethodId) (args : Array Value) (below : List Frame) (meth : Method) (c : Code) (x : ExceptionTableEntry), s.heap.size = sz → c.exceptionTable.toList = [x] → x.startPc = a1 → x.endPc = a2 → x.handlerPc = a3 → x.catchType = a4 → Cx p s m args meth c cc maxL ret own ws D tys → xE s → St D (va_A w s.heap.size) s.heap w s.heap [] → ∀ ls, lv_has ls maxL (lv_args 0 av) →
      W p l e rm s m args below meth c s.heap [] 0 0 (MQ below Qc args s mc ms (va_A w s.heap.size)) (F0 m 0 ls [])) : Met l y ws rm (xP D tys av w sz) Qc mc ms (va_A w sz) := by
  refine va_MetW (cc := cc) (maxL := maxL) (ret := ret) hy hw ?_
  intro p e s m args below meth c s₁ B hml hv
  obtain ⟨rfl, ⟨hsz, hP, hK, hD0⟩, hE⟩ := hv
  have hts := atoms_spec (ws := ws) B.pre
  have ho : s.vm.findClass y.cls = some m.cls := findClass_of_methodNamed B.named
  obtain ⟨m9, meth9, c9, hn9, hm9, hc9, -, -, htab, -⟩ := Cond.codeWith_spec (hts _ (by rw [hw]; exact List.mem_cons_self))
  cases B.named.symm.trans hn9
  cases B.method.symm.trans hm9
  cases (Stand.of_body B).code.symm.trans hc9
  rw [hown] at ho
  subst hsz
  have hD := hD0.self (sz := s.heap.size)
  have hS : va_S (va_A w s.heap.size) s.heap s.heap [] := va_S.rf
  have hl := lv_entry av (n := maxL) hal
  rw [lg_entry_eq]
  obtain ⟨x, hx, h1, h2, h3, h4⟩ : ∃ x, c.exceptionTable.toList = [x] ∧ x.startPc = a1 ∧ x.endPc = a2 ∧ x.handlerPc = a3 ∧ x.catchType = a4 := by
    cases hL : c.exceptionTable.toList with
    | nil => rw [hL] at htab; simp at htab
    | cons x t =>
      rw [hL] at htab
      simp at htab
      exact ⟨x, by rw [htab.2], htab.1.1, htab.1.2.1, htab.1.2.2.1, htab.1.2.2.2⟩
  exact body p e s m av.toArray below meth c x rfl hx h1 h2 h3 h4 ⟨B.exec, B.bytes, B.returns, hml, ho, hts, B.notSynchronized, hK⟩ hE ⟨hP, hD, hS⟩ _ hl
section OI
variable {p : Program} {l : Launch} {e : Env} {R : Room} {s : State} {m : MethodId} {args : Array Value} {below : List Frame} {meth : Method} {c : Code} {H : Heap} {locs : List Loc} {cells slots : Nat} {Q : State → Prop}
variable {cc : ByteArray} {pc nL : Nat} {ret : Option FieldType} {own : String} {Ts : List Cond} {ls : Array Slot} {rest : List Value} {D : va_G} {tys : List (ClassId × FieldType)} {w0 w' : va_W}
theorem rtiN {r : Int32} (C : Cx p s m args meth c cc nL (some .int) own Ts D tys) (S : St D (va_A w0 s.heap.size) s.heap w' H locs) (hdg : decode cc pc = .ok (.ireturn, 1)) :
    W p l e R s m args below meth c H locs cells slots (MQ below (kI D tys r w0 w' s.heap.size) args s cells slots (va_A w0 s.heap.size)) (F0 m pc ls [.int r]) := by
  obtain ⟨hx, hb, hr, hml, hown, hts, hlk, hK⟩ := C
  exact W.iret hx hb hr (fun t ht hW => ⟨⟨r, (), rfl, rfl, by rw [ht]; exact S.1, va_K.moved hW.alike hK, S.2.1⟩, S.2.2.F ht⟩) S.2.2.2.2 hdg hlk
end OI
def wsH_poke : List Cond := wsL_poke ++ [Cond.classLink RL 13 RJx00060]
theorem hk_poke : Cond.classLink RL 13 RJx00060 ∈ wsH_poke := by decide +kernel
def RH_poke : Room := { frames := 10, cells := 1, slots := 6, locals := 200 }
set_option maxHeartbeats 4000000 in
set_option maxRecDepth 100000 in
theorem h_poke (l : Launch) (D : va_G) (n : Nat) (ad : Nat → Nat) (cA : Nat → ClassId) (k : Nat) (qo : Nat) (co : ClassId) (f : Nat → Int64) (z : SS) (x1 x2 x3 r : Int32) (z' : SS) (hf : gs_poke n k z x1 x2 x3 = some (r, z')) (sz : Nat) : Met l yL_poke wsH_poke RH_poke (xP D (tH co (tC cA)) [.ref (ad 0), .int x1, .int x2, .int x3, .ref qo] (wH qo co f (wC n ad cA z)) sz) (kI D (tH co (tC cA)) 0 (wH qo co f (wC n ad cA z)) (wH qo co (vp_updL f 0 r.toInt64) (wC n ad cA z')) sz) 1 6 (va_A (wH qo co f (wC n ad cA z)) sz) := by
  refine entW (by decide) rfl rfl (Nat.le_of_ble_eq_true rfl) (fun p e s m args below meth c x hsz htab h1 h2 h3 h4 C hE hS ls hl => ?_)
  subst hsz
  obtain ⟨hx, hb, hr, hml, hown, hts, hlk, hK⟩ := id C
  have hl : lv_has ls 6 [(0, .ref (ad 0)), (1, .int x1), (2, .int x2), (3, .int x3), (4, .ref qo)] := hl
  refine lv_aload hx hb dL_poke_0 (lv_at hl 4 rfl) ?_
  refine lv_iconst (v := 0) hx hb dL_poke_2 (by decide) ?_
  refine lv_aload_n hx hb dL_poke_3 rfl (lv_at hl 0 rfl) ?_
  refine lv_iload_n hx hb dL_poke_4 rfl (lv_at hl 1 rfl) ?_
  refine lv_iload_n hx hb dL_poke_5 rfl (lv_at hl 2 rfl) ?_
  refine lv_iload_n hx hb dL_poke_6 rfl (lv_at hl 3 rfl) ?_
  refine fcVi (n := 3) (As := [.int x1, .int x2, .int x3]) (rest := [.int 0, .ref qo]) (q0 := 0) (wc := wC n ad cA z) (wc' := wC n ad cA z') (wa := [(qo, .inl (co, 1, .inr (.inl f)))]) (wb := []) C hS (fun _ h => Or.inr h) tH_sub (fun sz => c_gs_poke l D n ad cA k z x1 x2 x3 r z' hf sz) (goodIn_l gL_poke_X5_poke) rfl ⟨rfl, rfl⟩ (by decide +kernel) ⟨Nat.le_of_ble_eq_true rfl, Nat.le_of_ble_eq_true rfl⟩ oC_0 rfl rfl hl.1 rfl (Nat.le_of_ble_eq_true rfl) dL_poke_7 ⟨Nat.zero_le _, Nat.zero_le _⟩ (fun H locs hS => ?_)
  refine lv_i2l (x := r) (v := r.toInt64) hx hb dL_poke_10 rfl ?_
  refine va_last (D := D) (cl := vwCl) hx hb hK hS.1 hS.2.1 hS.2.2 0 0 (f := f) rfl rfl (i := 0) (x := r.toInt64) (ck_in (by decide)) dL_poke_11 (fun H locs hP hD hS2 => ?_)
  have hS : St D (va_A (wH qo co f (wC n ad cA z)) s.heap.size) s.heap (wH qo co (vp_updL f 0 r.toInt64) (wC n ad cA z')) H locs := ⟨hP, hD, hS2⟩
  refine lv_goto (tgt := 19) hx hb dL_poke_12 (by decide) ?_
  refine lv_iconst (v := 0) hx hb dL_poke_19 (by decide) ?_
  refine W.widen (k := 1) (n := 6) (by omega) (by omega) ?_
  exact rtiN C hS dL_poke_20
set_option maxHeartbeats 4000000 in
set_option maxRecDepth 100000 in
theorem hx_poke (l : Launch) (hfl : l.flags = flags0) (D : va_G) (n : Nat) (ad : Nat → Nat) (cA : Nat → ClassId) (qo : Nat) (co : ClassId) (f : Nat → Int64) (z : SS) (x1 x2 x3 : Int32) (hno : noByte z x1 x2) (sz : Nat) : Met l yL_poke wsH_poke RH_poke (xP D (tH co (tC cA)) [.ref (ad 0), .int x1, .int x2, .int x3, .ref qo] (wH qo co f (wC n ad cA z)) sz) (kI D (tH co (tC cA)) 1 (wH qo co f (wC n ad cA z)) (wH qo co f (wC n ad cA z)) sz) 1 6 (va_A (wH qo co f (wC n ad cA z)) sz) := by
  refine entW (by decide) rfl rfl (Nat.le_of_ble_eq_true rfl) (fun p e s m args below meth c x hsz htab h1 h2 h3 h4 C hE hS ls hl => ?_)
  subst hsz
  obtain ⟨hx, hb, hr, hml, hown, hts, hlk, hK⟩ := id C
  have hl : lv_has ls 6 [(0, .ref (ad 0)), (1, .int x1), (2, .int x2), (3, .int x3), (4, .ref qo)] := hl
  refine lv_aload hx hb dL_poke_0 (lv_at hl 4 rfl) ?_
  refine lv_iconst (v := 0) hx hb dL_poke_2 (by decide) ?_
  refine lv_aload_n hx hb dL_poke_3 rfl (lv_at hl 0 rfl) ?_
  refine lv_iload_n hx hb dL_poke_4 rfl (lv_at hl 1 rfl) ?_
  refine lv_iload_n hx hb dL_poke_5 rfl (lv_at hl 2 rfl) ?_
  refine lv_iload_n hx hb dL_poke_6 rfl (lv_at hl 3 rfl) ?_
  have hS9 : St D (va_A (wH qo co f (wC n ad cA z)) s.heap.size) s.heap ([(qo, .inl (co, 1, .inr (.inl f)))] ++ (wC n ad cA z ++ [])) s.heap [] := hS
  obtain ⟨hPc, hDc⟩ := fr_cut hS9
  have hKc := K_sub (tys' := tC cA) hK tH_sub
  obtain ⟨cellB, g1, g2, g3⟩ := va_recv hKc hPc (ci := 5) (q0 := 0) rfl rfl
  intro T hT X
  obtain ⟨q, ce, T', X', k1, k2, k3, k4, k5, st⟩ := call_thr (n := 3) (As := [.int x1, .int x2, .int x3]) (pc := 7) (ls := ls) (rest := [.int 0, .ref qo]) hx hb hml hown hts (t_poke l hfl D n ad cA z x1 x2 x3 hno s.heap.size) (goodIn_l gL_poke_X5_poke) rfl (by decide +kernel) ⟨Nat.le_of_ble_eq_true rfl, Nat.le_of_ble_eq_true rfl⟩ X (by rw [hT]; exact g1) g2 g3 xP_blind (fun U hU hW => ⟨rfl, ⟨by rw [hU, hT], by rw [hU, hT]; exact hPc, va_K.moved hW.alike hKc, hDc⟩, xE_move hW (fun q c h => by rw [hU, hT]; exact h) hE⟩) rfl hl.1 rfl (Nat.le_of_ble_eq_true rfl) dL_poke_7 (Nat.le_of_ble_eq_true rfl) (Nat.le_of_ble_eq_true rfl)
  obtain ⟨vm', X2, st2⟩ := x_catch (pc := 7) (ls := ls) (rest := [.int 0, .ref qo]) X' (E := RJx00060) hown htab (by simp [covers, h1, h2]) (by rw [h4]; decide) (by rw [h4]; exact hts _ hk_poke) (hE args _ (by decide +kernel)) k1 k2 k3
  have hk : ∀ q : Nat, q < s.heap.size → T'.heap[q]? = s.heap[q]? := fun q hq => by
    rw [← hT] at hq ⊢
    rw [Array.getElem?_eq_getElem hq]
    exact k5 q _ (Array.getElem?_eq_getElem hq)
  have hP2 : va_P D vwCl (wH qo co f (wC n ad cA z)) T'.heap := hS.1.kept (fun k q hq => hk q.1 (hS.1 k q hq).lt)
  have hS2 : St D (va_A (wH qo co f (wC n ad cA z)) s.heap.size) s.heap (wH qo co f (wC n ad cA z)) T'.heap [] := ⟨hP2, hS.2.1, by rw [← hT]; exact k4, fun q hq _ => hk q hq, fun l h => nomatch h⟩
  have K : W p l e RH_poke s m args below meth c T'.heap [] 1 6 (MQ below (kI D (tH co (tC cA)) 1 (wH qo co f (wC n ad cA z)) (wH qo co f (wC n ad cA z)) s.heap.size) args s 1 6 (va_A (wH qo co f (wC n ad cA z)) s.heap.size)) (F0 m 15 ls [.ref q]) := by
    refine lv_astore (lv' := (5, .ref q) :: [(0, .ref (ad 0)), (1, .int x1), (2, .int x2), (3, .int x3), (4, .ref qo)]) hx hb dL_poke_15 hl (by decide) rfl (fun ls hl => ?_)
    refine lv_iconst (v := 1) hx hb dL_poke_17 (by decide) ?_
    exact rtiN C hS2 dL_poke_18
  rw [h3] at st2
  obtain ⟨t, a1, b1⟩ := K (T'.setVm vm') rfl X2
  exact ⟨t, st.trans (st2 t a1), b1⟩
def wsH_byteAt : List Cond := wsL_byteAt ++ [Cond.classLink RL 13 RJx00060]
theorem hk_byteAt : Cond.classLink RL 13 RJx00060 ∈ wsH_byteAt := by decide +kernel
def RH_byteAt : Room := { frames := 10, cells := 1, slots := 6, locals := 200 }
set_option maxHeartbeats 4000000 in
set_option maxRecDepth 100000 in
theorem h_byteAt (l : Launch) (D : va_G) (n : Nat) (ad : Nat → Nat) (cA : Nat → ClassId) (k : Nat) (qo : Nat) (co : ClassId) (f : Nat → Int64) (z : SS) (x1 x2 r : Int32) (hf : gs_byteAt n k z x1 x2 = some r) (sz : Nat) : Met l yL_byteAt wsH_byteAt RH_byteAt (xP D (tH co (tC cA)) [.ref (ad 0), .int x1, .int x2, .ref qo] (wH qo co f (wC n ad cA z)) sz) (kI D (tH co (tC cA)) 0 (wH qo co f (wC n ad cA z)) (wH qo co (vp_updL f 0 r.toInt64) (wC n ad cA z)) sz) 1 6 (va_A (wH qo co f (wC n ad cA z)) sz) := by
  refine entW (by decide) rfl rfl (Nat.le_of_ble_eq_true rfl) (fun p e s m args below meth c x hsz htab h1 h2 h3 h4 C hE hS ls hl => ?_)
  subst hsz
  obtain ⟨hx, hb, hr, hml, hown, hts, hlk, hK⟩ := id C
  have hl : lv_has ls 5 [(0, .ref (ad 0)), (1, .int x1), (2, .int x2), (3, .ref qo)] := hl
  refine lv_aload_n hx hb dL_byteAt_0 rfl (lv_at hl 3 rfl) ?_
  refine lv_iconst (v := 0) hx hb dL_byteAt_1 (by decide) ?_
  refine lv_aload_n hx hb dL_byteAt_2 rfl (lv_at hl 0 rfl) ?_
  refine lv_iload_n hx hb dL_byteAt_3 rfl (lv_at hl 1 rfl) ?_
  refine lv_iload_n hx hb dL_byteAt_4 rfl (lv_at hl 2 rfl) ?_
  refine fcVi (n := 2) (As := [.int x1, .int x2]) (rest := [.int 0, .ref qo]) (q0 := 0) (wc := wC n ad cA z) (wc' := wC n ad cA z) (wa := [(qo, .inl (co, 1, .inr (.inl f)))]) (wb := []) C hS (fun _ h => Or.inr h) tH_sub (fun sz => c_gs_byteAt l D n ad cA k z x1 x2 r hf sz) (goodIn_l gL_byteAt_X5_byteAt) rfl ⟨rfl, rfl⟩ (by decide +kernel) ⟨Nat.le_of_ble_eq_true rfl, Nat.le_of_ble_eq_true rfl⟩ oC_0 rfl rfl hl.1 rfl (Nat.le_of_ble_eq_true rfl) dL_byteAt_5 ⟨Nat.zero_le _, Nat.zero_le _⟩ (fun H locs hS => ?_)
  refine lv_i2l (x := r) (v := r.toInt64) hx hb dL_byteAt_8 rfl ?_
  refine va_last (D := D) (cl := vwCl) hx hb hK hS.1 hS.2.1 hS.2.2 0 0 (f := f) rfl rfl (i := 0) (x := r.toInt64) (ck_in (by decide)) dL_byteAt_9 (fun H locs hP hD hS2 => ?_)
  have hS : St D (va_A (wH qo co f (wC n ad cA z)) s.heap.size) s.heap (wH qo co (vp_updL f 0 r.toInt64) (wC n ad cA z)) H locs := ⟨hP, hD, hS2⟩
  refine lv_goto (tgt := 17) hx hb dL_byteAt_10 (by decide) ?_
  refine lv_iconst (v := 0) hx hb dL_byteAt_17 (by decide) ?_
  refine W.widen (k := 1) (n := 6) (by omega) (by omega) ?_
  exact rtiN C hS dL_byteAt_18
set_option maxHeartbeats 4000000 in
set_option maxRecDepth 100000 in
theorem hx_byteAt (l : Launch) (hfl : l.flags = flags0) (D : va_G) (n : Nat) (ad : Nat → Nat) (cA : Nat → ClassId) (qo : Nat) (co : ClassId) (f : Nat → Int64) (z : SS) (x1 x2 : Int32) (hno : noByte z x1 x2) (sz : Nat) : Met l yL_byteAt wsH_byteAt RH_byteAt (xP D (tH co (tC cA)) [.ref (ad 0), .int x1, .int x2, .ref qo] (wH qo co f (wC n ad cA z)) sz) (kI D (tH co (tC cA)) 1 (wH qo co f (wC n ad cA z)) (wH qo co f (wC n ad cA z)) sz) 1 6 (va_A (wH qo co f (wC n ad cA z)) sz) := by
  refine entW (by decide) rfl rfl (Nat.le_of_ble_eq_true rfl) (fun p e s m args below meth c x hsz htab h1 h2 h3 h4 C hE hS ls hl => ?_)
  subst hsz
  obtain ⟨hx, hb, hr, hml, hown, hts, hlk, hK⟩ := id C
  have hl : lv_has ls 5 [(0, .ref (ad 0)), (1, .int x1), (2, .int x2), (3, .ref qo)] := hl
  refine lv_aload_n hx hb dL_byteAt_0 rfl (lv_at hl 3 rfl) ?_
  refine lv_iconst (v := 0) hx hb dL_byteAt_1 (by decide) ?_
  refine lv_aload_n hx hb dL_byteAt_2 rfl (lv_at hl 0 rfl) ?_
  refine lv_iload_n hx hb dL_byteAt_3 rfl (lv_at hl 1 rfl) ?_
  refine lv_iload_n hx hb dL_byteAt_4 rfl (lv_at hl 2 rfl) ?_
  have hS9 : St D (va_A (wH qo co f (wC n ad cA z)) s.heap.size) s.heap ([(qo, .inl (co, 1, .inr (.inl f)))] ++ (wC n ad cA z ++ [])) s.heap [] := hS
  obtain ⟨hPc, hDc⟩ := fr_cut hS9
  have hKc := K_sub (tys' := tC cA) hK tH_sub
  obtain ⟨cellB, g1, g2, g3⟩ := va_recv hKc hPc (ci := 5) (q0 := 0) rfl rfl
  intro T hT X
  obtain ⟨q, ce, T', X', k1, k2, k3, k4, k5, st⟩ := call_thr (n := 2) (As := [.int x1, .int x2]) (pc := 5) (ls := ls) (rest := [.int 0, .ref qo]) hx hb hml hown hts (t_byteAt l hfl D n ad cA z x1 x2 hno s.heap.size) (goodIn_l gL_byteAt_X5_byteAt) rfl (by decide +kernel) ⟨Nat.le_of_ble_eq_true rfl, Nat.le_of_ble_eq_true rfl⟩ X (by rw [hT]; exact g1) g2 g3 xP_blind (fun U hU hW => ⟨rfl, ⟨by rw [hU, hT], by rw [hU, hT]; exact hPc, va_K.moved hW.alike hKc, hDc⟩, xE_move hW (fun q c h => by rw [hU, hT]; exact h) hE⟩) rfl hl.1 rfl (Nat.le_of_ble_eq_true rfl) dL_byteAt_5 (Nat.le_of_ble_eq_true rfl) (Nat.le_of_ble_eq_true rfl)
  obtain ⟨vm', X2, st2⟩ := x_catch (pc := 5) (ls := ls) (rest := [.int 0, .ref qo]) X' (E := RJx00060) hown htab (by simp [covers, h1, h2]) (by rw [h4]; decide) (by rw [h4]; exact hts _ hk_byteAt) (hE args _ (by decide +kernel)) k1 k2 k3
  have hk : ∀ q : Nat, q < s.heap.size → T'.heap[q]? = s.heap[q]? := fun q hq => by
    rw [← hT] at hq ⊢
    rw [Array.getElem?_eq_getElem hq]
    exact k5 q _ (Array.getElem?_eq_getElem hq)
  have hP2 : va_P D vwCl (wH qo co f (wC n ad cA z)) T'.heap := hS.1.kept (fun k q hq => hk q.1 (hS.1 k q hq).lt)
  have hS2 : St D (va_A (wH qo co f (wC n ad cA z)) s.heap.size) s.heap (wH qo co f (wC n ad cA z)) T'.heap [] := ⟨hP2, hS.2.1, by rw [← hT]; exact k4, fun q hq _ => hk q hq, fun l h => nomatch h⟩
  have K : W p l e RH_byteAt s m args below meth c T'.heap [] 1 6 (MQ below (kI D (tH co (tC cA)) 1 (wH qo co f (wC n ad cA z)) (wH qo co f (wC n ad cA z)) s.heap.size) args s 1 6 (va_A (wH qo co f (wC n ad cA z)) s.heap.size)) (F0 m 13 ls [.ref q]) := by
    refine lv_astore (lv' := (4, .ref q) :: [(0, .ref (ad 0)), (1, .int x1), (2, .int x2), (3, .ref qo)]) hx hb dL_byteAt_13 hl (by decide) rfl (fun ls hl => ?_)
    refine lv_iconst (v := 1) hx hb dL_byteAt_15 (by decide) ?_
    exact rtiN C hS2 dL_byteAt_16
  rw [h3] at st2
  obtain ⟨t, a1, b1⟩ := K (T'.setVm vm') rfl X2
  exact ⟨t, st.trans (st2 t a1), b1⟩
def wsH_count : List Cond := wsL_count ++ [Cond.classLink RL 13 RJx00060]
theorem hk_count : Cond.classLink RL 13 RJx00060 ∈ wsH_count := by decide +kernel
def RH_count : Room := { frames := 10, cells := 1, slots := 6, locals := 200 }
set_option maxHeartbeats 4000000 in
set_option maxRecDepth 100000 in
theorem h_count (l : Launch) (D : va_G) (n : Nat) (ad : Nat → Nat) (cA : Nat → ClassId) (k : Nat) (qo : Nat) (co : ClassId) (f : Nat → Int64) (z : SS) (x1 r : Int32) (hf : gs_count n k z x1 = some r) (sz : Nat) : Met l yL_count wsH_count RH_count (xP D (tH co (tC cA)) [.ref (ad 0), .int x1, .ref qo] (wH qo co f (wC n ad cA z)) sz) (kI D (tH co (tC cA)) 0 (wH qo co f (wC n ad cA z)) (wH qo co (vp_updL f 0 r.toInt64) (wC n ad cA z)) sz) 1 6 (va_A (wH qo co f (wC n ad cA z)) sz) := by
  refine entW (by decide) rfl rfl (Nat.le_of_ble_eq_true rfl) (fun p e s m args below meth c x hsz htab h1 h2 h3 h4 C hE hS ls hl => ?_)
  subst hsz
  obtain ⟨hx, hb, hr, hml, hown, hts, hlk, hK⟩ := id C
  have hl : lv_has ls 4 [(0, .ref (ad 0)), (1, .int x1), (2, .ref qo)] := hl
  refine lv_aload_n hx hb dL_count_0 rfl (lv_at hl 2 rfl) ?_
  refine lv_iconst (v := 0) hx hb dL_count_1 (by decide) ?_
  refine lv_aload_n hx hb dL_count_2 rfl (lv_at hl 0 rfl) ?_
  refine lv_iload_n hx hb dL_count_3 rfl (lv_at hl 1 rfl) ?_
  refine fcVi (n := 1) (As := [.int x1]) (rest := [.int 0, .ref qo]) (q0 := 0) (wc := wC n ad cA z) (wc' := wC n ad cA z) (wa := [(qo, .inl (co, 1, .inr (.inl f)))]) (wb := []) C hS (fun _ h => Or.inr h) tH_sub (fun sz => c_gs_count l D n ad cA k z x1 r hf sz) (goodIn_l gL_count_X5_count) rfl ⟨rfl, rfl⟩ (by decide +kernel) ⟨Nat.le_of_ble_eq_true rfl, Nat.le_of_ble_eq_true rfl⟩ oC_0 rfl rfl hl.1 rfl (Nat.le_of_ble_eq_true rfl) dL_count_4 ⟨Nat.zero_le _, Nat.zero_le _⟩ (fun H locs hS => ?_)
  refine lv_i2l (x := r) (v := r.toInt64) hx hb dL_count_7 rfl ?_
  refine va_last (D := D) (cl := vwCl) hx hb hK hS.1 hS.2.1 hS.2.2 0 0 (f := f) rfl rfl (i := 0) (x := r.toInt64) (ck_in (by decide)) dL_count_8 (fun H locs hP hD hS2 => ?_)
  have hS : St D (va_A (wH qo co f (wC n ad cA z)) s.heap.size) s.heap (wH qo co (vp_updL f 0 r.toInt64) (wC n ad cA z)) H locs := ⟨hP, hD, hS2⟩
  refine lv_goto (tgt := 15) hx hb dL_count_9 (by decide) ?_
  refine lv_iconst (v := 0) hx hb dL_count_15 (by decide) ?_
  refine W.widen (k := 1) (n := 6) (by omega) (by omega) ?_
  exact rtiN C hS dL_count_16
set_option maxHeartbeats 4000000 in
set_option maxRecDepth 100000 in
theorem hx_count (l : Launch) (hfl : l.flags = flags0) (D : va_G) (n : Nat) (ad : Nat → Nat) (cA : Nat → ClassId) (qo : Nat) (co : ClassId) (f : Nat → Int64) (z : SS) (x1 : Int32) (hno : x1.toInt < 0 ∨ 7 < x1.toInt) (sz : Nat) : Met l yL_count wsH_count RH_count (xP D (tH co (tC cA)) [.ref (ad 0), .int x1, .ref qo] (wH qo co f (wC n ad cA z)) sz) (kI D (tH co (tC cA)) 1 (wH qo co f (wC n ad cA z)) (wH qo co f (wC n ad cA z)) sz) 1 6 (va_A (wH qo co f (wC n ad cA z)) sz) := by
  refine entW (by decide) rfl rfl (Nat.le_of_ble_eq_true rfl) (fun p e s m args below meth c x hsz htab h1 h2 h3 h4 C hE hS ls hl => ?_)
  subst hsz
  obtain ⟨hx, hb, hr, hml, hown, hts, hlk, hK⟩ := id C
  have hl : lv_has ls 4 [(0, .ref (ad 0)), (1, .int x1), (2, .ref qo)] := hl
  refine lv_aload_n hx hb dL_count_0 rfl (lv_at hl 2 rfl) ?_
  refine lv_iconst (v := 0) hx hb dL_count_1 (by decide) ?_
  refine lv_aload_n hx hb dL_count_2 rfl (lv_at hl 0 rfl) ?_
  refine lv_iload_n hx hb dL_count_3 rfl (lv_at hl 1 rfl) ?_
  have hS9 : St D (va_A (wH qo co f (wC n ad cA z)) s.heap.size) s.heap ([(qo, .inl (co, 1, .inr (.inl f)))] ++ (wC n ad cA z ++ [])) s.heap [] := hS
  obtain ⟨hPc, hDc⟩ := fr_cut hS9
  have hKc := K_sub (tys' := tC cA) hK tH_sub
  obtain ⟨cellB, g1, g2, g3⟩ := va_recv hKc hPc (ci := 5) (q0 := 0) rfl rfl
  intro T hT X
  obtain ⟨q, ce, T', X', k1, k2, k3, k4, k5, st⟩ := call_thr (n := 1) (As := [.int x1]) (pc := 4) (ls := ls) (rest := [.int 0, .ref qo]) hx hb hml hown hts (t_count l hfl D n ad cA z x1 hno s.heap.size) (goodIn_l gL_count_X5_count) rfl (by decide +kernel) ⟨Nat.le_of_ble_eq_true rfl, Nat.le_of_ble_eq_true rfl⟩ X (by rw [hT]; exact g1) g2 g3 xP_blind (fun U hU hW => ⟨rfl, ⟨by rw [hU, hT], by rw [hU, hT]; exact hPc, va_K.moved hW.alike hKc, hDc⟩, xE_move hW (fun q c h => by rw [hU, hT]; exact h) hE⟩) rfl hl.1 rfl (Nat.le_of_ble_eq_true rfl) dL_count_4 (Nat.le_of_ble_eq_true rfl) (Nat.le_of_ble_eq_true rfl)
  obtain ⟨vm', X2, st2⟩ := x_catch (pc := 4) (ls := ls) (rest := [.int 0, .ref qo]) X' (E := RJx00060) hown htab (by simp [covers, h1, h2]) (by rw [h4]; decide) (by rw [h4]; exact hts _ hk_count) (hE args _ (by decide +kernel)) k1 k2 k3
  have hk : ∀ q : Nat, q < s.heap.size → T'.heap[q]? = s.heap[q]? := fun q hq => by
    rw [← hT] at hq ⊢
    rw [Array.getElem?_eq_getElem hq]
    exact k5 q _ (Array.getElem?_eq_getElem hq)
  have hP2 : va_P D vwCl (wH qo co f (wC n ad cA z)) T'.heap := hS.1.kept (fun k q hq => hk q.1 (hS.1 k q hq).lt)
  have hS2 : St D (va_A (wH qo co f (wC n ad cA z)) s.heap.size) s.heap (wH qo co f (wC n ad cA z)) T'.heap [] := ⟨hP2, hS.2.1, by rw [← hT]; exact k4, fun q hq _ => hk q hq, fun l h => nomatch h⟩
  have K : W p l e RH_count s m args below meth c T'.heap [] 1 6 (MQ below (kI D (tH co (tC cA)) 1 (wH qo co f (wC n ad cA z)) (wH qo co f (wC n ad cA z)) s.heap.size) args s 1 6 (va_A (wH qo co f (wC n ad cA z)) s.heap.size)) (F0 m 12 ls [.ref q]) := by
    refine lv_astore_n (lv' := (3, .ref q) :: [(0, .ref (ad 0)), (1, .int x1), (2, .ref qo)]) hx hb dL_count_12 rfl hl (by decide) rfl (fun ls hl => ?_)
    refine lv_iconst (v := 1) hx hb dL_count_13 (by decide) ?_
    exact rtiN C hS2 dL_count_14
  rw [h3] at st2
  obtain ⟨t, a1, b1⟩ := K (T'.setVm vm') rfl X2
  exact ⟨t, st.trans (st2 t a1), b1⟩
