/-! the law: its world, what it asks of both sides, its calls -/
def wL (qo : Nat) (co : ClassId) (f : Nat → Int64) (wc wm : va_W) : va_W := [(qo, .inl (co, 1, .inr (.inl f)))] ++ (wc ++ wm)
def tL (co : ClassId) (tc tm : List (ClassId × FieldType)) : List (ClassId × FieldType) := [(co, .long)] ++ (tc ++ tm)
theorem tL_c {co : ClassId} {tc tm : List (ClassId × FieldType)} : ∀ q ∈ tc, q ∈ tL co tc tm := fun _ h => List.mem_append_right _ (List.mem_append_left _ h)
theorem tL_m {co : ClassId} {tc tm : List (ClassId × FieldType)} : ∀ q ∈ tm, q ∈ tL co tc tm := fun _ h => List.mem_append_right _ (List.mem_append_right _ h)
theorem tL_h {co : ClassId} {tc tm : List (ClassId × FieldType)} : ∀ q ∈ tH co tc, q ∈ tL co tc tm := fun q h => by
  rcases List.mem_append.mp h with h | h
  · exact List.mem_append_left _ h
  · exact List.mem_append_right _ (List.mem_append_left _ h)
theorem wL_m {qo : Nat} {co : ClassId} {f : Nat → Int64} {wc wm : va_W} : wL qo co f wc wm = (([(qo, .inl (co, 1, .inr (.inl f)))] : va_W) ++ wc) ++ (wm ++ []) := by simp [wL]
theorem wL_h {qo : Nat} {co : ClassId} {f : Nat → Int64} {wc wm : va_W} : wL qo co f wc wm = ([] : va_W) ++ (wH qo co f wc ++ wm) := by simp [wL, wH]
section OL
variable {p : Program} {l : Launch} {e : Env} {R : Room} {s : State} {m : MethodId} {args : Array Value} {below : List Frame} {meth : Method} {c : Code} {H : Heap} {locs : List Loc} {cells slots : Nat} {Q : State → Prop}
variable {cc : ByteArray} {pc nL : Nat} {ret : Option FieldType} {own : String} {Ts : List Cond} {ls : Array Slot} {rest : List Value} {D : va_G} {A : Nat → Prop} {tys tyc : List (ClassId × FieldType)} {wa wc wb wc' : va_W}
variable {y : MethodName} {wsY wsY' : List Cond} {rmY : Room} {byY : ByteArray} {mlY n index ci N q0 : Nat} {reY : Option FieldType} {Cn : String} {T : u_T} {As st0 : List Value} {b : Nat} {hh : List (Nat × Nat × Nat × Nat)}
theorem run_SW {Pc : Array Value → State → Prop} {Qc : Array Value → State → Outcome → State → Prop} {mc ms : Nat} {free : Addr → Prop} (hx : p.tables.exec = Jvm.exec) (hb : c.code = cc) (hml : c.maxLocals = nL) (hown : s.vm.findClass own = some m.cls) (hts : ∀ w ∈ Ts, w.before args s = true)
    (hM : Met l y wsY rmY Pc Qc mc ms free) (hbl : FrameBlind Pc) (hG : GoodIn Ts wsY) (hw : wsY = Cond.codeWith y byY mlY reY hh :: wsY') (hrc : rmY.cells = mc ∧ rmY.slots = ms) (hlk : Cond.methodLink own index y ∈ Ts) (hst9 : Cond.static y ∈ Ts) (hini : Cond.initialized y.cls ∈ Ts)
    (hd : y.cls ≠ "java/lang/invoke/MethodHandle" ∧ y.cls ≠ "java/lang/invoke/VarHandle" ∧ (parseMethodDescriptor y.desc).map (fun d => d.parameters.length) = some n) (hR : rmY.frames + 1 ≤ R.frames ∧ 8 + (mlY + 11) + rmY.locals ≤ R.locals)
    (hPc : ∀ U : State, U.heap = H → s.WarmedH U.vm → Pc As.toArray U) (hn : As.length = n) (hsize : ls.size = nL) (hst : st0 = As.reverse ++ rest) (hW : (rest.map fun v => v.category).sum ≤ 8) (hdg : decode cc pc = .ok (.invokestatic index, 3)) (hf : cells + mc ≤ R.cells ∧ slots + ms ≤ R.slots) :
    va_Run p l e R s m args below meth c H locs cells slots mc ms (F0 m pc ls st0) rest (Qc As.toArray) free := by
  have hcm : Cond.codeWith y byY mlY reY hh ∈ wsY := by rw [hw]; exact List.mem_cons_self
  have hB : Back l R p e below s args y 3 8 (PreOf R mc ms Pc) (PostOf Qc mc ms free) := va_backW (hh := hh) (bytes := byY) (maxL := mlY) (ret := reY) hM hbl hrc.1 hrc.2 hR.1 hR.2 (pay_in hts hG) hcm (fun a' U hW => word_at hW (Or.inl (by first | rfl | simp [Cond.onTables, Cond.keeps, Cond.steady])) (hts _ hini))
  intro T hT X
  obtain ⟨mk, methM, cM, hnamed, hmethM, hcM, -, -, -, -, -, hsigM⟩ := Cond.codeWith_spec (hts _ (hG _ hcm).1)
  have hstatic : methM.isStatic = true := Cond.static_spec hnamed hmethM (hts _ hst9)
  obtain ⟨kP, hkP, -⟩ := className_of_methodNamed hnamed
  have hinitP : kP.init = .initialized := Cond.initialized_spec (findClass_of_methodNamed hnamed) hkP (hts _ hini)
  have hlen : As.length = methM.sig.parameters.length := by
    have h2 := hd.2.2
    rw [hsigM] at h2
    exact hn.trans (Option.some.inj h2).symm
  obtain ⟨vm₁, X₁, hstep₁⟩ := X.invokestatic hx hown (hts _ hlk) hnamed hmethM hstatic hkP hinitP ⟨hd.1, hd.2.1⟩ (g := F0 m pc ls st0) rfl (argsL := As) (rest := rest) hlen hst (by rw [hb]; exact hdg)
  obtain ⟨v, ⟨U', l2, c2, s2⟩, X', ⟨g', mk', t, L, e1, e2, hq, h1, hL, h2, h3⟩, hsteps⟩ := hB m meth c ⟨T.setVm vm₁, locs, cells, slots⟩ (F0 m pc ls rest) (.invokestatic index) mk As.toArray X₁ rfl (by rw [hml]; exact hsize) (by rw [hb]; exact hdg) (lv_room hW) (X₁.named hnamed) ⟨hf.1, hf.2, hPc (T.setVm vm₁) hT X₁.warmed⟩
  dsimp only [Pt.U, Pt.locs, Pt.cells, Pt.slots] at X' e1 e2 h1 h2 h3
  subst h1; subst h2; subst h3
  exact ⟨v, (T.setVm vm₁).calling g' mk' As.toArray, t, U', L, hT, X', hL, e1, e2, hq, fun target h => hstep₁ _ fun acts => by rw [doInvoke_state]; exact hsteps.trans h⟩
/-- a helper's call -/
theorem fcSx {r : Int32} (C : Cx p s m args meth c cc nL ret own Ts D tys) (S : St D A s.heap (wa ++ (wc ++ wb)) H locs) (hA : ∀ q, s.heap.size ≤ q → A q) (hA2 : ∀ q, q < s.heap.size → ¬ A q) (hE : xE s) (hty : ∀ q ∈ tyc, q ∈ tys) (hM : ∀ sz, Met l y wsY rmY (xP D tyc As wc sz) (kI D tyc r wc wc' sz) 1 6 (va_A wc sz)) (hG : GoodIn Ts wsY) (hw : wsY = Cond.codeWith y byY mlY reY hh :: wsY') (hrc : rmY.cells = 1 ∧ rmY.slots = 6)
    (hlk9 : Cond.methodLink own index y ∈ Ts) (hst9 : Cond.static y ∈ Ts) (hini : Cond.initialized y.cls ∈ Ts) (hd : y.cls ≠ "java/lang/invoke/MethodHandle" ∧ y.cls ≠ "java/lang/invoke/VarHandle" ∧ (parseMethodDescriptor y.desc).map (fun d => d.parameters.length) = some n) (hR : rmY.frames + 1 ≤ R.frames ∧ 8 + (mlY + 11) + rmY.locals ≤ R.locals)
    (hn : As.length = n) (hsize : ls.size = nL) (hst : st0 = As.reverse ++ rest) (hW : (rest.map fun v => v.category).sum ≤ 8) (hdg : decode cc pc = .ok (.invokestatic index, 3)) (hf : cells + 1 ≤ R.cells ∧ slots + 6 ≤ R.slots)
    (kk : ∀ (H : Heap) (locs : List Loc), St D A s.heap (wa ++ (wc' ++ wb)) H locs → W p l e R s m args below meth c H locs (cells + 1) (slots + 6) Q (F0 m (pc + 3) ls (.int r :: rest))) : W p l e R s m args below meth c H locs cells slots Q (F0 m pc ls st0) := by
  obtain ⟨hx, hb, hr, hml, hown, hts, hlk, hK⟩ := C
  have hFc := fr_A S hA
  obtain ⟨hPc, hDc⟩ := fr_cut S
  have hKc := K_sub hK hty
  refine va_calli (run_SW hx hb hml hown hts (hM H.size) xP_blind hG hw hrc hlk9 hst9 hini hd hR (fun U hU hW => ⟨rfl, ⟨by rw [hU], by rw [hU]; exact hPc, va_K.moved hW.alike hKc, hDc⟩, xE_move hW (fun q c9 h9 => by
      have hq : q < s.heap.size := (Array.getElem?_eq_some_iff.mp h9).1
      rw [hU, S.2.2.2.1 q hq (hA2 q hq)]
      exact h9) hE⟩) hn hsize hst hW hdg hf) S.2.2 (fun q _ h => hFc q h) hFc (fun r1 u t H1 locs1 ht hvm hw1 hB hz1 hk1 hS1 => ?_)
  subst hw1
  obtain ⟨h1, h2, h3⟩ := hB
  rw [ht] at h1
  exact kk H1 locs1 (fr_join S hA h1 h3 hk1 hS1)
end OL
def sc (L : Nat) (xs : Nat → Int32) : Int32 := if 0 < L then xs 0 else 0
set_option maxHeartbeats 4000000 in
set_option maxRecDepth 100000 in
/-- cell(script, 0) -/
theorem c_cell (l : Launch) (b L : Nat) (xs : Nat → Int32) (hL : L < 2147483648) : Met l yL_cell wsL_cell { frames := 0, cells := 0, slots := 0, locals := 0 } (va_Pc [.ref b, .int 0] (fun U => va_X b L xs U U.heap)) (va_Qi (fun a (_ : Unit) => a = sc L xs) (fun _ _ => True) (fun _ => False)) 0 0 (fun _ => False) := by
  refine Met.ofW (cc := cL_cell) (maxL := 2) (ret := some .int) (by decide) rfl ?_
  intro p e s m args below meth c s₁ B hml hv
  obtain ⟨rfl, hX⟩ := hv
  have hx := B.exec
  have hb := B.bytes
  have hr := B.returns
  have hlk := B.notSynchronized
  have hl := lv_entry [.ref b, .int 0] (n := 2) (Nat.le_of_ble_eq_true rfl)
  rw [lg_entry_eq]
  generalize (lg_sl [.ref b, .int 0] ++ List.replicate (2 - (lg_sl [.ref b, .int 0]).length) Slot.unset).toArray = ls at hl ⊢
  have hl : lv_has ls 2 [(0, .ref b), (1, .int 0)] := hl
  have hbl : b < s.heap.size := by
    obtain ⟨scr, h1, -⟩ := hX
    exact (Array.getElem?_eq_some_iff.mp h1).1
  have hS : va_S (fun _ => False) s.heap s.heap [] := va_S.rf
  have fin : ∀ v : Int32, v = sc L xs → W p l e { frames := 0, cells := 0, slots := 0, locals := 0 } s m #[Value.ref b, Value.int 0] below meth c s.heap [] 0 0 (MQ below (va_Qi (fun a (_ : Unit) => a = sc L xs) (fun _ _ => True) (fun _ => False)) #[Value.ref b, Value.int 0] s 0 0 (fun _ => False)) (F0 m 13 ls [.int v]) := fun v hv =>
    W.iret hx hb hr (fun t ht hW => ⟨⟨v, (), rfl, hv, trivial⟩, by rw [ht]; exact Nat.le_refl _, fun q _ _ => by rw [ht]⟩) (fun q h => nomatch h) dL_cell_13 hlk
  refine lv_iload_n hx hb dL_cell_0 rfl (lv_at hl 1 rfl) ?_
  refine lv_aload_n hx hb dL_cell_1 rfl (lv_at hl 0 rfl) ?_
  refine va_slen hx hb hX hbl (fun h => h) hS dL_cell_2 ?_
  refine lv_icmp_ge (tgt := 12) hx hb dL_cell_3 (by decide) (fun hc => ?_) (fun hc => ?_)
  · refine lv_iconst (v := 0) hx hb dL_cell_12 (by decide) ?_
    refine fin 0 ?_
    have h9 : ¬ 0 < L := fun h => absurd hc (nI_ge (a := 0) (b := L) h (by omega))
    rw [sc, if_neg h9]
  · have h9 : 0 < L := by
      rcases Nat.eq_zero_or_pos L with h | h
      · subst h
        exact absurd (Int32.le_refl _) hc
      · exact h
    refine lv_aload_n hx hb dL_cell_6 rfl (lv_at hl 0 rfl) ?_
    refine lv_iload_n hx hb dL_cell_7 rfl (lv_at hl 1 rfl) ?_
    refine va_sld hx hb hX hbl (fun h => h) hS (vp_in_nI (n := 0) h9 (by omega)) dL_cell_8 ?_
    refine lv_goto (tgt := 13) hx hb dL_cell_9 (by decide) ?_
    refine fin _ ?_
    rw [sc, if_pos h9]
    rfl
