/-! OWN KIT 4: calls over a part of the world -/
theorem P_mem {D : va_G} {cl : List vw_C} {ws : va_W} {H : Heap} : va_P D cl ws H ↔ ∀ q ∈ ws, va_at D cl q H :=
  ⟨fun h q hq => by obtain ⟨k, hk⟩ := List.mem_iff_getElem?.mp hq; exact h k q hk, fun h k q hk => h q (List.mem_of_getElem? hk)⟩
theorem D_nodup {A : Nat → Prop} {ws : va_W} : va_D A ws ↔ (ws.map (·.1)).Nodup ∧ ∀ q ∈ ws, A q.1 := by
  constructor
  · intro h
    refine ⟨?_, fun q hq => by obtain ⟨k, hk⟩ := List.mem_iff_getElem?.mp hq; exact h.2 k q hk⟩
    rw [List.Nodup, List.pairwise_iff_getElem]
    intro i j hi hj hij he
    have hi' : i < ws.length := by simpa using hi
    have hj' : j < ws.length := by simpa using hj
    have h1 := h.1 i j ws[i] ws[j] (List.getElem?_eq_getElem hi') (List.getElem?_eq_getElem hj') (by simpa using he)
    omega
  · intro h
    refine ⟨fun i j p q hp hq he => ?_, fun k q hk => h.2 q (List.mem_of_getElem? hk)⟩
    have hn := h.1
    rw [List.Nodup, List.pairwise_iff_getElem] at hn
    obtain ⟨hi, rfl⟩ := List.getElem?_eq_some_iff.mp hp
    obtain ⟨hj, rfl⟩ := List.getElem?_eq_some_iff.mp hq
    rcases Nat.lt_trichotomy i j with h9 | h9 | h9
    · exact absurd (by rw [List.getElem_map, List.getElem_map]; exact he) (hn i j (by simpa using hi) (by simpa using hj) h9)
    · exact h9
    · exact absurd (by rw [List.getElem_map, List.getElem_map]; exact he.symm) (hn j i (by simpa using hj) (by simpa using hi) h9)
theorem K_sub {D : va_G} {cl : List vw_C} {tys tys' : List (ClassId × FieldType)} {U : State} (h : va_K D cl tys U) (hs : ∀ q ∈ tys', q ∈ tys) : va_K D cl tys' U :=
  ⟨h.1, fun k q hk => by obtain ⟨j, hj⟩ := List.mem_iff_getElem?.mp (hs q (List.mem_of_getElem? hk)); exact h.2 j q hj⟩
theorem fr_A {D : va_G} {A : Nat → Prop} {H0 H : Heap} {wa wc wb : va_W} {locs : List Loc} (S : St D A H0 (wa ++ (wc ++ wb)) H locs) (hA : ∀ q, H0.size ≤ q → A q) : ∀ q, va_A wc H.size q → A q := fun q h => by
  rcases h with ⟨k, e, hk⟩ | h
  · exact (D_nodup.mp S.2.1).2 (q, e) (List.mem_append_right _ (List.mem_append_left _ (List.mem_of_getElem? hk)))
  · exact hA q (Nat.le_trans S.2.2.1 h)
theorem fr_cut {D : va_G} {A : Nat → Prop} {H0 H : Heap} {wa wc wb : va_W} {locs : List Loc} (S : St D A H0 (wa ++ (wc ++ wb)) H locs) : va_P D vwCl wc H ∧ va_D (fun _ => True) wc := by
  refine ⟨P_mem.mpr fun q hq => P_mem.mp S.1 q (List.mem_append_right _ (List.mem_append_left _ hq)), D_nodup.mpr ⟨?_, fun _ _ => trivial⟩⟩
  have h := (D_nodup.mp S.2.1).1
  rw [List.map_append, List.map_append] at h
  exact (List.nodup_append.mp (List.nodup_append.mp h).2.1).1
theorem fr_join {D : va_G} {A : Nat → Prop} {H0 H H1 : Heap} {wa wc wb w1 : va_W} {locs locs1 : List Loc} (S : St D A H0 (wa ++ (wc ++ wb)) H locs) (hA : ∀ q, H0.size ≤ q → A q)
    (hP1 : va_P D vwCl w1 H1) (hD1 : va_D (va_A wc H.size) w1) (hk1 : ∀ q : Nat, q < H.size → ¬ va_A wc H.size q → H1[q]? = H[q]?) (hS1 : va_S A H0 H1 locs1) : St D A H0 (wa ++ (w1 ++ wb)) H1 locs1 := by
  have hP := P_mem.mp S.1
  have hD := D_nodup.mp S.2.1
  have hd1 := D_nodup.mp hD1
  have hn := hD.1
  rw [List.map_append, List.map_append] at hn
  obtain ⟨na, nbc, dabc⟩ := List.nodup_append.mp hn
  obtain ⟨nc, nb, dbc⟩ := List.nodup_append.mp nbc
  have apart : ∀ q ∈ wa ++ wb, q.1 < H.size ∧ ¬ va_A wc H.size q.1 := by
    intro q hq
    have hq9 : q ∈ wa ++ (wc ++ wb) := by
      rcases List.mem_append.mp hq with h | h
      · exact List.mem_append_left _ h
      · exact List.mem_append_right _ (List.mem_append_right _ h)
    have hlt : q.1 < H.size := (hP q hq9).lt
    refine ⟨hlt, fun h => ?_⟩
    rcases h with ⟨k, e, hk⟩ | h
    · have hm : (q.1, e) ∈ wc := List.mem_of_getElem? hk
      have hm1 : q.1 ∈ wc.map (·.1) := List.mem_map.mpr ⟨_, hm, rfl⟩
      rcases List.mem_append.mp hq with h9 | h9
      · exact dabc _ (List.mem_map.mpr ⟨q, h9, rfl⟩) _ (List.mem_append_left _ hm1) rfl
      · exact dbc _ hm1 _ (List.mem_map.mpr ⟨q, h9, rfl⟩) rfl
    · omega
  have kept : ∀ q ∈ wa ++ wb, va_at D vwCl q H1 := by
    intro q hq
    have hq9 : q ∈ wa ++ (wc ++ wb) := by
      rcases List.mem_append.mp hq with h | h
      · exact List.mem_append_left _ h
      · exact List.mem_append_right _ (List.mem_append_right _ h)
    exact (hP q hq9).kept (hk1 q.1 (apart q hq).1 (apart q hq).2)
  refine ⟨P_mem.mpr fun q hq => ?_, D_nodup.mpr ⟨?_, fun q hq => ?_⟩, hS1⟩
  · rcases List.mem_append.mp hq with h | h
    · exact kept q (List.mem_append_left _ h)
    · rcases List.mem_append.mp h with h | h
      · exact P_mem.mp hP1 q h
      · exact kept q (List.mem_append_right _ h)
  · rw [List.map_append, List.map_append]
    refine List.nodup_append.mpr ⟨na, List.nodup_append.mpr ⟨hd1.1, nb, ?_⟩, ?_⟩
    · intro a ha b hb hab
      obtain ⟨q, hq, rfl⟩ := List.mem_map.mp ha
      obtain ⟨q2, hq2, rfl⟩ := List.mem_map.mp hb
      exact (apart q2 (List.mem_append_right _ hq2)).2 (by rw [← hab]; exact hd1.2 q hq)
    · intro a ha b hb hab
      rcases List.mem_append.mp hb with h | h
      · obtain ⟨q, hq, rfl⟩ := List.mem_map.mp h
        obtain ⟨q2, hq2, rfl⟩ := List.mem_map.mp ha
        exact (apart q2 (List.mem_append_left _ hq2)).2 (by rw [hab]; exact hd1.2 q hq)
      · exact dabc a ha b (List.mem_append_right _ h) hab
  · rcases List.mem_append.mp hq with h | h
    · exact hD.2 q (List.mem_append_left _ h)
    · rcases List.mem_append.mp h with h | h
      · exact fr_A S hA q.1 (hd1.2 q h)
      · exact hD.2 q (List.mem_append_right _ (List.mem_append_right _ h))
section OF
variable {p : Program} {l : Launch} {e : Env} {R : Room} {s : State} {m : MethodId} {args : Array Value} {below : List Frame} {meth : Method} {c : Code} {H : Heap} {locs : List Loc} {cells slots : Nat} {Q : State → Prop}
variable {cc : ByteArray} {pc nL : Nat} {ret : Option FieldType} {own : String} {Ts : List Cond} {ls : Array Slot} {rest : List Value} {D : va_G} {A : Nat → Prop} {tys tyc : List (ClassId × FieldType)} {wa wc wb wc' : va_W}
variable {y : MethodName} {wsY wsY' : List Cond} {rmY : Room} {byY : ByteArray} {mlY n index ci N q0 : Nat} {reY : Option FieldType} {Cn : String} {T : u_T} {As st0 : List Value} {b : Nat}
theorem fcVi {r : Int32} (C : Cx p s m args meth c cc nL ret own Ts D tys) (S : St D A s.heap (wa ++ (wc ++ wb)) H locs) (hA : ∀ q, s.heap.size ≤ q → A q) (hty : ∀ q ∈ tyc, q ∈ tys) (hM : ∀ sz, Met l y wsY rmY (kP D tyc (.ref b :: As) wc sz) (kI D tyc r wc wc' sz) 0 0 (va_A wc sz)) (hG : GoodIn Ts (wsV own index Cn y wsY)) (hw : wsY = Cond.code y byY mlY reY :: wsY') (hrc : rmY.cells = 0 ∧ rmY.slots = 0)
    (hd : y.cls = Cn ∧ y.cls ≠ "java/lang/invoke/MethodHandle" ∧ y.cls ≠ "java/lang/invoke/VarHandle" ∧ (parseMethodDescriptor y.desc).map (fun d => d.parameters.length) = some n) (hR : rmY.frames + 1 ≤ R.frames ∧ 8 + (mlY + 11) + rmY.locals ≤ R.locals) (he : ∃ fs, wc[q0]? = some (b, .inr (ci, fs))) (hc : vwCl[ci]? = some (Cn, T, N))
    (hn : As.length = n) (hsize : ls.size = nL) (hst : st0 = As.reverse ++ .ref b :: rest) (hW : (rest.map fun v => v.category).sum ≤ 8) (hdg : decode cc pc = .ok (.invokevirtual index, 3)) (hf : cells ≤ R.cells ∧ slots ≤ R.slots)
    (kk : ∀ (H : Heap) (locs : List Loc), St D A s.heap (wa ++ (wc' ++ wb)) H locs → W p l e R s m args below meth c H locs cells slots Q (F0 m (pc + 3) ls (.int r :: rest))) : W p l e R s m args below meth c H locs cells slots Q (F0 m pc ls st0) := by
  obtain ⟨hx, hb, hr, hml, hown, hts, hlk, hK⟩ := C
  have hFc := fr_A S hA
  obtain ⟨fs, he⟩ := he
  obtain ⟨hPc, hDc⟩ := fr_cut S
  have hKc := K_sub hK hty
  refine va_calli (va_runV (As := As) (rest := rest) ⟨hx, hb, hml, hown, hts⟩ (hM H.size) (cwV n hts hG hw hrc.1 hrc.2 hd hR) ⟨kP_blind, va_recv hKc hPc hc he, fun U hU hW => ⟨rfl, by rw [hU], by rw [hU]; exact hPc, va_K.moved hW.alike hKc, hDc⟩⟩ rfl hn hsize hst (lv_room hW) hdg hf) S.2.2 (fun q _ h => hFc q h) hFc (fun r1 u t H1 locs1 ht hvm hw1 hB hz1 hk1 hS1 => ?_)
  subst hw1
  obtain ⟨h1, h2, h3⟩ := hB
  rw [ht] at h1
  exact kk H1 locs1 (fr_join S hA h1 h3 hk1 hS1)
end OF
