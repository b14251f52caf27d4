theorem lwl_poke : Cond.methodLink RL 84 yL_poke ∈ lw_tbl := by decide +kernel
theorem lws_poke : Cond.static yL_poke ∈ lw_tbl := by decide +kernel
theorem lwl_byteAt : Cond.methodLink RL 91 yL_byteAt ∈ lw_tbl := by decide +kernel
theorem lws_byteAt : Cond.static yL_byteAt ∈ lw_tbl := by decide +kernel
theorem lwl_count : Cond.methodLink RL 103 yL_count ∈ lw_tbl := by decide +kernel
theorem lws_count : Cond.static yL_count ∈ lw_tbl := by decide +kernel
theorem lwi_L : Cond.initialized yL_poke.cls ∈ lw_tbl := by decide +kernel
def Sim_feed (n k : Nat) (Rel : SS → SS → Prop) : Prop := ∀ (zc zm : SS) (a1 a2 : Int32), Rel zc zm → ∃ (r : Int32) (zc' zm' : SS), gs_feed n k zc a1 a2 = some (r, zc') ∧ rm_feed k zm a1 a2 = some (r, zm') ∧ Rel zc' zm'
def Sim_put (n k : Nat) (Rel : SS → SS → Prop) : Prop := ∀ (zc zm : SS) (a1 : Int32), Rel zc zm → ∃ (r : Int32) (zc' zm' : SS), gs_put n k zc a1 = some (r, zc') ∧ rm_put k zm a1 = some (r, zm') ∧ Rel zc' zm'
def Sim_drop (n k : Nat) (Rel : SS → SS → Prop) : Prop := ∀ (zc zm : SS) (a1 : Int32), Rel zc zm → ∃ (r : Int32) (zc' zm' : SS), gs_drop n k zc a1 = some (r, zc') ∧ rm_drop k zm a1 = some (r, zm') ∧ Rel zc' zm'
def Sim_length (n k : Nat) (Rel : SS → SS → Prop) : Prop := ∀ (zc zm : SS) (a1 a2 : Int32), Rel zc zm → ∃ (r : Int32) (zm' : SS), gs_length n k zc a1 a2 = some r ∧ rm_length k zm a1 a2 = some (r, zm') ∧ Rel zc zm'
def Sim_find (n k : Nat) (Rel : SS → SS → Prop) : Prop := ∀ (zc zm : SS) (a1 a2 a3 : Int32), Rel zc zm → ∃ (r : Int32) (zm' : SS), gs_find n k zc a1 a2 a3 = some r ∧ rm_find k zm a1 a2 a3 = some (r, zm') ∧ Rel zc zm'
def Sim_snapshot (n k : Nat) (Rel : SS → SS → Prop) : Prop := ∀ (zc zm : SS), Rel zc zm → ∃ (r : Int32) (zc' zm' : SS), gs_snapshot n k zc = some (r, zc') ∧ rm_snapshot k zm = some (r, zm') ∧ Rel zc' zm'
def Sim_release (n k : Nat) (Rel : SS → SS → Prop) : Prop := ∀ (zc zm : SS) (a1 : Int32), Rel zc zm → ∃ (r : Int32) (zc' zm' : SS), gs_release n k zc a1 = some (r, zc') ∧ rm_release k zm a1 = some (r, zm') ∧ Rel zc' zm'
def Sim_sync (n k : Nat) (Rel : SS → SS → Prop) : Prop := ∀ (zc zm : SS), Rel zc zm → ∃ (r : Int32) (zc' zm' : SS), gs_sync n k zc = some (r, zc') ∧ rm_sync k zm = some (r, zm') ∧ Rel zc' zm'
def Sim_crash (n k : Nat) (Rel : SS → SS → Prop) : Prop := ∀ (zc zm : SS) (a1 : Int32), Rel zc zm → ∃ (r : Int32) (zc' zm' : SS), gs_crash n k zc a1 = some (r, zc') ∧ rm_crash k zm a1 = some (r, zm') ∧ Rel zc' zm'
def Sim_clean (n k : Nat) (Rel : SS → SS → Prop) : Prop := ∀ (zc zm : SS) (a1 a2 a3 : Int32), Rel zc zm → ∃ (r : Int32) (zc' zm' : SS), gs_clean n k zc a1 a2 a3 = some (r, zc') ∧ rm_clean k zm a1 a2 a3 = some (r, zm') ∧ Rel zc' zm'
def Sim_reopen (n k : Nat) (Rel : SS → SS → Prop) : Prop := ∀ (zc zm : SS), Rel zc zm → ∃ (r : Int32) (zc' zm' : SS), gs_reopen n k zc = some (r, zc') ∧ rm_reopen k zm = some (r, zm') ∧ Rel zc' zm'
def Sim_badAt (n k : Nat) (Rel : SS → SS → Prop) : Prop := ∀ (zc zm : SS), Rel zc zm → ∃ (r : Int32) (zm' : SS), gs_badAt n k zc = some r ∧ rm_badAt k zm = some (r, zm') ∧ Rel zc zm'
def Sim_poke (n k : Nat) (Rel : SS → SS → Prop) : Prop := ∀ (zc zm : SS) (a1 a2 a3 : Int32), Rel zc zm → (∃ (r : Int32) (zc' zm' : SS), gs_poke n k zc a1 a2 a3 = some (r, zc') ∧ rm_poke k zm a1 a2 a3 = some (r, zm') ∧ rm_thrown k zm' = some 0 ∧ Rel zc' zm') ∨ (noByte zc a1 a2 ∧ ∃ (r : Int32) (zm' : SS), rm_poke k zm a1 a2 a3 = some (r, zm') ∧ rm_thrown k zm' = some 1 ∧ Rel zc zm')
def Sim_byteAt (n k : Nat) (Rel : SS → SS → Prop) : Prop := ∀ (zc zm : SS) (a1 a2 : Int32), Rel zc zm → (∃ (r : Int32) (zm' : SS), gs_byteAt n k zc a1 a2 = some r ∧ rm_byteAt k zm a1 a2 = some (r, zm') ∧ rm_thrown k zm' = some 0 ∧ Rel zc zm') ∨ (noByte zc a1 a2 ∧ ∃ (r : Int32) (zm' : SS), rm_byteAt k zm a1 a2 = some (r, zm') ∧ rm_thrown k zm' = some 1 ∧ Rel zc zm')
def Sim_living (n k : Nat) (Rel : SS → SS → Prop) : Prop := ∀ (zc zm : SS) (a1 : Int32), Rel zc zm → ∃ (r : Int32) (zm' : SS), gs_living n k zc a1 = some r ∧ rm_living k zm a1 = some (r, zm') ∧ Rel zc zm'
def Sim_used (n k : Nat) (Rel : SS → SS → Prop) : Prop := ∀ (zc zm : SS) (a1 : Int32), Rel zc zm → ∃ (r : Int32) (zm' : SS), gs_used n k zc a1 = some r ∧ rm_used k zm a1 = some (r, zm') ∧ Rel zc zm'
def Sim_count (n k : Nat) (Rel : SS → SS → Prop) : Prop := ∀ (zc zm : SS) (a1 : Int32), Rel zc zm → (∃ (r : Int32) (zm' : SS), gs_count n k zc a1 = some r ∧ rm_count k zm a1 = some (r, zm') ∧ rm_thrown k zm' = some 0 ∧ Rel zc zm') ∨ ((a1.toInt < 0 ∨ 7 < a1.toInt) ∧ ∃ (r : Int32) (zm' : SS), rm_count k zm a1 = some (r, zm') ∧ rm_thrown k zm' = some 1 ∧ Rel zc zm')
def Sim (n k : Nat) (Rel : SS → SS → Prop) : Prop := Sim_feed n k Rel ∧ Sim_put n k Rel ∧ Sim_drop n k Rel ∧ Sim_length n k Rel ∧ Sim_find n k Rel ∧ Sim_snapshot n k Rel ∧ Sim_release n k Rel ∧ Sim_sync n k Rel ∧ Sim_crash n k Rel ∧ Sim_clean n k Rel ∧ Sim_reopen n k Rel ∧ Sim_badAt n k Rel ∧ Sim_poke n k Rel ∧ Sim_byteAt n k Rel ∧ Sim_living n k Rel ∧ Sim_used n k Rel ∧ Sim_count n k Rel
section LAW
variable {p : Program} {l : Launch} {e : Env} {s : State} {m : MethodId} {below : List Frame} {meth : Method} {c : Code} {D : va_G} {b L n k qo : Nat} {xs : Nat → Int32} {ad bd : Nat → Nat} {cA cB : Nat → ClassId} {co : ClassId} {cells slots j : Nat} {f : Nat → Int64} {zc zm : SS}
theorem rsc {cc : ByteArray} {pc : Nat} {H : Heap} {locs : List Loc} {ls : Array Slot} {rest : List Value} {Q : State → Prop} {R : Room} {iv : Int32} (hx : p.tables.exec = Jvm.exec) (hb : c.code = cc) (hX : va_X b L xs s s.heap) (hbl : b < s.heap.size) (hS : va_S (fun q => s.heap.size ≤ q) s.heap H locs) (i : Nat) (hi : i < L) (hL : L < 2147483648) (hie : iv = nI i) (hdg : decode cc pc = .ok (.iaload, 1))
    (kk : W p l e R s m #[Value.ref b] below meth c H locs cells slots Q (F0 m (pc + 1) ls (.int (xs i) :: rest))) : W p l e R s m #[Value.ref b] below meth c H locs cells slots Q (F0 m pc ls (.int iv :: .ref b :: rest)) := by
  subst hie
  refine va_sld hx hb hX hbl (Nat.not_le.mpr hbl) hS (vp_in_nI hi hL) hdg ?_
  rw [show (nI i).toNatClampNeg = i from nI_clamp (Nat.lt_trans hi hL)]
  exact kk
set_option maxHeartbeats 4000000 in
set_option maxRecDepth 100000 in
theorem lc_feed (C : Cx p s m #[Value.ref b] meth c cL_law 7 ret RL lw_tbl D (tL co (tC cA) (tM cB))) (hX : va_X b L xs s s.heap) (hbl : b < s.heap.size) (hL : L ≤ 2049) (hj : j + 4 ≤ L) (hc : cells + 1 ≤ 601024) (hs : slots + 6 ≤ 7293000) {r : Int32} {zc' zm' : SS} (hg : gs_feed n k zc (xs (j + 1)) (xs (j + 2)) = some (r, zc')) (hm : rm_feed k zm (xs (j + 1)) (xs (j + 2)) = some (r, zm')) (kk : ∀ (H : Heap) (locs : List Loc) (ls : Array Slot), St D (fun q => s.heap.size ≤ q) s.heap (wL qo co f (wC n ad cA zc') (wM bd cB zm')) H locs → lv_has ls 7 [(0, .ref b), (1, .ref (ad 0)), (2, .ref (bd 0)), (3, .ref qo), (4, .int (nI j))] → W p l e room_1 s m #[Value.ref b] below meth c H locs cells slots (lw_Z below #[Value.ref b] s) (F0 m 710 ls [])) : ∀ (H : Heap) (locs : List Loc) (ls : Array Slot), St D (fun q => s.heap.size ≤ q) s.heap (wL qo co f (wC n ad cA zc) (wM bd cB zm)) H locs → lv_has ls 7 [(0, .ref b), (1, .ref (ad 0)), (2, .ref (bd 0)), (3, .ref qo), (4, .int (nI j))] → W p l e room_1 s m #[Value.ref b] below meth c H locs cells slots (lw_Z below #[Value.ref b] s) (F0 m 132 ls []) := by
  obtain ⟨hx, hb, hr, hml, hown, hts, hlk, hK⟩ := id C
  intro H locs ls hS hl
  refine lv_aload_n hx hb dL_law_132 rfl (lv_at hl 1 rfl) ?_
  refine lv_aload_n hx hb dL_law_133 rfl (lv_at hl 0 rfl) ?_
  refine lv_iload hx hb dL_law_134 (lv_at hl 4 rfl) ?_
  refine lv_iconst (v := 1) hx hb dL_law_136 (by decide) ?_
  refine lv_iadd (x := nI j) (y := 1) hx hb dL_law_137 ?_
  refine rsc hx hb hX hbl hS.2.2 (j + 1) (by omega) (by omega) (nI_add j 1) dL_law_138 ?_
  refine lv_aload_n hx hb dL_law_139 rfl (lv_at hl 0 rfl) ?_
  refine lv_iload hx hb dL_law_140 (lv_at hl 4 rfl) ?_
  refine lv_iconst (v := 2) hx hb dL_law_142 (by decide) ?_
  refine lv_iadd (x := nI j) (y := 2) hx hb dL_law_143 ?_
  refine rsc hx hb hX hbl hS.2.2 (j + 2) (by omega) (by omega) (nI_add j 2) dL_law_144 ?_
  refine fcVi (n := 2) (As := [.int (xs (j + 1)), .int (xs (j + 2))]) (rest := []) (q0 := 0) (wc := wC n ad cA zc) (wc' := wC n ad cA zc') (wa := [(qo, .inl (co, 1, .inr (.inl f)))]) (wb := wM bd cB zm) C hS (fun _ h => h) tL_c (fun sz => c_gs_feed l D n ad cA k zc (xs (j + 1)) (xs (j + 2)) r zc' hg sz) (law_good gL_law_X5_feed) rfl ⟨rfl, rfl⟩ (by decide +kernel) ⟨Nat.le_of_ble_eq_true rfl, Nat.le_of_ble_eq_true rfl⟩ oC_0 rfl rfl hl.1 rfl (Nat.le_of_ble_eq_true rfl) dL_law_145 ⟨by show _ ≤ 601024; omega, by show _ ≤ 7293000; omega⟩ (fun H locs hS => ?_)
  refine lv_aload_n hx hb dL_law_148 rfl (lv_at hl 2 rfl) ?_
  refine lv_aload_n hx hb dL_law_149 rfl (lv_at hl 0 rfl) ?_
  refine lv_iload hx hb dL_law_150 (lv_at hl 4 rfl) ?_
  refine lv_iconst (v := 1) hx hb dL_law_152 (by decide) ?_
  refine lv_iadd (x := nI j) (y := 1) hx hb dL_law_153 ?_
  refine rsc hx hb hX hbl hS.2.2 (j + 1) (by omega) (by omega) (nI_add j 1) dL_law_154 ?_
  refine lv_aload_n hx hb dL_law_155 rfl (lv_at hl 0 rfl) ?_
  refine lv_iload hx hb dL_law_156 (lv_at hl 4 rfl) ?_
  refine lv_iconst (v := 2) hx hb dL_law_158 (by decide) ?_
  refine lv_iadd (x := nI j) (y := 2) hx hb dL_law_159 ?_
  refine rsc hx hb hX hbl hS.2.2 (j + 2) (by omega) (by omega) (nI_add j 2) dL_law_160 ?_
  have hS : St D (fun q => s.heap.size ≤ q) s.heap (([(qo, .inl (co, 1, .inr (.inl f)))] ++ wC n ad cA zc') ++ (wM bd cB zm ++ [])) H locs := by rw [← wL_m]; exact hS
  refine fcVi (r := r) (n := 2) (As := [.int (xs (j + 1)), .int (xs (j + 2))]) (rest := [.int r]) (q0 := 0) (wc := wM bd cB zm) (wc' := wM bd cB zm') (wa := [(qo, .inl (co, 1, .inr (.inl f)))] ++ wC n ad cA zc') (wb := []) C hS (fun _ h => h) tL_m (fun sz => c_rm_feed l D bd cB k zm (xs (j + 1)) (xs (j + 2)) r zm' hm sz) (law_good gL_law_X6_feed) rfl ⟨rfl, rfl⟩ (by decide +kernel) ⟨Nat.le_of_ble_eq_true rfl, Nat.le_of_ble_eq_true rfl⟩ oM_0 rfl rfl hl.1 rfl (Nat.le_of_ble_eq_true rfl) dL_law_161 ⟨by show _ ≤ 601024; omega, by show _ ≤ 7293000; omega⟩ (fun H locs hS => ?_)
  have hS : St D (fun q => s.heap.size ≤ q) s.heap (wL qo co f (wC n ad cA zc') (wM bd cB zm')) H locs := by rw [wL_m]; exact hS
  refine lv_icmp_eq (x := r) (y := r) (tgt := 710) hx hb dL_law_164 (by decide) (fun _ => ?_) (fun hc => absurd rfl hc)
  exact kk H locs ls hS hl
set_option maxHeartbeats 4000000 in
set_option maxRecDepth 100000 in
theorem lc_put (C : Cx p s m #[Value.ref b] meth c cL_law 7 ret RL lw_tbl D (tL co (tC cA) (tM cB))) (hX : va_X b L xs s s.heap) (hbl : b < s.heap.size) (hL : L ≤ 2049) (hj : j + 4 ≤ L) (hc : cells + 1 ≤ 601024) (hs : slots + 6 ≤ 7293000) {r : Int32} {zc' zm' : SS} (hg : gs_put n k zc (xs (j + 1)) = some (r, zc')) (hm : rm_put k zm (xs (j + 1)) = some (r, zm')) (kk : ∀ (H : Heap) (locs : List Loc) (ls : Array Slot), St D (fun q => s.heap.size ≤ q) s.heap (wL qo co f (wC n ad cA zc') (wM bd cB zm')) H locs → lv_has ls 7 [(0, .ref b), (1, .ref (ad 0)), (2, .ref (bd 0)), (3, .ref qo), (4, .int (nI j))] → W p l e room_1 s m #[Value.ref b] below meth c H locs cells slots (lw_Z below #[Value.ref b] s) (F0 m 710 ls [])) : ∀ (H : Heap) (locs : List Loc) (ls : Array Slot), St D (fun q => s.heap.size ≤ q) s.heap (wL qo co f (wC n ad cA zc) (wM bd cB zm)) H locs → lv_has ls 7 [(0, .ref b), (1, .ref (ad 0)), (2, .ref (bd 0)), (3, .ref qo), (4, .int (nI j))] → W p l e room_1 s m #[Value.ref b] below meth c H locs cells slots (lw_Z below #[Value.ref b] s) (F0 m 169 ls []) := by
  obtain ⟨hx, hb, hr, hml, hown, hts, hlk, hK⟩ := id C
  intro H locs ls hS hl
  refine lv_aload_n hx hb dL_law_169 rfl (lv_at hl 1 rfl) ?_
  refine lv_aload_n hx hb dL_law_170 rfl (lv_at hl 0 rfl) ?_
  refine lv_iload hx hb dL_law_171 (lv_at hl 4 rfl) ?_
  refine lv_iconst (v := 1) hx hb dL_law_173 (by decide) ?_
  refine lv_iadd (x := nI j) (y := 1) hx hb dL_law_174 ?_
  refine rsc hx hb hX hbl hS.2.2 (j + 1) (by omega) (by omega) (nI_add j 1) dL_law_175 ?_
  refine fcVi (n := 1) (As := [.int (xs (j + 1))]) (rest := []) (q0 := 0) (wc := wC n ad cA zc) (wc' := wC n ad cA zc') (wa := [(qo, .inl (co, 1, .inr (.inl f)))]) (wb := wM bd cB zm) C hS (fun _ h => h) tL_c (fun sz => c_gs_put l D n ad cA k zc (xs (j + 1)) r zc' hg sz) (law_good gL_law_X5_put) rfl ⟨rfl, rfl⟩ (by decide +kernel) ⟨Nat.le_of_ble_eq_true rfl, Nat.le_of_ble_eq_true rfl⟩ oC_0 rfl rfl hl.1 rfl (Nat.le_of_ble_eq_true rfl) dL_law_176 ⟨by show _ ≤ 601024; omega, by show _ ≤ 7293000; omega⟩ (fun H locs hS => ?_)
  refine lv_aload_n hx hb dL_law_179 rfl (lv_at hl 2 rfl) ?_
  refine lv_aload_n hx hb dL_law_180 rfl (lv_at hl 0 rfl) ?_
  refine lv_iload hx hb dL_law_181 (lv_at hl 4 rfl) ?_
  refine lv_iconst (v := 1) hx hb dL_law_183 (by decide) ?_
  refine lv_iadd (x := nI j) (y := 1) hx hb dL_law_184 ?_
  refine rsc hx hb hX hbl hS.2.2 (j + 1) (by omega) (by omega) (nI_add j 1) dL_law_185 ?_
  have hS : St D (fun q => s.heap.size ≤ q) s.heap (([(qo, .inl (co, 1, .inr (.inl f)))] ++ wC n ad cA zc') ++ (wM bd cB zm ++ [])) H locs := by rw [← wL_m]; exact hS
  refine fcVi (r := r) (n := 1) (As := [.int (xs (j + 1))]) (rest := [.int r]) (q0 := 0) (wc := wM bd cB zm) (wc' := wM bd cB zm') (wa := [(qo, .inl (co, 1, .inr (.inl f)))] ++ wC n ad cA zc') (wb := []) C hS (fun _ h => h) tL_m (fun sz => c_rm_put l D bd cB k zm (xs (j + 1)) r zm' hm sz) (law_good gL_law_X6_put) rfl ⟨rfl, rfl⟩ (by decide +kernel) ⟨Nat.le_of_ble_eq_true rfl, Nat.le_of_ble_eq_true rfl⟩ oM_0 rfl rfl hl.1 rfl (Nat.le_of_ble_eq_true rfl) dL_law_186 ⟨by show _ ≤ 601024; omega, by show _ ≤ 7293000; omega⟩ (fun H locs hS => ?_)
  have hS : St D (fun q => s.heap.size ≤ q) s.heap (wL qo co f (wC n ad cA zc') (wM bd cB zm')) H locs := by rw [wL_m]; exact hS
  refine lv_icmp_eq (x := r) (y := r) (tgt := 710) hx hb dL_law_189 (by decide) (fun _ => ?_) (fun hc => absurd rfl hc)
  exact kk H locs ls hS hl
set_option maxHeartbeats 4000000 in
set_option maxRecDepth 100000 in
theorem lc_drop (C : Cx p s m #[Value.ref b] meth c cL_law 7 ret RL lw_tbl D (tL co (tC cA) (tM cB))) (hX : va_X b L xs s s.heap) (hbl : b < s.heap.size) (hL : L ≤ 2049) (hj : j + 4 ≤ L) (hc : cells + 1 ≤ 601024) (hs : slots + 6 ≤ 7293000) {r : Int32} {zc' zm' : SS} (hg : gs_drop n k zc (xs (j + 1)) = some (r, zc')) (hm : rm_drop k zm (xs (j + 1)) = some (r, zm')) (kk : ∀ (H : Heap) (locs : List Loc) (ls : Array Slot), St D (fun q => s.heap.size ≤ q) s.heap (wL qo co f (wC n ad cA zc') (wM bd cB zm')) H locs → lv_has ls 7 [(0, .ref b), (1, .ref (ad 0)), (2, .ref (bd 0)), (3, .ref qo), (4, .int (nI j))] → W p l e room_1 s m #[Value.ref b] below meth c H locs cells slots (lw_Z below #[Value.ref b] s) (F0 m 710 ls [])) : ∀ (H : Heap) (locs : List Loc) (ls : Array Slot), St D (fun q => s.heap.size ≤ q) s.heap (wL qo co f (wC n ad cA zc) (wM bd cB zm)) H locs → lv_has ls 7 [(0, .ref b), (1, .ref (ad 0)), (2, .ref (bd 0)), (3, .ref qo), (4, .int (nI j))] → W p l e room_1 s m #[Value.ref b] below meth c H locs cells slots (lw_Z below #[Value.ref b] s) (F0 m 194 ls []) := by
  obtain ⟨hx, hb, hr, hml, hown, hts, hlk, hK⟩ := id C
  intro H locs ls hS hl
  refine lv_aload_n hx hb dL_law_194 rfl (lv_at hl 1 rfl) ?_
  refine lv_aload_n hx hb dL_law_195 rfl (lv_at hl 0 rfl) ?_
  refine lv_iload hx hb dL_law_196 (lv_at hl 4 rfl) ?_
  refine lv_iconst (v := 1) hx hb dL_law_198 (by decide) ?_
  refine lv_iadd (x := nI j) (y := 1) hx hb dL_law_199 ?_
  refine rsc hx hb hX hbl hS.2.2 (j + 1) (by omega) (by omega) (nI_add j 1) dL_law_200 ?_
  refine fcVi (n := 1) (As := [.int (xs (j + 1))]) (rest := []) (q0 := 0) (wc := wC n ad cA zc) (wc' := wC n ad cA zc') (wa := [(qo, .inl (co, 1, .inr (.inl f)))]) (wb := wM bd cB zm) C hS (fun _ h => h) tL_c (fun sz => c_gs_drop l D n ad cA k zc (xs (j + 1)) r zc' hg sz) (law_good gL_law_X5_drop) rfl ⟨rfl, rfl⟩ (by decide +kernel) ⟨Nat.le_of_ble_eq_true rfl, Nat.le_of_ble_eq_true rfl⟩ oC_0 rfl rfl hl.1 rfl (Nat.le_of_ble_eq_true rfl) dL_law_201 ⟨by show _ ≤ 601024; omega, by show _ ≤ 7293000; omega⟩ (fun H locs hS => ?_)
  refine lv_aload_n hx hb dL_law_204 rfl (lv_at hl 2 rfl) ?_
  refine lv_aload_n hx hb dL_law_205 rfl (lv_at hl 0 rfl) ?_
  refine lv_iload hx hb dL_law_206 (lv_at hl 4 rfl) ?_
  refine lv_iconst (v := 1) hx hb dL_law_208 (by decide) ?_
  refine lv_iadd (x := nI j) (y := 1) hx hb dL_law_209 ?_
  refine rsc hx hb hX hbl hS.2.2 (j + 1) (by omega) (by omega) (nI_add j 1) dL_law_210 ?_
  have hS : St D (fun q => s.heap.size ≤ q) s.heap (([(qo, .inl (co, 1, .inr (.inl f)))] ++ wC n ad cA zc') ++ (wM bd cB zm ++ [])) H locs := by rw [← wL_m]; exact hS
  refine fcVi (r := r) (n := 1) (As := [.int (xs (j + 1))]) (rest := [.int r]) (q0 := 0) (wc := wM bd cB zm) (wc' := wM bd cB zm') (wa := [(qo, .inl (co, 1, .inr (.inl f)))] ++ wC n ad cA zc') (wb := []) C hS (fun _ h => h) tL_m (fun sz => c_rm_drop l D bd cB k zm (xs (j + 1)) r zm' hm sz) (law_good gL_law_X6_drop) rfl ⟨rfl, rfl⟩ (by decide +kernel) ⟨Nat.le_of_ble_eq_true rfl, Nat.le_of_ble_eq_true rfl⟩ oM_0 rfl rfl hl.1 rfl (Nat.le_of_ble_eq_true rfl) dL_law_211 ⟨by show _ ≤ 601024; omega, by show _ ≤ 7293000; omega⟩ (fun H locs hS => ?_)
  have hS : St D (fun q => s.heap.size ≤ q) s.heap (wL qo co f (wC n ad cA zc') (wM bd cB zm')) H locs := by rw [wL_m]; exact hS
  refine lv_icmp_eq (x := r) (y := r) (tgt := 710) hx hb dL_law_214 (by decide) (fun _ => ?_) (fun hc => absurd rfl hc)
  exact kk H locs ls hS hl
set_option maxHeartbeats 4000000 in
set_option maxRecDepth 100000 in
theorem lc_length (C : Cx p s m #[Value.ref b] meth c cL_law 7 ret RL lw_tbl D (tL co (tC cA) (tM cB))) (hX : va_X b L xs s s.heap) (hbl : b < s.heap.size) (hL : L ≤ 2049) (hj : j + 4 ≤ L) (hc : cells + 1 ≤ 601024) (hs : slots + 6 ≤ 7293000) {r : Int32} {zm' : SS} (hg : gs_length n k zc (xs (j + 1)) (xs (j + 2)) = some r) (hm : rm_length k zm (xs (j + 1)) (xs (j + 2)) = some (r, zm')) (kk : ∀ (H : Heap) (locs : List Loc) (ls : Array Slot), St D (fun q => s.heap.size ≤ q) s.heap (wL qo co f (wC n ad cA zc) (wM bd cB zm')) H locs → lv_has ls 7 [(0, .ref b), (1, .ref (ad 0)), (2, .ref (bd 0)), (3, .ref qo), (4, .int (nI j))] → W p l e room_1 s m #[Value.ref b] below meth c H locs cells slots (lw_Z below #[Value.ref b] s) (F0 m 710 ls [])) : ∀ (H : Heap) (locs : List Loc) (ls : Array Slot), St D (fun q => s.heap.size ≤ q) s.heap (wL qo co f (wC n ad cA zc) (wM bd cB zm)) H locs → lv_has ls 7 [(0, .ref b), (1, .ref (ad 0)), (2, .ref (bd 0)), (3, .ref qo), (4, .int (nI j))] → W p l e room_1 s m #[Value.ref b] below meth c H locs cells slots (lw_Z below #[Value.ref b] s) (F0 m 219 ls []) := by
  obtain ⟨hx, hb, hr, hml, hown, hts, hlk, hK⟩ := id C
  intro H locs ls hS hl
  refine lv_aload_n hx hb dL_law_219 rfl (lv_at hl 1 rfl) ?_
  refine lv_aload_n hx hb dL_law_220 rfl (lv_at hl 0 rfl) ?_
  refine lv_iload hx hb dL_law_221 (lv_at hl 4 rfl) ?_
  refine lv_iconst (v := 1) hx hb dL_law_223 (by decide) ?_
  refine lv_iadd (x := nI j) (y := 1) hx hb dL_law_224 ?_
  refine rsc hx hb hX hbl hS.2.2 (j + 1) (by omega) (by omega) (nI_add j 1) dL_law_225 ?_
  refine lv_aload_n hx hb dL_law_226 rfl (lv_at hl 0 rfl) ?_
  refine lv_iload hx hb dL_law_227 (lv_at hl 4 rfl) ?_
  refine lv_iconst (v := 2) hx hb dL_law_229 (by decide) ?_
  refine lv_iadd (x := nI j) (y := 2) hx hb dL_law_230 ?_
  refine rsc hx hb hX hbl hS.2.2 (j + 2) (by omega) (by omega) (nI_add j 2) dL_law_231 ?_
  refine fcVi (n := 2) (As := [.int (xs (j + 1)), .int (xs (j + 2))]) (rest := []) (q0 := 0) (wc := wC n ad cA zc) (wc' := wC n ad cA zc) (wa := [(qo, .inl (co, 1, .inr (.inl f)))]) (wb := wM bd cB zm) C hS (fun _ h => h) tL_c (fun sz => c_gs_length l D n ad cA k zc (xs (j + 1)) (xs (j + 2)) r hg sz) (law_good gL_law_X5_length) rfl ⟨rfl, rfl⟩ (by decide +kernel) ⟨Nat.le_of_ble_eq_true rfl, Nat.le_of_ble_eq_true rfl⟩ oC_0 rfl rfl hl.1 rfl (Nat.le_of_ble_eq_true rfl) dL_law_232 ⟨by show _ ≤ 601024; omega, by show _ ≤ 7293000; omega⟩ (fun H locs hS => ?_)
  refine lv_aload_n hx hb dL_law_235 rfl (lv_at hl 2 rfl) ?_
  refine lv_aload_n hx hb dL_law_236 rfl (lv_at hl 0 rfl) ?_
  refine lv_iload hx hb dL_law_237 (lv_at hl 4 rfl) ?_
  refine lv_iconst (v := 1) hx hb dL_law_239 (by decide) ?_
  refine lv_iadd (x := nI j) (y := 1) hx hb dL_law_240 ?_
  refine rsc hx hb hX hbl hS.2.2 (j + 1) (by omega) (by omega) (nI_add j 1) dL_law_241 ?_
  refine lv_aload_n hx hb dL_law_242 rfl (lv_at hl 0 rfl) ?_
  refine lv_iload hx hb dL_law_243 (lv_at hl 4 rfl) ?_
  refine lv_iconst (v := 2) hx hb dL_law_245 (by decide) ?_
  refine lv_iadd (x := nI j) (y := 2) hx hb dL_law_246 ?_
  refine rsc hx hb hX hbl hS.2.2 (j + 2) (by omega) (by omega) (nI_add j 2) dL_law_247 ?_
  have hS : St D (fun q => s.heap.size ≤ q) s.heap (([(qo, .inl (co, 1, .inr (.inl f)))] ++ wC n ad cA zc) ++ (wM bd cB zm ++ [])) H locs := by rw [← wL_m]; exact hS
  refine fcVi (r := r) (n := 2) (As := [.int (xs (j + 1)), .int (xs (j + 2))]) (rest := [.int r]) (q0 := 0) (wc := wM bd cB zm) (wc' := wM bd cB zm') (wa := [(qo, .inl (co, 1, .inr (.inl f)))] ++ wC n ad cA zc) (wb := []) C hS (fun _ h => h) tL_m (fun sz => c_rm_length l D bd cB k zm (xs (j + 1)) (xs (j + 2)) r zm' hm sz) (law_good gL_law_X6_length) rfl ⟨rfl, rfl⟩ (by decide +kernel) ⟨Nat.le_of_ble_eq_true rfl, Nat.le_of_ble_eq_true rfl⟩ oM_0 rfl rfl hl.1 rfl (Nat.le_of_ble_eq_true rfl) dL_law_248 ⟨by show _ ≤ 601024; omega, by show _ ≤ 7293000; omega⟩ (fun H locs hS => ?_)
  have hS : St D (fun q => s.heap.size ≤ q) s.heap (wL qo co f (wC n ad cA zc) (wM bd cB zm')) H locs := by rw [wL_m]; exact hS
  refine lv_icmp_eq (x := r) (y := r) (tgt := 710) hx hb dL_law_251 (by decide) (fun _ => ?_) (fun hc => absurd rfl hc)
  exact kk H locs ls hS hl
set_option maxHeartbeats 4000000 in
set_option maxRecDepth 100000 in
theorem lc_find (C : Cx p s m #[Value.ref b] meth c cL_law 7 ret RL lw_tbl D (tL co (tC cA) (tM cB))) (hX : va_X b L xs s s.heap) (hbl : b < s.heap.size) (hL : L ≤ 2049) (hj : j + 4 ≤ L) (hc : cells + 1 ≤ 601024) (hs : slots + 6 ≤ 7293000) {r : Int32} {zm' : SS} (hg : gs_find n k zc (xs (j + 1)) (xs (j + 2)) (xs (j + 3)) = some r) (hm : rm_find k zm (xs (j + 1)) (xs (j + 2)) (xs (j + 3)) = some (r, zm')) (kk : ∀ (H : Heap) (locs : List Loc) (ls : Array Slot), St D (fun q => s.heap.size ≤ q) s.heap (wL qo co f (wC n ad cA zc) (wM bd cB zm')) H locs → lv_has ls 7 [(0, .ref b), (1, .ref (ad 0)), (2, .ref (bd 0)), (3, .ref qo), (4, .int (nI j))] → W p l e room_1 s m #[Value.ref b] below meth c H locs cells slots (lw_Z below #[Value.ref b] s) (F0 m 710 ls [])) : ∀ (H : Heap) (locs : List Loc) (ls : Array Slot), St D (fun q => s.heap.size ≤ q) s.heap (wL qo co f (wC n ad cA zc) (wM bd cB zm)) H locs → lv_has ls 7 [(0, .ref b), (1, .ref (ad 0)), (2, .ref (bd 0)), (3, .ref qo), (4, .int (nI j))] → W p l e room_1 s m #[Value.ref b] below meth c H locs cells slots (lw_Z below #[Value.ref b] s) (F0 m 256 ls []) := by
  obtain ⟨hx, hb, hr, hml, hown, hts, hlk, hK⟩ := id C
  intro H locs ls hS hl
  refine lv_aload_n hx hb dL_law_256 rfl (lv_at hl 1 rfl) ?_
  refine lv_aload_n hx hb dL_law_257 rfl (lv_at hl 0 rfl) ?_
  refine lv_iload hx hb dL_law_258 (lv_at hl 4 rfl) ?_
  refine lv_iconst (v := 1) hx hb dL_law_260 (by decide) ?_
  refine lv_iadd (x := nI j) (y := 1) hx hb dL_law_261 ?_
  refine rsc hx hb hX hbl hS.2.2 (j + 1) (by omega) (by omega) (nI_add j 1) dL_law_262 ?_
  refine lv_aload_n hx hb dL_law_263 rfl (lv_at hl 0 rfl) ?_
  refine lv_iload hx hb dL_law_264 (lv_at hl 4 rfl) ?_
  refine lv_iconst (v := 2) hx hb dL_law_266 (by decide) ?_
  refine lv_iadd (x := nI j) (y := 2) hx hb dL_law_267 ?_
  refine rsc hx hb hX hbl hS.2.2 (j + 2) (by omega) (by omega) (nI_add j 2) dL_law_268 ?_
  refine lv_aload_n hx hb dL_law_269 rfl (lv_at hl 0 rfl) ?_
  refine lv_iload hx hb dL_law_270 (lv_at hl 4 rfl) ?_
  refine lv_iconst (v := 3) hx hb dL_law_272 (by decide) ?_
  refine lv_iadd (x := nI j) (y := 3) hx hb dL_law_273 ?_
  refine rsc hx hb hX hbl hS.2.2 (j + 3) (by omega) (by omega) (nI_add j 3) dL_law_274 ?_
  refine fcVi (n := 3) (As := [.int (xs (j + 1)), .int (xs (j + 2)), .int (xs (j + 3))]) (rest := []) (q0 := 0) (wc := wC n ad cA zc) (wc' := wC n ad cA zc) (wa := [(qo, .inl (co, 1, .inr (.inl f)))]) (wb := wM bd cB zm) C hS (fun _ h => h) tL_c (fun sz => c_gs_find l D n ad cA k zc (xs (j + 1)) (xs (j + 2)) (xs (j + 3)) r hg sz) (law_good gL_law_X5_find) rfl ⟨rfl, rfl⟩ (by decide +kernel) ⟨Nat.le_of_ble_eq_true rfl, Nat.le_of_ble_eq_true rfl⟩ oC_0 rfl rfl hl.1 rfl (Nat.le_of_ble_eq_true rfl) dL_law_275 ⟨by show _ ≤ 601024; omega, by show _ ≤ 7293000; omega⟩ (fun H locs hS => ?_)
  refine lv_aload_n hx hb dL_law_278 rfl (lv_at hl 2 rfl) ?_
  refine lv_aload_n hx hb dL_law_279 rfl (lv_at hl 0 rfl) ?_
  refine lv_iload hx hb dL_law_280 (lv_at hl 4 rfl) ?_
  refine lv_iconst (v := 1) hx hb dL_law_282 (by decide) ?_
  refine lv_iadd (x := nI j) (y := 1) hx hb dL_law_283 ?_
  refine rsc hx hb hX hbl hS.2.2 (j + 1) (by omega) (by omega) (nI_add j 1) dL_law_284 ?_
  refine lv_aload_n hx hb dL_law_285 rfl (lv_at hl 0 rfl) ?_
  refine lv_iload hx hb dL_law_286 (lv_at hl 4 rfl) ?_
  refine lv_iconst (v := 2) hx hb dL_law_288 (by decide) ?_
  refine lv_iadd (x := nI j) (y := 2) hx hb dL_law_289 ?_
  refine rsc hx hb hX hbl hS.2.2 (j + 2) (by omega) (by omega) (nI_add j 2) dL_law_290 ?_
  refine lv_aload_n hx hb dL_law_291 rfl (lv_at hl 0 rfl) ?_
  refine lv_iload hx hb dL_law_292 (lv_at hl 4 rfl) ?_
  refine lv_iconst (v := 3) hx hb dL_law_294 (by decide) ?_
  refine lv_iadd (x := nI j) (y := 3) hx hb dL_law_295 ?_
  refine rsc hx hb hX hbl hS.2.2 (j + 3) (by omega) (by omega) (nI_add j 3) dL_law_296 ?_
  have hS : St D (fun q => s.heap.size ≤ q) s.heap (([(qo, .inl (co, 1, .inr (.inl f)))] ++ wC n ad cA zc) ++ (wM bd cB zm ++ [])) H locs := by rw [← wL_m]; exact hS
  refine fcVi (r := r) (n := 3) (As := [.int (xs (j + 1)), .int (xs (j + 2)), .int (xs (j + 3))]) (rest := [.int r]) (q0 := 0) (wc := wM bd cB zm) (wc' := wM bd cB zm') (wa := [(qo, .inl (co, 1, .inr (.inl f)))] ++ wC n ad cA zc) (wb := []) C hS (fun _ h => h) tL_m (fun sz => c_rm_find l D bd cB k zm (xs (j + 1)) (xs (j + 2)) (xs (j + 3)) r zm' hm sz) (law_good gL_law_X6_find) rfl ⟨rfl, rfl⟩ (by decide +kernel) ⟨Nat.le_of_ble_eq_true rfl, Nat.le_of_ble_eq_true rfl⟩ oM_0 rfl rfl hl.1 rfl (Nat.le_of_ble_eq_true rfl) dL_law_297 ⟨by show _ ≤ 601024; omega, by show _ ≤ 7293000; omega⟩ (fun H locs hS => ?_)
  have hS : St D (fun q => s.heap.size ≤ q) s.heap (wL qo co f (wC n ad cA zc) (wM bd cB zm')) H locs := by rw [wL_m]; exact hS
  refine lv_icmp_eq (x := r) (y := r) (tgt := 710) hx hb dL_law_300 (by decide) (fun _ => ?_) (fun hc => absurd rfl hc)
  exact kk H locs ls hS hl
set_option maxHeartbeats 4000000 in
set_option maxRecDepth 100000 in
theorem lc_snapshot (C : Cx p s m #[Value.ref b] meth c cL_law 7 ret RL lw_tbl D (tL co (tC cA) (tM cB))) (hX : va_X b L xs s s.heap) (hbl : b < s.heap.size) (hL : L ≤ 2049) (hj : j + 4 ≤ L) (hc : cells + 1 ≤ 601024) (hs : slots + 6 ≤ 7293000) {r : Int32} {zc' zm' : SS} (hg : gs_snapshot n k zc = some (r, zc')) (hm : rm_snapshot k zm = some (r, zm')) (kk : ∀ (H : Heap) (locs : List Loc) (ls : Array Slot), St D (fun q => s.heap.size ≤ q) s.heap (wL qo co f (wC n ad cA zc') (wM bd cB zm')) H locs → lv_has ls 7 [(0, .ref b), (1, .ref (ad 0)), (2, .ref (bd 0)), (3, .ref qo), (4, .int (nI j))] → W p l e room_1 s m #[Value.ref b] below meth c H locs cells slots (lw_Z below #[Value.ref b] s) (F0 m 710 ls [])) : ∀ (H : Heap) (locs : List Loc) (ls : Array Slot), St D (fun q => s.heap.size ≤ q) s.heap (wL qo co f (wC n ad cA zc) (wM bd cB zm)) H locs → lv_has ls 7 [(0, .ref b), (1, .ref (ad 0)), (2, .ref (bd 0)), (3, .ref qo), (4, .int (nI j))] → W p l e room_1 s m #[Value.ref b] below meth c H locs cells slots (lw_Z below #[Value.ref b] s) (F0 m 305 ls []) := by
  obtain ⟨hx, hb, hr, hml, hown, hts, hlk, hK⟩ := id C
  intro H locs ls hS hl
  refine lv_aload_n hx hb dL_law_305 rfl (lv_at hl 1 rfl) ?_
  refine fcVi (n := 0) (As := []) (rest := []) (q0 := 0) (wc := wC n ad cA zc) (wc' := wC n ad cA zc') (wa := [(qo, .inl (co, 1, .inr (.inl f)))]) (wb := wM bd cB zm) C hS (fun _ h => h) tL_c (fun sz => c_gs_snapshot l D n ad cA k zc r zc' hg sz) (law_good gL_law_X5_snapshot) rfl ⟨rfl, rfl⟩ (by decide +kernel) ⟨Nat.le_of_ble_eq_true rfl, Nat.le_of_ble_eq_true rfl⟩ oC_0 rfl rfl hl.1 rfl (Nat.le_of_ble_eq_true rfl) dL_law_306 ⟨by show _ ≤ 601024; omega, by show _ ≤ 7293000; omega⟩ (fun H locs hS => ?_)
  refine lv_aload_n hx hb dL_law_309 rfl (lv_at hl 2 rfl) ?_
  have hS : St D (fun q => s.heap.size ≤ q) s.heap (([(qo, .inl (co, 1, .inr (.inl f)))] ++ wC n ad cA zc') ++ (wM bd cB zm ++ [])) H locs := by rw [← wL_m]; exact hS
  refine fcVi (r := r) (n := 0) (As := []) (rest := [.int r]) (q0 := 0) (wc := wM bd cB zm) (wc' := wM bd cB zm') (wa := [(qo, .inl (co, 1, .inr (.inl f)))] ++ wC n ad cA zc') (wb := []) C hS (fun _ h => h) tL_m (fun sz => c_rm_snapshot l D bd cB k zm r zm' hm sz) (law_good gL_law_X6_snapshot) rfl ⟨rfl, rfl⟩ (by decide +kernel) ⟨Nat.le_of_ble_eq_true rfl, Nat.le_of_ble_eq_true rfl⟩ oM_0 rfl rfl hl.1 rfl (Nat.le_of_ble_eq_true rfl) dL_law_310 ⟨by show _ ≤ 601024; omega, by show _ ≤ 7293000; omega⟩ (fun H locs hS => ?_)
  have hS : St D (fun q => s.heap.size ≤ q) s.heap (wL qo co f (wC n ad cA zc') (wM bd cB zm')) H locs := by rw [wL_m]; exact hS
  refine lv_icmp_eq (x := r) (y := r) (tgt := 710) hx hb dL_law_313 (by decide) (fun _ => ?_) (fun hc => absurd rfl hc)
  exact kk H locs ls hS hl
set_option maxHeartbeats 4000000 in
set_option maxRecDepth 100000 in
theorem lc_release (C : Cx p s m #[Value.ref b] meth c cL_law 7 ret RL lw_tbl D (tL co (tC cA) (tM cB))) (hX : va_X b L xs s s.heap) (hbl : b < s.heap.size) (hL : L ≤ 2049) (hj : j + 4 ≤ L) (hc : cells + 1 ≤ 601024) (hs : slots + 6 ≤ 7293000) {r : Int32} {zc' zm' : SS} (hg : gs_release n k zc (xs (j + 1)) = some (r, zc')) (hm : rm_release k zm (xs (j + 1)) = some (r, zm')) (kk : ∀ (H : Heap) (locs : List Loc) (ls : Array Slot), St D (fun q => s.heap.size ≤ q) s.heap (wL qo co f (wC n ad cA zc') (wM bd cB zm')) H locs → lv_has ls 7 [(0, .ref b), (1, .ref (ad 0)), (2, .ref (bd 0)), (3, .ref qo), (4, .int (nI j))] → W p l e room_1 s m #[Value.ref b] below meth c H locs cells slots (lw_Z below #[Value.ref b] s) (F0 m 710 ls [])) : ∀ (H : Heap) (locs : List Loc) (ls : Array Slot), St D (fun q => s.heap.size ≤ q) s.heap (wL qo co f (wC n ad cA zc) (wM bd cB zm)) H locs → lv_has ls 7 [(0, .ref b), (1, .ref (ad 0)), (2, .ref (bd 0)), (3, .ref qo), (4, .int (nI j))] → W p l e room_1 s m #[Value.ref b] below meth c H locs cells slots (lw_Z below #[Value.ref b] s) (F0 m 318 ls []) := by
  obtain ⟨hx, hb, hr, hml, hown, hts, hlk, hK⟩ := id C
  intro H locs ls hS hl
  refine lv_aload_n hx hb dL_law_318 rfl (lv_at hl 1 rfl) ?_
  refine lv_aload_n hx hb dL_law_319 rfl (lv_at hl 0 rfl) ?_
  refine lv_iload hx hb dL_law_320 (lv_at hl 4 rfl) ?_
  refine lv_iconst (v := 1) hx hb dL_law_322 (by decide) ?_
  refine lv_iadd (x := nI j) (y := 1) hx hb dL_law_323 ?_
  refine rsc hx hb hX hbl hS.2.2 (j + 1) (by omega) (by omega) (nI_add j 1) dL_law_324 ?_
  refine fcVi (n := 1) (As := [.int (xs (j + 1))]) (rest := []) (q0 := 0) (wc := wC n ad cA zc) (wc' := wC n ad cA zc') (wa := [(qo, .inl (co, 1, .inr (.inl f)))]) (wb := wM bd cB zm) C hS (fun _ h => h) tL_c (fun sz => c_gs_release l D n ad cA k zc (xs (j + 1)) r zc' hg sz) (law_good gL_law_X5_release) rfl ⟨rfl, rfl⟩ (by decide +kernel) ⟨Nat.le_of_ble_eq_true rfl, Nat.le_of_ble_eq_true rfl⟩ oC_0 rfl rfl hl.1 rfl (Nat.le_of_ble_eq_true rfl) dL_law_325 ⟨by show _ ≤ 601024; omega, by show _ ≤ 7293000; omega⟩ (fun H locs hS => ?_)
  refine lv_aload_n hx hb dL_law_328 rfl (lv_at hl 2 rfl) ?_
  refine lv_aload_n hx hb dL_law_329 rfl (lv_at hl 0 rfl) ?_
  refine lv_iload hx hb dL_law_330 (lv_at hl 4 rfl) ?_
  refine lv_iconst (v := 1) hx hb dL_law_332 (by decide) ?_
  refine lv_iadd (x := nI j) (y := 1) hx hb dL_law_333 ?_
  refine rsc hx hb hX hbl hS.2.2 (j + 1) (by omega) (by omega) (nI_add j 1) dL_law_334 ?_
  have hS : St D (fun q => s.heap.size ≤ q) s.heap (([(qo, .inl (co, 1, .inr (.inl f)))] ++ wC n ad cA zc') ++ (wM bd cB zm ++ [])) H locs := by rw [← wL_m]; exact hS
  refine fcVi (r := r) (n := 1) (As := [.int (xs (j + 1))]) (rest := [.int r]) (q0 := 0) (wc := wM bd cB zm) (wc' := wM bd cB zm') (wa := [(qo, .inl (co, 1, .inr (.inl f)))] ++ wC n ad cA zc') (wb := []) C hS (fun _ h => h) tL_m (fun sz => c_rm_release l D bd cB k zm (xs (j + 1)) r zm' hm sz) (law_good gL_law_X6_release) rfl ⟨rfl, rfl⟩ (by decide +kernel) ⟨Nat.le_of_ble_eq_true rfl, Nat.le_of_ble_eq_true rfl⟩ oM_0 rfl rfl hl.1 rfl (Nat.le_of_ble_eq_true rfl) dL_law_335 ⟨by show _ ≤ 601024; omega, by show _ ≤ 7293000; omega⟩ (fun H locs hS => ?_)
  have hS : St D (fun q => s.heap.size ≤ q) s.heap (wL qo co f (wC n ad cA zc') (wM bd cB zm')) H locs := by rw [wL_m]; exact hS
  refine lv_icmp_eq (x := r) (y := r) (tgt := 710) hx hb dL_law_338 (by decide) (fun _ => ?_) (fun hc => absurd rfl hc)
  exact kk H locs ls hS hl
set_option maxHeartbeats 4000000 in
set_option maxRecDepth 100000 in
theorem lc_sync (C : Cx p s m #[Value.ref b] meth c cL_law 7 ret RL lw_tbl D (tL co (tC cA) (tM cB))) (hX : va_X b L xs s s.heap) (hbl : b < s.heap.size) (hL : L ≤ 2049) (hj : j + 4 ≤ L) (hc : cells + 1 ≤ 601024) (hs : slots + 6 ≤ 7293000) {r : Int32} {zc' zm' : SS} (hg : gs_sync n k zc = some (r, zc')) (hm : rm_sync k zm = some (r, zm')) (kk : ∀ (H : Heap) (locs : List Loc) (ls : Array Slot), St D (fun q => s.heap.size ≤ q) s.heap (wL qo co f (wC n ad cA zc') (wM bd cB zm')) H locs → lv_has ls 7 [(0, .ref b), (1, .ref (ad 0)), (2, .ref (bd 0)), (3, .ref qo), (4, .int (nI j))] → W p l e room_1 s m #[Value.ref b] below meth c H locs cells slots (lw_Z below #[Value.ref b] s) (F0 m 710 ls [])) : ∀ (H : Heap) (locs : List Loc) (ls : Array Slot), St D (fun q => s.heap.size ≤ q) s.heap (wL qo co f (wC n ad cA zc) (wM bd cB zm)) H locs → lv_has ls 7 [(0, .ref b), (1, .ref (ad 0)), (2, .ref (bd 0)), (3, .ref qo), (4, .int (nI j))] → W p l e room_1 s m #[Value.ref b] below meth c H locs cells slots (lw_Z below #[Value.ref b] s) (F0 m 343 ls []) := by
  obtain ⟨hx, hb, hr, hml, hown, hts, hlk, hK⟩ := id C
  intro H locs ls hS hl
  refine lv_aload_n hx hb dL_law_343 rfl (lv_at hl 1 rfl) ?_
  refine fcVi (n := 0) (As := []) (rest := []) (q0 := 0) (wc := wC n ad cA zc) (wc' := wC n ad cA zc') (wa := [(qo, .inl (co, 1, .inr (.inl f)))]) (wb := wM bd cB zm) C hS (fun _ h => h) tL_c (fun sz => c_gs_sync l D n ad cA k zc r zc' hg sz) (law_good gL_law_X5_sync) rfl ⟨rfl, rfl⟩ (by decide +kernel) ⟨Nat.le_of_ble_eq_true rfl, Nat.le_of_ble_eq_true rfl⟩ oC_0 rfl rfl hl.1 rfl (Nat.le_of_ble_eq_true rfl) dL_law_344 ⟨by show _ ≤ 601024; omega, by show _ ≤ 7293000; omega⟩ (fun H locs hS => ?_)
  refine lv_aload_n hx hb dL_law_347 rfl (lv_at hl 2 rfl) ?_
  have hS : St D (fun q => s.heap.size ≤ q) s.heap (([(qo, .inl (co, 1, .inr (.inl f)))] ++ wC n ad cA zc') ++ (wM bd cB zm ++ [])) H locs := by rw [← wL_m]; exact hS
  refine fcVi (r := r) (n := 0) (As := []) (rest := [.int r]) (q0 := 0) (wc := wM bd cB zm) (wc' := wM bd cB zm') (wa := [(qo, .inl (co, 1, .inr (.inl f)))] ++ wC n ad cA zc') (wb := []) C hS (fun _ h => h) tL_m (fun sz => c_rm_sync l D bd cB k zm r zm' hm sz) (law_good gL_law_X6_sync) rfl ⟨rfl, rfl⟩ (by decide +kernel) ⟨Nat.le_of_ble_eq_true rfl, Nat.le_of_ble_eq_true rfl⟩ oM_0 rfl rfl hl.1 rfl (Nat.le_of_ble_eq_true rfl) dL_law_348 ⟨by show _ ≤ 601024; omega, by show _ ≤ 7293000; omega⟩ (fun H locs hS => ?_)
  have hS : St D (fun q => s.heap.size ≤ q) s.heap (wL qo co f (wC n ad cA zc') (wM bd cB zm')) H locs := by rw [wL_m]; exact hS
  refine lv_icmp_eq (x := r) (y := r) (tgt := 710) hx hb dL_law_351 (by decide) (fun _ => ?_) (fun hc => absurd rfl hc)
  exact kk H locs ls hS hl
set_option maxHeartbeats 4000000 in
set_option maxRecDepth 100000 in
theorem lc_crash (C : Cx p s m #[Value.ref b] meth c cL_law 7 ret RL lw_tbl D (tL co (tC cA) (tM cB))) (hX : va_X b L xs s s.heap) (hbl : b < s.heap.size) (hL : L ≤ 2049) (hj : j + 4 ≤ L) (hc : cells + 1 ≤ 601024) (hs : slots + 6 ≤ 7293000) {r : Int32} {zc' zm' : SS} (hg : gs_crash n k zc (xs (j + 1)) = some (r, zc')) (hm : rm_crash k zm (xs (j + 1)) = some (r, zm')) (kk : ∀ (H : Heap) (locs : List Loc) (ls : Array Slot), St D (fun q => s.heap.size ≤ q) s.heap (wL qo co f (wC n ad cA zc') (wM bd cB zm')) H locs → lv_has ls 7 [(0, .ref b), (1, .ref (ad 0)), (2, .ref (bd 0)), (3, .ref qo), (4, .int (nI j))] → W p l e room_1 s m #[Value.ref b] below meth c H locs cells slots (lw_Z below #[Value.ref b] s) (F0 m 710 ls [])) : ∀ (H : Heap) (locs : List Loc) (ls : Array Slot), St D (fun q => s.heap.size ≤ q) s.heap (wL qo co f (wC n ad cA zc) (wM bd cB zm)) H locs → lv_has ls 7 [(0, .ref b), (1, .ref (ad 0)), (2, .ref (bd 0)), (3, .ref qo), (4, .int (nI j))] → W p l e room_1 s m #[Value.ref b] below meth c H locs cells slots (lw_Z below #[Value.ref b] s) (F0 m 356 ls []) := by
  obtain ⟨hx, hb, hr, hml, hown, hts, hlk, hK⟩ := id C
  intro H locs ls hS hl
  refine lv_aload_n hx hb dL_law_356 rfl (lv_at hl 1 rfl) ?_
  refine lv_aload_n hx hb dL_law_357 rfl (lv_at hl 0 rfl) ?_
  refine lv_iload hx hb dL_law_358 (lv_at hl 4 rfl) ?_
  refine lv_iconst (v := 1) hx hb dL_law_360 (by decide) ?_
  refine lv_iadd (x := nI j) (y := 1) hx hb dL_law_361 ?_
  refine rsc hx hb hX hbl hS.2.2 (j + 1) (by omega) (by omega) (nI_add j 1) dL_law_362 ?_
  refine fcVi (n := 1) (As := [.int (xs (j + 1))]) (rest := []) (q0 := 0) (wc := wC n ad cA zc) (wc' := wC n ad cA zc') (wa := [(qo, .inl (co, 1, .inr (.inl f)))]) (wb := wM bd cB zm) C hS (fun _ h => h) tL_c (fun sz => c_gs_crash l D n ad cA k zc (xs (j + 1)) r zc' hg sz) (law_good gL_law_X5_crash) rfl ⟨rfl, rfl⟩ (by decide +kernel) ⟨Nat.le_of_ble_eq_true rfl, Nat.le_of_ble_eq_true rfl⟩ oC_0 rfl rfl hl.1 rfl (Nat.le_of_ble_eq_true rfl) dL_law_363 ⟨by show _ ≤ 601024; omega, by show _ ≤ 7293000; omega⟩ (fun H locs hS => ?_)
  refine lv_aload_n hx hb dL_law_366 rfl (lv_at hl 2 rfl) ?_
  refine lv_aload_n hx hb dL_law_367 rfl (lv_at hl 0 rfl) ?_
  refine lv_iload hx hb dL_law_368 (lv_at hl 4 rfl) ?_
  refine lv_iconst (v := 1) hx hb dL_law_370 (by decide) ?_
  refine lv_iadd (x := nI j) (y := 1) hx hb dL_law_371 ?_
  refine rsc hx hb hX hbl hS.2.2 (j + 1) (by omega) (by omega) (nI_add j 1) dL_law_372 ?_
  have hS : St D (fun q => s.heap.size ≤ q) s.heap (([(qo, .inl (co, 1, .inr (.inl f)))] ++ wC n ad cA zc') ++ (wM bd cB zm ++ [])) H locs := by rw [← wL_m]; exact hS
  refine fcVi (r := r) (n := 1) (As := [.int (xs (j + 1))]) (rest := [.int r]) (q0 := 0) (wc := wM bd cB zm) (wc' := wM bd cB zm') (wa := [(qo, .inl (co, 1, .inr (.inl f)))] ++ wC n ad cA zc') (wb := []) C hS (fun _ h => h) tL_m (fun sz => c_rm_crash l D bd cB k zm (xs (j + 1)) r zm' hm sz) (law_good gL_law_X6_crash) rfl ⟨rfl, rfl⟩ (by decide +kernel) ⟨Nat.le_of_ble_eq_true rfl, Nat.le_of_ble_eq_true rfl⟩ oM_0 rfl rfl hl.1 rfl (Nat.le_of_ble_eq_true rfl) dL_law_373 ⟨by show _ ≤ 601024; omega, by show _ ≤ 7293000; omega⟩ (fun H locs hS => ?_)
  have hS : St D (fun q => s.heap.size ≤ q) s.heap (wL qo co f (wC n ad cA zc') (wM bd cB zm')) H locs := by rw [wL_m]; exact hS
  refine lv_icmp_eq (x := r) (y := r) (tgt := 710) hx hb dL_law_376 (by decide) (fun _ => ?_) (fun hc => absurd rfl hc)
  exact kk H locs ls hS hl
set_option maxHeartbeats 4000000 in
set_option maxRecDepth 100000 in
theorem lc_clean (C : Cx p s m #[Value.ref b] meth c cL_law 7 ret RL lw_tbl D (tL co (tC cA) (tM cB))) (hX : va_X b L xs s s.heap) (hbl : b < s.heap.size) (hL : L ≤ 2049) (hj : j + 4 ≤ L) (hc : cells + 1 ≤ 601024) (hs : slots + 6 ≤ 7293000) {r : Int32} {zc' zm' : SS} (hg : gs_clean n k zc (xs (j + 1)) (xs (j + 2)) (xs (j + 3)) = some (r, zc')) (hm : rm_clean k zm (xs (j + 1)) (xs (j + 2)) (xs (j + 3)) = some (r, zm')) (kk : ∀ (H : Heap) (locs : List Loc) (ls : Array Slot), St D (fun q => s.heap.size ≤ q) s.heap (wL qo co f (wC n ad cA zc') (wM bd cB zm')) H locs → lv_has ls 7 [(0, .ref b), (1, .ref (ad 0)), (2, .ref (bd 0)), (3, .ref qo), (4, .int (nI j))] → W p l e room_1 s m #[Value.ref b] below meth c H locs cells slots (lw_Z below #[Value.ref b] s) (F0 m 710 ls [])) : ∀ (H : Heap) (locs : List Loc) (ls : Array Slot), St D (fun q => s.heap.size ≤ q) s.heap (wL qo co f (wC n ad cA zc) (wM bd cB zm)) H locs → lv_has ls 7 [(0, .ref b), (1, .ref (ad 0)), (2, .ref (bd 0)), (3, .ref qo), (4, .int (nI j))] → W p l e room_1 s m #[Value.ref b] below meth c H locs cells slots (lw_Z below #[Value.ref b] s) (F0 m 381 ls []) := by
  obtain ⟨hx, hb, hr, hml, hown, hts, hlk, hK⟩ := id C
  intro H locs ls hS hl
  refine lv_aload_n hx hb dL_law_381 rfl (lv_at hl 1 rfl) ?_
  refine lv_aload_n hx hb dL_law_382 rfl (lv_at hl 0 rfl) ?_
  refine lv_iload hx hb dL_law_383 (lv_at hl 4 rfl) ?_
  refine lv_iconst (v := 1) hx hb dL_law_385 (by decide) ?_
  refine lv_iadd (x := nI j) (y := 1) hx hb dL_law_386 ?_
  refine rsc hx hb hX hbl hS.2.2 (j + 1) (by omega) (by omega) (nI_add j 1) dL_law_387 ?_
  refine lv_aload_n hx hb dL_law_388 rfl (lv_at hl 0 rfl) ?_
  refine lv_iload hx hb dL_law_389 (lv_at hl 4 rfl) ?_
  refine lv_iconst (v := 2) hx hb dL_law_391 (by decide) ?_
  refine lv_iadd (x := nI j) (y := 2) hx hb dL_law_392 ?_
  refine rsc hx hb hX hbl hS.2.2 (j + 2) (by omega) (by omega) (nI_add j 2) dL_law_393 ?_
  refine lv_aload_n hx hb dL_law_394 rfl (lv_at hl 0 rfl) ?_
  refine lv_iload hx hb dL_law_395 (lv_at hl 4 rfl) ?_
  refine lv_iconst (v := 3) hx hb dL_law_397 (by decide) ?_
  refine lv_iadd (x := nI j) (y := 3) hx hb dL_law_398 ?_
  refine rsc hx hb hX hbl hS.2.2 (j + 3) (by omega) (by omega) (nI_add j 3) dL_law_399 ?_
  refine fcVi (n := 3) (As := [.int (xs (j + 1)), .int (xs (j + 2)), .int (xs (j + 3))]) (rest := []) (q0 := 0) (wc := wC n ad cA zc) (wc' := wC n ad cA zc') (wa := [(qo, .inl (co, 1, .inr (.inl f)))]) (wb := wM bd cB zm) C hS (fun _ h => h) tL_c (fun sz => c_gs_clean l D n ad cA k zc (xs (j + 1)) (xs (j + 2)) (xs (j + 3)) r zc' hg sz) (law_good gL_law_X5_clean) rfl ⟨rfl, rfl⟩ (by decide +kernel) ⟨Nat.le_of_ble_eq_true rfl, Nat.le_of_ble_eq_true rfl⟩ oC_0 rfl rfl hl.1 rfl (Nat.le_of_ble_eq_true rfl) dL_law_400 ⟨by show _ ≤ 601024; omega, by show _ ≤ 7293000; omega⟩ (fun H locs hS => ?_)
  refine lv_aload_n hx hb dL_law_403 rfl (lv_at hl 2 rfl) ?_
  refine lv_aload_n hx hb dL_law_404 rfl (lv_at hl 0 rfl) ?_
  refine lv_iload hx hb dL_law_405 (lv_at hl 4 rfl) ?_
  refine lv_iconst (v := 1) hx hb dL_law_407 (by decide) ?_
  refine lv_iadd (x := nI j) (y := 1) hx hb dL_law_408 ?_
  refine rsc hx hb hX hbl hS.2.2 (j + 1) (by omega) (by omega) (nI_add j 1) dL_law_409 ?_
  refine lv_aload_n hx hb dL_law_410 rfl (lv_at hl 0 rfl) ?_
  refine lv_iload hx hb dL_law_411 (lv_at hl 4 rfl) ?_
  refine lv_iconst (v := 2) hx hb dL_law_413 (by decide) ?_
  refine lv_iadd (x := nI j) (y := 2) hx hb dL_law_414 ?_
  refine rsc hx hb hX hbl hS.2.2 (j + 2) (by omega) (by omega) (nI_add j 2) dL_law_415 ?_
  refine lv_aload_n hx hb dL_law_416 rfl (lv_at hl 0 rfl) ?_
  refine lv_iload hx hb dL_law_417 (lv_at hl 4 rfl) ?_
  refine lv_iconst (v := 3) hx hb dL_law_419 (by decide) ?_
  refine lv_iadd (x := nI j) (y := 3) hx hb dL_law_420 ?_
  refine rsc hx hb hX hbl hS.2.2 (j + 3) (by omega) (by omega) (nI_add j 3) dL_law_421 ?_
  have hS : St D (fun q => s.heap.size ≤ q) s.heap (([(qo, .inl (co, 1, .inr (.inl f)))] ++ wC n ad cA zc') ++ (wM bd cB zm ++ [])) H locs := by rw [← wL_m]; exact hS
  refine fcVi (r := r) (n := 3) (As := [.int (xs (j + 1)), .int (xs (j + 2)), .int (xs (j + 3))]) (rest := [.int r]) (q0 := 0) (wc := wM bd cB zm) (wc' := wM bd cB zm') (wa := [(qo, .inl (co, 1, .inr (.inl f)))] ++ wC n ad cA zc') (wb := []) C hS (fun _ h => h) tL_m (fun sz => c_rm_clean l D bd cB k zm (xs (j + 1)) (xs (j + 2)) (xs (j + 3)) r zm' hm sz) (law_good gL_law_X6_clean) rfl ⟨rfl, rfl⟩ (by decide +kernel) ⟨Nat.le_of_ble_eq_true rfl, Nat.le_of_ble_eq_true rfl⟩ oM_0 rfl rfl hl.1 rfl (Nat.le_of_ble_eq_true rfl) dL_law_422 ⟨by show _ ≤ 601024; omega, by show _ ≤ 7293000; omega⟩ (fun H locs hS => ?_)
  have hS : St D (fun q => s.heap.size ≤ q) s.heap (wL qo co f (wC n ad cA zc') (wM bd cB zm')) H locs := by rw [wL_m]; exact hS
  refine lv_icmp_eq (x := r) (y := r) (tgt := 710) hx hb dL_law_425 (by decide) (fun _ => ?_) (fun hc => absurd rfl hc)
  exact kk H locs ls hS hl
set_option maxHeartbeats 4000000 in
set_option maxRecDepth 100000 in
theorem lc_reopen (C : Cx p s m #[Value.ref b] meth c cL_law 7 ret RL lw_tbl D (tL co (tC cA) (tM cB))) (hX : va_X b L xs s s.heap) (hbl : b < s.heap.size) (hL : L ≤ 2049) (hj : j + 4 ≤ L) (hc : cells + 1 ≤ 601024) (hs : slots + 6 ≤ 7293000) {r : Int32} {zc' zm' : SS} (hg : gs_reopen n k zc = some (r, zc')) (hm : rm_reopen k zm = some (r, zm')) (kk : ∀ (H : Heap) (locs : List Loc) (ls : Array Slot), St D (fun q => s.heap.size ≤ q) s.heap (wL qo co f (wC n ad cA zc') (wM bd cB zm')) H locs → lv_has ls 7 [(0, .ref b), (1, .ref (ad 0)), (2, .ref (bd 0)), (3, .ref qo), (4, .int (nI j))] → W p l e room_1 s m #[Value.ref b] below meth c H locs cells slots (lw_Z below #[Value.ref b] s) (F0 m 710 ls [])) : ∀ (H : Heap) (locs : List Loc) (ls : Array Slot), St D (fun q => s.heap.size ≤ q) s.heap (wL qo co f (wC n ad cA zc) (wM bd cB zm)) H locs → lv_has ls 7 [(0, .ref b), (1, .ref (ad 0)), (2, .ref (bd 0)), (3, .ref qo), (4, .int (nI j))] → W p l e room_1 s m #[Value.ref b] below meth c H locs cells slots (lw_Z below #[Value.ref b] s) (F0 m 430 ls []) := by
  obtain ⟨hx, hb, hr, hml, hown, hts, hlk, hK⟩ := id C
  intro H locs ls hS hl
  refine lv_aload_n hx hb dL_law_430 rfl (lv_at hl 1 rfl) ?_
  refine fcVi (n := 0) (As := []) (rest := []) (q0 := 0) (wc := wC n ad cA zc) (wc' := wC n ad cA zc') (wa := [(qo, .inl (co, 1, .inr (.inl f)))]) (wb := wM bd cB zm) C hS (fun _ h => h) tL_c (fun sz => c_gs_reopen l D n ad cA k zc r zc' hg sz) (law_good gL_law_X5_reopen) rfl ⟨rfl, rfl⟩ (by decide +kernel) ⟨Nat.le_of_ble_eq_true rfl, Nat.le_of_ble_eq_true rfl⟩ oC_0 rfl rfl hl.1 rfl (Nat.le_of_ble_eq_true rfl) dL_law_431 ⟨by show _ ≤ 601024; omega, by show _ ≤ 7293000; omega⟩ (fun H locs hS => ?_)
  refine lv_aload_n hx hb dL_law_434 rfl (lv_at hl 2 rfl) ?_
  have hS : St D (fun q => s.heap.size ≤ q) s.heap (([(qo, .inl (co, 1, .inr (.inl f)))] ++ wC n ad cA zc') ++ (wM bd cB zm ++ [])) H locs := by rw [← wL_m]; exact hS
  refine fcVi (r := r) (n := 0) (As := []) (rest := [.int r]) (q0 := 0) (wc := wM bd cB zm) (wc' := wM bd cB zm') (wa := [(qo, .inl (co, 1, .inr (.inl f)))] ++ wC n ad cA zc') (wb := []) C hS (fun _ h => h) tL_m (fun sz => c_rm_reopen l D bd cB k zm r zm' hm sz) (law_good gL_law_X6_reopen) rfl ⟨rfl, rfl⟩ (by decide +kernel) ⟨Nat.le_of_ble_eq_true rfl, Nat.le_of_ble_eq_true rfl⟩ oM_0 rfl rfl hl.1 rfl (Nat.le_of_ble_eq_true rfl) dL_law_435 ⟨by show _ ≤ 601024; omega, by show _ ≤ 7293000; omega⟩ (fun H locs hS => ?_)
  have hS : St D (fun q => s.heap.size ≤ q) s.heap (wL qo co f (wC n ad cA zc') (wM bd cB zm')) H locs := by rw [wL_m]; exact hS
  refine lv_icmp_eq (x := r) (y := r) (tgt := 710) hx hb dL_law_438 (by decide) (fun _ => ?_) (fun hc => absurd rfl hc)
  exact kk H locs ls hS hl
set_option maxHeartbeats 4000000 in
set_option maxRecDepth 100000 in
theorem lc_badAt (C : Cx p s m #[Value.ref b] meth c cL_law 7 ret RL lw_tbl D (tL co (tC cA) (tM cB))) (hX : va_X b L xs s s.heap) (hbl : b < s.heap.size) (hL : L ≤ 2049) (hj : j + 4 ≤ L) (hc : cells + 1 ≤ 601024) (hs : slots + 6 ≤ 7293000) {r : Int32} {zm' : SS} (hg : gs_badAt n k zc = some r) (hm : rm_badAt k zm = some (r, zm')) (kk : ∀ (H : Heap) (locs : List Loc) (ls : Array Slot), St D (fun q => s.heap.size ≤ q) s.heap (wL qo co f (wC n ad cA zc) (wM bd cB zm')) H locs → lv_has ls 7 [(0, .ref b), (1, .ref (ad 0)), (2, .ref (bd 0)), (3, .ref qo), (4, .int (nI j))] → W p l e room_1 s m #[Value.ref b] below meth c H locs cells slots (lw_Z below #[Value.ref b] s) (F0 m 710 ls [])) : ∀ (H : Heap) (locs : List Loc) (ls : Array Slot), St D (fun q => s.heap.size ≤ q) s.heap (wL qo co f (wC n ad cA zc) (wM bd cB zm)) H locs → lv_has ls 7 [(0, .ref b), (1, .ref (ad 0)), (2, .ref (bd 0)), (3, .ref qo), (4, .int (nI j))] → W p l e room_1 s m #[Value.ref b] below meth c H locs cells slots (lw_Z below #[Value.ref b] s) (F0 m 443 ls []) := by
  obtain ⟨hx, hb, hr, hml, hown, hts, hlk, hK⟩ := id C
  intro H locs ls hS hl
  refine lv_aload_n hx hb dL_law_443 rfl (lv_at hl 1 rfl) ?_
  refine fcVi (n := 0) (As := []) (rest := []) (q0 := 0) (wc := wC n ad cA zc) (wc' := wC n ad cA zc) (wa := [(qo, .inl (co, 1, .inr (.inl f)))]) (wb := wM bd cB zm) C hS (fun _ h => h) tL_c (fun sz => c_gs_badAt l D n ad cA k zc r hg sz) (law_good gL_law_X5_badAt) rfl ⟨rfl, rfl⟩ (by decide +kernel) ⟨Nat.le_of_ble_eq_true rfl, Nat.le_of_ble_eq_true rfl⟩ oC_0 rfl rfl hl.1 rfl (Nat.le_of_ble_eq_true rfl) dL_law_444 ⟨by show _ ≤ 601024; omega, by show _ ≤ 7293000; omega⟩ (fun H locs hS => ?_)
  refine lv_aload_n hx hb dL_law_447 rfl (lv_at hl 2 rfl) ?_
  have hS : St D (fun q => s.heap.size ≤ q) s.heap (([(qo, .inl (co, 1, .inr (.inl f)))] ++ wC n ad cA zc) ++ (wM bd cB zm ++ [])) H locs := by rw [← wL_m]; exact hS
  refine fcVi (r := r) (n := 0) (As := []) (rest := [.int r]) (q0 := 0) (wc := wM bd cB zm) (wc' := wM bd cB zm') (wa := [(qo, .inl (co, 1, .inr (.inl f)))] ++ wC n ad cA zc) (wb := []) C hS (fun _ h => h) tL_m (fun sz => c_rm_badAt l D bd cB k zm r zm' hm sz) (law_good gL_law_X6_badAt) rfl ⟨rfl, rfl⟩ (by decide +kernel) ⟨Nat.le_of_ble_eq_true rfl, Nat.le_of_ble_eq_true rfl⟩ oM_0 rfl rfl hl.1 rfl (Nat.le_of_ble_eq_true rfl) dL_law_448 ⟨by show _ ≤ 601024; omega, by show _ ≤ 7293000; omega⟩ (fun H locs hS => ?_)
  have hS : St D (fun q => s.heap.size ≤ q) s.heap (wL qo co f (wC n ad cA zc) (wM bd cB zm')) H locs := by rw [wL_m]; exact hS
  refine lv_icmp_eq (x := r) (y := r) (tgt := 710) hx hb dL_law_451 (by decide) (fun _ => ?_) (fun hc => absurd rfl hc)
  exact kk H locs ls hS hl
set_option maxHeartbeats 4000000 in
set_option maxRecDepth 100000 in
theorem lc_living (C : Cx p s m #[Value.ref b] meth c cL_law 7 ret RL lw_tbl D (tL co (tC cA) (tM cB))) (hX : va_X b L xs s s.heap) (hbl : b < s.heap.size) (hL : L ≤ 2049) (hj : j + 4 ≤ L) (hc : cells + 1 ≤ 601024) (hs : slots + 6 ≤ 7293000) {r : Int32} {zm' : SS} (hg : gs_living n k zc (xs (j + 1)) = some r) (hm : rm_living k zm (xs (j + 1)) = some (r, zm')) (kk : ∀ (H : Heap) (locs : List Loc) (ls : Array Slot), St D (fun q => s.heap.size ≤ q) s.heap (wL qo co f (wC n ad cA zc) (wM bd cB zm')) H locs → lv_has ls 7 [(0, .ref b), (1, .ref (ad 0)), (2, .ref (bd 0)), (3, .ref qo), (4, .int (nI j))] → W p l e room_1 s m #[Value.ref b] below meth c H locs cells slots (lw_Z below #[Value.ref b] s) (F0 m 710 ls [])) : ∀ (H : Heap) (locs : List Loc) (ls : Array Slot), St D (fun q => s.heap.size ≤ q) s.heap (wL qo co f (wC n ad cA zc) (wM bd cB zm)) H locs → lv_has ls 7 [(0, .ref b), (1, .ref (ad 0)), (2, .ref (bd 0)), (3, .ref qo), (4, .int (nI j))] → W p l e room_1 s m #[Value.ref b] below meth c H locs cells slots (lw_Z below #[Value.ref b] s) (F0 m 604 ls []) := by
  obtain ⟨hx, hb, hr, hml, hown, hts, hlk, hK⟩ := id C
  intro H locs ls hS hl
  refine lv_aload_n hx hb dL_law_604 rfl (lv_at hl 1 rfl) ?_
  refine lv_aload_n hx hb dL_law_605 rfl (lv_at hl 0 rfl) ?_
  refine lv_iload hx hb dL_law_606 (lv_at hl 4 rfl) ?_
  refine lv_iconst (v := 1) hx hb dL_law_608 (by decide) ?_
  refine lv_iadd (x := nI j) (y := 1) hx hb dL_law_609 ?_
  refine rsc hx hb hX hbl hS.2.2 (j + 1) (by omega) (by omega) (nI_add j 1) dL_law_610 ?_
  refine fcVi (n := 1) (As := [.int (xs (j + 1))]) (rest := []) (q0 := 0) (wc := wC n ad cA zc) (wc' := wC n ad cA zc) (wa := [(qo, .inl (co, 1, .inr (.inl f)))]) (wb := wM bd cB zm) C hS (fun _ h => h) tL_c (fun sz => c_gs_living l D n ad cA k zc (xs (j + 1)) r hg sz) (law_good gL_law_X5_living) rfl ⟨rfl, rfl⟩ (by decide +kernel) ⟨Nat.le_of_ble_eq_true rfl, Nat.le_of_ble_eq_true rfl⟩ oC_0 rfl rfl hl.1 rfl (Nat.le_of_ble_eq_true rfl) dL_law_611 ⟨by show _ ≤ 601024; omega, by show _ ≤ 7293000; omega⟩ (fun H locs hS => ?_)
  refine lv_aload_n hx hb dL_law_614 rfl (lv_at hl 2 rfl) ?_
  refine lv_aload_n hx hb dL_law_615 rfl (lv_at hl 0 rfl) ?_
  refine lv_iload hx hb dL_law_616 (lv_at hl 4 rfl) ?_
  refine lv_iconst (v := 1) hx hb dL_law_618 (by decide) ?_
  refine lv_iadd (x := nI j) (y := 1) hx hb dL_law_619 ?_
  refine rsc hx hb hX hbl hS.2.2 (j + 1) (by omega) (by omega) (nI_add j 1) dL_law_620 ?_
  have hS : St D (fun q => s.heap.size ≤ q) s.heap (([(qo, .inl (co, 1, .inr (.inl f)))] ++ wC n ad cA zc) ++ (wM bd cB zm ++ [])) H locs := by rw [← wL_m]; exact hS
  refine fcVi (r := r) (n := 1) (As := [.int (xs (j + 1))]) (rest := [.int r]) (q0 := 0) (wc := wM bd cB zm) (wc' := wM bd cB zm') (wa := [(qo, .inl (co, 1, .inr (.inl f)))] ++ wC n ad cA zc) (wb := []) C hS (fun _ h => h) tL_m (fun sz => c_rm_living l D bd cB k zm (xs (j + 1)) r zm' hm sz) (law_good gL_law_X6_living) rfl ⟨rfl, rfl⟩ (by decide +kernel) ⟨Nat.le_of_ble_eq_true rfl, Nat.le_of_ble_eq_true rfl⟩ oM_0 rfl rfl hl.1 rfl (Nat.le_of_ble_eq_true rfl) dL_law_621 ⟨by show _ ≤ 601024; omega, by show _ ≤ 7293000; omega⟩ (fun H locs hS => ?_)
  have hS : St D (fun q => s.heap.size ≤ q) s.heap (wL qo co f (wC n ad cA zc) (wM bd cB zm')) H locs := by rw [wL_m]; exact hS
  refine lv_icmp_eq (x := r) (y := r) (tgt := 710) hx hb dL_law_624 (by decide) (fun _ => ?_) (fun hc => absurd rfl hc)
  exact kk H locs ls hS hl
set_option maxHeartbeats 4000000 in
set_option maxRecDepth 100000 in
theorem lc_used (C : Cx p s m #[Value.ref b] meth c cL_law 7 ret RL lw_tbl D (tL co (tC cA) (tM cB))) (hX : va_X b L xs s s.heap) (hbl : b < s.heap.size) (hL : L ≤ 2049) (hj : j + 4 ≤ L) (hc : cells + 1 ≤ 601024) (hs : slots + 6 ≤ 7293000) {r : Int32} {zm' : SS} (hg : gs_used n k zc (xs (j + 1)) = some r) (hm : rm_used k zm (xs (j + 1)) = some (r, zm')) (kk : ∀ (H : Heap) (locs : List Loc) (ls : Array Slot), St D (fun q => s.heap.size ≤ q) s.heap (wL qo co f (wC n ad cA zc) (wM bd cB zm')) H locs → lv_has ls 7 [(0, .ref b), (1, .ref (ad 0)), (2, .ref (bd 0)), (3, .ref qo), (4, .int (nI j))] → W p l e room_1 s m #[Value.ref b] below meth c H locs cells slots (lw_Z below #[Value.ref b] s) (F0 m 710 ls [])) : ∀ (H : Heap) (locs : List Loc) (ls : Array Slot), St D (fun q => s.heap.size ≤ q) s.heap (wL qo co f (wC n ad cA zc) (wM bd cB zm)) H locs → lv_has ls 7 [(0, .ref b), (1, .ref (ad 0)), (2, .ref (bd 0)), (3, .ref qo), (4, .int (nI j))] → W p l e room_1 s m #[Value.ref b] below meth c H locs cells slots (lw_Z below #[Value.ref b] s) (F0 m 629 ls []) := by
  obtain ⟨hx, hb, hr, hml, hown, hts, hlk, hK⟩ := id C
  intro H locs ls hS hl
  refine lv_aload_n hx hb dL_law_629 rfl (lv_at hl 1 rfl) ?_
  refine lv_aload_n hx hb dL_law_630 rfl (lv_at hl 0 rfl) ?_
  refine lv_iload hx hb dL_law_631 (lv_at hl 4 rfl) ?_
  refine lv_iconst (v := 1) hx hb dL_law_633 (by decide) ?_
  refine lv_iadd (x := nI j) (y := 1) hx hb dL_law_634 ?_
  refine rsc hx hb hX hbl hS.2.2 (j + 1) (by omega) (by omega) (nI_add j 1) dL_law_635 ?_
  refine fcVi (n := 1) (As := [.int (xs (j + 1))]) (rest := []) (q0 := 0) (wc := wC n ad cA zc) (wc' := wC n ad cA zc) (wa := [(qo, .inl (co, 1, .inr (.inl f)))]) (wb := wM bd cB zm) C hS (fun _ h => h) tL_c (fun sz => c_gs_used l D n ad cA k zc (xs (j + 1)) r hg sz) (law_good gL_law_X5_used) rfl ⟨rfl, rfl⟩ (by decide +kernel) ⟨Nat.le_of_ble_eq_true rfl, Nat.le_of_ble_eq_true rfl⟩ oC_0 rfl rfl hl.1 rfl (Nat.le_of_ble_eq_true rfl) dL_law_636 ⟨by show _ ≤ 601024; omega, by show _ ≤ 7293000; omega⟩ (fun H locs hS => ?_)
  refine lv_aload_n hx hb dL_law_639 rfl (lv_at hl 2 rfl) ?_
  refine lv_aload_n hx hb dL_law_640 rfl (lv_at hl 0 rfl) ?_
  refine lv_iload hx hb dL_law_641 (lv_at hl 4 rfl) ?_
  refine lv_iconst (v := 1) hx hb dL_law_643 (by decide) ?_
  refine lv_iadd (x := nI j) (y := 1) hx hb dL_law_644 ?_
  refine rsc hx hb hX hbl hS.2.2 (j + 1) (by omega) (by omega) (nI_add j 1) dL_law_645 ?_
  have hS : St D (fun q => s.heap.size ≤ q) s.heap (([(qo, .inl (co, 1, .inr (.inl f)))] ++ wC n ad cA zc) ++ (wM bd cB zm ++ [])) H locs := by rw [← wL_m]; exact hS
  refine fcVi (r := r) (n := 1) (As := [.int (xs (j + 1))]) (rest := [.int r]) (q0 := 0) (wc := wM bd cB zm) (wc' := wM bd cB zm') (wa := [(qo, .inl (co, 1, .inr (.inl f)))] ++ wC n ad cA zc) (wb := []) C hS (fun _ h => h) tL_m (fun sz => c_rm_used l D bd cB k zm (xs (j + 1)) r zm' hm sz) (law_good gL_law_X6_used) rfl ⟨rfl, rfl⟩ (by decide +kernel) ⟨Nat.le_of_ble_eq_true rfl, Nat.le_of_ble_eq_true rfl⟩ oM_0 rfl rfl hl.1 rfl (Nat.le_of_ble_eq_true rfl) dL_law_646 ⟨by show _ ≤ 601024; omega, by show _ ≤ 7293000; omega⟩ (fun H locs hS => ?_)
  have hS : St D (fun q => s.heap.size ≤ q) s.heap (wL qo co f (wC n ad cA zc) (wM bd cB zm')) H locs := by rw [wL_m]; exact hS
  refine lv_icmp_eq (x := r) (y := r) (tgt := 710) hx hb dL_law_649 (by decide) (fun _ => ?_) (fun hc => absurd rfl hc)
  exact kk H locs ls hS hl
theorem lgc (x : Int64) : lg_cmp x x = 0 := by
  unfold lg_cmp
  simp
set_option maxHeartbeats 4000000 in
set_option maxRecDepth 100000 in
theorem lcr_poke (C : Cx p s m #[Value.ref b] meth c cL_law 7 ret RL lw_tbl D (tL co (tC cA) (tM cB))) (hX : va_X b L xs s s.heap) (hbl : b < s.heap.size) (hL : L ≤ 2049) (hj : j + 4 ≤ L) (hc : cells + 1 ≤ 601024) (hs : slots + 6 ≤ 7293000) (hE : xE s) {r : Int32} {zc' zm' : SS} (hg : gs_poke n k zc (xs (j + 1)) (xs (j + 2)) (xs (j + 3)) = some (r, zc')) (hm : rm_poke k zm (xs (j + 1)) (xs (j + 2)) (xs (j + 3)) = some (r, zm')) (ht : rm_thrown k zm' = some 0) (kk : ∀ (H : Heap) (locs : List Loc) (ls : Array Slot), St D (fun q => s.heap.size ≤ q) s.heap (wL qo co (vp_updL f 0 r.toInt64) (wC n ad cA zc') (wM bd cB zm')) H locs → lv_has ls 7 [(0, .ref b), (1, .ref (ad 0)), (2, .ref (bd 0)), (3, .ref qo), (4, .int (nI j))] → W p l e room_1 s m #[Value.ref b] below meth c H locs (cells + 1) (slots + 6) (lw_Z below #[Value.ref b] s) (F0 m 710 ls [])) : ∀ (H : Heap) (locs : List Loc) (ls : Array Slot), St D (fun q => s.heap.size ≤ q) s.heap (wL qo co f (wC n ad cA zc) (wM bd cB zm)) H locs → lv_has ls 7 [(0, .ref b), (1, .ref (ad 0)), (2, .ref (bd 0)), (3, .ref qo), (4, .int (nI j))] → W p l e room_1 s m #[Value.ref b] below meth c H locs cells slots (lw_Z below #[Value.ref b] s) (F0 m 456 ls []) := by
  obtain ⟨hx, hb, hr, hml, hown, hts, hlk, hK⟩ := id C
  intro H locs ls hS hl
  refine lv_aload_n hx hb dL_law_456 rfl (lv_at hl 1 rfl) ?_
  refine lv_aload_n hx hb dL_law_457 rfl (lv_at hl 0 rfl) ?_
  refine lv_iload hx hb dL_law_458 (lv_at hl 4 rfl) ?_
  refine lv_iconst (v := 1) hx hb dL_law_460 (by decide) ?_
  refine lv_iadd (x := nI j) (y := 1) hx hb dL_law_461 ?_
  refine rsc hx hb hX hbl hS.2.2 (j + 1) (by omega) (by omega) (nI_add j 1) dL_law_462 ?_
  refine lv_aload_n hx hb dL_law_463 rfl (lv_at hl 0 rfl) ?_
  refine lv_iload hx hb dL_law_464 (lv_at hl 4 rfl) ?_
  refine lv_iconst (v := 2) hx hb dL_law_466 (by decide) ?_
  refine lv_iadd (x := nI j) (y := 2) hx hb dL_law_467 ?_
  refine rsc hx hb hX hbl hS.2.2 (j + 2) (by omega) (by omega) (nI_add j 2) dL_law_468 ?_
  refine lv_aload_n hx hb dL_law_469 rfl (lv_at hl 0 rfl) ?_
  refine lv_iload hx hb dL_law_470 (lv_at hl 4 rfl) ?_
  refine lv_iconst (v := 3) hx hb dL_law_472 (by decide) ?_
  refine lv_iadd (x := nI j) (y := 3) hx hb dL_law_473 ?_
  refine rsc hx hb hX hbl hS.2.2 (j + 3) (by omega) (by omega) (nI_add j 3) dL_law_474 ?_
  refine lv_aload_n hx hb dL_law_475 rfl (lv_at hl 3 rfl) ?_
  have hS : St D (fun q => s.heap.size ≤ q) s.heap (([] : va_W) ++ (wH qo co f (wC n ad cA zc) ++ wM bd cB zm)) H locs := by rw [← wL_h]; exact hS
  refine fcSx (r := 0) (n := 5) (As := [.ref (ad 0), .int (xs (j + 1)), .int (xs (j + 2)), .int (xs (j + 3)), .ref qo]) (rest := []) (wc := wH qo co f (wC n ad cA zc)) (wc' := wH qo co (vp_updL f 0 r.toInt64) (wC n ad cA zc')) (wa := []) (wb := wM bd cB zm) (tyc := tH co (tC cA)) C hS (fun _ h => h) (fun q h => Nat.not_le.mpr h) hE tL_h (fun sz => h_poke l D n ad cA k qo co f zc (xs (j + 1)) (xs (j + 2)) (xs (j + 3)) r zc' hg sz) law_h_poke rfl ⟨rfl, rfl⟩ lwl_poke lws_poke lwi_L (by decide +kernel) ⟨Nat.le_of_ble_eq_true rfl, Nat.le_of_ble_eq_true rfl⟩ rfl hl.1 rfl (Nat.le_of_ble_eq_true rfl) dL_law_476 ⟨by show _ ≤ 601024; omega, by show _ ≤ 7293000; omega⟩ (fun H locs hS => ?_)
  have hS : St D (fun q => s.heap.size ≤ q) s.heap (wL qo co (vp_updL f 0 r.toInt64) (wC n ad cA zc') (wM bd cB zm)) H locs := by rw [wL_h]; exact hS
  refine lv_istore (lv' := [(5, .int 0), (0, .ref b), (1, .ref (ad 0)), (2, .ref (bd 0)), (3, .ref qo), (4, .int (nI j))]) hx hb dL_law_479 hl (by decide) rfl (fun ls hl => ?_)
  refine lv_aload_n hx hb dL_law_481 rfl (lv_at hl 3 rfl) ?_
  refine lv_aload_n hx hb dL_law_482 rfl (lv_at hl 1 rfl) ?_
  refine lv_iload hx hb dL_law_483 (lv_at hl 5 rfl) ?_
  refine lv_iconst (v := 1) hx hb dL_law_485 (by decide) ?_
  refine lv_iadd (x := nI j) (y := 1) hx hb dL_law_486 ?_
  refine rsc hx hb hX hbl hS.2.2 (j + 1) (by omega) (by omega) (nI_add j 1) dL_law_487 ?_
  refine lv_aload_n hx hb dL_law_488 rfl (lv_at hl 1 rfl) ?_
  refine lv_iload hx hb dL_law_489 (lv_at hl 5 rfl) ?_
  refine lv_iconst (v := 2) hx hb dL_law_491 (by decide) ?_
  refine lv_iadd (x := nI j) (y := 2) hx hb dL_law_492 ?_
  refine rsc hx hb hX hbl hS.2.2 (j + 2) (by omega) (by omega) (nI_add j 2) dL_law_493 ?_
  refine lv_aload_n hx hb dL_law_494 rfl (lv_at hl 1 rfl) ?_
  refine lv_iload hx hb dL_law_495 (lv_at hl 5 rfl) ?_
  refine lv_iconst (v := 3) hx hb dL_law_497 (by decide) ?_
  refine lv_iadd (x := nI j) (y := 3) hx hb dL_law_498 ?_
  refine rsc hx hb hX hbl hS.2.2 (j + 3) (by omega) (by omega) (nI_add j 3) dL_law_499 ?_
  have hS : St D (fun q => s.heap.size ≤ q) s.heap (([(qo, .inl (co, 1, .inr (.inl (vp_updL f 0 r.toInt64))))] ++ wC n ad cA zc') ++ (wM bd cB zm ++ [])) H locs := by rw [← wL_m]; exact hS
  refine fcVi (r := r) (n := 3) (As := [.int (xs (j + 1)), .int (xs (j + 2)), .int (xs (j + 3))]) (rest := []) (q0 := 0) (wc := wM bd cB zm) (wc' := wM bd cB zm') (wa := [(qo, .inl (co, 1, .inr (.inl (vp_updL f 0 r.toInt64))))] ++ wC n ad cA zc') (wb := []) C hS (fun _ h => h) tL_m (fun sz => c_rm_poke l D bd cB k zm (xs (j + 1)) (xs (j + 2)) (xs (j + 3)) r zm' hm sz) (law_good gL_law_X6_poke) rfl ⟨rfl, rfl⟩ (by decide +kernel) ⟨Nat.le_of_ble_eq_true rfl, Nat.le_of_ble_eq_true rfl⟩ oM_0 rfl rfl hl.1 rfl (Nat.le_of_ble_eq_true rfl) dL_law_500 ⟨by show _ ≤ 601024; omega, by show _ ≤ 7293000; omega⟩ (fun H locs hS => ?_)
  have hS : St D (fun q => s.heap.size ≤ q) s.heap (wL qo co (vp_updL f 0 r.toInt64) (wC n ad cA zc') (wM bd cB zm')) H locs := by rw [wL_m]; exact hS
  refine lv_istore (lv' := [(6, .int r), (5, .int 0), (0, .ref b), (1, .ref (ad 0)), (2, .ref (bd 0)), (3, .ref qo), (4, .int (nI j))]) hx hb dL_law_503 hl (by decide) rfl (fun ls hl => ?_)
  refine lv_aload_n hx hb dL_law_505 rfl (lv_at hl 4 rfl) ?_
  have hS : St D (fun q => s.heap.size ≤ q) s.heap (([(qo, .inl (co, 1, .inr (.inl (vp_updL f 0 r.toInt64))))] ++ wC n ad cA zc') ++ (wM bd cB zm' ++ [])) H locs := by rw [← wL_m]; exact hS
  refine fcVi (r := 0) (n := 0) (As := []) (rest := []) (q0 := 0) (wc := wM bd cB zm') (wc' := wM bd cB zm') (wa := [(qo, .inl (co, 1, .inr (.inl (vp_updL f 0 r.toInt64))))] ++ wC n ad cA zc') (wb := []) C hS (fun _ h => h) tL_m (fun sz => c_rm_thrown l D bd cB k zm' 0 ht sz) (law_good gL_law_X6_thrown) rfl ⟨rfl, rfl⟩ (by decide +kernel) ⟨Nat.le_of_ble_eq_true rfl, Nat.le_of_ble_eq_true rfl⟩ oM_0 rfl rfl hl.1 rfl (Nat.le_of_ble_eq_true rfl) dL_law_506 ⟨by show _ ≤ 601024; omega, by show _ ≤ 7293000; omega⟩ (fun H locs hS => ?_)
  have hS : St D (fun q => s.heap.size ≤ q) s.heap (wL qo co (vp_updL f 0 r.toInt64) (wC n ad cA zc') (wM bd cB zm')) H locs := by rw [wL_m]; exact hS
  refine lv_iload hx hb dL_law_509 (lv_at hl 1 rfl) ?_
  refine lv_icmp_eq (x := 0) (y := 0) (tgt := 516) hx hb dL_law_511 (by decide) (fun _ => ?_) (fun hc => absurd rfl hc)
  refine lv_iload hx hb dL_law_516 (lv_at hl 1 rfl) ?_
  refine lv_if_ne (x := 0) (tgt := 533) hx hb dL_law_518 (by decide) (fun hc => absurd rfl hc) (fun _ => ?_)
  refine lv_aload_n hx hb dL_law_521 rfl (lv_at hl 5 rfl) ?_
  refine lv_iconst (v := 0) hx hb dL_law_522 (by decide) ?_
  refine va_lald (D := D) (cl := vwCl) hx hb hK hS.1 0 0 (f := (vp_updL f 0 r.toInt64)) rfl rfl (i := 0) (ck_in (by decide)) dL_law_523 ?_
  have hv0 : (vp_updL f 0 r.toInt64) (Int32.toNatClampNeg 0) = r.toInt64 := rfl
  rw [hv0]
  refine lv_iload hx hb dL_law_524 (lv_at hl 0 rfl) ?_
  refine lv_i2l (x := r) (v := r.toInt64) hx hb dL_law_526 rfl ?_
  refine W.lcmp hx hb dL_law_527 ?_
  rw [lgc]
  refine lv_if_eq (x := 0) (tgt := 533) hx hb dL_law_528 (by decide) (fun _ => ?_) (fun hc => absurd rfl hc)
  refine lv_goto (tgt := 710) hx hb dL_law_533 (by decide) ?_
  exact kk H locs ls hS (lv_sub hl [2, 3, 4, 5, 6] rfl)
set_option maxHeartbeats 4000000 in
set_option maxRecDepth 100000 in
theorem lcx_poke (C : Cx p s m #[Value.ref b] meth c cL_law 7 ret RL lw_tbl D (tL co (tC cA) (tM cB))) (hX : va_X b L xs s s.heap) (hbl : b < s.heap.size) (hL : L ≤ 2049) (hj : j + 4 ≤ L) (hc : cells + 1 ≤ 601024) (hs : slots + 6 ≤ 7293000) (hE : xE s) {r : Int32} {zm' : SS} (hfl : l.flags = flags0) (hno : noByte zc (xs (j + 1)) (xs (j + 2))) (hm : rm_poke k zm (xs (j + 1)) (xs (j + 2)) (xs (j + 3)) = some (r, zm')) (ht : rm_thrown k zm' = some 1) (kk : ∀ (H : Heap) (locs : List Loc) (ls : Array Slot), St D (fun q => s.heap.size ≤ q) s.heap (wL qo co f (wC n ad cA zc) (wM bd cB zm')) H locs → lv_has ls 7 [(0, .ref b), (1, .ref (ad 0)), (2, .ref (bd 0)), (3, .ref qo), (4, .int (nI j))] → W p l e room_1 s m #[Value.ref b] below meth c H locs (cells + 1) (slots + 6) (lw_Z below #[Value.ref b] s) (F0 m 710 ls [])) : ∀ (H : Heap) (locs : List Loc) (ls : Array Slot), St D (fun q => s.heap.size ≤ q) s.heap (wL qo co f (wC n ad cA zc) (wM bd cB zm)) H locs → lv_has ls 7 [(0, .ref b), (1, .ref (ad 0)), (2, .ref (bd 0)), (3, .ref qo), (4, .int (nI j))] → W p l e room_1 s m #[Value.ref b] below meth c H locs cells slots (lw_Z below #[Value.ref b] s) (F0 m 456 ls []) := by
  obtain ⟨hx, hb, hr, hml, hown, hts, hlk, hK⟩ := id C
  intro H locs ls hS hl
  refine lv_aload_n hx hb dL_law_456 rfl (lv_at hl 1 rfl) ?_
  refine lv_aload_n hx hb dL_law_457 rfl (lv_at hl 0 rfl) ?_
  refine lv_iload hx hb dL_law_458 (lv_at hl 4 rfl) ?_
  refine lv_iconst (v := 1) hx hb dL_law_460 (by decide) ?_
  refine lv_iadd (x := nI j) (y := 1) hx hb dL_law_461 ?_
  refine rsc hx hb hX hbl hS.2.2 (j + 1) (by omega) (by omega) (nI_add j 1) dL_law_462 ?_
  refine lv_aload_n hx hb dL_law_463 rfl (lv_at hl 0 rfl) ?_
  refine lv_iload hx hb dL_law_464 (lv_at hl 4 rfl) ?_
  refine lv_iconst (v := 2) hx hb dL_law_466 (by decide) ?_
  refine lv_iadd (x := nI j) (y := 2) hx hb dL_law_467 ?_
  refine rsc hx hb hX hbl hS.2.2 (j + 2) (by omega) (by omega) (nI_add j 2) dL_law_468 ?_
  refine lv_aload_n hx hb dL_law_469 rfl (lv_at hl 0 rfl) ?_
  refine lv_iload hx hb dL_law_470 (lv_at hl 4 rfl) ?_
  refine lv_iconst (v := 3) hx hb dL_law_472 (by decide) ?_
  refine lv_iadd (x := nI j) (y := 3) hx hb dL_law_473 ?_
  refine rsc hx hb hX hbl hS.2.2 (j + 3) (by omega) (by omega) (nI_add j 3) dL_law_474 ?_
  refine lv_aload_n hx hb dL_law_475 rfl (lv_at hl 3 rfl) ?_
  have hS : St D (fun q => s.heap.size ≤ q) s.heap (([] : va_W) ++ (wH qo co f (wC n ad cA zc) ++ wM bd cB zm)) H locs := by rw [← wL_h]; exact hS
  refine fcSx (r := 1) (n := 5) (As := [.ref (ad 0), .int (xs (j + 1)), .int (xs (j + 2)), .int (xs (j + 3)), .ref qo]) (rest := []) (wc := wH qo co f (wC n ad cA zc)) (wc' := wH qo co f (wC n ad cA zc)) (wa := []) (wb := wM bd cB zm) (tyc := tH co (tC cA)) C hS (fun _ h => h) (fun q h => Nat.not_le.mpr h) hE tL_h (fun sz => hx_poke l hfl D n ad cA qo co f zc (xs (j + 1)) (xs (j + 2)) (xs (j + 3)) hno sz) law_h_poke rfl ⟨rfl, rfl⟩ lwl_poke lws_poke lwi_L (by decide +kernel) ⟨Nat.le_of_ble_eq_true rfl, Nat.le_of_ble_eq_true rfl⟩ rfl hl.1 rfl (Nat.le_of_ble_eq_true rfl) dL_law_476 ⟨by show _ ≤ 601024; omega, by show _ ≤ 7293000; omega⟩ (fun H locs hS => ?_)
  have hS : St D (fun q => s.heap.size ≤ q) s.heap (wL qo co f (wC n ad cA zc) (wM bd cB zm)) H locs := by rw [wL_h]; exact hS
  refine lv_istore (lv' := [(5, .int 1), (0, .ref b), (1, .ref (ad 0)), (2, .ref (bd 0)), (3, .ref qo), (4, .int (nI j))]) hx hb dL_law_479 hl (by decide) rfl (fun ls hl => ?_)
  refine lv_aload_n hx hb dL_law_481 rfl (lv_at hl 3 rfl) ?_
  refine lv_aload_n hx hb dL_law_482 rfl (lv_at hl 1 rfl) ?_
  refine lv_iload hx hb dL_law_483 (lv_at hl 5 rfl) ?_
  refine lv_iconst (v := 1) hx hb dL_law_485 (by decide) ?_
  refine lv_iadd (x := nI j) (y := 1) hx hb dL_law_486 ?_
  refine rsc hx hb hX hbl hS.2.2 (j + 1) (by omega) (by omega) (nI_add j 1) dL_law_487 ?_
  refine lv_aload_n hx hb dL_law_488 rfl (lv_at hl 1 rfl) ?_
  refine lv_iload hx hb dL_law_489 (lv_at hl 5 rfl) ?_
  refine lv_iconst (v := 2) hx hb dL_law_491 (by decide) ?_
  refine lv_iadd (x := nI j) (y := 2) hx hb dL_law_492 ?_
  refine rsc hx hb hX hbl hS.2.2 (j + 2) (by omega) (by omega) (nI_add j 2) dL_law_493 ?_
  refine lv_aload_n hx hb dL_law_494 rfl (lv_at hl 1 rfl) ?_
  refine lv_iload hx hb dL_law_495 (lv_at hl 5 rfl) ?_
  refine lv_iconst (v := 3) hx hb dL_law_497 (by decide) ?_
  refine lv_iadd (x := nI j) (y := 3) hx hb dL_law_498 ?_
  refine rsc hx hb hX hbl hS.2.2 (j + 3) (by omega) (by omega) (nI_add j 3) dL_law_499 ?_
  have hS : St D (fun q => s.heap.size ≤ q) s.heap (([(qo, .inl (co, 1, .inr (.inl f)))] ++ wC n ad cA zc) ++ (wM bd cB zm ++ [])) H locs := by rw [← wL_m]; exact hS
  refine fcVi (r := r) (n := 3) (As := [.int (xs (j + 1)), .int (xs (j + 2)), .int (xs (j + 3))]) (rest := []) (q0 := 0) (wc := wM bd cB zm) (wc' := wM bd cB zm') (wa := [(qo, .inl (co, 1, .inr (.inl f)))] ++ wC n ad cA zc) (wb := []) C hS (fun _ h => h) tL_m (fun sz => c_rm_poke l D bd cB k zm (xs (j + 1)) (xs (j + 2)) (xs (j + 3)) r zm' hm sz) (law_good gL_law_X6_poke) rfl ⟨rfl, rfl⟩ (by decide +kernel) ⟨Nat.le_of_ble_eq_true rfl, Nat.le_of_ble_eq_true rfl⟩ oM_0 rfl rfl hl.1 rfl (Nat.le_of_ble_eq_true rfl) dL_law_500 ⟨by show _ ≤ 601024; omega, by show _ ≤ 7293000; omega⟩ (fun H locs hS => ?_)
  have hS : St D (fun q => s.heap.size ≤ q) s.heap (wL qo co f (wC n ad cA zc) (wM bd cB zm')) H locs := by rw [wL_m]; exact hS
  refine lv_istore (lv' := [(6, .int r), (5, .int 1), (0, .ref b), (1, .ref (ad 0)), (2, .ref (bd 0)), (3, .ref qo), (4, .int (nI j))]) hx hb dL_law_503 hl (by decide) rfl (fun ls hl => ?_)
  refine lv_aload_n hx hb dL_law_505 rfl (lv_at hl 4 rfl) ?_
  have hS : St D (fun q => s.heap.size ≤ q) s.heap (([(qo, .inl (co, 1, .inr (.inl f)))] ++ wC n ad cA zc) ++ (wM bd cB zm' ++ [])) H locs := by rw [← wL_m]; exact hS
  refine fcVi (r := 1) (n := 0) (As := []) (rest := []) (q0 := 0) (wc := wM bd cB zm') (wc' := wM bd cB zm') (wa := [(qo, .inl (co, 1, .inr (.inl f)))] ++ wC n ad cA zc) (wb := []) C hS (fun _ h => h) tL_m (fun sz => c_rm_thrown l D bd cB k zm' 1 ht sz) (law_good gL_law_X6_thrown) rfl ⟨rfl, rfl⟩ (by decide +kernel) ⟨Nat.le_of_ble_eq_true rfl, Nat.le_of_ble_eq_true rfl⟩ oM_0 rfl rfl hl.1 rfl (Nat.le_of_ble_eq_true rfl) dL_law_506 ⟨by show _ ≤ 601024; omega, by show _ ≤ 7293000; omega⟩ (fun H locs hS => ?_)
  have hS : St D (fun q => s.heap.size ≤ q) s.heap (wL qo co f (wC n ad cA zc) (wM bd cB zm')) H locs := by rw [wL_m]; exact hS
  refine lv_iload hx hb dL_law_509 (lv_at hl 1 rfl) ?_
  refine lv_icmp_eq (x := 1) (y := 1) (tgt := 516) hx hb dL_law_511 (by decide) (fun _ => ?_) (fun hc => absurd rfl hc)
  refine lv_iload hx hb dL_law_516 (lv_at hl 1 rfl) ?_
  refine lv_if_ne (x := 1) (tgt := 533) hx hb dL_law_518 (by decide) (fun _ => ?_) (fun hc => absurd hc (by decide))
  refine lv_goto (tgt := 710) hx hb dL_law_533 (by decide) ?_
  exact kk H locs ls hS (lv_sub hl [2, 3, 4, 5, 6] rfl)
set_option maxHeartbeats 4000000 in
set_option maxRecDepth 100000 in
theorem lcr_byteAt (C : Cx p s m #[Value.ref b] meth c cL_law 7 ret RL lw_tbl D (tL co (tC cA) (tM cB))) (hX : va_X b L xs s s.heap) (hbl : b < s.heap.size) (hL : L ≤ 2049) (hj : j + 4 ≤ L) (hc : cells + 1 ≤ 601024) (hs : slots + 6 ≤ 7293000) (hE : xE s) {r : Int32} {zm' : SS} (hg : gs_byteAt n k zc (xs (j + 1)) (xs (j + 2)) = some r) (hm : rm_byteAt k zm (xs (j + 1)) (xs (j + 2)) = some (r, zm')) (ht : rm_thrown k zm' = some 0) (kk : ∀ (H : Heap) (locs : List Loc) (ls : Array Slot), St D (fun q => s.heap.size ≤ q) s.heap (wL qo co (vp_updL f 0 r.toInt64) (wC n ad cA zc) (wM bd cB zm')) H locs → lv_has ls 7 [(0, .ref b), (1, .ref (ad 0)), (2, .ref (bd 0)), (3, .ref qo), (4, .int (nI j))] → W p l e room_1 s m #[Value.ref b] below meth c H locs (cells + 1) (slots + 6) (lw_Z below #[Value.ref b] s) (F0 m 710 ls [])) : ∀ (H : Heap) (locs : List Loc) (ls : Array Slot), St D (fun q => s.heap.size ≤ q) s.heap (wL qo co f (wC n ad cA zc) (wM bd cB zm)) H locs → lv_has ls 7 [(0, .ref b), (1, .ref (ad 0)), (2, .ref (bd 0)), (3, .ref qo), (4, .int (nI j))] → W p l e room_1 s m #[Value.ref b] below meth c H locs cells slots (lw_Z below #[Value.ref b] s) (F0 m 536 ls []) := by
  obtain ⟨hx, hb, hr, hml, hown, hts, hlk, hK⟩ := id C
  intro H locs ls hS hl
  refine lv_aload_n hx hb dL_law_536 rfl (lv_at hl 1 rfl) ?_
  refine lv_aload_n hx hb dL_law_537 rfl (lv_at hl 0 rfl) ?_
  refine lv_iload hx hb dL_law_538 (lv_at hl 4 rfl) ?_
  refine lv_iconst (v := 1) hx hb dL_law_540 (by decide) ?_
  refine lv_iadd (x := nI j) (y := 1) hx hb dL_law_541 ?_
  refine rsc hx hb hX hbl hS.2.2 (j + 1) (by omega) (by omega) (nI_add j 1) dL_law_542 ?_
  refine lv_aload_n hx hb dL_law_543 rfl (lv_at hl 0 rfl) ?_
  refine lv_iload hx hb dL_law_544 (lv_at hl 4 rfl) ?_
  refine lv_iconst (v := 2) hx hb dL_law_546 (by decide) ?_
  refine lv_iadd (x := nI j) (y := 2) hx hb dL_law_547 ?_
  refine rsc hx hb hX hbl hS.2.2 (j + 2) (by omega) (by omega) (nI_add j 2) dL_law_548 ?_
  refine lv_aload_n hx hb dL_law_549 rfl (lv_at hl 3 rfl) ?_
  have hS : St D (fun q => s.heap.size ≤ q) s.heap (([] : va_W) ++ (wH qo co f (wC n ad cA zc) ++ wM bd cB zm)) H locs := by rw [← wL_h]; exact hS
  refine fcSx (r := 0) (n := 4) (As := [.ref (ad 0), .int (xs (j + 1)), .int (xs (j + 2)), .ref qo]) (rest := []) (wc := wH qo co f (wC n ad cA zc)) (wc' := wH qo co (vp_updL f 0 r.toInt64) (wC n ad cA zc)) (wa := []) (wb := wM bd cB zm) (tyc := tH co (tC cA)) C hS (fun _ h => h) (fun q h => Nat.not_le.mpr h) hE tL_h (fun sz => h_byteAt l D n ad cA k qo co f zc (xs (j + 1)) (xs (j + 2)) r hg sz) law_h_byteAt rfl ⟨rfl, rfl⟩ lwl_byteAt lws_byteAt lwi_L (by decide +kernel) ⟨Nat.le_of_ble_eq_true rfl, Nat.le_of_ble_eq_true rfl⟩ rfl hl.1 rfl (Nat.le_of_ble_eq_true rfl) dL_law_550 ⟨by show _ ≤ 601024; omega, by show _ ≤ 7293000; omega⟩ (fun H locs hS => ?_)
  have hS : St D (fun q => s.heap.size ≤ q) s.heap (wL qo co (vp_updL f 0 r.toInt64) (wC n ad cA zc) (wM bd cB zm)) H locs := by rw [wL_h]; exact hS
  refine lv_istore (lv' := [(5, .int 0), (0, .ref b), (1, .ref (ad 0)), (2, .ref (bd 0)), (3, .ref qo), (4, .int (nI j))]) hx hb dL_law_553 hl (by decide) rfl (fun ls hl => ?_)
  refine lv_aload_n hx hb dL_law_555 rfl (lv_at hl 3 rfl) ?_
  refine lv_aload_n hx hb dL_law_556 rfl (lv_at hl 1 rfl) ?_
  refine lv_iload hx hb dL_law_557 (lv_at hl 5 rfl) ?_
  refine lv_iconst (v := 1) hx hb dL_law_559 (by decide) ?_
  refine lv_iadd (x := nI j) (y := 1) hx hb dL_law_560 ?_
  refine rsc hx hb hX hbl hS.2.2 (j + 1) (by omega) (by omega) (nI_add j 1) dL_law_561 ?_
  refine lv_aload_n hx hb dL_law_562 rfl (lv_at hl 1 rfl) ?_
  refine lv_iload hx hb dL_law_563 (lv_at hl 5 rfl) ?_
  refine lv_iconst (v := 2) hx hb dL_law_565 (by decide) ?_
  refine lv_iadd (x := nI j) (y := 2) hx hb dL_law_566 ?_
  refine rsc hx hb hX hbl hS.2.2 (j + 2) (by omega) (by omega) (nI_add j 2) dL_law_567 ?_
  have hS : St D (fun q => s.heap.size ≤ q) s.heap (([(qo, .inl (co, 1, .inr (.inl (vp_updL f 0 r.toInt64))))] ++ wC n ad cA zc) ++ (wM bd cB zm ++ [])) H locs := by rw [← wL_m]; exact hS
  refine fcVi (r := r) (n := 2) (As := [.int (xs (j + 1)), .int (xs (j + 2))]) (rest := []) (q0 := 0) (wc := wM bd cB zm) (wc' := wM bd cB zm') (wa := [(qo, .inl (co, 1, .inr (.inl (vp_updL f 0 r.toInt64))))] ++ wC n ad cA zc) (wb := []) C hS (fun _ h => h) tL_m (fun sz => c_rm_byteAt l D bd cB k zm (xs (j + 1)) (xs (j + 2)) r zm' hm sz) (law_good gL_law_X6_byteAt) rfl ⟨rfl, rfl⟩ (by decide +kernel) ⟨Nat.le_of_ble_eq_true rfl, Nat.le_of_ble_eq_true rfl⟩ oM_0 rfl rfl hl.1 rfl (Nat.le_of_ble_eq_true rfl) dL_law_568 ⟨by show _ ≤ 601024; omega, by show _ ≤ 7293000; omega⟩ (fun H locs hS => ?_)
  have hS : St D (fun q => s.heap.size ≤ q) s.heap (wL qo co (vp_updL f 0 r.toInt64) (wC n ad cA zc) (wM bd cB zm')) H locs := by rw [wL_m]; exact hS
  refine lv_istore (lv' := [(6, .int r), (5, .int 0), (0, .ref b), (1, .ref (ad 0)), (2, .ref (bd 0)), (3, .ref qo), (4, .int (nI j))]) hx hb dL_law_571 hl (by decide) rfl (fun ls hl => ?_)
  refine lv_aload_n hx hb dL_law_573 rfl (lv_at hl 4 rfl) ?_
  have hS : St D (fun q => s.heap.size ≤ q) s.heap (([(qo, .inl (co, 1, .inr (.inl (vp_updL f 0 r.toInt64))))] ++ wC n ad cA zc) ++ (wM bd cB zm' ++ [])) H locs := by rw [← wL_m]; exact hS
  refine fcVi (r := 0) (n := 0) (As := []) (rest := []) (q0 := 0) (wc := wM bd cB zm') (wc' := wM bd cB zm') (wa := [(qo, .inl (co, 1, .inr (.inl (vp_updL f 0 r.toInt64))))] ++ wC n ad cA zc) (wb := []) C hS (fun _ h => h) tL_m (fun sz => c_rm_thrown l D bd cB k zm' 0 ht sz) (law_good gL_law_X6_thrown) rfl ⟨rfl, rfl⟩ (by decide +kernel) ⟨Nat.le_of_ble_eq_true rfl, Nat.le_of_ble_eq_true rfl⟩ oM_0 rfl rfl hl.1 rfl (Nat.le_of_ble_eq_true rfl) dL_law_574 ⟨by show _ ≤ 601024; omega, by show _ ≤ 7293000; omega⟩ (fun H locs hS => ?_)
  have hS : St D (fun q => s.heap.size ≤ q) s.heap (wL qo co (vp_updL f 0 r.toInt64) (wC n ad cA zc) (wM bd cB zm')) H locs := by rw [wL_m]; exact hS
  refine lv_iload hx hb dL_law_577 (lv_at hl 1 rfl) ?_
  refine lv_icmp_eq (x := 0) (y := 0) (tgt := 584) hx hb dL_law_579 (by decide) (fun _ => ?_) (fun hc => absurd rfl hc)
  refine lv_iload hx hb dL_law_584 (lv_at hl 1 rfl) ?_
  refine lv_if_ne (x := 0) (tgt := 601) hx hb dL_law_586 (by decide) (fun hc => absurd rfl hc) (fun _ => ?_)
  refine lv_aload_n hx hb dL_law_589 rfl (lv_at hl 5 rfl) ?_
  refine lv_iconst (v := 0) hx hb dL_law_590 (by decide) ?_
  refine va_lald (D := D) (cl := vwCl) hx hb hK hS.1 0 0 (f := (vp_updL f 0 r.toInt64)) rfl rfl (i := 0) (ck_in (by decide)) dL_law_591 ?_
  have hv0 : (vp_updL f 0 r.toInt64) (Int32.toNatClampNeg 0) = r.toInt64 := rfl
  rw [hv0]
  refine lv_iload hx hb dL_law_592 (lv_at hl 0 rfl) ?_
  refine lv_i2l (x := r) (v := r.toInt64) hx hb dL_law_594 rfl ?_
  refine W.lcmp hx hb dL_law_595 ?_
  rw [lgc]
  refine lv_if_eq (x := 0) (tgt := 601) hx hb dL_law_596 (by decide) (fun _ => ?_) (fun hc => absurd rfl hc)
  refine lv_goto (tgt := 710) hx hb dL_law_601 (by decide) ?_
  exact kk H locs ls hS (lv_sub hl [2, 3, 4, 5, 6] rfl)
set_option maxHeartbeats 4000000 in
set_option maxRecDepth 100000 in
theorem lcx_byteAt (C : Cx p s m #[Value.ref b] meth c cL_law 7 ret RL lw_tbl D (tL co (tC cA) (tM cB))) (hX : va_X b L xs s s.heap) (hbl : b < s.heap.size) (hL : L ≤ 2049) (hj : j + 4 ≤ L) (hc : cells + 1 ≤ 601024) (hs : slots + 6 ≤ 7293000) (hE : xE s) {r : Int32} {zm' : SS} (hfl : l.flags = flags0) (hno : noByte zc (xs (j + 1)) (xs (j + 2))) (hm : rm_byteAt k zm (xs (j + 1)) (xs (j + 2)) = some (r, zm')) (ht : rm_thrown k zm' = some 1) (kk : ∀ (H : Heap) (locs : List Loc) (ls : Array Slot), St D (fun q => s.heap.size ≤ q) s.heap (wL qo co f (wC n ad cA zc) (wM bd cB zm')) H locs → lv_has ls 7 [(0, .ref b), (1, .ref (ad 0)), (2, .ref (bd 0)), (3, .ref qo), (4, .int (nI j))] → W p l e room_1 s m #[Value.ref b] below meth c H locs (cells + 1) (slots + 6) (lw_Z below #[Value.ref b] s) (F0 m 710 ls [])) : ∀ (H : Heap) (locs : List Loc) (ls : Array Slot), St D (fun q => s.heap.size ≤ q) s.heap (wL qo co f (wC n ad cA zc) (wM bd cB zm)) H locs → lv_has ls 7 [(0, .ref b), (1, .ref (ad 0)), (2, .ref (bd 0)), (3, .ref qo), (4, .int (nI j))] → W p l e room_1 s m #[Value.ref b] below meth c H locs cells slots (lw_Z below #[Value.ref b] s) (F0 m 536 ls []) := by
  obtain ⟨hx, hb, hr, hml, hown, hts, hlk, hK⟩ := id C
  intro H locs ls hS hl
  refine lv_aload_n hx hb dL_law_536 rfl (lv_at hl 1 rfl) ?_
  refine lv_aload_n hx hb dL_law_537 rfl (lv_at hl 0 rfl) ?_
  refine lv_iload hx hb dL_law_538 (lv_at hl 4 rfl) ?_
  refine lv_iconst (v := 1) hx hb dL_law_540 (by decide) ?_
  refine lv_iadd (x := nI j) (y := 1) hx hb dL_law_541 ?_
  refine rsc hx hb hX hbl hS.2.2 (j + 1) (by omega) (by omega) (nI_add j 1) dL_law_542 ?_
  refine lv_aload_n hx hb dL_law_543 rfl (lv_at hl 0 rfl) ?_
  refine lv_iload hx hb dL_law_544 (lv_at hl 4 rfl) ?_
  refine lv_iconst (v := 2) hx hb dL_law_546 (by decide) ?_
  refine lv_iadd (x := nI j) (y := 2) hx hb dL_law_547 ?_
  refine rsc hx hb hX hbl hS.2.2 (j + 2) (by omega) (by omega) (nI_add j 2) dL_law_548 ?_
  refine lv_aload_n hx hb dL_law_549 rfl (lv_at hl 3 rfl) ?_
  have hS : St D (fun q => s.heap.size ≤ q) s.heap (([] : va_W) ++ (wH qo co f (wC n ad cA zc) ++ wM bd cB zm)) H locs := by rw [← wL_h]; exact hS
  refine fcSx (r := 1) (n := 4) (As := [.ref (ad 0), .int (xs (j + 1)), .int (xs (j + 2)), .ref qo]) (rest := []) (wc := wH qo co f (wC n ad cA zc)) (wc' := wH qo co f (wC n ad cA zc)) (wa := []) (wb := wM bd cB zm) (tyc := tH co (tC cA)) C hS (fun _ h => h) (fun q h => Nat.not_le.mpr h) hE tL_h (fun sz => hx_byteAt l hfl D n ad cA qo co f zc (xs (j + 1)) (xs (j + 2)) hno sz) law_h_byteAt rfl ⟨rfl, rfl⟩ lwl_byteAt lws_byteAt lwi_L (by decide +kernel) ⟨Nat.le_of_ble_eq_true rfl, Nat.le_of_ble_eq_true rfl⟩ rfl hl.1 rfl (Nat.le_of_ble_eq_true rfl) dL_law_550 ⟨by show _ ≤ 601024; omega, by show _ ≤ 7293000; omega⟩ (fun H locs hS => ?_)
  have hS : St D (fun q => s.heap.size ≤ q) s.heap (wL qo co f (wC n ad cA zc) (wM bd cB zm)) H locs := by rw [wL_h]; exact hS
  refine lv_istore (lv' := [(5, .int 1), (0, .ref b), (1, .ref (ad 0)), (2, .ref (bd 0)), (3, .ref qo), (4, .int (nI j))]) hx hb dL_law_553 hl (by decide) rfl (fun ls hl => ?_)
  refine lv_aload_n hx hb dL_law_555 rfl (lv_at hl 3 rfl) ?_
  refine lv_aload_n hx hb dL_law_556 rfl (lv_at hl 1 rfl) ?_
  refine lv_iload hx hb dL_law_557 (lv_at hl 5 rfl) ?_
  refine lv_iconst (v := 1) hx hb dL_law_559 (by decide) ?_
  refine lv_iadd (x := nI j) (y := 1) hx hb dL_law_560 ?_
  refine rsc hx hb hX hbl hS.2.2 (j + 1) (by omega) (by omega) (nI_add j 1) dL_law_561 ?_
  refine lv_aload_n hx hb dL_law_562 rfl (lv_at hl 1 rfl) ?_
  refine lv_iload hx hb dL_law_563 (lv_at hl 5 rfl) ?_
  refine lv_iconst (v := 2) hx hb dL_law_565 (by decide) ?_
  refine lv_iadd (x := nI j) (y := 2) hx hb dL_law_566 ?_
  refine rsc hx hb hX hbl hS.2.2 (j + 2) (by omega) (by omega) (nI_add j 2) dL_law_567 ?_
  have hS : St D (fun q => s.heap.size ≤ q) s.heap (([(qo, .inl (co, 1, .inr (.inl f)))] ++ wC n ad cA zc) ++ (wM bd cB zm ++ [])) H locs := by rw [← wL_m]; exact hS
  refine fcVi (r := r) (n := 2) (As := [.int (xs (j + 1)), .int (xs (j + 2))]) (rest := []) (q0 := 0) (wc := wM bd cB zm) (wc' := wM bd cB zm') (wa := [(qo, .inl (co, 1, .inr (.inl f)))] ++ wC n ad cA zc) (wb := []) C hS (fun _ h => h) tL_m (fun sz => c_rm_byteAt l D bd cB k zm (xs (j + 1)) (xs (j + 2)) r zm' hm sz) (law_good gL_law_X6_byteAt) rfl ⟨rfl, rfl⟩ (by decide +kernel) ⟨Nat.le_of_ble_eq_true rfl, Nat.le_of_ble_eq_true rfl⟩ oM_0 rfl rfl hl.1 rfl (Nat.le_of_ble_eq_true rfl) dL_law_568 ⟨by show _ ≤ 601024; omega, by show _ ≤ 7293000; omega⟩ (fun H locs hS => ?_)
  have hS : St D (fun q => s.heap.size ≤ q) s.heap (wL qo co f (wC n ad cA zc) (wM bd cB zm')) H locs := by rw [wL_m]; exact hS
  refine lv_istore (lv' := [(6, .int r), (5, .int 1), (0, .ref b), (1, .ref (ad 0)), (2, .ref (bd 0)), (3, .ref qo), (4, .int (nI j))]) hx hb dL_law_571 hl (by decide) rfl (fun ls hl => ?_)
  refine lv_aload_n hx hb dL_law_573 rfl (lv_at hl 4 rfl) ?_
  have hS : St D (fun q => s.heap.size ≤ q) s.heap (([(qo, .inl (co, 1, .inr (.inl f)))] ++ wC n ad cA zc) ++ (wM bd cB zm' ++ [])) H locs := by rw [← wL_m]; exact hS
  refine fcVi (r := 1) (n := 0) (As := []) (rest := []) (q0 := 0) (wc := wM bd cB zm') (wc' := wM bd cB zm') (wa := [(qo, .inl (co, 1, .inr (.inl f)))] ++ wC n ad cA zc) (wb := []) C hS (fun _ h => h) tL_m (fun sz => c_rm_thrown l D bd cB k zm' 1 ht sz) (law_good gL_law_X6_thrown) rfl ⟨rfl, rfl⟩ (by decide +kernel) ⟨Nat.le_of_ble_eq_true rfl, Nat.le_of_ble_eq_true rfl⟩ oM_0 rfl rfl hl.1 rfl (Nat.le_of_ble_eq_true rfl) dL_law_574 ⟨by show _ ≤ 601024; omega, by show _ ≤ 7293000; omega⟩ (fun H locs hS => ?_)
  have hS : St D (fun q => s.heap.size ≤ q) s.heap (wL qo co f (wC n ad cA zc) (wM bd cB zm')) H locs := by rw [wL_m]; exact hS
  refine lv_iload hx hb dL_law_577 (lv_at hl 1 rfl) ?_
  refine lv_icmp_eq (x := 1) (y := 1) (tgt := 584) hx hb dL_law_579 (by decide) (fun _ => ?_) (fun hc => absurd rfl hc)
  refine lv_iload hx hb dL_law_584 (lv_at hl 1 rfl) ?_
  refine lv_if_ne (x := 1) (tgt := 601) hx hb dL_law_586 (by decide) (fun _ => ?_) (fun hc => absurd hc (by decide))
  refine lv_goto (tgt := 710) hx hb dL_law_601 (by decide) ?_
  exact kk H locs ls hS (lv_sub hl [2, 3, 4, 5, 6] rfl)
set_option maxHeartbeats 4000000 in
set_option maxRecDepth 100000 in
theorem lcr_count (C : Cx p s m #[Value.ref b] meth c cL_law 7 ret RL lw_tbl D (tL co (tC cA) (tM cB))) (hX : va_X b L xs s s.heap) (hbl : b < s.heap.size) (hL : L ≤ 2049) (hj : j + 4 ≤ L) (hc : cells + 1 ≤ 601024) (hs : slots + 6 ≤ 7293000) (hE : xE s) {r : Int32} {zm' : SS} (hg : gs_count n k zc (xs (j + 1)) = some r) (hm : rm_count k zm (xs (j + 1)) = some (r, zm')) (ht : rm_thrown k zm' = some 0) (kk : ∀ (H : Heap) (locs : List Loc) (ls : Array Slot), St D (fun q => s.heap.size ≤ q) s.heap (wL qo co (vp_updL f 0 r.toInt64) (wC n ad cA zc) (wM bd cB zm')) H locs → lv_has ls 7 [(0, .ref b), (1, .ref (ad 0)), (2, .ref (bd 0)), (3, .ref qo), (4, .int (nI j))] → W p l e room_1 s m #[Value.ref b] below meth c H locs (cells + 1) (slots + 6) (lw_Z below #[Value.ref b] s) (F0 m 710 ls [])) : ∀ (H : Heap) (locs : List Loc) (ls : Array Slot), St D (fun q => s.heap.size ≤ q) s.heap (wL qo co f (wC n ad cA zc) (wM bd cB zm)) H locs → lv_has ls 7 [(0, .ref b), (1, .ref (ad 0)), (2, .ref (bd 0)), (3, .ref qo), (4, .int (nI j))] → W p l e room_1 s m #[Value.ref b] below meth c H locs cells slots (lw_Z below #[Value.ref b] s) (F0 m 654 ls []) := by
  obtain ⟨hx, hb, hr, hml, hown, hts, hlk, hK⟩ := id C
  intro H locs ls hS hl
  refine lv_aload_n hx hb dL_law_654 rfl (lv_at hl 1 rfl) ?_
  refine lv_aload_n hx hb dL_law_655 rfl (lv_at hl 0 rfl) ?_
  refine lv_iload hx hb dL_law_656 (lv_at hl 4 rfl) ?_
  refine lv_iconst (v := 1) hx hb dL_law_658 (by decide) ?_
  refine lv_iadd (x := nI j) (y := 1) hx hb dL_law_659 ?_
  refine rsc hx hb hX hbl hS.2.2 (j + 1) (by omega) (by omega) (nI_add j 1) dL_law_660 ?_
  refine lv_aload_n hx hb dL_law_661 rfl (lv_at hl 3 rfl) ?_
  have hS : St D (fun q => s.heap.size ≤ q) s.heap (([] : va_W) ++ (wH qo co f (wC n ad cA zc) ++ wM bd cB zm)) H locs := by rw [← wL_h]; exact hS
  refine fcSx (r := 0) (n := 3) (As := [.ref (ad 0), .int (xs (j + 1)), .ref qo]) (rest := []) (wc := wH qo co f (wC n ad cA zc)) (wc' := wH qo co (vp_updL f 0 r.toInt64) (wC n ad cA zc)) (wa := []) (wb := wM bd cB zm) (tyc := tH co (tC cA)) C hS (fun _ h => h) (fun q h => Nat.not_le.mpr h) hE tL_h (fun sz => h_count l D n ad cA k qo co f zc (xs (j + 1)) r hg sz) law_h_count rfl ⟨rfl, rfl⟩ lwl_count lws_count lwi_L (by decide +kernel) ⟨Nat.le_of_ble_eq_true rfl, Nat.le_of_ble_eq_true rfl⟩ rfl hl.1 rfl (Nat.le_of_ble_eq_true rfl) dL_law_662 ⟨by show _ ≤ 601024; omega, by show _ ≤ 7293000; omega⟩ (fun H locs hS => ?_)
  have hS : St D (fun q => s.heap.size ≤ q) s.heap (wL qo co (vp_updL f 0 r.toInt64) (wC n ad cA zc) (wM bd cB zm)) H locs := by rw [wL_h]; exact hS
  refine lv_istore (lv' := [(5, .int 0), (0, .ref b), (1, .ref (ad 0)), (2, .ref (bd 0)), (3, .ref qo), (4, .int (nI j))]) hx hb dL_law_665 hl (by decide) rfl (fun ls hl => ?_)
  refine lv_aload_n hx hb dL_law_667 rfl (lv_at hl 3 rfl) ?_
  refine lv_aload_n hx hb dL_law_668 rfl (lv_at hl 1 rfl) ?_
  refine lv_iload hx hb dL_law_669 (lv_at hl 5 rfl) ?_
  refine lv_iconst (v := 1) hx hb dL_law_671 (by decide) ?_
  refine lv_iadd (x := nI j) (y := 1) hx hb dL_law_672 ?_
  refine rsc hx hb hX hbl hS.2.2 (j + 1) (by omega) (by omega) (nI_add j 1) dL_law_673 ?_
  have hS : St D (fun q => s.heap.size ≤ q) s.heap (([(qo, .inl (co, 1, .inr (.inl (vp_updL f 0 r.toInt64))))] ++ wC n ad cA zc) ++ (wM bd cB zm ++ [])) H locs := by rw [← wL_m]; exact hS
  refine fcVi (r := r) (n := 1) (As := [.int (xs (j + 1))]) (rest := []) (q0 := 0) (wc := wM bd cB zm) (wc' := wM bd cB zm') (wa := [(qo, .inl (co, 1, .inr (.inl (vp_updL f 0 r.toInt64))))] ++ wC n ad cA zc) (wb := []) C hS (fun _ h => h) tL_m (fun sz => c_rm_count l D bd cB k zm (xs (j + 1)) r zm' hm sz) (law_good gL_law_X6_count) rfl ⟨rfl, rfl⟩ (by decide +kernel) ⟨Nat.le_of_ble_eq_true rfl, Nat.le_of_ble_eq_true rfl⟩ oM_0 rfl rfl hl.1 rfl (Nat.le_of_ble_eq_true rfl) dL_law_674 ⟨by show _ ≤ 601024; omega, by show _ ≤ 7293000; omega⟩ (fun H locs hS => ?_)
  have hS : St D (fun q => s.heap.size ≤ q) s.heap (wL qo co (vp_updL f 0 r.toInt64) (wC n ad cA zc) (wM bd cB zm')) H locs := by rw [wL_m]; exact hS
  refine lv_istore (lv' := [(6, .int r), (5, .int 0), (0, .ref b), (1, .ref (ad 0)), (2, .ref (bd 0)), (3, .ref qo), (4, .int (nI j))]) hx hb dL_law_677 hl (by decide) rfl (fun ls hl => ?_)
  refine lv_aload_n hx hb dL_law_679 rfl (lv_at hl 4 rfl) ?_
  have hS : St D (fun q => s.heap.size ≤ q) s.heap (([(qo, .inl (co, 1, .inr (.inl (vp_updL f 0 r.toInt64))))] ++ wC n ad cA zc) ++ (wM bd cB zm' ++ [])) H locs := by rw [← wL_m]; exact hS
  refine fcVi (r := 0) (n := 0) (As := []) (rest := []) (q0 := 0) (wc := wM bd cB zm') (wc' := wM bd cB zm') (wa := [(qo, .inl (co, 1, .inr (.inl (vp_updL f 0 r.toInt64))))] ++ wC n ad cA zc) (wb := []) C hS (fun _ h => h) tL_m (fun sz => c_rm_thrown l D bd cB k zm' 0 ht sz) (law_good gL_law_X6_thrown) rfl ⟨rfl, rfl⟩ (by decide +kernel) ⟨Nat.le_of_ble_eq_true rfl, Nat.le_of_ble_eq_true rfl⟩ oM_0 rfl rfl hl.1 rfl (Nat.le_of_ble_eq_true rfl) dL_law_680 ⟨by show _ ≤ 601024; omega, by show _ ≤ 7293000; omega⟩ (fun H locs hS => ?_)
  have hS : St D (fun q => s.heap.size ≤ q) s.heap (wL qo co (vp_updL f 0 r.toInt64) (wC n ad cA zc) (wM bd cB zm')) H locs := by rw [wL_m]; exact hS
  refine lv_iload hx hb dL_law_683 (lv_at hl 1 rfl) ?_
  refine lv_icmp_eq (x := 0) (y := 0) (tgt := 690) hx hb dL_law_685 (by decide) (fun _ => ?_) (fun hc => absurd rfl hc)
  refine lv_iload hx hb dL_law_690 (lv_at hl 1 rfl) ?_
  refine lv_if_ne (x := 0) (tgt := 707) hx hb dL_law_692 (by decide) (fun hc => absurd rfl hc) (fun _ => ?_)
  refine lv_aload_n hx hb dL_law_695 rfl (lv_at hl 5 rfl) ?_
  refine lv_iconst (v := 0) hx hb dL_law_696 (by decide) ?_
  refine va_lald (D := D) (cl := vwCl) hx hb hK hS.1 0 0 (f := (vp_updL f 0 r.toInt64)) rfl rfl (i := 0) (ck_in (by decide)) dL_law_697 ?_
  have hv0 : (vp_updL f 0 r.toInt64) (Int32.toNatClampNeg 0) = r.toInt64 := rfl
  rw [hv0]
  refine lv_iload hx hb dL_law_698 (lv_at hl 0 rfl) ?_
  refine lv_i2l (x := r) (v := r.toInt64) hx hb dL_law_700 rfl ?_
  refine W.lcmp hx hb dL_law_701 ?_
  rw [lgc]
  refine lv_if_eq (x := 0) (tgt := 707) hx hb dL_law_702 (by decide) (fun _ => ?_) (fun hc => absurd rfl hc)
  refine lv_goto (tgt := 710) hx hb dL_law_707 (by decide) ?_
  exact kk H locs ls hS (lv_sub hl [2, 3, 4, 5, 6] rfl)
set_option maxHeartbeats 4000000 in
set_option maxRecDepth 100000 in
theorem lcx_count (C : Cx p s m #[Value.ref b] meth c cL_law 7 ret RL lw_tbl D (tL co (tC cA) (tM cB))) (hX : va_X b L xs s s.heap) (hbl : b < s.heap.size) (hL : L ≤ 2049) (hj : j + 4 ≤ L) (hc : cells + 1 ≤ 601024) (hs : slots + 6 ≤ 7293000) (hE : xE s) {r : Int32} {zm' : SS} (hfl : l.flags = flags0) (hno : ((xs (j + 1)).toInt < 0 ∨ 7 < (xs (j + 1)).toInt)) (hm : rm_count k zm (xs (j + 1)) = some (r, zm')) (ht : rm_thrown k zm' = some 1) (kk : ∀ (H : Heap) (locs : List Loc) (ls : Array Slot), St D (fun q => s.heap.size ≤ q) s.heap (wL qo co f (wC n ad cA zc) (wM bd cB zm')) H locs → lv_has ls 7 [(0, .ref b), (1, .ref (ad 0)), (2, .ref (bd 0)), (3, .ref qo), (4, .int (nI j))] → W p l e room_1 s m #[Value.ref b] below meth c H locs (cells + 1) (slots + 6) (lw_Z below #[Value.ref b] s) (F0 m 710 ls [])) : ∀ (H : Heap) (locs : List Loc) (ls : Array Slot), St D (fun q => s.heap.size ≤ q) s.heap (wL qo co f (wC n ad cA zc) (wM bd cB zm)) H locs → lv_has ls 7 [(0, .ref b), (1, .ref (ad 0)), (2, .ref (bd 0)), (3, .ref qo), (4, .int (nI j))] → W p l e room_1 s m #[Value.ref b] below meth c H locs cells slots (lw_Z below #[Value.ref b] s) (F0 m 654 ls []) := by
  obtain ⟨hx, hb, hr, hml, hown, hts, hlk, hK⟩ := id C
  intro H locs ls hS hl
  refine lv_aload_n hx hb dL_law_654 rfl (lv_at hl 1 rfl) ?_
  refine lv_aload_n hx hb dL_law_655 rfl (lv_at hl 0 rfl) ?_
  refine lv_iload hx hb dL_law_656 (lv_at hl 4 rfl) ?_
  refine lv_iconst (v := 1) hx hb dL_law_658 (by decide) ?_
  refine lv_iadd (x := nI j) (y := 1) hx hb dL_law_659 ?_
  refine rsc hx hb hX hbl hS.2.2 (j + 1) (by omega) (by omega) (nI_add j 1) dL_law_660 ?_
  refine lv_aload_n hx hb dL_law_661 rfl (lv_at hl 3 rfl) ?_
  have hS : St D (fun q => s.heap.size ≤ q) s.heap (([] : va_W) ++ (wH qo co f (wC n ad cA zc) ++ wM bd cB zm)) H locs := by rw [← wL_h]; exact hS
  refine fcSx (r := 1) (n := 3) (As := [.ref (ad 0), .int (xs (j + 1)), .ref qo]) (rest := []) (wc := wH qo co f (wC n ad cA zc)) (wc' := wH qo co f (wC n ad cA zc)) (wa := []) (wb := wM bd cB zm) (tyc := tH co (tC cA)) C hS (fun _ h => h) (fun q h => Nat.not_le.mpr h) hE tL_h (fun sz => hx_count l hfl D n ad cA qo co f zc (xs (j + 1)) hno sz) law_h_count rfl ⟨rfl, rfl⟩ lwl_count lws_count lwi_L (by decide +kernel) ⟨Nat.le_of_ble_eq_true rfl, Nat.le_of_ble_eq_true rfl⟩ rfl hl.1 rfl (Nat.le_of_ble_eq_true rfl) dL_law_662 ⟨by show _ ≤ 601024; omega, by show _ ≤ 7293000; omega⟩ (fun H locs hS => ?_)
  have hS : St D (fun q => s.heap.size ≤ q) s.heap (wL qo co f (wC n ad cA zc) (wM bd cB zm)) H locs := by rw [wL_h]; exact hS
  refine lv_istore (lv' := [(5, .int 1), (0, .ref b), (1, .ref (ad 0)), (2, .ref (bd 0)), (3, .ref qo), (4, .int (nI j))]) hx hb dL_law_665 hl (by decide) rfl (fun ls hl => ?_)
  refine lv_aload_n hx hb dL_law_667 rfl (lv_at hl 3 rfl) ?_
  refine lv_aload_n hx hb dL_law_668 rfl (lv_at hl 1 rfl) ?_
  refine lv_iload hx hb dL_law_669 (lv_at hl 5 rfl) ?_
  refine lv_iconst (v := 1) hx hb dL_law_671 (by decide) ?_
  refine lv_iadd (x := nI j) (y := 1) hx hb dL_law_672 ?_
  refine rsc hx hb hX hbl hS.2.2 (j + 1) (by omega) (by omega) (nI_add j 1) dL_law_673 ?_
  have hS : St D (fun q => s.heap.size ≤ q) s.heap (([(qo, .inl (co, 1, .inr (.inl f)))] ++ wC n ad cA zc) ++ (wM bd cB zm ++ [])) H locs := by rw [← wL_m]; exact hS
  refine fcVi (r := r) (n := 1) (As := [.int (xs (j + 1))]) (rest := []) (q0 := 0) (wc := wM bd cB zm) (wc' := wM bd cB zm') (wa := [(qo, .inl (co, 1, .inr (.inl f)))] ++ wC n ad cA zc) (wb := []) C hS (fun _ h => h) tL_m (fun sz => c_rm_count l D bd cB k zm (xs (j + 1)) r zm' hm sz) (law_good gL_law_X6_count) rfl ⟨rfl, rfl⟩ (by decide +kernel) ⟨Nat.le_of_ble_eq_true rfl, Nat.le_of_ble_eq_true rfl⟩ oM_0 rfl rfl hl.1 rfl (Nat.le_of_ble_eq_true rfl) dL_law_674 ⟨by show _ ≤ 601024; omega, by show _ ≤ 7293000; omega⟩ (fun H locs hS => ?_)
  have hS : St D (fun q => s.heap.size ≤ q) s.heap (wL qo co f (wC n ad cA zc) (wM bd cB zm')) H locs := by rw [wL_m]; exact hS
  refine lv_istore (lv' := [(6, .int r), (5, .int 1), (0, .ref b), (1, .ref (ad 0)), (2, .ref (bd 0)), (3, .ref qo), (4, .int (nI j))]) hx hb dL_law_677 hl (by decide) rfl (fun ls hl => ?_)
  refine lv_aload_n hx hb dL_law_679 rfl (lv_at hl 4 rfl) ?_
  have hS : St D (fun q => s.heap.size ≤ q) s.heap (([(qo, .inl (co, 1, .inr (.inl f)))] ++ wC n ad cA zc) ++ (wM bd cB zm' ++ [])) H locs := by rw [← wL_m]; exact hS
  refine fcVi (r := 1) (n := 0) (As := []) (rest := []) (q0 := 0) (wc := wM bd cB zm') (wc' := wM bd cB zm') (wa := [(qo, .inl (co, 1, .inr (.inl f)))] ++ wC n ad cA zc) (wb := []) C hS (fun _ h => h) tL_m (fun sz => c_rm_thrown l D bd cB k zm' 1 ht sz) (law_good gL_law_X6_thrown) rfl ⟨rfl, rfl⟩ (by decide +kernel) ⟨Nat.le_of_ble_eq_true rfl, Nat.le_of_ble_eq_true rfl⟩ oM_0 rfl rfl hl.1 rfl (Nat.le_of_ble_eq_true rfl) dL_law_680 ⟨by show _ ≤ 601024; omega, by show _ ≤ 7293000; omega⟩ (fun H locs hS => ?_)
  have hS : St D (fun q => s.heap.size ≤ q) s.heap (wL qo co f (wC n ad cA zc) (wM bd cB zm')) H locs := by rw [wL_m]; exact hS
  refine lv_iload hx hb dL_law_683 (lv_at hl 1 rfl) ?_
  refine lv_icmp_eq (x := 1) (y := 1) (tgt := 690) hx hb dL_law_685 (by decide) (fun _ => ?_) (fun hc => absurd rfl hc)
  refine lv_iload hx hb dL_law_690 (lv_at hl 1 rfl) ?_
  refine lv_if_ne (x := 1) (tgt := 707) hx hb dL_law_692 (by decide) (fun _ => ?_) (fun hc => absurd hc (by decide))
  refine lv_goto (tgt := 710) hx hb dL_law_707 (by decide) ?_
  exact kk H locs ls hS (lv_sub hl [2, 3, 4, 5, 6] rfl)
end LAW
