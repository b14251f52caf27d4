theorem St.keep {D : va_G} {A : Nat → Prop} {H0 H H1 : Heap} {w : va_W} {locs locs1 : List Loc} (S : St D A H0 w H locs) (hk : ∀ q : Nat, q < H.size → H1[q]? = H[q]?) (hS1 : va_S A H0 H1 locs1) : St D A H0 w H1 locs1 := ⟨S.1.kept (fun k q hq => hk q.1 (S.1 k q hq).lt), S.2.1, hS1⟩
theorem St.perm {D : va_G} {A : Nat → Prop} {H0 H : Heap} {w w' : va_W} {locs : List Loc} (S : St D A H0 w H locs) (h : w.Perm w') : St D A H0 w' H locs := by
  refine ⟨P_mem.mpr fun q hq => P_mem.mp S.1 q (h.mem_iff.mpr hq), D_nodup.mpr ⟨(h.map _).nodup_iff.mp (D_nodup.mp S.2.1).1, fun q hq => (D_nodup.mp S.2.1).2 q (h.mem_iff.mpr hq)⟩, S.2.2⟩
theorem Cx.sub {p : Program} {s : State} {m : MethodId} {args : Array Value} {meth : Method} {c : Code} {cc : ByteArray} {nL : Nat} {ret : Option FieldType} {own : String} {Ts : List Cond} {D : va_G} {tys tys' : List (ClassId × FieldType)} (C : Cx p s m args meth c cc nL ret own Ts D tys) (h : ∀ q ∈ tys', q ∈ tys) : Cx p s m args meth c cc nL ret own Ts D tys' := by
  obtain ⟨h1, h2, h3, h4, h5, h6, h7, h8⟩ := C
  exact ⟨h1, h2, h3, h4, h5, h6, h7, K_sub h8 h⟩
section LOOP
variable {p : Program} {l : Launch} {e : Env} {s : State} {m : MethodId} {below : List Frame} {meth : Method} {c : Code} {D : va_G} {b L n k qo : Nat} {xs : Nat → Int32} {ad bd : Nat → Nat} {cA cB : Nat → ClassId} {co : ClassId}
set_option maxHeartbeats 4000000 in
set_option maxRecDepth 100000 in
theorem law_loop (hfl : l.flags = flags0) (C : Cx p s m #[Value.ref b] meth c cL_law 7 ret RL lw_tbl D (tL co (tC cA) (tM cB))) (hX : va_X b L xs s s.heap) (hbl : b < s.heap.size) (hL : L ≤ 2049) (hE : xE s) {Rel : SS → SS → Prop} (hsim : Sim n k Rel) :
    ∀ (d j : Nat) (zc zm : SS) (f : Nat → Int64), j ≤ 2053 → L + 1 ≤ j + d → Rel zc zm → ∀ (H : Heap) (locs : List Loc) (ls : Array Slot), St D (fun q => s.heap.size ≤ q) s.heap (wL qo co f (wC n ad cA zc) (wM bd cB zm)) H locs → lv_has ls 7 [(0, .ref b), (1, .ref (ad 0)), (2, .ref (bd 0)), (3, .ref qo), (4, .int (nI j))] → W p l e room_1 s m #[Value.ref b] below meth c H locs (40 + j) (12000 + 6 * j) (lw_Z below #[Value.ref b] s) (F0 m 33 ls []) := by
  obtain ⟨hx, hb, hr, hml, hown, hts, hlk, hK⟩ := id C
  obtain ⟨S0, S1, S2, S3, S4, S5, S6, S7, S8, S9, S10, S11, S12, S13, S14, S15, S16⟩ := id hsim
  intro d
  induction d with
  | zero =>
    intro j zc zm f hj2 hd hR H locs ls hS hl
    refine lv_iload hx hb dL_law_33 (lv_at hl 4 rfl) ?_
    refine lv_aload_n hx hb dL_law_35 rfl (lv_at hl 0 rfl) ?_
    refine va_slen hx hb hX hbl (Nat.not_le.mpr hbl) hS.2.2 dL_law_36 ?_
    refine lv_iconst (v := 4) hx hb dL_law_37 (by decide) ?_
    refine lv_isub (x := nI L) (y := 4) hx hb dL_law_38 ?_
    refine lv_icmp_gt (x := nI j) (y := nI L - 4) (tgt := 716) hx hb dL_law_39 (by decide) (fun hc => ?_) (fun hc => ?_)
    · refine lv_iconst (v := 1) hx hb dL_law_716 (by decide) ?_
      refine va_forget (fun q hq => hS.2.2.2.2 q hq) ?_
      refine W.widen (k := 601024) (n := 7293000) (by omega) (by omega) ?_
      exact lw_ret hx hb hr hlk dL_law_717
    · refine absurd ?_ hc
      rw [Int32.lt_iff_toInt_lt, show (nI L - 4 : Int32) = nI L - nI 4 from rfl, pk_sub_toInt (by omega) (by omega), nI_toInt (by omega)]
      omega
  | succ d ih =>
    intro j zc zm f hj2 hd hR H locs ls hS hl
    refine lv_iload hx hb dL_law_33 (lv_at hl 4 rfl) ?_
    refine lv_aload_n hx hb dL_law_35 rfl (lv_at hl 0 rfl) ?_
    refine va_slen hx hb hX hbl (Nat.not_le.mpr hbl) hS.2.2 dL_law_36 ?_
    refine lv_iconst (v := 4) hx hb dL_law_37 (by decide) ?_
    refine lv_isub (x := nI L) (y := 4) hx hb dL_law_38 ?_
    refine lv_icmp_gt (x := nI j) (y := nI L - 4) (tgt := 716) hx hb dL_law_39 (by decide) (fun hc => ?_) (fun hc => ?_)
    · refine lv_iconst (v := 1) hx hb dL_law_716 (by decide) ?_
      refine va_forget (fun q hq => hS.2.2.2.2 q hq) ?_
      refine W.widen (k := 601024) (n := 7293000) (by omega) (by omega) ?_
      exact lw_ret hx hb hr hlk dL_law_717
    · have hj : j + 4 ≤ L := by
        rw [Int32.lt_iff_toInt_lt, show (nI L - 4 : Int32) = nI L - nI 4 from rfl, pk_sub_toInt (by omega) (by omega), nI_toInt (by omega)] at hc
        omega
      have next : ∀ (zc zm : SS) (f : Nat → Int64) (cells slots : Nat), cells ≤ 40 + j + 1 → slots ≤ 12000 + 6 * j + 6 → Rel zc zm → ∀ (H : Heap) (locs : List Loc) (ls : Array Slot), St D (fun q => s.heap.size ≤ q) s.heap (wL qo co f (wC n ad cA zc) (wM bd cB zm)) H locs → lv_has ls 7 [(0, .ref b), (1, .ref (ad 0)), (2, .ref (bd 0)), (3, .ref qo), (4, .int (nI j))] → W p l e room_1 s m #[Value.ref b] below meth c H locs cells slots (lw_Z below #[Value.ref b] s) (F0 m 710 ls []) := by
        intro zc zm f cells slots h1 h2 hR H locs ls hS hl
        refine lv_iinc (v := nI (j + 4)) (lv' := [(4, .int (nI (j + 4))), (0, .ref b), (1, .ref (ad 0)), (2, .ref (bd 0)), (3, .ref qo)]) hx hb dL_law_710 hl (k := 4) rfl (nI_add j 4) (by decide) rfl (fun ls hl => ?_)
        refine lv_goto (tgt := 33) hx hb dL_law_713 (by decide) ?_
        refine W.widen (k := 40 + (j + 4)) (n := 12000 + 6 * (j + 4)) (by omega) (by omega) ?_
        exact ih (j + 4) zc zm f (by omega) (by omega) hR H locs ls hS (lv_sub hl [1, 2, 3, 4, 0] rfl)
      refine lv_aload_n hx hb dL_law_42 rfl (lv_at hl 0 rfl) ?_
      refine lv_iload hx hb dL_law_43 (lv_at hl 4 rfl) ?_
      refine rsc hx hb hX hbl hS.2.2 j (by omega) (by omega) rfl dL_law_45 ?_
      refine lv_bipush (v := 31) hx hb dL_law_46 (by decide) ?_
      refine lv_iand (x := xs j) (y := 31) hx hb dL_law_48 ?_
      obtain ⟨q, hq, hqe⟩ := pk_andE (xs j) (m := 31) 5 (by decide)
      rw [hqe]
      by_cases h17 : 17 ≤ q
      · refine lv_tableOut (x := nI q) (tgt := 710) hx hb dL_law_49 (Or.inr (by rw [nI_toInt (by omega)]; omega)) (by decide) ?_
        exact next zc zm f _ _ (by omega) (by omega) hR H locs ls hS hl
      · rcases (show q = 0 ∨ q = 1 ∨ q = 2 ∨ q = 3 ∨ q = 4 ∨ q = 5 ∨ q = 6 ∨ q = 7 ∨ q = 8 ∨ q = 9 ∨ q = 10 ∨ q = 11 ∨ q = 12 ∨ q = 13 ∨ q = 14 ∨ q = 15 ∨ q = 16 by omega) with rfl | rfl | rfl | rfl | rfl | rfl | rfl | rfl | rfl | rfl | rfl | rfl | rfl | rfl | rfl | rfl | rfl
        · refine lv_tableIn (x := nI 0) (off := 83) (tgt := 132) hx hb dL_law_49 (by decide) (by decide) (by decide) (by decide) ?_
          obtain ⟨r, zc2, zm2, e1, e2, e4⟩ := S0 zc zm (xs (j + 1)) (xs (j + 2)) hR
          exact lc_feed C hX hbl hL hj (by omega) (by omega) e1 e2 (next zc2 zm2 f _ _ (by omega) (by omega) e4) H locs ls hS hl
        · refine lv_tableIn (x := nI 1) (off := 120) (tgt := 169) hx hb dL_law_49 (by decide) (by decide) (by decide) (by decide) ?_
          obtain ⟨r, zc2, zm2, e1, e2, e4⟩ := S1 zc zm (xs (j + 1)) hR
          exact lc_put C hX hbl hL hj (by omega) (by omega) e1 e2 (next zc2 zm2 f _ _ (by omega) (by omega) e4) H locs ls hS hl
        · refine lv_tableIn (x := nI 2) (off := 145) (tgt := 194) hx hb dL_law_49 (by decide) (by decide) (by decide) (by decide) ?_
          obtain ⟨r, zc2, zm2, e1, e2, e4⟩ := S2 zc zm (xs (j + 1)) hR
          exact lc_drop C hX hbl hL hj (by omega) (by omega) e1 e2 (next zc2 zm2 f _ _ (by omega) (by omega) e4) H locs ls hS hl
        · refine lv_tableIn (x := nI 3) (off := 170) (tgt := 219) hx hb dL_law_49 (by decide) (by decide) (by decide) (by decide) ?_
          obtain ⟨r, zm2, e1, e2, e4⟩ := S3 zc zm (xs (j + 1)) (xs (j + 2)) hR
          exact lc_length C hX hbl hL hj (by omega) (by omega) e1 e2 (next zc zm2 f _ _ (by omega) (by omega) e4) H locs ls hS hl
        · refine lv_tableIn (x := nI 4) (off := 207) (tgt := 256) hx hb dL_law_49 (by decide) (by decide) (by decide) (by decide) ?_
          obtain ⟨r, zm2, e1, e2, e4⟩ := S4 zc zm (xs (j + 1)) (xs (j + 2)) (xs (j + 3)) hR
          exact lc_find C hX hbl hL hj (by omega) (by omega) e1 e2 (next zc zm2 f _ _ (by omega) (by omega) e4) H locs ls hS hl
        · refine lv_tableIn (x := nI 5) (off := 256) (tgt := 305) hx hb dL_law_49 (by decide) (by decide) (by decide) (by decide) ?_
          obtain ⟨r, zc2, zm2, e1, e2, e4⟩ := S5 zc zm hR
          exact lc_snapshot C hX hbl hL hj (by omega) (by omega) e1 e2 (next zc2 zm2 f _ _ (by omega) (by omega) e4) H locs ls hS hl
        · refine lv_tableIn (x := nI 6) (off := 269) (tgt := 318) hx hb dL_law_49 (by decide) (by decide) (by decide) (by decide) ?_
          obtain ⟨r, zc2, zm2, e1, e2, e4⟩ := S6 zc zm (xs (j + 1)) hR
          exact lc_release C hX hbl hL hj (by omega) (by omega) e1 e2 (next zc2 zm2 f _ _ (by omega) (by omega) e4) H locs ls hS hl
        · refine lv_tableIn (x := nI 7) (off := 294) (tgt := 343) hx hb dL_law_49 (by decide) (by decide) (by decide) (by decide) ?_
          obtain ⟨r, zc2, zm2, e1, e2, e4⟩ := S7 zc zm hR
          exact lc_sync C hX hbl hL hj (by omega) (by omega) e1 e2 (next zc2 zm2 f _ _ (by omega) (by omega) e4) H locs ls hS hl
        · refine lv_tableIn (x := nI 8) (off := 307) (tgt := 356) hx hb dL_law_49 (by decide) (by decide) (by decide) (by decide) ?_
          obtain ⟨r, zc2, zm2, e1, e2, e4⟩ := S8 zc zm (xs (j + 1)) hR
          exact lc_crash C hX hbl hL hj (by omega) (by omega) e1 e2 (next zc2 zm2 f _ _ (by omega) (by omega) e4) H locs ls hS hl
        · refine lv_tableIn (x := nI 9) (off := 332) (tgt := 381) hx hb dL_law_49 (by decide) (by decide) (by decide) (by decide) ?_
          obtain ⟨r, zc2, zm2, e1, e2, e4⟩ := S9 zc zm (xs (j + 1)) (xs (j + 2)) (xs (j + 3)) hR
          exact lc_clean C hX hbl hL hj (by omega) (by omega) e1 e2 (next zc2 zm2 f _ _ (by omega) (by omega) e4) H locs ls hS hl
        · refine lv_tableIn (x := nI 10) (off := 381) (tgt := 430) hx hb dL_law_49 (by decide) (by decide) (by decide) (by decide) ?_
          obtain ⟨r, zc2, zm2, e1, e2, e4⟩ := S10 zc zm hR
          exact lc_reopen C hX hbl hL hj (by omega) (by omega) e1 e2 (next zc2 zm2 f _ _ (by omega) (by omega) e4) H locs ls hS hl
        · refine lv_tableIn (x := nI 11) (off := 394) (tgt := 443) hx hb dL_law_49 (by decide) (by decide) (by decide) (by decide) ?_
          obtain ⟨r, zm2, e1, e2, e4⟩ := S11 zc zm hR
          exact lc_badAt C hX hbl hL hj (by omega) (by omega) e1 e2 (next zc zm2 f _ _ (by omega) (by omega) e4) H locs ls hS hl
        · refine lv_tableIn (x := nI 12) (off := 407) (tgt := 456) hx hb dL_law_49 (by decide) (by decide) (by decide) (by decide) ?_
          rcases S12 zc zm (xs (j + 1)) (xs (j + 2)) (xs (j + 3)) hR with ⟨r, zc2, zm2, e1, e2, e3, e4⟩ | ⟨hno, r, zm2, e2, e3, e4⟩
          · exact lcr_poke C hX hbl hL hj (by omega) (by omega) hE e1 e2 e3 (next zc2 zm2 _ _ _ (by omega) (by omega) e4) H locs ls hS hl
          · exact lcx_poke C hX hbl hL hj (by omega) (by omega) hE hfl hno e2 e3 (next zc zm2 _ _ _ (by omega) (by omega) e4) H locs ls hS hl
        · refine lv_tableIn (x := nI 13) (off := 487) (tgt := 536) hx hb dL_law_49 (by decide) (by decide) (by decide) (by decide) ?_
          rcases S13 zc zm (xs (j + 1)) (xs (j + 2)) hR with ⟨r, zm2, e1, e2, e3, e4⟩ | ⟨hno, r, zm2, e2, e3, e4⟩
          · exact lcr_byteAt C hX hbl hL hj (by omega) (by omega) hE e1 e2 e3 (next zc zm2 _ _ _ (by omega) (by omega) e4) H locs ls hS hl
          · exact lcx_byteAt C hX hbl hL hj (by omega) (by omega) hE hfl hno e2 e3 (next zc zm2 _ _ _ (by omega) (by omega) e4) H locs ls hS hl
        · refine lv_tableIn (x := nI 14) (off := 555) (tgt := 604) hx hb dL_law_49 (by decide) (by decide) (by decide) (by decide) ?_
          obtain ⟨r, zm2, e1, e2, e4⟩ := S14 zc zm (xs (j + 1)) hR
          exact lc_living C hX hbl hL hj (by omega) (by omega) e1 e2 (next zc zm2 f _ _ (by omega) (by omega) e4) H locs ls hS hl
        · refine lv_tableIn (x := nI 15) (off := 580) (tgt := 629) hx hb dL_law_49 (by decide) (by decide) (by decide) (by decide) ?_
          obtain ⟨r, zm2, e1, e2, e4⟩ := S15 zc zm (xs (j + 1)) hR
          exact lc_used C hX hbl hL hj (by omega) (by omega) e1 e2 (next zc zm2 f _ _ (by omega) (by omega) e4) H locs ls hS hl
        · refine lv_tableIn (x := nI 16) (off := 605) (tgt := 654) hx hb dL_law_49 (by decide) (by decide) (by decide) (by decide) ?_
          rcases S16 zc zm (xs (j + 1)) hR with ⟨r, zm2, e1, e2, e3, e4⟩ | ⟨hno, r, zm2, e2, e3, e4⟩
          · exact lcr_count C hX hbl hL hj (by omega) (by omega) hE e1 e2 e3 (next zc zm2 _ _ _ (by omega) (by omega) e4) H locs ls hS hl
          · exact lcx_count C hX hbl hL hj (by omega) (by omega) hE hfl hno e2 e3 (next zc zm2 _ _ _ (by omega) (by omega) e4) H locs ls hS hl
end LOOP
