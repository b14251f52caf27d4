set_option maxRecDepth 20000 in
theorem wl_1 : ∀ w ∈ wsL_law_r1, w ∈ lw_tbl := by decide +kernel
set_option maxRecDepth 20000 in
theorem wl_2 : ∀ w ∈ wsL_law_r2, w ∈ lw_tbl := by decide +kernel
set_option maxRecDepth 20000 in
theorem wl_3 : ∀ w ∈ wsL_law_r3, w ∈ lw_tbl := by decide +kernel
set_option maxRecDepth 20000 in
theorem wl_4 : ∀ w ∈ wsL_law_r4, w ∈ lw_tbl := by decide +kernel
set_option maxRecDepth 20000 in
theorem wl_5 : ∀ w ∈ wsL_law_r5, w ∈ lw_tbl := by decide +kernel
set_option maxRecDepth 20000 in
theorem wl_6 : ∀ w ∈ wsL_law_r6, w ∈ lw_tbl := by decide +kernel
set_option maxRecDepth 20000 in
theorem wl_7 : ∀ w ∈ wsL_law_r7, w ∈ lw_tbl := by decide +kernel
set_option maxRecDepth 20000 in
theorem wl_8 : ∀ w ∈ wsL_law_r8, w ∈ lw_tbl := by decide +kernel
set_option maxRecDepth 20000 in
theorem wl_9 : ∀ w ∈ wsL_law_r9, w ∈ lw_tbl := by decide +kernel
set_option maxRecDepth 20000 in
theorem wl_10 : ∀ w ∈ wsL_law_r10, w ∈ lw_tbl := by decide +kernel
set_option maxRecDepth 20000 in
theorem wl_11 : ∀ w ∈ wsL_law_r11, w ∈ lw_tbl := by decide +kernel
set_option maxRecDepth 20000 in
theorem wl_12 : ∀ w ∈ wsL_law_r12, w ∈ lw_tbl := by decide +kernel
set_option maxRecDepth 20000 in
theorem wl_13 : ∀ w ∈ wsL_law_r13, w ∈ lw_tbl := by decide +kernel
set_option maxRecDepth 20000 in
theorem wl_14 : ∀ w ∈ wsL_law_r14, w ∈ lw_tbl := by decide +kernel
set_option maxRecDepth 20000 in
theorem wl_15 : ∀ w ∈ wsL_law_r15, w ∈ lw_tbl := by decide +kernel
set_option maxRecDepth 20000 in
theorem wl_16 : ∀ w ∈ wsL_law_r16, w ∈ lw_tbl := by decide +kernel
set_option maxRecDepth 20000 in
theorem wl_17 : ∀ w ∈ wsL_law_r17, w ∈ lw_tbl := by decide +kernel
set_option maxRecDepth 20000 in
theorem wl_18 : ∀ w ∈ wsL_law_r18, w ∈ lw_tbl := by decide +kernel
set_option maxRecDepth 20000 in
theorem wl_19 : ∀ w ∈ wsL_law_r19, w ∈ lw_tbl := by decide +kernel
set_option maxRecDepth 20000 in
theorem wl_20 : ∀ w ∈ wsL_law_r20, w ∈ lw_tbl := by decide +kernel
set_option maxRecDepth 20000 in
theorem wl_21 : ∀ w ∈ wsL_law_r21, w ∈ lw_tbl := by decide +kernel
set_option maxRecDepth 20000 in
theorem wl_22 : ∀ w ∈ wsL_law_r22, w ∈ lw_tbl := by decide +kernel
set_option maxRecDepth 20000 in
theorem wl_23 : ∀ w ∈ wsL_law_r23, w ∈ lw_tbl := by decide +kernel
set_option maxRecDepth 20000 in
theorem wl_24 : ∀ w ∈ wsL_law_r24, w ∈ lw_tbl := by decide +kernel
set_option maxRecDepth 20000 in
theorem wl_25 : ∀ w ∈ wsL_law_r25, w ∈ lw_tbl := by decide +kernel
set_option maxRecDepth 20000 in
theorem we_wsX50 : ∀ w ∈ wsX50, w ∈ lw_tbl := by decide +kernel
set_option maxRecDepth 20000 in
theorem we_wsX60 : ∀ w ∈ wsX60, w ∈ lw_tbl := by decide +kernel
set_option maxRecDepth 20000 in
theorem we_wsX30 : ∀ w ∈ wsX30, w ∈ lw_tbl := by decide +kernel
set_option maxRecDepth 20000 in
theorem we_wsX10 : ∀ w ∈ wsX10, w ∈ lw_tbl := by decide +kernel
set_option maxRecDepth 20000 in
theorem we_wsX40 : ∀ w ∈ wsX40, w ∈ lw_tbl := by decide +kernel
set_option maxRecDepth 20000 in
theorem we_wsX00 : ∀ w ∈ wsX00, w ∈ lw_tbl := by decide +kernel
set_option maxRecDepth 20000 in
theorem we_wsJx000600 : ∀ w ∈ wsJx000600, w ∈ lw_tbl := by decide +kernel
theorem or_in {a b c : List Cond} (ha : ∀ w ∈ a, w ∈ c) (hb : ∀ w ∈ b, w ∈ c) : ∀ w ∈ a ++ b, w ∈ c := fun w h => (List.mem_append.mp h).elim (ha w) (hb w)
theorem law_in : ∀ w ∈ wsL_law, w ∈ lw_tbl := (or_in (or_in (or_in (or_in (or_in (or_in (or_in (or_in (or_in wl_1 (or_in wl_2 (or_in wl_3 (or_in wl_4 (or_in wl_5 (or_in wl_6 (or_in wl_7 (or_in wl_8 (or_in wl_9 (or_in wl_10 (or_in wl_11 (or_in wl_12 (or_in wl_13 (or_in wl_14 (or_in wl_15 (or_in wl_16 (or_in wl_17 (or_in wl_18 (or_in wl_19 (or_in wl_20 (or_in wl_21 (or_in wl_22 (or_in wl_23 (or_in wl_24 wl_25)))))))))))))))))))))))) we_wsX50) we_wsX60) we_wsX30) we_wsX10) we_wsX40) we_wsX00) we_wsJx000600) (fun _ h => absurd h List.not_mem_nil))
theorem law_good {ws : List Cond} (h : GoodIn wsL_law ws) : GoodIn lw_tbl ws := fun w hw => ⟨law_in w (h w hw).1, (h w hw).2⟩
theorem law_k13 : Cond.classLink RL 13 RJx00060 ∈ lw_tbl := by decide +kernel
theorem good_one {big : List Cond} {w : Cond} (hm : w ∈ big) (h : goodWord w = true) : GoodIn big [w] := fun x hx => by
  cases List.mem_singleton.mp hx
  exact ⟨hm, good_of_word h⟩
theorem law_k13g : GoodIn lw_tbl [Cond.classLink RL 13 RJx00060] := good_one law_k13 (by decide +kernel)
theorem law_h_poke : GoodIn lw_tbl wsH_poke := goodIn_app (law_good ggL_law_L_poke) law_k13g
theorem law_h_byteAt : GoodIn lw_tbl wsH_byteAt := goodIn_app (law_good ggL_law_L_byteAt) law_k13g
theorem law_h_count : GoodIn lw_tbl wsH_count := goodIn_app (law_good ggL_law_L_count) law_k13g
def xIn (a : Cond) : Bool := decide (a ∈ lw_tbl) || decide (a = xs1) || decide (a = xs2)
set_option maxRecDepth 20000 in
theorem EXA_in : EXA.all xIn = true := by decide +kernel
