set_option maxRecDepth 20000 in
theorem lx_X5 : GoodIn lw_tbl wsX50 := goodIn_p _ [] (by decide +kernel) (by decide +kernel)
set_option maxRecDepth 20000 in
theorem lx_X3 : GoodIn lw_tbl wsX30 := goodIn_p _ [] (by decide +kernel) (by decide +kernel)
set_option maxRecDepth 20000 in
theorem lx_X2 : GoodIn lw_tbl wsX20 := goodIn_p _ [] (by decide +kernel) (by decide +kernel)
set_option maxRecDepth 20000 in
theorem lx_X1 : GoodIn lw_tbl wsX10 := goodIn_p _ [] (by decide +kernel) (by decide +kernel)
set_option maxRecDepth 20000 in
theorem lx_X6 : GoodIn lw_tbl wsX60 := goodIn_p _ [] (by decide +kernel) (by decide +kernel)
set_option maxRecDepth 20000 in
theorem lx_X4 : GoodIn lw_tbl wsX40 := goodIn_p _ [] (by decide +kernel) (by decide +kernel)
theorem wsL_law_in : ∀ w ∈ wsL_law, w ∈ lw_tbl := fun w h => ((show GoodIn lw_tbl wsL_law from (goodIn_app (goodIn_app (goodIn_app (goodIn_app (goodIn_app (goodIn_app (goodIn_app (goodIn_app (goodIn_app (goodIn_app lx__law_r1 (goodIn_app lx__law_r2 (goodIn_app lx__law_r3 (goodIn_app lx__law_r4 (goodIn_app lx__law_r5 (goodIn_app lx__law_r6 (goodIn_app lx__law_r7 (goodIn_app lx__law_r8 (goodIn_app lx__law_r9 (goodIn_app lx__law_r10 (goodIn_app lx__law_r11 (goodIn_app lx__law_r12 (goodIn_app lx__law_r13 (goodIn_app lx__law_r14 (goodIn_app lx__law_r15 (goodIn_app lx__law_r16 (goodIn_app lx__law_r17 (goodIn_app lx__law_r18 (goodIn_app lx__law_r19 (goodIn_app lx__law_r20 (goodIn_app lx__law_r21 (goodIn_app lx__law_r22 (goodIn_app lx__law_r23 (goodIn_app lx__law_r24 (goodIn_app lx__law_r25 (goodIn_app lx__law_r26 (goodIn_app lx__law_r27 (goodIn_app lx__law_r28 (goodIn_app lx__law_r29 (goodIn_app lx__law_r30 (goodIn_app lx__law_r31 (goodIn_app lx__law_r32 (goodIn_app lx__law_r33 (goodIn_app lx__law_r34 (goodIn_app lx__law_r35 (goodIn_app lx__law_r36 (goodIn_app lx__law_r37 (goodIn_app lx__law_r38 (goodIn_app lx__law_r39 lx__law_r40))))))))))))))))))))))))))))))))))))))) lx_X7) lx_X8) lx_X5) lx_X3) lx_X2) lx_X1) lx_X6) lx_X4) (fun _ h => absurd h List.not_mem_nil))) w h).1
theorem inX7 : ∀ w ∈ wsX70, w ∈ lw_tbl := fun w h => (lx_X7 w h).1
theorem inX8 : ∀ w ∈ wsX80, w ∈ lw_tbl := fun w h => (lx_X8 w h).1
theorem inX5 : ∀ w ∈ wsX50, w ∈ lw_tbl := fun w h => (lx_X5 w h).1
theorem inX3 : ∀ w ∈ wsX30, w ∈ lw_tbl := fun w h => (lx_X3 w h).1
theorem inX2 : ∀ w ∈ wsX20, w ∈ lw_tbl := fun w h => (lx_X2 w h).1
theorem inX1 : ∀ w ∈ wsX10, w ∈ lw_tbl := fun w h => (lx_X1 w h).1
theorem inX6 : ∀ w ∈ wsX60, w ∈ lw_tbl := fun w h => (lx_X6 w h).1
theorem inX4 : ∀ w ∈ wsX40, w ∈ lw_tbl := fun w h => (lx_X4 w h).1
