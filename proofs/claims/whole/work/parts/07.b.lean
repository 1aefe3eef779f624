set_option maxRecDepth 20000 in
theorem in_wsL_law0_r1 : ∀ w ∈ wsL_law0_r1, w ∈ lw_tbl := by decide +kernel
set_option maxRecDepth 20000 in
theorem in_wsL_law0_r2 : ∀ w ∈ wsL_law0_r2, w ∈ lw_tbl := by decide +kernel
set_option maxRecDepth 20000 in
theorem in_wsL_law0_r3 : ∀ w ∈ wsL_law0_r3, w ∈ lw_tbl := by decide +kernel
set_option maxRecDepth 20000 in
theorem in_wsL_law0_r4 : ∀ w ∈ wsL_law0_r4, w ∈ lw_tbl := by decide +kernel
set_option maxRecDepth 20000 in
theorem in_wsL_law0_r5 : ∀ w ∈ wsL_law0_r5, w ∈ lw_tbl := by decide +kernel
set_option maxRecDepth 20000 in
theorem in_wsL_law0_r6 : ∀ w ∈ wsL_law0_r6, w ∈ lw_tbl := by decide +kernel
set_option maxRecDepth 20000 in
theorem in_wsL_law0_r7 : ∀ w ∈ wsL_law0_r7, w ∈ lw_tbl := by decide +kernel
set_option maxRecDepth 20000 in
theorem in_wsL_law0_r8 : ∀ w ∈ wsL_law0_r8, w ∈ lw_tbl := by decide +kernel
set_option maxRecDepth 20000 in
theorem in_wsL_law0_r9 : ∀ w ∈ wsL_law0_r9, w ∈ lw_tbl := by decide +kernel
set_option maxRecDepth 20000 in
theorem in_wsL_law0_r10 : ∀ w ∈ wsL_law0_r10, w ∈ lw_tbl := by decide +kernel
set_option maxRecDepth 20000 in
theorem in_wsL_law0_r11 : ∀ w ∈ wsL_law0_r11, w ∈ lw_tbl := by decide +kernel
set_option maxRecDepth 20000 in
theorem in_wsL_law0_r12 : ∀ w ∈ wsL_law0_r12, w ∈ lw_tbl := by decide +kernel
set_option maxRecDepth 20000 in
theorem in_wsL_law0_r13 : ∀ w ∈ wsL_law0_r13, w ∈ lw_tbl := by decide +kernel
set_option maxRecDepth 20000 in
theorem in_wsL_law0_r14 : ∀ w ∈ wsL_law0_r14, w ∈ lw_tbl := by decide +kernel
set_option maxRecDepth 20000 in
theorem in_wsL_law0_r15 : ∀ w ∈ wsL_law0_r15, w ∈ lw_tbl := by decide +kernel
set_option maxRecDepth 20000 in
theorem in_wsL_law0_r16 : ∀ w ∈ wsL_law0_r16, w ∈ lw_tbl := by decide +kernel
set_option maxRecDepth 20000 in
theorem in_wsL_law0_r17 : ∀ w ∈ wsL_law0_r17, w ∈ lw_tbl := by decide +kernel
set_option maxRecDepth 20000 in
theorem in_wsL_law0_r18 : ∀ w ∈ wsL_law0_r18, w ∈ lw_tbl := by decide +kernel
set_option maxRecDepth 20000 in
theorem in_wsL_law0_r19 : ∀ w ∈ wsL_law0_r19, w ∈ lw_tbl := by decide +kernel
set_option maxRecDepth 20000 in
theorem in_wsL_law0_r20 : ∀ w ∈ wsL_law0_r20, w ∈ lw_tbl := by decide +kernel
set_option maxRecDepth 20000 in
theorem in_wsL_law0_r21 : ∀ w ∈ wsL_law0_r21, w ∈ lw_tbl := by decide +kernel
set_option maxRecDepth 20000 in
theorem in_wsL_law0_r22 : ∀ w ∈ wsL_law0_r22, w ∈ lw_tbl := by decide +kernel
set_option maxRecDepth 20000 in
theorem in_wsL_law0_r23 : ∀ w ∈ wsL_law0_r23, w ∈ lw_tbl := by decide +kernel
set_option maxRecDepth 20000 in
theorem in_wsL_law0_r24 : ∀ w ∈ wsL_law0_r24, w ∈ lw_tbl := by decide +kernel
set_option maxRecDepth 20000 in
theorem in_wsL_law0_r25 : ∀ w ∈ wsL_law0_r25, w ∈ lw_tbl := by decide +kernel
set_option maxRecDepth 20000 in
theorem in_wsL_law0_r26 : ∀ w ∈ wsL_law0_r26, w ∈ lw_tbl := by decide +kernel
set_option maxRecDepth 20000 in
theorem in_wsL_law0_r27 : ∀ w ∈ wsL_law0_r27, w ∈ lw_tbl := by decide +kernel
set_option maxRecDepth 20000 in
theorem in_wsL_law0_r28 : ∀ w ∈ wsL_law0_r28, w ∈ lw_tbl := by decide +kernel
set_option maxRecDepth 20000 in
theorem in_wsL_law0_r29 : ∀ w ∈ wsL_law0_r29, w ∈ lw_tbl := by decide +kernel
set_option maxRecDepth 20000 in
theorem in_wsL_law0_r30 : ∀ w ∈ wsL_law0_r30, w ∈ lw_tbl := by decide +kernel
set_option maxRecDepth 20000 in
theorem in_wsL_law0_r31 : ∀ w ∈ wsL_law0_r31, w ∈ lw_tbl := by decide +kernel
set_option maxRecDepth 20000 in
theorem in_wsL_law0_r32 : ∀ w ∈ wsL_law0_r32, w ∈ lw_tbl := by decide +kernel
set_option maxRecDepth 20000 in
theorem in_wsL_law0_r33 : ∀ w ∈ wsL_law0_r33, w ∈ lw_tbl := by decide +kernel
set_option maxRecDepth 20000 in
theorem in_wsL_law0_r34 : ∀ w ∈ wsL_law0_r34, w ∈ lw_tbl := by decide +kernel
set_option maxRecDepth 20000 in
theorem in_wsL_law0_r35 : ∀ w ∈ wsL_law0_r35, w ∈ lw_tbl := by decide +kernel
set_option maxRecDepth 20000 in
theorem in_wsL_law0_r36 : ∀ w ∈ wsL_law0_r36, w ∈ lw_tbl := by decide +kernel
set_option maxRecDepth 20000 in
theorem in_wsL_law0_r37 : ∀ w ∈ wsL_law0_r37, w ∈ lw_tbl := by decide +kernel
set_option maxRecDepth 20000 in
theorem in_wsL_law0_r38 : ∀ w ∈ wsL_law0_r38, w ∈ lw_tbl := by decide +kernel
set_option maxRecDepth 20000 in
theorem in_wsL_law0_r39 : ∀ w ∈ wsL_law0_r39, w ∈ lw_tbl := by decide +kernel
set_option maxRecDepth 20000 in
theorem in_wsL_law0_r40 : ∀ w ∈ wsL_law0_r40, w ∈ lw_tbl := by decide +kernel
set_option maxRecDepth 20000 in
theorem in_wsL_law0_r41 : ∀ w ∈ wsL_law0_r41, w ∈ lw_tbl := by decide +kernel
set_option maxRecDepth 20000 in
theorem in_wsL_law0_r42 : ∀ w ∈ wsL_law0_r42, w ∈ lw_tbl := by decide +kernel
set_option maxRecDepth 20000 in
theorem in_wsL_law0_r43 : ∀ w ∈ wsL_law0_r43, w ∈ lw_tbl := by decide +kernel
set_option maxRecDepth 20000 in
theorem in_wsL_law0_r44 : ∀ w ∈ wsL_law0_r44, w ∈ lw_tbl := by decide +kernel
set_option maxRecDepth 20000 in
theorem in_wsL_law0_r45 : ∀ w ∈ wsL_law0_r45, w ∈ lw_tbl := by decide +kernel
theorem wsL_law_in0 : ∀ w ∈ wsL_law0, w ∈ lw_tbl := fun w h0 => (List.mem_append.mp h0).elim (fun h => in_wsL_law0_r1 w h) (fun h1 => (List.mem_append.mp h1).elim (fun h => in_wsL_law0_r2 w h) (fun h2 => (List.mem_append.mp h2).elim (fun h => in_wsL_law0_r3 w h) (fun h3 => (List.mem_append.mp h3).elim (fun h => in_wsL_law0_r4 w h) (fun h4 => (List.mem_append.mp h4).elim (fun h => in_wsL_law0_r5 w h) (fun h5 => (List.mem_append.mp h5).elim (fun h => in_wsL_law0_r6 w h) (fun h6 => (List.mem_append.mp h6).elim (fun h => in_wsL_law0_r7 w h) (fun h7 => (List.mem_append.mp h7).elim (fun h => in_wsL_law0_r8 w h) (fun h8 => (List.mem_append.mp h8).elim (fun h => in_wsL_law0_r9 w h) (fun h9 => (List.mem_append.mp h9).elim (fun h => in_wsL_law0_r10 w h) (fun h10 => (List.mem_append.mp h10).elim (fun h => in_wsL_law0_r11 w h) (fun h11 => (List.mem_append.mp h11).elim (fun h => in_wsL_law0_r12 w h) (fun h12 => (List.mem_append.mp h12).elim (fun h => in_wsL_law0_r13 w h) (fun h13 => (List.mem_append.mp h13).elim (fun h => in_wsL_law0_r14 w h) (fun h14 => (List.mem_append.mp h14).elim (fun h => in_wsL_law0_r15 w h) (fun h15 => (List.mem_append.mp h15).elim (fun h => in_wsL_law0_r16 w h) (fun h16 => (List.mem_append.mp h16).elim (fun h => in_wsL_law0_r17 w h) (fun h17 => (List.mem_append.mp h17).elim (fun h => in_wsL_law0_r18 w h) (fun h18 => (List.mem_append.mp h18).elim (fun h => in_wsL_law0_r19 w h) (fun h19 => (List.mem_append.mp h19).elim (fun h => in_wsL_law0_r20 w h) (fun h20 => (List.mem_append.mp h20).elim (fun h => in_wsL_law0_r21 w h) (fun h21 => (List.mem_append.mp h21).elim (fun h => in_wsL_law0_r22 w h) (fun h22 => (List.mem_append.mp h22).elim (fun h => in_wsL_law0_r23 w h) (fun h23 => (List.mem_append.mp h23).elim (fun h => in_wsL_law0_r24 w h) (fun h24 => (List.mem_append.mp h24).elim (fun h => in_wsL_law0_r25 w h) (fun h25 => (List.mem_append.mp h25).elim (fun h => in_wsL_law0_r26 w h) (fun h26 => (List.mem_append.mp h26).elim (fun h => in_wsL_law0_r27 w h) (fun h27 => (List.mem_append.mp h27).elim (fun h => in_wsL_law0_r28 w h) (fun h28 => (List.mem_append.mp h28).elim (fun h => in_wsL_law0_r29 w h) (fun h29 => (List.mem_append.mp h29).elim (fun h => in_wsL_law0_r30 w h) (fun h30 => (List.mem_append.mp h30).elim (fun h => in_wsL_law0_r31 w h) (fun h31 => (List.mem_append.mp h31).elim (fun h => in_wsL_law0_r32 w h) (fun h32 => (List.mem_append.mp h32).elim (fun h => in_wsL_law0_r33 w h) (fun h33 => (List.mem_append.mp h33).elim (fun h => in_wsL_law0_r34 w h) (fun h34 => (List.mem_append.mp h34).elim (fun h => in_wsL_law0_r35 w h) (fun h35 => (List.mem_append.mp h35).elim (fun h => in_wsL_law0_r36 w h) (fun h36 => (List.mem_append.mp h36).elim (fun h => in_wsL_law0_r37 w h) (fun h37 => (List.mem_append.mp h37).elim (fun h => in_wsL_law0_r38 w h) (fun h38 => (List.mem_append.mp h38).elim (fun h => in_wsL_law0_r39 w h) (fun h39 => (List.mem_append.mp h39).elim (fun h => in_wsL_law0_r40 w h) (fun h40 => (List.mem_append.mp h40).elim (fun h => in_wsL_law0_r41 w h) (fun h41 => (List.mem_append.mp h41).elim (fun h => in_wsL_law0_r42 w h) (fun h42 => (List.mem_append.mp h42).elim (fun h => in_wsL_law0_r43 w h) (fun h43 => (List.mem_append.mp h43).elim (fun h => in_wsL_law0_r44 w h) (fun h44 => in_wsL_law0_r45 w h44))))))))))))))))))))))))))))))))))))))))))))
