/-! ===== Tape ===== -/
theorem wm_RX9_3 : Cond.methodLink RX9 3 Lib.objectInit ∈ bigW := big_mem 134 (by decide +kernel) (by decide +kernel)
theorem wob1 : Cond.instanceMethod Lib.objectInit ∈ bigW := big_mem 127 (by decide +kernel) (by decide +kernel)
theorem wob2 : Cond.code Lib.objectInit ⟨#[0xb1]⟩ 1 none ∈ bigW := big_mem 128 (by decide +kernel) (by decide +kernel)
theorem wa_int : Cond.arrayClass .int ∈ bigW := big_mem 152 (by decide +kernel) (by decide +kernel)
theorem wf_RX9_9 : Cond.fieldLink RX9 9 (clT 9 0).1 (clT 9 0).2.1 (clT 9 0).2.2.1 ∈ bigW := big_mem 135 (by decide +kernel) (by decide +kernel)
set_option maxRecDepth 20000 in
theorem wC9 : ∀ w ∈ u_ws (clR 9) (clT 9) (nF 9), w ∈ bigW := big_at [143, 145, 147, 149] (by decide +kernel) (by decide +kernel)
theorem wf_RX9_15 : Cond.fieldLink RX9 15 (clT 9 1).1 (clT 9 1).2.1 (clT 9 1).2.2.1 ∈ bigW := big_mem 137 (by decide +kernel) (by decide +kernel)
theorem wf_RX9_19 : Cond.fieldLink RX9 19 (clT 9 2).1 (clT 9 2).2.1 (clT 9 2).2.2.1 ∈ bigW := big_mem 138 (by decide +kernel) (by decide +kernel)
theorem wf_RX9_22 : Cond.fieldLink RX9 22 (clT 9 3).1 (clT 9 3).2.1 (clT 9 3).2.2.1 ∈ bigW := big_mem 141 (by decide +kernel) (by decide +kernel)
theorem wm_RX9_25 : Cond.methodLink RX9 25 yX9_peek ∈ bigW := big_mem 549 (by decide +kernel) (by decide +kernel)
theorem wc_X9_peek : Cond.code yX9_peek cX9_peek 1 (some .int) ∈ bigW := big_mem 534 (by decide +kernel) (by decide +kernel)
theorem win_X9_peek : Cond.instanceMethod yX9_peek ∈ bigW := big_mem 532 (by decide +kernel) (by decide +kernel)
theorem wse_X9_peek : Cond.selects (clR 9) yX9_peek yX9_peek ∈ bigW := big_mem 533 (by decide +kernel) (by decide +kernel)
theorem wn_9 : Cond.initialized (clR 9) ∈ bigW := big_mem 98 (by decide +kernel) (by decide +kernel)
theorem wm_RX9_29 : Cond.methodLink RX9 29 yX9_refuse ∈ bigW := big_mem 553 (by decide +kernel) (by decide +kernel)
theorem wc_X9_refuse : Cond.code yX9_refuse cX9_refuse 1 none ∈ bigW := big_mem 556 (by decide +kernel) (by decide +kernel)
theorem win_X9_refuse : Cond.instanceMethod yX9_refuse ∈ bigW := big_mem 554 (by decide +kernel) (by decide +kernel)
theorem wse_X9_refuse : Cond.selects (clR 9) yX9_refuse yX9_refuse ∈ bigW := big_mem 555 (by decide +kernel) (by decide +kernel)
theorem wm_RX9_32 : Cond.methodLink RX9 32 yX9_isDigit ∈ bigW := big_mem 550 (by decide +kernel) (by decide +kernel)
theorem wc_X9_isDigit : Cond.code yX9_isDigit cX9_isDigit 1 (some .boolean) ∈ bigW := big_mem 552 (by decide +kernel) (by decide +kernel)
theorem wst_X9_isDigit : Cond.static yX9_isDigit ∈ bigW := big_mem 551 (by decide +kernel) (by decide +kernel)
theorem wny_X9_isDigit : Cond.initialized yX9_isDigit.cls ∈ bigW := big_mem 98 (by decide +kernel) (by decide +kernel)
theorem wm_RX9_36 : Cond.methodLink RX9 36 yX9_here ∈ bigW := big_mem 557 (by decide +kernel) (by decide +kernel)
theorem wc_X9_here : Cond.code yX9_here cX9_here 1 (some .int) ∈ bigW := big_mem 560 (by decide +kernel) (by decide +kernel)
theorem win_X9_here : Cond.instanceMethod yX9_here ∈ bigW := big_mem 559 (by decide +kernel) (by decide +kernel)
theorem wse_X9_here : Cond.selects (clR 9) yX9_here yX9_here ∈ bigW := big_mem 1 (by decide +kernel) (by decide +kernel)
theorem dX9_init_0 : decode cX9_init 0 = .ok (.aload_n 0, 1) := by decide +kernel
theorem dX9_init_1 : decode cX9_init 1 = .ok (.invokespecial 3, 3) := by decide +kernel
theorem dX9_init_4 : decode cX9_init 4 = .ok (.aload_n 0, 1) := by decide +kernel
theorem dX9_init_5 : decode cX9_init 5 = .ok (.sipush 240, 3) := by decide +kernel
theorem dX9_init_8 : decode cX9_init 8 = .ok (.newarray .int, 2) := by decide +kernel
theorem dX9_init_10 : decode cX9_init 10 = .ok (.putfield 9, 3) := by decide +kernel
theorem dX9_init_13 : decode cX9_init 13 = .ok (.return_, 1) := by decide +kernel
noncomputable def kX9_init : Nat → Op := (nodeC 4 (nodeC 0 (leafC 0 (o_al 0 1)) (nodeC 1 (leafC 1 (o_oini 4)) (leafC 4 (o_al 0 5)))) (nodeC 8 (nodeC 5 (leafC 5 (o_ic (240) 8)) (leafC 8 (o_newa 20 10))) (nodeC 10 (leafC 10 (o_pR 9 0 13)) (leafC 13 (o_vret)))))
theorem sX9_init : ∀ pc, SoundOp cX9_init RX9 1 none true 1 20 pc (kX9_init pc) := (so_node (so_node (so_leaf (so_aload_n dX9_init_0 rfl)) (so_node (so_leaf (so_oini wm_RX9_3 wob1 wob2 (by decide) (by decide) dX9_init_1)) (so_leaf (so_aload_n dX9_init_4 rfl)))) (so_node (so_node (so_leaf (so_sipush dX9_init_5 (by decide))) (so_leaf (so_newa (at' := .int) (t0 := 0) (Or.inl rfl) (fun _ => rfl) (fun _ _ z => z) rfl (by decide) wa_int dX9_init_8))) (so_node (so_leaf (so_pR (by decide) (by decide) wC9 wf_RX9_9 (Or.inr ⟨rfl, rfl, rfl⟩) (Or.inr ⟨_, rfl⟩) dX9_init_10)) (so_leaf (so_vret dX9_init_13 rfl)))))
theorem pX9_init : ∀ pc, Pr (kX9_init pc) := (pr_node (pr_node (pr_leaf (pr_al _ _)) (pr_node (pr_leaf (pr_oini _)) (pr_leaf (pr_al _ _)))) (pr_node (pr_node (pr_leaf (pr_ic _ _)) (pr_leaf (pr_newa _ _))) (pr_node (pr_leaf (pr_pR _ _ _)) (pr_leaf (pr_vret)))))
noncomputable def FX9_init : List EV → Hp → Option (RV × Hp) := Fm kX9_init 1
theorem CX9_init : Con yX9_init cX9_init 1 none 1 20 FX9_init := con_of (own := RX9) rfl (by decide +kernel) sX9_init pX9_init (fun _ => rfl)
theorem GX9_init : Gr FX9_init := Gr_Fm pX9_init 1
theorem dX9_bytesIn_0 : decode cX9_bytesIn 0 = .ok (.iconst 0, 1) := by decide +kernel
theorem dX9_bytesIn_1 : decode cX9_bytesIn 1 = .ok (.istore_n 1, 1) := by decide +kernel
theorem dX9_bytesIn_2 : decode cX9_bytesIn 2 = .ok (.bipush 24, 2) := by decide +kernel
theorem dX9_bytesIn_4 : decode cX9_bytesIn 4 = .ok (.istore_n 2, 1) := by decide +kernel
theorem dX9_bytesIn_5 : decode cX9_bytesIn 5 = .ok (.iload_n 2, 1) := by decide +kernel
theorem dX9_bytesIn_6 : decode cX9_bytesIn 6 = .ok (.ifCond .lt 22, 3) := by decide +kernel
theorem dX9_bytesIn_9 : decode cX9_bytesIn 9 = .ok (.iload_n 0, 1) := by decide +kernel
theorem dX9_bytesIn_10 : decode cX9_bytesIn 10 = .ok (.iload_n 2, 1) := by decide +kernel
theorem dX9_bytesIn_11 : decode cX9_bytesIn 11 = .ok (.iushr, 1) := by decide +kernel
theorem dX9_bytesIn_12 : decode cX9_bytesIn 12 = .ok (.sipush 255, 3) := by decide +kernel
theorem dX9_bytesIn_15 : decode cX9_bytesIn 15 = .ok (.iand, 1) := by decide +kernel
theorem dX9_bytesIn_16 : decode cX9_bytesIn 16 = .ok (.ifCond .eq 6, 3) := by decide +kernel
theorem dX9_bytesIn_19 : decode cX9_bytesIn 19 = .ok (.iinc 1 1, 3) := by decide +kernel
theorem dX9_bytesIn_22 : decode cX9_bytesIn 22 = .ok (.iinc 2 (-8), 3) := by decide +kernel
theorem dX9_bytesIn_25 : decode cX9_bytesIn 25 = .ok (.goto (-20), 3) := by decide +kernel
theorem dX9_bytesIn_28 : decode cX9_bytesIn 28 = .ok (.iload_n 1, 1) := by decide +kernel
theorem dX9_bytesIn_29 : decode cX9_bytesIn 29 = .ok (.ireturn, 1) := by decide +kernel
noncomputable def kX9_bytesIn : Nat → Op := (nodeC 10 (nodeC 4 (nodeC 1 (nodeC 0 (leafC 0 (o_ic (0) 1)) (leafC 1 (o_is 1 2))) (nodeC 2 (leafC 2 (o_ic (24) 4)) (leafC 4 (o_is 2 5)))) (nodeC 6 (nodeC 5 (leafC 5 (o_il 2 6)) (leafC 6 (o_zlt 28 9))) (nodeC 9 (leafC 9 (o_il 0 10)) (leafC 10 (o_il 2 11))))) (nodeC 16 (nodeC 12 (nodeC 11 (leafC 11 (o_iushr 12)) (leafC 12 (o_ic (255) 15))) (nodeC 15 (leafC 15 (o_iand 16)) (leafC 16 (o_zeq 22 19)))) (nodeC 22 (nodeC 19 (leafC 19 (o_inc 1 (1) 22)) (leafC 22 (o_inc 2 (-8) 25))) (nodeC 25 (leafC 25 (o_goto 5)) (nodeC 28 (leafC 28 (o_il 1 29)) (leafC 29 (o_iret)))))))
theorem sX9_bytesIn : ∀ pc, SoundOp cX9_bytesIn RX9 3 (some .int) false 0 0 pc (kX9_bytesIn pc) := (so_node (so_node (so_node (so_node (so_leaf (so_iconst dX9_bytesIn_0 (by decide))) (so_leaf (so_istore_n dX9_bytesIn_1 rfl (by decide)))) (so_node (so_leaf (so_bipush dX9_bytesIn_2 (by decide))) (so_leaf (so_istore_n dX9_bytesIn_4 rfl (by decide))))) (so_node (so_node (so_leaf (so_iload_n dX9_bytesIn_5 rfl)) (so_leaf (so_zlt dX9_bytesIn_6 (by decide)))) (so_node (so_leaf (so_iload_n dX9_bytesIn_9 rfl)) (so_leaf (so_iload_n dX9_bytesIn_10 rfl))))) (so_node (so_node (so_node (so_leaf (so_iushr dX9_bytesIn_11)) (so_leaf (so_sipush dX9_bytesIn_12 (by decide)))) (so_node (so_leaf (so_iand dX9_bytesIn_15)) (so_leaf (so_zeq dX9_bytesIn_16 (by decide))))) (so_node (so_node (so_leaf (so_iinc dX9_bytesIn_19 (by decide) (by decide))) (so_leaf (so_iinc dX9_bytesIn_22 (by decide) (by decide)))) (so_node (so_leaf (so_goto dX9_bytesIn_25 (by decide))) (so_node (so_leaf (so_iload_n dX9_bytesIn_28 rfl)) (so_leaf (so_iret dX9_bytesIn_29 rfl)))))))
theorem pX9_bytesIn : ∀ pc, Pr (kX9_bytesIn pc) := (pr_node (pr_node (pr_node (pr_node (pr_leaf (pr_ic _ _)) (pr_leaf (pr_is _ _))) (pr_node (pr_leaf (pr_ic _ _)) (pr_leaf (pr_is _ _)))) (pr_node (pr_node (pr_leaf (pr_il _ _)) (pr_leaf (pr_zlt _ _))) (pr_node (pr_leaf (pr_il _ _)) (pr_leaf (pr_il _ _))))) (pr_node (pr_node (pr_node (pr_leaf (pr_iushr _)) (pr_leaf (pr_ic _ _))) (pr_node (pr_leaf (pr_iand _)) (pr_leaf (pr_zeq _ _)))) (pr_node (pr_node (pr_leaf (pr_inc _ _ _)) (pr_leaf (pr_inc _ _ _))) (pr_node (pr_leaf (pr_goto _)) (pr_node (pr_leaf (pr_il _ _)) (pr_leaf (pr_iret)))))))
noncomputable def FX9_bytesIn : List EV → Hp → Option (RV × Hp) := Fm kX9_bytesIn 3
theorem CX9_bytesIn : Con yX9_bytesIn cX9_bytesIn 3 (some .int) 0 0 FX9_bytesIn := con_of (own := RX9) rfl (by decide +kernel) sX9_bytesIn pX9_bytesIn (fun z => by cases z)
theorem GX9_bytesIn : Gr FX9_bytesIn := Gr_Fm pX9_bytesIn 3
theorem dX9_append_0 : decode cX9_append 0 = .ok (.bipush 24, 2) := by decide +kernel
theorem dX9_append_2 : decode cX9_append 2 = .ok (.istore_n 2, 1) := by decide +kernel
theorem dX9_append_3 : decode cX9_append 3 = .ok (.iload_n 2, 1) := by decide +kernel
theorem dX9_append_4 : decode cX9_append 4 = .ok (.ifCond .lt 53, 3) := by decide +kernel
theorem dX9_append_7 : decode cX9_append 7 = .ok (.iload_n 1, 1) := by decide +kernel
theorem dX9_append_8 : decode cX9_append 8 = .ok (.iload_n 2, 1) := by decide +kernel
theorem dX9_append_9 : decode cX9_append 9 = .ok (.iushr, 1) := by decide +kernel
theorem dX9_append_10 : decode cX9_append 10 = .ok (.sipush 255, 3) := by decide +kernel
theorem dX9_append_13 : decode cX9_append 13 = .ok (.iand, 1) := by decide +kernel
theorem dX9_append_14 : decode cX9_append 14 = .ok (.istore_n 3, 1) := by decide +kernel
theorem dX9_append_15 : decode cX9_append 15 = .ok (.iload_n 3, 1) := by decide +kernel
theorem dX9_append_16 : decode cX9_append 16 = .ok (.ifCond .eq 35, 3) := by decide +kernel
theorem dX9_append_19 : decode cX9_append 19 = .ok (.aload_n 0, 1) := by decide +kernel
theorem dX9_append_20 : decode cX9_append 20 = .ok (.getfield 15, 3) := by decide +kernel
theorem dX9_append_23 : decode cX9_append 23 = .ok (.aload_n 0, 1) := by decide +kernel
theorem dX9_append_24 : decode cX9_append 24 = .ok (.getfield 9, 3) := by decide +kernel
theorem dX9_append_27 : decode cX9_append 27 = .ok (.arraylength, 1) := by decide +kernel
theorem dX9_append_28 : decode cX9_append 28 = .ok (.if_icmp .ge 23, 3) := by decide +kernel
theorem dX9_append_31 : decode cX9_append 31 = .ok (.aload_n 0, 1) := by decide +kernel
theorem dX9_append_32 : decode cX9_append 32 = .ok (.getfield 9, 3) := by decide +kernel
theorem dX9_append_35 : decode cX9_append 35 = .ok (.aload_n 0, 1) := by decide +kernel
theorem dX9_append_36 : decode cX9_append 36 = .ok (.getfield 15, 3) := by decide +kernel
theorem dX9_append_39 : decode cX9_append 39 = .ok (.iload_n 3, 1) := by decide +kernel
theorem dX9_append_40 : decode cX9_append 40 = .ok (.iastore, 1) := by decide +kernel
theorem dX9_append_41 : decode cX9_append 41 = .ok (.aload_n 0, 1) := by decide +kernel
theorem dX9_append_42 : decode cX9_append 42 = .ok (.dup, 1) := by decide +kernel
theorem dX9_append_43 : decode cX9_append 43 = .ok (.getfield 15, 3) := by decide +kernel
theorem dX9_append_46 : decode cX9_append 46 = .ok (.iconst 1, 1) := by decide +kernel
theorem dX9_append_47 : decode cX9_append 47 = .ok (.iadd, 1) := by decide +kernel
theorem dX9_append_48 : decode cX9_append 48 = .ok (.putfield 15, 3) := by decide +kernel
theorem dX9_append_51 : decode cX9_append 51 = .ok (.iinc 2 (-8), 3) := by decide +kernel
theorem dX9_append_54 : decode cX9_append 54 = .ok (.goto (-51), 3) := by decide +kernel
theorem dX9_append_57 : decode cX9_append 57 = .ok (.return_, 1) := by decide +kernel
noncomputable def kX9_append : Nat → Op := (nodeC 24 (nodeC 10 (nodeC 4 (nodeC 2 (nodeC 0 (leafC 0 (o_ic (24) 2)) (leafC 2 (o_is 2 3))) (nodeC 3 (leafC 3 (o_mask [3] (o_il 2 4))) (leafC 4 (o_zlt 57 7)))) (nodeC 8 (nodeC 7 (leafC 7 (o_il 1 8)) (leafC 8 (o_il 2 9))) (nodeC 9 (leafC 9 (o_iushr 10)) (leafC 10 (o_ic (255) 13))))) (nodeC 16 (nodeC 14 (nodeC 13 (leafC 13 (o_iand 14)) (leafC 14 (o_is 3 15))) (nodeC 15 (leafC 15 (o_il 3 16)) (leafC 16 (o_zeq 51 19)))) (nodeC 20 (nodeC 19 (leafC 19 (o_al 0 20)) (leafC 20 (o_gI 9 1 23))) (nodeC 23 (leafC 23 (o_al 0 24)) (leafC 24 (o_gR 9 0 27)))))) (nodeC 40 (nodeC 32 (nodeC 28 (nodeC 27 (leafC 27 (o_alen 28)) (leafC 28 (o_cge 51 31))) (nodeC 31 (leafC 31 (o_al 0 32)) (leafC 32 (o_gR 9 0 35)))) (nodeC 36 (nodeC 35 (leafC 35 (o_al 0 36)) (leafC 36 (o_gI 9 1 39))) (nodeC 39 (leafC 39 (o_il 3 40)) (leafC 40 (o_iast 41))))) (nodeC 46 (nodeC 42 (nodeC 41 (leafC 41 (o_al 0 42)) (leafC 42 (o_dupR 43))) (nodeC 43 (leafC 43 (o_gI 9 1 46)) (leafC 46 (o_ic (1) 47)))) (nodeC 48 (nodeC 47 (leafC 47 (o_iadd 48)) (leafC 48 (o_pI 9 1 51))) (nodeC 51 (leafC 51 (o_inc 2 (-8) 54)) (nodeC 54 (leafC 54 (o_goto 3)) (leafC 57 (o_vret))))))))
theorem sX9_append : ∀ pc, SoundOp cX9_append RX9 4 none false 0 0 pc (kX9_append pc) := (so_node (so_node (so_node (so_node (so_node (so_leaf (so_bipush dX9_append_0 (by decide))) (so_leaf (so_istore_n dX9_append_2 rfl (by decide)))) (so_node (so_leaf (so_mask (so_iload_n dX9_append_3 rfl))) (so_leaf (so_zlt dX9_append_4 (by decide))))) (so_node (so_node (so_leaf (so_iload_n dX9_append_7 rfl)) (so_leaf (so_iload_n dX9_append_8 rfl))) (so_node (so_leaf (so_iushr dX9_append_9)) (so_leaf (so_sipush dX9_append_10 (by decide)))))) (so_node (so_node (so_node (so_leaf (so_iand dX9_append_13)) (so_leaf (so_istore_n dX9_append_14 rfl (by decide)))) (so_node (so_leaf (so_iload_n dX9_append_15 rfl)) (so_leaf (so_zeq dX9_append_16 (by decide))))) (so_node (so_node (so_leaf (so_aload_n dX9_append_19 rfl)) (so_leaf (so_gI (by decide) (by decide) wC9 wf_RX9_15 (fun _ _ _ => rfl) dX9_append_20))) (so_node (so_leaf (so_aload_n dX9_append_23 rfl)) (so_leaf (so_gR (by decide) (by decide) wC9 wf_RX9_9 (fun _ _ _ => rfl) dX9_append_24)))))) (so_node (so_node (so_node (so_node (so_leaf (so_alen dX9_append_27)) (so_leaf (so_cge dX9_append_28 (by decide)))) (so_node (so_leaf (so_aload_n dX9_append_31 rfl)) (so_leaf (so_gR (by decide) (by decide) wC9 wf_RX9_9 (fun _ _ _ => rfl) dX9_append_32)))) (so_node (so_node (so_leaf (so_aload_n dX9_append_35 rfl)) (so_leaf (so_gI (by decide) (by decide) wC9 wf_RX9_15 (fun _ _ _ => rfl) dX9_append_36))) (so_node (so_leaf (so_iload_n dX9_append_39 rfl)) (so_leaf (so_iast dX9_append_40))))) (so_node (so_node (so_node (so_leaf (so_aload_n dX9_append_41 rfl)) (so_leaf (so_dupR dX9_append_42))) (so_node (so_leaf (so_gI (by decide) (by decide) wC9 wf_RX9_15 (fun _ _ _ => rfl) dX9_append_43)) (so_leaf (so_iconst dX9_append_46 (by decide))))) (so_node (so_node (so_leaf (so_iadd dX9_append_47)) (so_leaf (so_pI (by decide) (by decide) wC9 wf_RX9_15 (Or.inl rfl) rfl dX9_append_48))) (so_node (so_leaf (so_iinc dX9_append_51 (by decide) (by decide))) (so_node (so_leaf (so_goto dX9_append_54 (by decide))) (so_leaf (so_vret dX9_append_57 rfl))))))))
theorem pX9_append : ∀ pc, Pr (kX9_append pc) := (pr_node (pr_node (pr_node (pr_node (pr_node (pr_leaf (pr_ic _ _)) (pr_leaf (pr_is _ _))) (pr_node (pr_leaf (pr_mask (pr_il _ _))) (pr_leaf (pr_zlt _ _)))) (pr_node (pr_node (pr_leaf (pr_il _ _)) (pr_leaf (pr_il _ _))) (pr_node (pr_leaf (pr_iushr _)) (pr_leaf (pr_ic _ _))))) (pr_node (pr_node (pr_node (pr_leaf (pr_iand _)) (pr_leaf (pr_is _ _))) (pr_node (pr_leaf (pr_il _ _)) (pr_leaf (pr_zeq _ _)))) (pr_node (pr_node (pr_leaf (pr_al _ _)) (pr_leaf (pr_gI _ _ _))) (pr_node (pr_leaf (pr_al _ _)) (pr_leaf (pr_gR _ _ _)))))) (pr_node (pr_node (pr_node (pr_node (pr_leaf (pr_alen _)) (pr_leaf (pr_cge _ _))) (pr_node (pr_leaf (pr_al _ _)) (pr_leaf (pr_gR _ _ _)))) (pr_node (pr_node (pr_leaf (pr_al _ _)) (pr_leaf (pr_gI _ _ _))) (pr_node (pr_leaf (pr_il _ _)) (pr_leaf (pr_iast _))))) (pr_node (pr_node (pr_node (pr_leaf (pr_al _ _)) (pr_leaf (pr_dupR _))) (pr_node (pr_leaf (pr_gI _ _ _)) (pr_leaf (pr_ic _ _)))) (pr_node (pr_node (pr_leaf (pr_iadd _)) (pr_leaf (pr_pI _ _ _))) (pr_node (pr_leaf (pr_inc _ _ _)) (pr_node (pr_leaf (pr_goto _)) (pr_leaf (pr_vret))))))))
noncomputable def FX9_append : List EV → Hp → Option (RV × Hp) := Fm kX9_append 4
theorem CX9_append : Con yX9_append cX9_append 4 none 0 0 FX9_append := con_of (own := RX9) rfl (by decide +kernel) sX9_append pX9_append (fun z => by cases z)
theorem GX9_append : Gr FX9_append := Gr_Fm pX9_append 4
theorem dX9_rewind_0 : decode cX9_rewind 0 = .ok (.aload_n 0, 1) := by decide +kernel
theorem dX9_rewind_1 : decode cX9_rewind 1 = .ok (.iconst 0, 1) := by decide +kernel
theorem dX9_rewind_2 : decode cX9_rewind 2 = .ok (.putfield 19, 3) := by decide +kernel
theorem dX9_rewind_5 : decode cX9_rewind 5 = .ok (.aload_n 0, 1) := by decide +kernel
theorem dX9_rewind_6 : decode cX9_rewind 6 = .ok (.iconst (-1), 1) := by decide +kernel
theorem dX9_rewind_7 : decode cX9_rewind 7 = .ok (.putfield 22, 3) := by decide +kernel
theorem dX9_rewind_10 : decode cX9_rewind 10 = .ok (.return_, 1) := by decide +kernel
noncomputable def kX9_rewind : Nat → Op := (nodeC 2 (nodeC 0 (leafC 0 (o_al 0 1)) (nodeC 1 (leafC 1 (o_ic (0) 2)) (leafC 2 (o_pI 9 2 5)))) (nodeC 6 (nodeC 5 (leafC 5 (o_al 0 6)) (leafC 6 (o_ic (-1) 7))) (nodeC 7 (leafC 7 (o_pI 9 3 10)) (leafC 10 (o_vret)))))
theorem sX9_rewind : ∀ pc, SoundOp cX9_rewind RX9 1 none false 0 0 pc (kX9_rewind pc) := (so_node (so_node (so_leaf (so_aload_n dX9_rewind_0 rfl)) (so_node (so_leaf (so_iconst dX9_rewind_1 (by decide))) (so_leaf (so_pI (by decide) (by decide) wC9 wf_RX9_19 (Or.inl rfl) rfl dX9_rewind_2)))) (so_node (so_node (so_leaf (so_aload_n dX9_rewind_5 rfl)) (so_leaf (so_iconst dX9_rewind_6 (by decide)))) (so_node (so_leaf (so_pI (by decide) (by decide) wC9 wf_RX9_22 (Or.inl rfl) rfl dX9_rewind_7)) (so_leaf (so_vret dX9_rewind_10 rfl)))))
theorem pX9_rewind : ∀ pc, Pr (kX9_rewind pc) := (pr_node (pr_node (pr_leaf (pr_al _ _)) (pr_node (pr_leaf (pr_ic _ _)) (pr_leaf (pr_pI _ _ _)))) (pr_node (pr_node (pr_leaf (pr_al _ _)) (pr_leaf (pr_ic _ _))) (pr_node (pr_leaf (pr_pI _ _ _)) (pr_leaf (pr_vret)))))
noncomputable def FX9_rewind : List EV → Hp → Option (RV × Hp) := Fm kX9_rewind 1
theorem CX9_rewind : Con yX9_rewind cX9_rewind 1 none 0 0 FX9_rewind := con_of (own := RX9) rfl (by decide +kernel) sX9_rewind pX9_rewind (fun z => by cases z)
theorem GX9_rewind : Gr FX9_rewind := Gr_Fm pX9_rewind 1
theorem dX9_refuse_0 : decode cX9_refuse 0 = .ok (.aload_n 0, 1) := by decide +kernel
theorem dX9_refuse_1 : decode cX9_refuse 1 = .ok (.getfield 22, 3) := by decide +kernel
theorem dX9_refuse_4 : decode cX9_refuse 4 = .ok (.iconst (-1), 1) := by decide +kernel
theorem dX9_refuse_5 : decode cX9_refuse 5 = .ok (.if_icmp .ne 11, 3) := by decide +kernel
theorem dX9_refuse_8 : decode cX9_refuse 8 = .ok (.aload_n 0, 1) := by decide +kernel
theorem dX9_refuse_9 : decode cX9_refuse 9 = .ok (.aload_n 0, 1) := by decide +kernel
theorem dX9_refuse_10 : decode cX9_refuse 10 = .ok (.getfield 19, 3) := by decide +kernel
theorem dX9_refuse_13 : decode cX9_refuse 13 = .ok (.putfield 22, 3) := by decide +kernel
theorem dX9_refuse_16 : decode cX9_refuse 16 = .ok (.return_, 1) := by decide +kernel
noncomputable def kX9_refuse : Nat → Op := (nodeC 5 (nodeC 1 (nodeC 0 (leafC 0 (o_al 0 1)) (leafC 1 (o_gI 9 3 4))) (nodeC 4 (leafC 4 (o_ic (-1) 5)) (leafC 5 (o_cne 16 8)))) (nodeC 9 (nodeC 8 (leafC 8 (o_al 0 9)) (leafC 9 (o_al 0 10))) (nodeC 10 (leafC 10 (o_gI 9 2 13)) (nodeC 13 (leafC 13 (o_pI 9 3 16)) (leafC 16 (o_vret))))))
theorem sX9_refuse : ∀ pc, SoundOp cX9_refuse RX9 1 none false 0 0 pc (kX9_refuse pc) := (so_node (so_node (so_node (so_leaf (so_aload_n dX9_refuse_0 rfl)) (so_leaf (so_gI (by decide) (by decide) wC9 wf_RX9_22 (fun _ _ _ => rfl) dX9_refuse_1))) (so_node (so_leaf (so_iconst dX9_refuse_4 (by decide))) (so_leaf (so_cne dX9_refuse_5 (by decide))))) (so_node (so_node (so_leaf (so_aload_n dX9_refuse_8 rfl)) (so_leaf (so_aload_n dX9_refuse_9 rfl))) (so_node (so_leaf (so_gI (by decide) (by decide) wC9 wf_RX9_19 (fun _ _ _ => rfl) dX9_refuse_10)) (so_node (so_leaf (so_pI (by decide) (by decide) wC9 wf_RX9_22 (Or.inl rfl) rfl dX9_refuse_13)) (so_leaf (so_vret dX9_refuse_16 rfl))))))
theorem pX9_refuse : ∀ pc, Pr (kX9_refuse pc) := (pr_node (pr_node (pr_node (pr_leaf (pr_al _ _)) (pr_leaf (pr_gI _ _ _))) (pr_node (pr_leaf (pr_ic _ _)) (pr_leaf (pr_cne _ _)))) (pr_node (pr_node (pr_leaf (pr_al _ _)) (pr_leaf (pr_al _ _))) (pr_node (pr_leaf (pr_gI _ _ _)) (pr_node (pr_leaf (pr_pI _ _ _)) (pr_leaf (pr_vret))))))
noncomputable def FX9_refuse : List EV → Hp → Option (RV × Hp) := Fm kX9_refuse 1
theorem CX9_refuse : Con yX9_refuse cX9_refuse 1 none 0 0 FX9_refuse := con_of (own := RX9) rfl (by decide +kernel) sX9_refuse pX9_refuse (fun z => by cases z)
theorem GX9_refuse : Gr FX9_refuse := Gr_Fm pX9_refuse 1
theorem dX9_here_0 : decode cX9_here 0 = .ok (.aload_n 0, 1) := by decide +kernel
theorem dX9_here_1 : decode cX9_here 1 = .ok (.getfield 19, 3) := by decide +kernel
theorem dX9_here_4 : decode cX9_here 4 = .ok (.aload_n 0, 1) := by decide +kernel
theorem dX9_here_5 : decode cX9_here 5 = .ok (.getfield 15, 3) := by decide +kernel
theorem dX9_here_8 : decode cX9_here 8 = .ok (.if_icmp .ge 27, 3) := by decide +kernel
theorem dX9_here_11 : decode cX9_here 11 = .ok (.aload_n 0, 1) := by decide +kernel
theorem dX9_here_12 : decode cX9_here 12 = .ok (.getfield 19, 3) := by decide +kernel
theorem dX9_here_15 : decode cX9_here 15 = .ok (.aload_n 0, 1) := by decide +kernel
theorem dX9_here_16 : decode cX9_here 16 = .ok (.getfield 9, 3) := by decide +kernel
theorem dX9_here_19 : decode cX9_here 19 = .ok (.arraylength, 1) := by decide +kernel
theorem dX9_here_20 : decode cX9_here 20 = .ok (.if_icmp .ge 15, 3) := by decide +kernel
theorem dX9_here_23 : decode cX9_here 23 = .ok (.aload_n 0, 1) := by decide +kernel
theorem dX9_here_24 : decode cX9_here 24 = .ok (.getfield 9, 3) := by decide +kernel
theorem dX9_here_27 : decode cX9_here 27 = .ok (.aload_n 0, 1) := by decide +kernel
theorem dX9_here_28 : decode cX9_here 28 = .ok (.getfield 19, 3) := by decide +kernel
theorem dX9_here_31 : decode cX9_here 31 = .ok (.iaload, 1) := by decide +kernel
theorem dX9_here_32 : decode cX9_here 32 = .ok (.goto 4, 3) := by decide +kernel
theorem dX9_here_35 : decode cX9_here 35 = .ok (.iconst (-1), 1) := by decide +kernel
theorem dX9_here_36 : decode cX9_here 36 = .ok (.ireturn, 1) := by decide +kernel
noncomputable def kX9_here : Nat → Op := (nodeC 16 (nodeC 5 (nodeC 1 (nodeC 0 (leafC 0 (o_al 0 1)) (leafC 1 (o_gI 9 2 4))) (nodeC 4 (leafC 4 (o_al 0 5)) (leafC 5 (o_gI 9 1 8)))) (nodeC 11 (nodeC 8 (leafC 8 (o_cge 35 11)) (leafC 11 (o_al 0 12))) (nodeC 12 (leafC 12 (o_gI 9 2 15)) (nodeC 15 (leafC 15 (o_al 0 16)) (leafC 16 (o_gR 9 0 19)))))) (nodeC 27 (nodeC 20 (nodeC 19 (leafC 19 (o_alen 20)) (leafC 20 (o_cge 35 23))) (nodeC 23 (leafC 23 (o_al 0 24)) (nodeC 24 (leafC 24 (o_gR 9 0 27)) (leafC 27 (o_al 0 28))))) (nodeC 31 (nodeC 28 (leafC 28 (o_gI 9 2 31)) (leafC 31 (o_iald 32))) (nodeC 32 (leafC 32 (o_goto 36)) (nodeC 35 (leafC 35 (o_ic (-1) 36)) (leafC 36 (o_iret)))))))
theorem sX9_here : ∀ pc, SoundOp cX9_here RX9 1 (some .int) false 0 0 pc (kX9_here pc) := (so_node (so_node (so_node (so_node (so_leaf (so_aload_n dX9_here_0 rfl)) (so_leaf (so_gI (by decide) (by decide) wC9 wf_RX9_19 (fun _ _ _ => rfl) dX9_here_1))) (so_node (so_leaf (so_aload_n dX9_here_4 rfl)) (so_leaf (so_gI (by decide) (by decide) wC9 wf_RX9_15 (fun _ _ _ => rfl) dX9_here_5)))) (so_node (so_node (so_leaf (so_cge dX9_here_8 (by decide))) (so_leaf (so_aload_n dX9_here_11 rfl))) (so_node (so_leaf (so_gI (by decide) (by decide) wC9 wf_RX9_19 (fun _ _ _ => rfl) dX9_here_12)) (so_node (so_leaf (so_aload_n dX9_here_15 rfl)) (so_leaf (so_gR (by decide) (by decide) wC9 wf_RX9_9 (fun _ _ _ => rfl) dX9_here_16)))))) (so_node (so_node (so_node (so_leaf (so_alen dX9_here_19)) (so_leaf (so_cge dX9_here_20 (by decide)))) (so_node (so_leaf (so_aload_n dX9_here_23 rfl)) (so_node (so_leaf (so_gR (by decide) (by decide) wC9 wf_RX9_9 (fun _ _ _ => rfl) dX9_here_24)) (so_leaf (so_aload_n dX9_here_27 rfl))))) (so_node (so_node (so_leaf (so_gI (by decide) (by decide) wC9 wf_RX9_19 (fun _ _ _ => rfl) dX9_here_28)) (so_leaf (so_iald dX9_here_31))) (so_node (so_leaf (so_goto dX9_here_32 (by decide))) (so_node (so_leaf (so_iconst dX9_here_35 (by decide))) (so_leaf (so_iret dX9_here_36 rfl)))))))
theorem pX9_here : ∀ pc, Pr (kX9_here pc) := (pr_node (pr_node (pr_node (pr_node (pr_leaf (pr_al _ _)) (pr_leaf (pr_gI _ _ _))) (pr_node (pr_leaf (pr_al _ _)) (pr_leaf (pr_gI _ _ _)))) (pr_node (pr_node (pr_leaf (pr_cge _ _)) (pr_leaf (pr_al _ _))) (pr_node (pr_leaf (pr_gI _ _ _)) (pr_node (pr_leaf (pr_al _ _)) (pr_leaf (pr_gR _ _ _)))))) (pr_node (pr_node (pr_node (pr_leaf (pr_alen _)) (pr_leaf (pr_cge _ _))) (pr_node (pr_leaf (pr_al _ _)) (pr_node (pr_leaf (pr_gR _ _ _)) (pr_leaf (pr_al _ _))))) (pr_node (pr_node (pr_leaf (pr_gI _ _ _)) (pr_leaf (pr_iald _))) (pr_node (pr_leaf (pr_goto _)) (pr_node (pr_leaf (pr_ic _ _)) (pr_leaf (pr_iret)))))))
noncomputable def FX9_here : List EV → Hp → Option (RV × Hp) := Fm kX9_here 1
theorem CX9_here : Con yX9_here cX9_here 1 (some .int) 0 0 FX9_here := con_of (own := RX9) rfl (by decide +kernel) sX9_here pX9_here (fun z => by cases z)
theorem GX9_here : Gr FX9_here := Gr_Fm pX9_here 1
theorem dX9_peek_0 : decode cX9_peek 0 = .ok (.aload_n 0, 1) := by decide +kernel
theorem dX9_peek_1 : decode cX9_peek 1 = .ok (.getfield 19, 3) := by decide +kernel
theorem dX9_peek_4 : decode cX9_peek 4 = .ok (.aload_n 0, 1) := by decide +kernel
theorem dX9_peek_5 : decode cX9_peek 5 = .ok (.getfield 15, 3) := by decide +kernel
theorem dX9_peek_8 : decode cX9_peek 8 = .ok (.if_icmp .ge 42, 3) := by decide +kernel
theorem dX9_peek_11 : decode cX9_peek 11 = .ok (.aload_n 0, 1) := by decide +kernel
theorem dX9_peek_12 : decode cX9_peek 12 = .ok (.getfield 19, 3) := by decide +kernel
theorem dX9_peek_15 : decode cX9_peek 15 = .ok (.aload_n 0, 1) := by decide +kernel
theorem dX9_peek_16 : decode cX9_peek 16 = .ok (.getfield 9, 3) := by decide +kernel
theorem dX9_peek_19 : decode cX9_peek 19 = .ok (.arraylength, 1) := by decide +kernel
theorem dX9_peek_20 : decode cX9_peek 20 = .ok (.if_icmp .ge 30, 3) := by decide +kernel
theorem dX9_peek_23 : decode cX9_peek 23 = .ok (.aload_n 0, 1) := by decide +kernel
theorem dX9_peek_24 : decode cX9_peek 24 = .ok (.getfield 9, 3) := by decide +kernel
theorem dX9_peek_27 : decode cX9_peek 27 = .ok (.aload_n 0, 1) := by decide +kernel
theorem dX9_peek_28 : decode cX9_peek 28 = .ok (.getfield 19, 3) := by decide +kernel
theorem dX9_peek_31 : decode cX9_peek 31 = .ok (.iaload, 1) := by decide +kernel
theorem dX9_peek_32 : decode cX9_peek 32 = .ok (.bipush 32, 2) := by decide +kernel
theorem dX9_peek_34 : decode cX9_peek 34 = .ok (.if_icmp .ne 16, 3) := by decide +kernel
theorem dX9_peek_37 : decode cX9_peek 37 = .ok (.aload_n 0, 1) := by decide +kernel
theorem dX9_peek_38 : decode cX9_peek 38 = .ok (.dup, 1) := by decide +kernel
theorem dX9_peek_39 : decode cX9_peek 39 = .ok (.getfield 19, 3) := by decide +kernel
theorem dX9_peek_42 : decode cX9_peek 42 = .ok (.iconst 1, 1) := by decide +kernel
theorem dX9_peek_43 : decode cX9_peek 43 = .ok (.iadd, 1) := by decide +kernel
theorem dX9_peek_44 : decode cX9_peek 44 = .ok (.putfield 19, 3) := by decide +kernel
theorem dX9_peek_47 : decode cX9_peek 47 = .ok (.goto (-47), 3) := by decide +kernel
theorem dX9_peek_50 : decode cX9_peek 50 = .ok (.aload_n 0, 1) := by decide +kernel
theorem dX9_peek_51 : decode cX9_peek 51 = .ok (.getfield 19, 3) := by decide +kernel
theorem dX9_peek_54 : decode cX9_peek 54 = .ok (.aload_n 0, 1) := by decide +kernel
theorem dX9_peek_55 : decode cX9_peek 55 = .ok (.getfield 15, 3) := by decide +kernel
theorem dX9_peek_58 : decode cX9_peek 58 = .ok (.if_icmp .ge 27, 3) := by decide +kernel
theorem dX9_peek_61 : decode cX9_peek 61 = .ok (.aload_n 0, 1) := by decide +kernel
theorem dX9_peek_62 : decode cX9_peek 62 = .ok (.getfield 19, 3) := by decide +kernel
theorem dX9_peek_65 : decode cX9_peek 65 = .ok (.aload_n 0, 1) := by decide +kernel
theorem dX9_peek_66 : decode cX9_peek 66 = .ok (.getfield 9, 3) := by decide +kernel
theorem dX9_peek_69 : decode cX9_peek 69 = .ok (.arraylength, 1) := by decide +kernel
theorem dX9_peek_70 : decode cX9_peek 70 = .ok (.if_icmp .ge 15, 3) := by decide +kernel
theorem dX9_peek_73 : decode cX9_peek 73 = .ok (.aload_n 0, 1) := by decide +kernel
theorem dX9_peek_74 : decode cX9_peek 74 = .ok (.getfield 9, 3) := by decide +kernel
theorem dX9_peek_77 : decode cX9_peek 77 = .ok (.aload_n 0, 1) := by decide +kernel
theorem dX9_peek_78 : decode cX9_peek 78 = .ok (.getfield 19, 3) := by decide +kernel
theorem dX9_peek_81 : decode cX9_peek 81 = .ok (.iaload, 1) := by decide +kernel
theorem dX9_peek_82 : decode cX9_peek 82 = .ok (.goto 4, 3) := by decide +kernel
theorem dX9_peek_85 : decode cX9_peek 85 = .ok (.iconst (-1), 1) := by decide +kernel
theorem dX9_peek_86 : decode cX9_peek 86 = .ok (.ireturn, 1) := by decide +kernel
noncomputable def kX9_peek : Nat → Op := (nodeC 42 (nodeC 20 (nodeC 8 (nodeC 1 (nodeC 0 (leafC 0 (o_al 0 1)) (leafC 1 (o_gI 9 2 4))) (nodeC 4 (leafC 4 (o_al 0 5)) (nodeC 5 (leafC 5 (o_gI 9 1 8)) (leafC 8 (o_cge 50 11))))) (nodeC 15 (nodeC 11 (leafC 11 (o_al 0 12)) (nodeC 12 (leafC 12 (o_gI 9 2 15)) (leafC 15 (o_al 0 16)))) (nodeC 16 (leafC 16 (o_gR 9 0 19)) (nodeC 19 (leafC 19 (o_alen 20)) (leafC 20 (o_cge 50 23)))))) (nodeC 31 (nodeC 24 (nodeC 23 (leafC 23 (o_al 0 24)) (leafC 24 (o_gR 9 0 27))) (nodeC 27 (leafC 27 (o_al 0 28)) (nodeC 28 (leafC 28 (o_gI 9 2 31)) (leafC 31 (o_iald 32))))) (nodeC 37 (nodeC 32 (leafC 32 (o_ic (32) 34)) (nodeC 34 (leafC 34 (o_cne 50 37)) (leafC 37 (o_al 0 38)))) (nodeC 38 (leafC 38 (o_dupR 39)) (nodeC 39 (leafC 39 (o_gI 9 2 42)) (leafC 42 (o_ic (1) 43))))))) (nodeC 65 (nodeC 51 (nodeC 44 (nodeC 43 (leafC 43 (o_iadd 44)) (leafC 44 (o_pI 9 2 47))) (nodeC 47 (leafC 47 (o_goto 0)) (nodeC 50 (leafC 50 (o_al 0 51)) (leafC 51 (o_gI 9 2 54))))) (nodeC 58 (nodeC 54 (leafC 54 (o_al 0 55)) (nodeC 55 (leafC 55 (o_gI 9 1 58)) (leafC 58 (o_cge 85 61)))) (nodeC 61 (leafC 61 (o_al 0 62)) (nodeC 62 (leafC 62 (o_gI 9 2 65)) (leafC 65 (o_al 0 66)))))) (nodeC 74 (nodeC 69 (nodeC 66 (leafC 66 (o_gR 9 0 69)) (leafC 69 (o_alen 70))) (nodeC 70 (leafC 70 (o_cge 85 73)) (nodeC 73 (leafC 73 (o_al 0 74)) (leafC 74 (o_gR 9 0 77))))) (nodeC 81 (nodeC 77 (leafC 77 (o_al 0 78)) (nodeC 78 (leafC 78 (o_gI 9 2 81)) (leafC 81 (o_iald 82)))) (nodeC 82 (leafC 82 (o_goto 86)) (nodeC 85 (leafC 85 (o_ic (-1) 86)) (leafC 86 (o_iret))))))))
theorem sX9_peek : ∀ pc, SoundOp cX9_peek RX9 1 (some .int) false 0 0 pc (kX9_peek pc) := (so_node (so_node (so_node (so_node (so_node (so_leaf (so_aload_n dX9_peek_0 rfl)) (so_leaf (so_gI (by decide) (by decide) wC9 wf_RX9_19 (fun _ _ _ => rfl) dX9_peek_1))) (so_node (so_leaf (so_aload_n dX9_peek_4 rfl)) (so_node (so_leaf (so_gI (by decide) (by decide) wC9 wf_RX9_15 (fun _ _ _ => rfl) dX9_peek_5)) (so_leaf (so_cge dX9_peek_8 (by decide)))))) (so_node (so_node (so_leaf (so_aload_n dX9_peek_11 rfl)) (so_node (so_leaf (so_gI (by decide) (by decide) wC9 wf_RX9_19 (fun _ _ _ => rfl) dX9_peek_12)) (so_leaf (so_aload_n dX9_peek_15 rfl)))) (so_node (so_leaf (so_gR (by decide) (by decide) wC9 wf_RX9_9 (fun _ _ _ => rfl) dX9_peek_16)) (so_node (so_leaf (so_alen dX9_peek_19)) (so_leaf (so_cge dX9_peek_20 (by decide))))))) (so_node (so_node (so_node (so_leaf (so_aload_n dX9_peek_23 rfl)) (so_leaf (so_gR (by decide) (by decide) wC9 wf_RX9_9 (fun _ _ _ => rfl) dX9_peek_24))) (so_node (so_leaf (so_aload_n dX9_peek_27 rfl)) (so_node (so_leaf (so_gI (by decide) (by decide) wC9 wf_RX9_19 (fun _ _ _ => rfl) dX9_peek_28)) (so_leaf (so_iald dX9_peek_31))))) (so_node (so_node (so_leaf (so_bipush dX9_peek_32 (by decide))) (so_node (so_leaf (so_cne dX9_peek_34 (by decide))) (so_leaf (so_aload_n dX9_peek_37 rfl)))) (so_node (so_leaf (so_dupR dX9_peek_38)) (so_node (so_leaf (so_gI (by decide) (by decide) wC9 wf_RX9_19 (fun _ _ _ => rfl) dX9_peek_39)) (so_leaf (so_iconst dX9_peek_42 (by decide)))))))) (so_node (so_node (so_node (so_node (so_leaf (so_iadd dX9_peek_43)) (so_leaf (so_pI (by decide) (by decide) wC9 wf_RX9_19 (Or.inl rfl) rfl dX9_peek_44))) (so_node (so_leaf (so_goto dX9_peek_47 (by decide))) (so_node (so_leaf (so_aload_n dX9_peek_50 rfl)) (so_leaf (so_gI (by decide) (by decide) wC9 wf_RX9_19 (fun _ _ _ => rfl) dX9_peek_51))))) (so_node (so_node (so_leaf (so_aload_n dX9_peek_54 rfl)) (so_node (so_leaf (so_gI (by decide) (by decide) wC9 wf_RX9_15 (fun _ _ _ => rfl) dX9_peek_55)) (so_leaf (so_cge dX9_peek_58 (by decide))))) (so_node (so_leaf (so_aload_n dX9_peek_61 rfl)) (so_node (so_leaf (so_gI (by decide) (by decide) wC9 wf_RX9_19 (fun _ _ _ => rfl) dX9_peek_62)) (so_leaf (so_aload_n dX9_peek_65 rfl)))))) (so_node (so_node (so_node (so_leaf (so_gR (by decide) (by decide) wC9 wf_RX9_9 (fun _ _ _ => rfl) dX9_peek_66)) (so_leaf (so_alen dX9_peek_69))) (so_node (so_leaf (so_cge dX9_peek_70 (by decide))) (so_node (so_leaf (so_aload_n dX9_peek_73 rfl)) (so_leaf (so_gR (by decide) (by decide) wC9 wf_RX9_9 (fun _ _ _ => rfl) dX9_peek_74))))) (so_node (so_node (so_leaf (so_aload_n dX9_peek_77 rfl)) (so_node (so_leaf (so_gI (by decide) (by decide) wC9 wf_RX9_19 (fun _ _ _ => rfl) dX9_peek_78)) (so_leaf (so_iald dX9_peek_81)))) (so_node (so_leaf (so_goto dX9_peek_82 (by decide))) (so_node (so_leaf (so_iconst dX9_peek_85 (by decide))) (so_leaf (so_iret dX9_peek_86 rfl))))))))
theorem pX9_peek : ∀ pc, Pr (kX9_peek pc) := (pr_node (pr_node (pr_node (pr_node (pr_node (pr_leaf (pr_al _ _)) (pr_leaf (pr_gI _ _ _))) (pr_node (pr_leaf (pr_al _ _)) (pr_node (pr_leaf (pr_gI _ _ _)) (pr_leaf (pr_cge _ _))))) (pr_node (pr_node (pr_leaf (pr_al _ _)) (pr_node (pr_leaf (pr_gI _ _ _)) (pr_leaf (pr_al _ _)))) (pr_node (pr_leaf (pr_gR _ _ _)) (pr_node (pr_leaf (pr_alen _)) (pr_leaf (pr_cge _ _)))))) (pr_node (pr_node (pr_node (pr_leaf (pr_al _ _)) (pr_leaf (pr_gR _ _ _))) (pr_node (pr_leaf (pr_al _ _)) (pr_node (pr_leaf (pr_gI _ _ _)) (pr_leaf (pr_iald _))))) (pr_node (pr_node (pr_leaf (pr_ic _ _)) (pr_node (pr_leaf (pr_cne _ _)) (pr_leaf (pr_al _ _)))) (pr_node (pr_leaf (pr_dupR _)) (pr_node (pr_leaf (pr_gI _ _ _)) (pr_leaf (pr_ic _ _))))))) (pr_node (pr_node (pr_node (pr_node (pr_leaf (pr_iadd _)) (pr_leaf (pr_pI _ _ _))) (pr_node (pr_leaf (pr_goto _)) (pr_node (pr_leaf (pr_al _ _)) (pr_leaf (pr_gI _ _ _))))) (pr_node (pr_node (pr_leaf (pr_al _ _)) (pr_node (pr_leaf (pr_gI _ _ _)) (pr_leaf (pr_cge _ _)))) (pr_node (pr_leaf (pr_al _ _)) (pr_node (pr_leaf (pr_gI _ _ _)) (pr_leaf (pr_al _ _)))))) (pr_node (pr_node (pr_node (pr_leaf (pr_gR _ _ _)) (pr_leaf (pr_alen _))) (pr_node (pr_leaf (pr_cge _ _)) (pr_node (pr_leaf (pr_al _ _)) (pr_leaf (pr_gR _ _ _))))) (pr_node (pr_node (pr_leaf (pr_al _ _)) (pr_node (pr_leaf (pr_gI _ _ _)) (pr_leaf (pr_iald _)))) (pr_node (pr_leaf (pr_goto _)) (pr_node (pr_leaf (pr_ic _ _)) (pr_leaf (pr_iret))))))))
noncomputable def FX9_peek : List EV → Hp → Option (RV × Hp) := Fm kX9_peek 1
theorem CX9_peek : Con yX9_peek cX9_peek 1 (some .int) 0 0 FX9_peek := con_of (own := RX9) rfl (by decide +kernel) sX9_peek pX9_peek (fun z => by cases z)
theorem GX9_peek : Gr FX9_peek := Gr_Fm pX9_peek 1
theorem dX9_skip_0 : decode cX9_skip 0 = .ok (.aload_n 0, 1) := by decide +kernel
theorem dX9_skip_1 : decode cX9_skip 1 = .ok (.getfield 22, 3) := by decide +kernel
theorem dX9_skip_4 : decode cX9_skip 4 = .ok (.iconst (-1), 1) := by decide +kernel
theorem dX9_skip_5 : decode cX9_skip 5 = .ok (.if_icmp .eq 5, 3) := by decide +kernel
theorem dX9_skip_8 : decode cX9_skip 8 = .ok (.iconst 0, 1) := by decide +kernel
theorem dX9_skip_9 : decode cX9_skip 9 = .ok (.ireturn, 1) := by decide +kernel
theorem dX9_skip_10 : decode cX9_skip 10 = .ok (.aload_n 0, 1) := by decide +kernel
theorem dX9_skip_11 : decode cX9_skip 11 = .ok (.dup, 1) := by decide +kernel
theorem dX9_skip_12 : decode cX9_skip 12 = .ok (.getfield 19, 3) := by decide +kernel
theorem dX9_skip_15 : decode cX9_skip 15 = .ok (.iconst 1, 1) := by decide +kernel
theorem dX9_skip_16 : decode cX9_skip 16 = .ok (.iadd, 1) := by decide +kernel
theorem dX9_skip_17 : decode cX9_skip 17 = .ok (.putfield 19, 3) := by decide +kernel
theorem dX9_skip_20 : decode cX9_skip 20 = .ok (.iconst 1, 1) := by decide +kernel
theorem dX9_skip_21 : decode cX9_skip 21 = .ok (.ireturn, 1) := by decide +kernel
noncomputable def kX9_skip : Nat → Op := (nodeC 10 (nodeC 4 (nodeC 0 (leafC 0 (o_al 0 1)) (nodeC 1 (leafC 1 (o_gI 9 3 4)) (leafC 4 (o_ic (-1) 5)))) (nodeC 8 (nodeC 5 (leafC 5 (o_ceq 10 8)) (leafC 8 (o_ic (0) 9))) (nodeC 9 (leafC 9 (o_zret)) (leafC 10 (o_al 0 11))))) (nodeC 15 (nodeC 11 (leafC 11 (o_dupR 12)) (nodeC 12 (leafC 12 (o_gI 9 2 15)) (leafC 15 (o_ic (1) 16)))) (nodeC 17 (nodeC 16 (leafC 16 (o_iadd 17)) (leafC 17 (o_pI 9 2 20))) (nodeC 20 (leafC 20 (o_ic (1) 21)) (leafC 21 (o_zret))))))
theorem sX9_skip : ∀ pc, SoundOp cX9_skip RX9 1 (some .boolean) false 0 0 pc (kX9_skip pc) := (so_node (so_node (so_node (so_leaf (so_aload_n dX9_skip_0 rfl)) (so_node (so_leaf (so_gI (by decide) (by decide) wC9 wf_RX9_22 (fun _ _ _ => rfl) dX9_skip_1)) (so_leaf (so_iconst dX9_skip_4 (by decide))))) (so_node (so_node (so_leaf (so_ceq dX9_skip_5 (by decide))) (so_leaf (so_iconst dX9_skip_8 (by decide)))) (so_node (so_leaf (so_zret dX9_skip_9 rfl)) (so_leaf (so_aload_n dX9_skip_10 rfl))))) (so_node (so_node (so_leaf (so_dupR dX9_skip_11)) (so_node (so_leaf (so_gI (by decide) (by decide) wC9 wf_RX9_19 (fun _ _ _ => rfl) dX9_skip_12)) (so_leaf (so_iconst dX9_skip_15 (by decide))))) (so_node (so_node (so_leaf (so_iadd dX9_skip_16)) (so_leaf (so_pI (by decide) (by decide) wC9 wf_RX9_19 (Or.inl rfl) rfl dX9_skip_17))) (so_node (so_leaf (so_iconst dX9_skip_20 (by decide))) (so_leaf (so_zret dX9_skip_21 rfl))))))
theorem pX9_skip : ∀ pc, Pr (kX9_skip pc) := (pr_node (pr_node (pr_node (pr_leaf (pr_al _ _)) (pr_node (pr_leaf (pr_gI _ _ _)) (pr_leaf (pr_ic _ _)))) (pr_node (pr_node (pr_leaf (pr_ceq _ _)) (pr_leaf (pr_ic _ _))) (pr_node (pr_leaf (pr_zret)) (pr_leaf (pr_al _ _))))) (pr_node (pr_node (pr_leaf (pr_dupR _)) (pr_node (pr_leaf (pr_gI _ _ _)) (pr_leaf (pr_ic _ _)))) (pr_node (pr_node (pr_leaf (pr_iadd _)) (pr_leaf (pr_pI _ _ _))) (pr_node (pr_leaf (pr_ic _ _)) (pr_leaf (pr_zret))))))
noncomputable def FX9_skip : List EV → Hp → Option (RV × Hp) := Fm kX9_skip 1
theorem CX9_skip : Con yX9_skip cX9_skip 1 (some .boolean) 0 0 FX9_skip := con_of (own := RX9) rfl (by decide +kernel) sX9_skip pX9_skip (fun z => by cases z)
theorem GX9_skip : Gr FX9_skip := Gr_Fm pX9_skip 1
theorem dX9_accept_0 : decode cX9_accept 0 = .ok (.aload_n 0, 1) := by decide +kernel
theorem dX9_accept_1 : decode cX9_accept 1 = .ok (.getfield 22, 3) := by decide +kernel
theorem dX9_accept_4 : decode cX9_accept 4 = .ok (.iconst (-1), 1) := by decide +kernel
theorem dX9_accept_5 : decode cX9_accept 5 = .ok (.if_icmp .ne 11, 3) := by decide +kernel
theorem dX9_accept_8 : decode cX9_accept 8 = .ok (.aload_n 0, 1) := by decide +kernel
theorem dX9_accept_9 : decode cX9_accept 9 = .ok (.invokevirtual 25, 3) := by decide +kernel
theorem dX9_accept_12 : decode cX9_accept 12 = .ok (.iload_n 1, 1) := by decide +kernel
theorem dX9_accept_13 : decode cX9_accept 13 = .ok (.if_icmp .eq 5, 3) := by decide +kernel
theorem dX9_accept_16 : decode cX9_accept 16 = .ok (.iconst 0, 1) := by decide +kernel
theorem dX9_accept_17 : decode cX9_accept 17 = .ok (.ireturn, 1) := by decide +kernel
theorem dX9_accept_18 : decode cX9_accept 18 = .ok (.aload_n 0, 1) := by decide +kernel
theorem dX9_accept_19 : decode cX9_accept 19 = .ok (.dup, 1) := by decide +kernel
theorem dX9_accept_20 : decode cX9_accept 20 = .ok (.getfield 19, 3) := by decide +kernel
theorem dX9_accept_23 : decode cX9_accept 23 = .ok (.iconst 1, 1) := by decide +kernel
theorem dX9_accept_24 : decode cX9_accept 24 = .ok (.iadd, 1) := by decide +kernel
theorem dX9_accept_25 : decode cX9_accept 25 = .ok (.putfield 19, 3) := by decide +kernel
theorem dX9_accept_28 : decode cX9_accept 28 = .ok (.iconst 1, 1) := by decide +kernel
theorem dX9_accept_29 : decode cX9_accept 29 = .ok (.ireturn, 1) := by decide +kernel
noncomputable def kX9_accept : Nat → Op := (nodeC 16 (nodeC 5 (nodeC 1 (nodeC 0 (leafC 0 (o_al 0 1)) (leafC 1 (o_gI 9 3 4))) (nodeC 4 (leafC 4 (o_ic (-1) 5)) (leafC 5 (o_cne 16 8)))) (nodeC 9 (nodeC 8 (leafC 8 (o_al 0 9)) (leafC 9 (o_inv 0 9 1 FX9_peek 12))) (nodeC 12 (leafC 12 (o_il 1 13)) (nodeC 13 (leafC 13 (o_ceq 18 16)) (leafC 16 (o_ic (0) 17)))))) (nodeC 20 (nodeC 18 (nodeC 17 (leafC 17 (o_zret)) (leafC 18 (o_al 0 19))) (nodeC 19 (leafC 19 (o_dupR 20)) (leafC 20 (o_gI 9 2 23)))) (nodeC 24 (nodeC 23 (leafC 23 (o_ic (1) 24)) (leafC 24 (o_iadd 25))) (nodeC 25 (leafC 25 (o_pI 9 2 28)) (nodeC 28 (leafC 28 (o_ic (1) 29)) (leafC 29 (o_zret)))))))
theorem sX9_accept : ∀ pc, SoundOp cX9_accept RX9 2 (some .boolean) false 1 20 pc (kX9_accept pc) := (so_node (so_node (so_node (so_node (so_leaf (so_aload_n dX9_accept_0 rfl)) (so_leaf (so_gI (by decide) (by decide) wC9 wf_RX9_22 (fun _ _ _ => rfl) dX9_accept_1))) (so_node (so_leaf (so_iconst dX9_accept_4 (by decide))) (so_leaf (so_cne dX9_accept_5 (by decide))))) (so_node (so_node (so_leaf (so_aload_n dX9_accept_8 rfl)) (so_leaf (so_inv CX9_peek (by decide) rfl wm_RX9_25 win_X9_peek wse_X9_peek wn_9 wc_X9_peek (by decide +kernel) (by decide) (by decide) dX9_accept_9))) (so_node (so_leaf (so_iload_n dX9_accept_12 rfl)) (so_node (so_leaf (so_ceq dX9_accept_13 (by decide))) (so_leaf (so_iconst dX9_accept_16 (by decide))))))) (so_node (so_node (so_node (so_leaf (so_zret dX9_accept_17 rfl)) (so_leaf (so_aload_n dX9_accept_18 rfl))) (so_node (so_leaf (so_dupR dX9_accept_19)) (so_leaf (so_gI (by decide) (by decide) wC9 wf_RX9_19 (fun _ _ _ => rfl) dX9_accept_20)))) (so_node (so_node (so_leaf (so_iconst dX9_accept_23 (by decide))) (so_leaf (so_iadd dX9_accept_24))) (so_node (so_leaf (so_pI (by decide) (by decide) wC9 wf_RX9_19 (Or.inl rfl) rfl dX9_accept_25)) (so_node (so_leaf (so_iconst dX9_accept_28 (by decide))) (so_leaf (so_zret dX9_accept_29 rfl)))))))
theorem pX9_accept : ∀ pc, Pr (kX9_accept pc) := (pr_node (pr_node (pr_node (pr_node (pr_leaf (pr_al _ _)) (pr_leaf (pr_gI _ _ _))) (pr_node (pr_leaf (pr_ic _ _)) (pr_leaf (pr_cne _ _)))) (pr_node (pr_node (pr_leaf (pr_al _ _)) (pr_leaf (pr_inv _ _ _ GX9_peek _))) (pr_node (pr_leaf (pr_il _ _)) (pr_node (pr_leaf (pr_ceq _ _)) (pr_leaf (pr_ic _ _)))))) (pr_node (pr_node (pr_node (pr_leaf (pr_zret)) (pr_leaf (pr_al _ _))) (pr_node (pr_leaf (pr_dupR _)) (pr_leaf (pr_gI _ _ _)))) (pr_node (pr_node (pr_leaf (pr_ic _ _)) (pr_leaf (pr_iadd _))) (pr_node (pr_leaf (pr_pI _ _ _)) (pr_node (pr_leaf (pr_ic _ _)) (pr_leaf (pr_zret)))))))
noncomputable def FX9_accept : List EV → Hp → Option (RV × Hp) := Fm kX9_accept 2
theorem CX9_accept : Con yX9_accept cX9_accept 2 (some .boolean) 1 20 FX9_accept := con_of (own := RX9) rfl (by decide +kernel) sX9_accept pX9_accept (fun z => by cases z)
theorem GX9_accept : Gr FX9_accept := Gr_Fm pX9_accept 2
theorem dX9_demand_0 : decode cX9_demand 0 = .ok (.aload_n 0, 1) := by decide +kernel
theorem dX9_demand_1 : decode cX9_demand 1 = .ok (.getfield 22, 3) := by decide +kernel
theorem dX9_demand_4 : decode cX9_demand 4 = .ok (.iconst (-1), 1) := by decide +kernel
theorem dX9_demand_5 : decode cX9_demand 5 = .ok (.if_icmp .ne 24, 3) := by decide +kernel
theorem dX9_demand_8 : decode cX9_demand 8 = .ok (.aload_n 0, 1) := by decide +kernel
theorem dX9_demand_9 : decode cX9_demand 9 = .ok (.invokevirtual 25, 3) := by decide +kernel
theorem dX9_demand_12 : decode cX9_demand 12 = .ok (.iload_n 1, 1) := by decide +kernel
theorem dX9_demand_13 : decode cX9_demand 13 = .ok (.if_icmp .ne 16, 3) := by decide +kernel
theorem dX9_demand_16 : decode cX9_demand 16 = .ok (.aload_n 0, 1) := by decide +kernel
theorem dX9_demand_17 : decode cX9_demand 17 = .ok (.dup, 1) := by decide +kernel
theorem dX9_demand_18 : decode cX9_demand 18 = .ok (.getfield 19, 3) := by decide +kernel
theorem dX9_demand_21 : decode cX9_demand 21 = .ok (.iconst 1, 1) := by decide +kernel
theorem dX9_demand_22 : decode cX9_demand 22 = .ok (.iadd, 1) := by decide +kernel
theorem dX9_demand_23 : decode cX9_demand 23 = .ok (.putfield 19, 3) := by decide +kernel
theorem dX9_demand_26 : decode cX9_demand 26 = .ok (.goto 7, 3) := by decide +kernel
theorem dX9_demand_29 : decode cX9_demand 29 = .ok (.aload_n 0, 1) := by decide +kernel
theorem dX9_demand_30 : decode cX9_demand 30 = .ok (.invokevirtual 29, 3) := by decide +kernel
theorem dX9_demand_33 : decode cX9_demand 33 = .ok (.return_, 1) := by decide +kernel
noncomputable def kX9_demand : Nat → Op := (nodeC 16 (nodeC 5 (nodeC 1 (nodeC 0 (leafC 0 (o_al 0 1)) (leafC 1 (o_gI 9 3 4))) (nodeC 4 (leafC 4 (o_ic (-1) 5)) (leafC 5 (o_cne 29 8)))) (nodeC 9 (nodeC 8 (leafC 8 (o_al 0 9)) (leafC 9 (o_inv 0 9 1 FX9_peek 12))) (nodeC 12 (leafC 12 (o_il 1 13)) (nodeC 13 (leafC 13 (o_cne 29 16)) (leafC 16 (o_al 0 17)))))) (nodeC 22 (nodeC 18 (nodeC 17 (leafC 17 (o_dupR 18)) (leafC 18 (o_gI 9 2 21))) (nodeC 21 (leafC 21 (o_ic (1) 22)) (leafC 22 (o_iadd 23)))) (nodeC 26 (nodeC 23 (leafC 23 (o_pI 9 2 26)) (leafC 26 (o_goto 33))) (nodeC 29 (leafC 29 (o_al 0 30)) (nodeC 30 (leafC 30 (o_inv 0 9 0 FX9_refuse 33)) (leafC 33 (o_vret)))))))
theorem sX9_demand : ∀ pc, SoundOp cX9_demand RX9 2 none false 1 20 pc (kX9_demand pc) := (so_node (so_node (so_node (so_node (so_leaf (so_aload_n dX9_demand_0 rfl)) (so_leaf (so_gI (by decide) (by decide) wC9 wf_RX9_22 (fun _ _ _ => rfl) dX9_demand_1))) (so_node (so_leaf (so_iconst dX9_demand_4 (by decide))) (so_leaf (so_cne dX9_demand_5 (by decide))))) (so_node (so_node (so_leaf (so_aload_n dX9_demand_8 rfl)) (so_leaf (so_inv CX9_peek (by decide) rfl wm_RX9_25 win_X9_peek wse_X9_peek wn_9 wc_X9_peek (by decide +kernel) (by decide) (by decide) dX9_demand_9))) (so_node (so_leaf (so_iload_n dX9_demand_12 rfl)) (so_node (so_leaf (so_cne dX9_demand_13 (by decide))) (so_leaf (so_aload_n dX9_demand_16 rfl)))))) (so_node (so_node (so_node (so_leaf (so_dupR dX9_demand_17)) (so_leaf (so_gI (by decide) (by decide) wC9 wf_RX9_19 (fun _ _ _ => rfl) dX9_demand_18))) (so_node (so_leaf (so_iconst dX9_demand_21 (by decide))) (so_leaf (so_iadd dX9_demand_22)))) (so_node (so_node (so_leaf (so_pI (by decide) (by decide) wC9 wf_RX9_19 (Or.inl rfl) rfl dX9_demand_23)) (so_leaf (so_goto dX9_demand_26 (by decide)))) (so_node (so_leaf (so_aload_n dX9_demand_29 rfl)) (so_node (so_leaf (so_inv CX9_refuse (by decide) rfl wm_RX9_29 win_X9_refuse wse_X9_refuse wn_9 wc_X9_refuse (by decide +kernel) (by decide) (by decide) dX9_demand_30)) (so_leaf (so_vret dX9_demand_33 rfl)))))))
theorem pX9_demand : ∀ pc, Pr (kX9_demand pc) := (pr_node (pr_node (pr_node (pr_node (pr_leaf (pr_al _ _)) (pr_leaf (pr_gI _ _ _))) (pr_node (pr_leaf (pr_ic _ _)) (pr_leaf (pr_cne _ _)))) (pr_node (pr_node (pr_leaf (pr_al _ _)) (pr_leaf (pr_inv _ _ _ GX9_peek _))) (pr_node (pr_leaf (pr_il _ _)) (pr_node (pr_leaf (pr_cne _ _)) (pr_leaf (pr_al _ _)))))) (pr_node (pr_node (pr_node (pr_leaf (pr_dupR _)) (pr_leaf (pr_gI _ _ _))) (pr_node (pr_leaf (pr_ic _ _)) (pr_leaf (pr_iadd _)))) (pr_node (pr_node (pr_leaf (pr_pI _ _ _)) (pr_leaf (pr_goto _))) (pr_node (pr_leaf (pr_al _ _)) (pr_node (pr_leaf (pr_inv _ _ _ GX9_refuse _)) (pr_leaf (pr_vret)))))))
noncomputable def FX9_demand : List EV → Hp → Option (RV × Hp) := Fm kX9_demand 2
theorem CX9_demand : Con yX9_demand cX9_demand 2 none 1 20 FX9_demand := con_of (own := RX9) rfl (by decide +kernel) sX9_demand pX9_demand (fun z => by cases z)
theorem GX9_demand : Gr FX9_demand := Gr_Fm pX9_demand 2
theorem dX9_demandEnd_0 : decode cX9_demandEnd 0 = .ok (.aload_n 0, 1) := by decide +kernel
theorem dX9_demandEnd_1 : decode cX9_demandEnd 1 = .ok (.invokevirtual 25, 3) := by decide +kernel
theorem dX9_demandEnd_4 : decode cX9_demandEnd 4 = .ok (.iconst (-1), 1) := by decide +kernel
theorem dX9_demandEnd_5 : decode cX9_demandEnd 5 = .ok (.if_icmp .eq 7, 3) := by decide +kernel
theorem dX9_demandEnd_8 : decode cX9_demandEnd 8 = .ok (.aload_n 0, 1) := by decide +kernel
theorem dX9_demandEnd_9 : decode cX9_demandEnd 9 = .ok (.invokevirtual 29, 3) := by decide +kernel
theorem dX9_demandEnd_12 : decode cX9_demandEnd 12 = .ok (.return_, 1) := by decide +kernel
noncomputable def kX9_demandEnd : Nat → Op := (nodeC 4 (nodeC 0 (leafC 0 (o_al 0 1)) (nodeC 1 (leafC 1 (o_inv 0 9 1 FX9_peek 4)) (leafC 4 (o_ic (-1) 5)))) (nodeC 8 (nodeC 5 (leafC 5 (o_ceq 12 8)) (leafC 8 (o_al 0 9))) (nodeC 9 (leafC 9 (o_inv 0 9 0 FX9_refuse 12)) (leafC 12 (o_vret)))))
theorem sX9_demandEnd : ∀ pc, SoundOp cX9_demandEnd RX9 1 none false 1 20 pc (kX9_demandEnd pc) := (so_node (so_node (so_leaf (so_aload_n dX9_demandEnd_0 rfl)) (so_node (so_leaf (so_inv CX9_peek (by decide) rfl wm_RX9_25 win_X9_peek wse_X9_peek wn_9 wc_X9_peek (by decide +kernel) (by decide) (by decide) dX9_demandEnd_1)) (so_leaf (so_iconst dX9_demandEnd_4 (by decide))))) (so_node (so_node (so_leaf (so_ceq dX9_demandEnd_5 (by decide))) (so_leaf (so_aload_n dX9_demandEnd_8 rfl))) (so_node (so_leaf (so_inv CX9_refuse (by decide) rfl wm_RX9_29 win_X9_refuse wse_X9_refuse wn_9 wc_X9_refuse (by decide +kernel) (by decide) (by decide) dX9_demandEnd_9)) (so_leaf (so_vret dX9_demandEnd_12 rfl)))))
theorem pX9_demandEnd : ∀ pc, Pr (kX9_demandEnd pc) := (pr_node (pr_node (pr_leaf (pr_al _ _)) (pr_node (pr_leaf (pr_inv _ _ _ GX9_peek _)) (pr_leaf (pr_ic _ _)))) (pr_node (pr_node (pr_leaf (pr_ceq _ _)) (pr_leaf (pr_al _ _))) (pr_node (pr_leaf (pr_inv _ _ _ GX9_refuse _)) (pr_leaf (pr_vret)))))
noncomputable def FX9_demandEnd : List EV → Hp → Option (RV × Hp) := Fm kX9_demandEnd 1
theorem CX9_demandEnd : Con yX9_demandEnd cX9_demandEnd 1 none 1 20 FX9_demandEnd := con_of (own := RX9) rfl (by decide +kernel) sX9_demandEnd pX9_demandEnd (fun z => by cases z)
theorem GX9_demandEnd : Gr FX9_demandEnd := Gr_Fm pX9_demandEnd 1
theorem dX9_isDigit_0 : decode cX9_isDigit 0 = .ok (.iload_n 0, 1) := by decide +kernel
theorem dX9_isDigit_1 : decode cX9_isDigit 1 = .ok (.bipush 48, 2) := by decide +kernel
theorem dX9_isDigit_3 : decode cX9_isDigit 3 = .ok (.if_icmp .lt 13, 3) := by decide +kernel
theorem dX9_isDigit_6 : decode cX9_isDigit 6 = .ok (.iload_n 0, 1) := by decide +kernel
theorem dX9_isDigit_7 : decode cX9_isDigit 7 = .ok (.bipush 57, 2) := by decide +kernel
theorem dX9_isDigit_9 : decode cX9_isDigit 9 = .ok (.if_icmp .gt 7, 3) := by decide +kernel
theorem dX9_isDigit_12 : decode cX9_isDigit 12 = .ok (.iconst 1, 1) := by decide +kernel
theorem dX9_isDigit_13 : decode cX9_isDigit 13 = .ok (.goto 4, 3) := by decide +kernel
theorem dX9_isDigit_16 : decode cX9_isDigit 16 = .ok (.iconst 0, 1) := by decide +kernel
theorem dX9_isDigit_17 : decode cX9_isDigit 17 = .ok (.ireturn, 1) := by decide +kernel
noncomputable def kX9_isDigit : Nat → Op := (nodeC 7 (nodeC 1 (nodeC 0 (leafC 0 (o_il 0 1)) (leafC 1 (o_ic (48) 3))) (nodeC 3 (leafC 3 (o_clt 16 6)) (nodeC 6 (leafC 6 (o_il 0 7)) (leafC 7 (o_ic (57) 9))))) (nodeC 12 (nodeC 9 (leafC 9 (o_cgt 16 12)) (leafC 12 (o_ic (1) 13))) (nodeC 13 (leafC 13 (o_goto 17)) (nodeC 16 (leafC 16 (o_ic (0) 17)) (leafC 17 (o_zret))))))
theorem sX9_isDigit : ∀ pc, SoundOp cX9_isDigit RX9 1 (some .boolean) false 0 0 pc (kX9_isDigit pc) := (so_node (so_node (so_node (so_leaf (so_iload_n dX9_isDigit_0 rfl)) (so_leaf (so_bipush dX9_isDigit_1 (by decide)))) (so_node (so_leaf (so_clt dX9_isDigit_3 (by decide))) (so_node (so_leaf (so_iload_n dX9_isDigit_6 rfl)) (so_leaf (so_bipush dX9_isDigit_7 (by decide)))))) (so_node (so_node (so_leaf (so_cgt dX9_isDigit_9 (by decide))) (so_leaf (so_iconst dX9_isDigit_12 (by decide)))) (so_node (so_leaf (so_goto dX9_isDigit_13 (by decide))) (so_node (so_leaf (so_iconst dX9_isDigit_16 (by decide))) (so_leaf (so_zret dX9_isDigit_17 rfl))))))
theorem pX9_isDigit : ∀ pc, Pr (kX9_isDigit pc) := (pr_node (pr_node (pr_node (pr_leaf (pr_il _ _)) (pr_leaf (pr_ic _ _))) (pr_node (pr_leaf (pr_clt _ _)) (pr_node (pr_leaf (pr_il _ _)) (pr_leaf (pr_ic _ _))))) (pr_node (pr_node (pr_leaf (pr_cgt _ _)) (pr_leaf (pr_ic _ _))) (pr_node (pr_leaf (pr_goto _)) (pr_node (pr_leaf (pr_ic _ _)) (pr_leaf (pr_zret))))))
noncomputable def FX9_isDigit : List EV → Hp → Option (RV × Hp) := Fm kX9_isDigit 1
theorem CX9_isDigit : Con yX9_isDigit cX9_isDigit 1 (some .boolean) 0 0 FX9_isDigit := con_of (own := RX9) rfl (by decide +kernel) sX9_isDigit pX9_isDigit (fun z => by cases z)
theorem GX9_isDigit : Gr FX9_isDigit := Gr_Fm pX9_isDigit 1
theorem dX9_number_0 : decode cX9_number 0 = .ok (.aload_n 0, 1) := by decide +kernel
theorem dX9_number_1 : decode cX9_number 1 = .ok (.getfield 22, 3) := by decide +kernel
theorem dX9_number_4 : decode cX9_number 4 = .ok (.iconst (-1), 1) := by decide +kernel
theorem dX9_number_5 : decode cX9_number 5 = .ok (.if_icmp .ne 13, 3) := by decide +kernel
theorem dX9_number_8 : decode cX9_number 8 = .ok (.aload_n 0, 1) := by decide +kernel
theorem dX9_number_9 : decode cX9_number 9 = .ok (.invokevirtual 25, 3) := by decide +kernel
theorem dX9_number_12 : decode cX9_number 12 = .ok (.invokestatic 32, 3) := by decide +kernel
theorem dX9_number_15 : decode cX9_number 15 = .ok (.ifCond .ne 9, 3) := by decide +kernel
theorem dX9_number_18 : decode cX9_number 18 = .ok (.aload_n 0, 1) := by decide +kernel
theorem dX9_number_19 : decode cX9_number 19 = .ok (.invokevirtual 29, 3) := by decide +kernel
theorem dX9_number_22 : decode cX9_number 22 = .ok (.iload_n 2, 1) := by decide +kernel
theorem dX9_number_23 : decode cX9_number 23 = .ok (.ireturn, 1) := by decide +kernel
theorem dX9_number_24 : decode cX9_number 24 = .ok (.iconst 0, 1) := by decide +kernel
theorem dX9_number_25 : decode cX9_number 25 = .ok (.istore 4, 2) := by decide +kernel
theorem dX9_number_27 : decode cX9_number 27 = .ok (.iconst 0, 1) := by decide +kernel
theorem dX9_number_28 : decode cX9_number 28 = .ok (.istore 5, 2) := by decide +kernel
theorem dX9_number_30 : decode cX9_number 30 = .ok (.iload 5, 2) := by decide +kernel
theorem dX9_number_32 : decode cX9_number 32 = .ok (.iload_n 1, 1) := by decide +kernel
theorem dX9_number_33 : decode cX9_number 33 = .ok (.if_icmp .ge 44, 3) := by decide +kernel
theorem dX9_number_36 : decode cX9_number 36 = .ok (.aload_n 0, 1) := by decide +kernel
theorem dX9_number_37 : decode cX9_number 37 = .ok (.invokevirtual 36, 3) := by decide +kernel
theorem dX9_number_40 : decode cX9_number 40 = .ok (.invokestatic 32, 3) := by decide +kernel
theorem dX9_number_43 : decode cX9_number 43 = .ok (.ifCond .eq 34, 3) := by decide +kernel
theorem dX9_number_46 : decode cX9_number 46 = .ok (.bipush 10, 2) := by decide +kernel
theorem dX9_number_48 : decode cX9_number 48 = .ok (.iload 4, 2) := by decide +kernel
theorem dX9_number_50 : decode cX9_number 50 = .ok (.imul, 1) := by decide +kernel
theorem dX9_number_51 : decode cX9_number 51 = .ok (.aload_n 0, 1) := by decide +kernel
theorem dX9_number_52 : decode cX9_number 52 = .ok (.invokevirtual 36, 3) := by decide +kernel
theorem dX9_number_55 : decode cX9_number 55 = .ok (.iadd, 1) := by decide +kernel
theorem dX9_number_56 : decode cX9_number 56 = .ok (.bipush 48, 2) := by decide +kernel
theorem dX9_number_58 : decode cX9_number 58 = .ok (.isub, 1) := by decide +kernel
theorem dX9_number_59 : decode cX9_number 59 = .ok (.istore 4, 2) := by decide +kernel
theorem dX9_number_61 : decode cX9_number 61 = .ok (.aload_n 0, 1) := by decide +kernel
theorem dX9_number_62 : decode cX9_number 62 = .ok (.dup, 1) := by decide +kernel
theorem dX9_number_63 : decode cX9_number 63 = .ok (.getfield 19, 3) := by decide +kernel
theorem dX9_number_66 : decode cX9_number 66 = .ok (.iconst 1, 1) := by decide +kernel
theorem dX9_number_67 : decode cX9_number 67 = .ok (.iadd, 1) := by decide +kernel
theorem dX9_number_68 : decode cX9_number 68 = .ok (.putfield 19, 3) := by decide +kernel
theorem dX9_number_71 : decode cX9_number 71 = .ok (.iinc 5 1, 3) := by decide +kernel
theorem dX9_number_74 : decode cX9_number 74 = .ok (.goto (-44), 3) := by decide +kernel
theorem dX9_number_77 : decode cX9_number 77 = .ok (.aload_n 0, 1) := by decide +kernel
theorem dX9_number_78 : decode cX9_number 78 = .ok (.invokevirtual 36, 3) := by decide +kernel
theorem dX9_number_81 : decode cX9_number 81 = .ok (.invokestatic 32, 3) := by decide +kernel
theorem dX9_number_84 : decode cX9_number 84 = .ok (.ifCond .eq 10, 3) := by decide +kernel
theorem dX9_number_87 : decode cX9_number 87 = .ok (.aload_n 0, 1) := by decide +kernel
theorem dX9_number_88 : decode cX9_number 88 = .ok (.invokevirtual 29, 3) := by decide +kernel
theorem dX9_number_91 : decode cX9_number 91 = .ok (.goto 25, 3) := by decide +kernel
theorem dX9_number_94 : decode cX9_number 94 = .ok (.iload 4, 2) := by decide +kernel
theorem dX9_number_96 : decode cX9_number 96 = .ok (.iload_n 2, 1) := by decide +kernel
theorem dX9_number_97 : decode cX9_number 97 = .ok (.if_icmp .lt 9, 3) := by decide +kernel
theorem dX9_number_100 : decode cX9_number 100 = .ok (.iload 4, 2) := by decide +kernel
theorem dX9_number_102 : decode cX9_number 102 = .ok (.iload_n 3, 1) := by decide +kernel
theorem dX9_number_103 : decode cX9_number 103 = .ok (.if_icmp .le 13, 3) := by decide +kernel
theorem dX9_number_106 : decode cX9_number 106 = .ok (.aload_n 0, 1) := by decide +kernel
theorem dX9_number_107 : decode cX9_number 107 = .ok (.aload_n 0, 1) := by decide +kernel
theorem dX9_number_108 : decode cX9_number 108 = .ok (.getfield 19, 3) := by decide +kernel
theorem dX9_number_111 : decode cX9_number 111 = .ok (.iconst 1, 1) := by decide +kernel
theorem dX9_number_112 : decode cX9_number 112 = .ok (.isub, 1) := by decide +kernel
theorem dX9_number_113 : decode cX9_number 113 = .ok (.putfield 22, 3) := by decide +kernel
theorem dX9_number_116 : decode cX9_number 116 = .ok (.iload 4, 2) := by decide +kernel
theorem dX9_number_118 : decode cX9_number 118 = .ok (.ireturn, 1) := by decide +kernel
noncomputable def kX9_number : Nat → Op := (nodeC 56 (nodeC 27 (nodeC 12 (nodeC 4 (nodeC 0 (leafC 0 (o_al 0 1)) (nodeC 1 (leafC 1 (o_gI 9 3 4)) (leafC 4 (o_ic (-1) 5)))) (nodeC 8 (nodeC 5 (leafC 5 (o_cne 18 8)) (leafC 8 (o_al 0 9))) (nodeC 9 (leafC 9 (o_inv 0 9 1 FX9_peek 12)) (leafC 12 (o_ist 1 1 FX9_isDigit 15))))) (nodeC 22 (nodeC 18 (nodeC 15 (leafC 15 (o_zne 24 18)) (leafC 18 (o_al 0 19))) (nodeC 19 (leafC 19 (o_inv 0 9 0 FX9_refuse 22)) (leafC 22 (o_il 2 23)))) (nodeC 24 (nodeC 23 (leafC 23 (o_iret)) (leafC 24 (o_ic (0) 25))) (nodeC 25 (leafC 25 (o_is 4 27)) (leafC 27 (o_ic (0) 28)))))) (nodeC 40 (nodeC 32 (nodeC 28 (leafC 28 (o_is 5 30)) (nodeC 30 (leafC 30 (o_il 5 32)) (leafC 32 (o_il 1 33)))) (nodeC 36 (nodeC 33 (leafC 33 (o_cge 77 36)) (leafC 36 (o_al 0 37))) (nodeC 37 (leafC 37 (o_inv 0 9 1 FX9_here 40)) (leafC 40 (o_ist 1 1 FX9_isDigit 43))))) (nodeC 50 (nodeC 46 (nodeC 43 (leafC 43 (o_zeq 77 46)) (leafC 46 (o_ic (10) 48))) (nodeC 48 (leafC 48 (o_il 4 50)) (leafC 50 (o_imul 51)))) (nodeC 52 (nodeC 51 (leafC 51 (o_al 0 52)) (leafC 52 (o_inv 0 9 1 FX9_here 55))) (nodeC 55 (leafC 55 (o_iadd 56)) (leafC 56 (o_ic (48) 58))))))) (nodeC 87 (nodeC 67 (nodeC 61 (nodeC 58 (leafC 58 (o_isub 59)) (nodeC 59 (leafC 59 (o_is 4 61)) (leafC 61 (o_al 0 62)))) (nodeC 63 (nodeC 62 (leafC 62 (o_dupR 63)) (leafC 63 (o_gI 9 2 66))) (nodeC 66 (leafC 66 (o_ic (1) 67)) (leafC 67 (o_iadd 68))))) (nodeC 77 (nodeC 71 (nodeC 68 (leafC 68 (o_pI 9 2 71)) (leafC 71 (o_inc 5 (1) 74))) (nodeC 74 (leafC 74 (o_goto 30)) (leafC 77 (o_al 0 78)))) (nodeC 81 (nodeC 78 (leafC 78 (o_inv 0 9 1 FX9_here 81)) (leafC 81 (o_ist 1 1 FX9_isDigit 84))) (nodeC 84 (leafC 84 (o_zeq 94 87)) (leafC 87 (o_al 0 88)))))) (nodeC 103 (nodeC 96 (nodeC 91 (nodeC 88 (leafC 88 (o_inv 0 9 0 FX9_refuse 91)) (leafC 91 (o_goto 116))) (nodeC 94 (leafC 94 (o_il 4 96)) (leafC 96 (o_il 2 97)))) (nodeC 100 (nodeC 97 (leafC 97 (o_clt 106 100)) (leafC 100 (o_il 4 102))) (nodeC 102 (leafC 102 (o_il 3 103)) (leafC 103 (o_cle 116 106))))) (nodeC 111 (nodeC 107 (nodeC 106 (leafC 106 (o_al 0 107)) (leafC 107 (o_al 0 108))) (nodeC 108 (leafC 108 (o_gI 9 2 111)) (leafC 111 (o_ic (1) 112)))) (nodeC 113 (nodeC 112 (leafC 112 (o_isub 113)) (leafC 113 (o_pI 9 3 116))) (nodeC 116 (leafC 116 (o_il 4 118)) (leafC 118 (o_iret))))))))
theorem sX9_number : ∀ pc, SoundOp cX9_number RX9 6 (some .int) false 1 20 pc (kX9_number pc) := (so_node (so_node (so_node (so_node (so_node (so_leaf (so_aload_n dX9_number_0 rfl)) (so_node (so_leaf (so_gI (by decide) (by decide) wC9 wf_RX9_22 (fun _ _ _ => rfl) dX9_number_1)) (so_leaf (so_iconst dX9_number_4 (by decide))))) (so_node (so_node (so_leaf (so_cne dX9_number_5 (by decide))) (so_leaf (so_aload_n dX9_number_8 rfl))) (so_node (so_leaf (so_inv CX9_peek (by decide) rfl wm_RX9_25 win_X9_peek wse_X9_peek wn_9 wc_X9_peek (by decide +kernel) (by decide) (by decide) dX9_number_9)) (so_leaf (so_ist CX9_isDigit rfl wm_RX9_32 wst_X9_isDigit wny_X9_isDigit wc_X9_isDigit (by decide +kernel) (by decide) (by decide) dX9_number_12))))) (so_node (so_node (so_node (so_leaf (so_zne dX9_number_15 (by decide))) (so_leaf (so_aload_n dX9_number_18 rfl))) (so_node (so_leaf (so_inv CX9_refuse (by decide) rfl wm_RX9_29 win_X9_refuse wse_X9_refuse wn_9 wc_X9_refuse (by decide +kernel) (by decide) (by decide) dX9_number_19)) (so_leaf (so_iload_n dX9_number_22 rfl)))) (so_node (so_node (so_leaf (so_iret dX9_number_23 rfl)) (so_leaf (so_iconst dX9_number_24 (by decide)))) (so_node (so_leaf (so_istore dX9_number_25 (by decide))) (so_leaf (so_iconst dX9_number_27 (by decide))))))) (so_node (so_node (so_node (so_leaf (so_istore dX9_number_28 (by decide))) (so_node (so_leaf (so_iload dX9_number_30)) (so_leaf (so_iload_n dX9_number_32 rfl)))) (so_node (so_node (so_leaf (so_cge dX9_number_33 (by decide))) (so_leaf (so_aload_n dX9_number_36 rfl))) (so_node (so_leaf (so_inv CX9_here (by decide) rfl wm_RX9_36 win_X9_here wse_X9_here wn_9 wc_X9_here (by decide +kernel) (by decide) (by decide) dX9_number_37)) (so_leaf (so_ist CX9_isDigit rfl wm_RX9_32 wst_X9_isDigit wny_X9_isDigit wc_X9_isDigit (by decide +kernel) (by decide) (by decide) dX9_number_40))))) (so_node (so_node (so_node (so_leaf (so_zeq dX9_number_43 (by decide))) (so_leaf (so_bipush dX9_number_46 (by decide)))) (so_node (so_leaf (so_iload dX9_number_48)) (so_leaf (so_imul dX9_number_50)))) (so_node (so_node (so_leaf (so_aload_n dX9_number_51 rfl)) (so_leaf (so_inv CX9_here (by decide) rfl wm_RX9_36 win_X9_here wse_X9_here wn_9 wc_X9_here (by decide +kernel) (by decide) (by decide) dX9_number_52))) (so_node (so_leaf (so_iadd dX9_number_55)) (so_leaf (so_bipush dX9_number_56 (by decide)))))))) (so_node (so_node (so_node (so_node (so_leaf (so_isub dX9_number_58)) (so_node (so_leaf (so_istore dX9_number_59 (by decide))) (so_leaf (so_aload_n dX9_number_61 rfl)))) (so_node (so_node (so_leaf (so_dupR dX9_number_62)) (so_leaf (so_gI (by decide) (by decide) wC9 wf_RX9_19 (fun _ _ _ => rfl) dX9_number_63))) (so_node (so_leaf (so_iconst dX9_number_66 (by decide))) (so_leaf (so_iadd dX9_number_67))))) (so_node (so_node (so_node (so_leaf (so_pI (by decide) (by decide) wC9 wf_RX9_19 (Or.inl rfl) rfl dX9_number_68)) (so_leaf (so_iinc dX9_number_71 (by decide) (by decide)))) (so_node (so_leaf (so_goto dX9_number_74 (by decide))) (so_leaf (so_aload_n dX9_number_77 rfl)))) (so_node (so_node (so_leaf (so_inv CX9_here (by decide) rfl wm_RX9_36 win_X9_here wse_X9_here wn_9 wc_X9_here (by decide +kernel) (by decide) (by decide) dX9_number_78)) (so_leaf (so_ist CX9_isDigit rfl wm_RX9_32 wst_X9_isDigit wny_X9_isDigit wc_X9_isDigit (by decide +kernel) (by decide) (by decide) dX9_number_81))) (so_node (so_leaf (so_zeq dX9_number_84 (by decide))) (so_leaf (so_aload_n dX9_number_87 rfl)))))) (so_node (so_node (so_node (so_node (so_leaf (so_inv CX9_refuse (by decide) rfl wm_RX9_29 win_X9_refuse wse_X9_refuse wn_9 wc_X9_refuse (by decide +kernel) (by decide) (by decide) dX9_number_88)) (so_leaf (so_goto dX9_number_91 (by decide)))) (so_node (so_leaf (so_iload dX9_number_94)) (so_leaf (so_iload_n dX9_number_96 rfl)))) (so_node (so_node (so_leaf (so_clt dX9_number_97 (by decide))) (so_leaf (so_iload dX9_number_100))) (so_node (so_leaf (so_iload_n dX9_number_102 rfl)) (so_leaf (so_cle dX9_number_103 (by decide)))))) (so_node (so_node (so_node (so_leaf (so_aload_n dX9_number_106 rfl)) (so_leaf (so_aload_n dX9_number_107 rfl))) (so_node (so_leaf (so_gI (by decide) (by decide) wC9 wf_RX9_19 (fun _ _ _ => rfl) dX9_number_108)) (so_leaf (so_iconst dX9_number_111 (by decide))))) (so_node (so_node (so_leaf (so_isub dX9_number_112)) (so_leaf (so_pI (by decide) (by decide) wC9 wf_RX9_22 (Or.inl rfl) rfl dX9_number_113))) (so_node (so_leaf (so_iload dX9_number_116)) (so_leaf (so_iret dX9_number_118 rfl))))))))
theorem pX9_number : ∀ pc, Pr (kX9_number pc) := (pr_node (pr_node (pr_node (pr_node (pr_node (pr_leaf (pr_al _ _)) (pr_node (pr_leaf (pr_gI _ _ _)) (pr_leaf (pr_ic _ _)))) (pr_node (pr_node (pr_leaf (pr_cne _ _)) (pr_leaf (pr_al _ _))) (pr_node (pr_leaf (pr_inv _ _ _ GX9_peek _)) (pr_leaf (pr_ist _ _ GX9_isDigit _))))) (pr_node (pr_node (pr_node (pr_leaf (pr_zne _ _)) (pr_leaf (pr_al _ _))) (pr_node (pr_leaf (pr_inv _ _ _ GX9_refuse _)) (pr_leaf (pr_il _ _)))) (pr_node (pr_node (pr_leaf (pr_iret)) (pr_leaf (pr_ic _ _))) (pr_node (pr_leaf (pr_is _ _)) (pr_leaf (pr_ic _ _)))))) (pr_node (pr_node (pr_node (pr_leaf (pr_is _ _)) (pr_node (pr_leaf (pr_il _ _)) (pr_leaf (pr_il _ _)))) (pr_node (pr_node (pr_leaf (pr_cge _ _)) (pr_leaf (pr_al _ _))) (pr_node (pr_leaf (pr_inv _ _ _ GX9_here _)) (pr_leaf (pr_ist _ _ GX9_isDigit _))))) (pr_node (pr_node (pr_node (pr_leaf (pr_zeq _ _)) (pr_leaf (pr_ic _ _))) (pr_node (pr_leaf (pr_il _ _)) (pr_leaf (pr_imul _)))) (pr_node (pr_node (pr_leaf (pr_al _ _)) (pr_leaf (pr_inv _ _ _ GX9_here _))) (pr_node (pr_leaf (pr_iadd _)) (pr_leaf (pr_ic _ _))))))) (pr_node (pr_node (pr_node (pr_node (pr_leaf (pr_isub _)) (pr_node (pr_leaf (pr_is _ _)) (pr_leaf (pr_al _ _)))) (pr_node (pr_node (pr_leaf (pr_dupR _)) (pr_leaf (pr_gI _ _ _))) (pr_node (pr_leaf (pr_ic _ _)) (pr_leaf (pr_iadd _))))) (pr_node (pr_node (pr_node (pr_leaf (pr_pI _ _ _)) (pr_leaf (pr_inc _ _ _))) (pr_node (pr_leaf (pr_goto _)) (pr_leaf (pr_al _ _)))) (pr_node (pr_node (pr_leaf (pr_inv _ _ _ GX9_here _)) (pr_leaf (pr_ist _ _ GX9_isDigit _))) (pr_node (pr_leaf (pr_zeq _ _)) (pr_leaf (pr_al _ _)))))) (pr_node (pr_node (pr_node (pr_node (pr_leaf (pr_inv _ _ _ GX9_refuse _)) (pr_leaf (pr_goto _))) (pr_node (pr_leaf (pr_il _ _)) (pr_leaf (pr_il _ _)))) (pr_node (pr_node (pr_leaf (pr_clt _ _)) (pr_leaf (pr_il _ _))) (pr_node (pr_leaf (pr_il _ _)) (pr_leaf (pr_cle _ _))))) (pr_node (pr_node (pr_node (pr_leaf (pr_al _ _)) (pr_leaf (pr_al _ _))) (pr_node (pr_leaf (pr_gI _ _ _)) (pr_leaf (pr_ic _ _)))) (pr_node (pr_node (pr_leaf (pr_isub _)) (pr_leaf (pr_pI _ _ _))) (pr_node (pr_leaf (pr_il _ _)) (pr_leaf (pr_iret))))))))
noncomputable def FX9_number : List EV → Hp → Option (RV × Hp) := Fm kX9_number 6
theorem CX9_number : Con yX9_number cX9_number 6 (some .int) 1 20 FX9_number := con_of (own := RX9) rfl (by decide +kernel) sX9_number pX9_number (fun z => by cases z)
theorem GX9_number : Gr FX9_number := Gr_Fm pX9_number 6
theorem dX9_digit_0 : decode cX9_digit 0 = .ok (.aload_n 0, 1) := by decide +kernel
theorem dX9_digit_1 : decode cX9_digit 1 = .ok (.invokevirtual 25, 3) := by decide +kernel
theorem dX9_digit_4 : decode cX9_digit 4 = .ok (.istore_n 2, 1) := by decide +kernel
theorem dX9_digit_5 : decode cX9_digit 5 = .ok (.aload_n 0, 1) := by decide +kernel
theorem dX9_digit_6 : decode cX9_digit 6 = .ok (.getfield 22, 3) := by decide +kernel
theorem dX9_digit_9 : decode cX9_digit 9 = .ok (.iconst (-1), 1) := by decide +kernel
theorem dX9_digit_10 : decode cX9_digit 10 = .ok (.if_icmp .ne 18, 3) := by decide +kernel
theorem dX9_digit_13 : decode cX9_digit 13 = .ok (.iload_n 2, 1) := by decide +kernel
theorem dX9_digit_14 : decode cX9_digit 14 = .ok (.invokestatic 32, 3) := by decide +kernel
theorem dX9_digit_17 : decode cX9_digit 17 = .ok (.ifCond .eq 11, 3) := by decide +kernel
theorem dX9_digit_20 : decode cX9_digit 20 = .ok (.iload_n 2, 1) := by decide +kernel
theorem dX9_digit_21 : decode cX9_digit 21 = .ok (.bipush 48, 2) := by decide +kernel
theorem dX9_digit_23 : decode cX9_digit 23 = .ok (.isub, 1) := by decide +kernel
theorem dX9_digit_24 : decode cX9_digit 24 = .ok (.iload_n 1, 1) := by decide +kernel
theorem dX9_digit_25 : decode cX9_digit 25 = .ok (.if_icmp .le 9, 3) := by decide +kernel
theorem dX9_digit_28 : decode cX9_digit 28 = .ok (.aload_n 0, 1) := by decide +kernel
theorem dX9_digit_29 : decode cX9_digit 29 = .ok (.invokevirtual 29, 3) := by decide +kernel
theorem dX9_digit_32 : decode cX9_digit 32 = .ok (.iconst 0, 1) := by decide +kernel
theorem dX9_digit_33 : decode cX9_digit 33 = .ok (.ireturn, 1) := by decide +kernel
theorem dX9_digit_34 : decode cX9_digit 34 = .ok (.aload_n 0, 1) := by decide +kernel
theorem dX9_digit_35 : decode cX9_digit 35 = .ok (.dup, 1) := by decide +kernel
theorem dX9_digit_36 : decode cX9_digit 36 = .ok (.getfield 19, 3) := by decide +kernel
theorem dX9_digit_39 : decode cX9_digit 39 = .ok (.iconst 1, 1) := by decide +kernel
theorem dX9_digit_40 : decode cX9_digit 40 = .ok (.iadd, 1) := by decide +kernel
theorem dX9_digit_41 : decode cX9_digit 41 = .ok (.putfield 19, 3) := by decide +kernel
theorem dX9_digit_44 : decode cX9_digit 44 = .ok (.iload_n 2, 1) := by decide +kernel
theorem dX9_digit_45 : decode cX9_digit 45 = .ok (.bipush 48, 2) := by decide +kernel
theorem dX9_digit_47 : decode cX9_digit 47 = .ok (.isub, 1) := by decide +kernel
theorem dX9_digit_48 : decode cX9_digit 48 = .ok (.ireturn, 1) := by decide +kernel
noncomputable def kX9_digit : Nat → Op := (nodeC 24 (nodeC 10 (nodeC 4 (nodeC 0 (leafC 0 (o_al 0 1)) (nodeC 1 (leafC 1 (o_inv 0 9 1 FX9_peek 4)) (leafC 4 (o_is 2 5)))) (nodeC 6 (nodeC 5 (leafC 5 (o_al 0 6)) (leafC 6 (o_gI 9 3 9))) (nodeC 9 (leafC 9 (o_ic (-1) 10)) (leafC 10 (o_cne 28 13))))) (nodeC 17 (nodeC 13 (leafC 13 (o_il 2 14)) (nodeC 14 (leafC 14 (o_ist 1 1 FX9_isDigit 17)) (leafC 17 (o_zeq 28 20)))) (nodeC 21 (nodeC 20 (leafC 20 (o_il 2 21)) (leafC 21 (o_ic (48) 23))) (nodeC 23 (leafC 23 (o_isub 24)) (leafC 24 (o_il 1 25)))))) (nodeC 35 (nodeC 29 (nodeC 25 (leafC 25 (o_cle 34 28)) (nodeC 28 (leafC 28 (o_al 0 29)) (leafC 29 (o_inv 0 9 0 FX9_refuse 32)))) (nodeC 33 (nodeC 32 (leafC 32 (o_ic (0) 33)) (leafC 33 (o_iret))) (nodeC 34 (leafC 34 (o_al 0 35)) (leafC 35 (o_dupR 36))))) (nodeC 41 (nodeC 39 (nodeC 36 (leafC 36 (o_gI 9 2 39)) (leafC 39 (o_ic (1) 40))) (nodeC 40 (leafC 40 (o_iadd 41)) (leafC 41 (o_pI 9 2 44)))) (nodeC 45 (nodeC 44 (leafC 44 (o_il 2 45)) (leafC 45 (o_ic (48) 47))) (nodeC 47 (leafC 47 (o_isub 48)) (leafC 48 (o_iret)))))))
theorem sX9_digit : ∀ pc, SoundOp cX9_digit RX9 3 (some .int) false 1 20 pc (kX9_digit pc) := (so_node (so_node (so_node (so_node (so_leaf (so_aload_n dX9_digit_0 rfl)) (so_node (so_leaf (so_inv CX9_peek (by decide) rfl wm_RX9_25 win_X9_peek wse_X9_peek wn_9 wc_X9_peek (by decide +kernel) (by decide) (by decide) dX9_digit_1)) (so_leaf (so_istore_n dX9_digit_4 rfl (by decide))))) (so_node (so_node (so_leaf (so_aload_n dX9_digit_5 rfl)) (so_leaf (so_gI (by decide) (by decide) wC9 wf_RX9_22 (fun _ _ _ => rfl) dX9_digit_6))) (so_node (so_leaf (so_iconst dX9_digit_9 (by decide))) (so_leaf (so_cne dX9_digit_10 (by decide)))))) (so_node (so_node (so_leaf (so_iload_n dX9_digit_13 rfl)) (so_node (so_leaf (so_ist CX9_isDigit rfl wm_RX9_32 wst_X9_isDigit wny_X9_isDigit wc_X9_isDigit (by decide +kernel) (by decide) (by decide) dX9_digit_14)) (so_leaf (so_zeq dX9_digit_17 (by decide))))) (so_node (so_node (so_leaf (so_iload_n dX9_digit_20 rfl)) (so_leaf (so_bipush dX9_digit_21 (by decide)))) (so_node (so_leaf (so_isub dX9_digit_23)) (so_leaf (so_iload_n dX9_digit_24 rfl)))))) (so_node (so_node (so_node (so_leaf (so_cle dX9_digit_25 (by decide))) (so_node (so_leaf (so_aload_n dX9_digit_28 rfl)) (so_leaf (so_inv CX9_refuse (by decide) rfl wm_RX9_29 win_X9_refuse wse_X9_refuse wn_9 wc_X9_refuse (by decide +kernel) (by decide) (by decide) dX9_digit_29)))) (so_node (so_node (so_leaf (so_iconst dX9_digit_32 (by decide))) (so_leaf (so_iret dX9_digit_33 rfl))) (so_node (so_leaf (so_aload_n dX9_digit_34 rfl)) (so_leaf (so_dupR dX9_digit_35))))) (so_node (so_node (so_node (so_leaf (so_gI (by decide) (by decide) wC9 wf_RX9_19 (fun _ _ _ => rfl) dX9_digit_36)) (so_leaf (so_iconst dX9_digit_39 (by decide)))) (so_node (so_leaf (so_iadd dX9_digit_40)) (so_leaf (so_pI (by decide) (by decide) wC9 wf_RX9_19 (Or.inl rfl) rfl dX9_digit_41)))) (so_node (so_node (so_leaf (so_iload_n dX9_digit_44 rfl)) (so_leaf (so_bipush dX9_digit_45 (by decide)))) (so_node (so_leaf (so_isub dX9_digit_47)) (so_leaf (so_iret dX9_digit_48 rfl)))))))
theorem pX9_digit : ∀ pc, Pr (kX9_digit pc) := (pr_node (pr_node (pr_node (pr_node (pr_leaf (pr_al _ _)) (pr_node (pr_leaf (pr_inv _ _ _ GX9_peek _)) (pr_leaf (pr_is _ _)))) (pr_node (pr_node (pr_leaf (pr_al _ _)) (pr_leaf (pr_gI _ _ _))) (pr_node (pr_leaf (pr_ic _ _)) (pr_leaf (pr_cne _ _))))) (pr_node (pr_node (pr_leaf (pr_il _ _)) (pr_node (pr_leaf (pr_ist _ _ GX9_isDigit _)) (pr_leaf (pr_zeq _ _)))) (pr_node (pr_node (pr_leaf (pr_il _ _)) (pr_leaf (pr_ic _ _))) (pr_node (pr_leaf (pr_isub _)) (pr_leaf (pr_il _ _)))))) (pr_node (pr_node (pr_node (pr_leaf (pr_cle _ _)) (pr_node (pr_leaf (pr_al _ _)) (pr_leaf (pr_inv _ _ _ GX9_refuse _)))) (pr_node (pr_node (pr_leaf (pr_ic _ _)) (pr_leaf (pr_iret))) (pr_node (pr_leaf (pr_al _ _)) (pr_leaf (pr_dupR _))))) (pr_node (pr_node (pr_node (pr_leaf (pr_gI _ _ _)) (pr_leaf (pr_ic _ _))) (pr_node (pr_leaf (pr_iadd _)) (pr_leaf (pr_pI _ _ _)))) (pr_node (pr_node (pr_leaf (pr_il _ _)) (pr_leaf (pr_ic _ _))) (pr_node (pr_leaf (pr_isub _)) (pr_leaf (pr_iret)))))))
noncomputable def FX9_digit : List EV → Hp → Option (RV × Hp) := Fm kX9_digit 3
theorem CX9_digit : Con yX9_digit cX9_digit 3 (some .int) 1 20 FX9_digit := con_of (own := RX9) rfl (by decide +kernel) sX9_digit pX9_digit (fun z => by cases z)
theorem GX9_digit : Gr FX9_digit := Gr_Fm pX9_digit 3
