/-! ===== Law, LawReader ===== -/
theorem wm_RX1_3 : Cond.methodLink RX1 3 Lib.objectInit ∈ bigW := big_mem 703 (by decide +kernel) (by decide +kernel)
theorem wf_RX1_9 : Cond.fieldLink RX1 9 (clT 1 0).1 (clT 1 0).2.1 (clT 1 0).2.2.1 ∈ bigW := big_mem 704 (by decide +kernel) (by decide +kernel)
set_option maxRecDepth 20000 in
theorem wC1 : ∀ w ∈ u_ws (clR 1) (clT 1) (nF 1), w ∈ bigW := big_at [705] (by decide +kernel) (by decide +kernel)
theorem ws_RX1_15 : Cond.fieldLink RX1 15 (stC 0) (stN 0) "[I" ∈ bigW := big_mem 603 (by decide +kernel) (by decide +kernel)
theorem wk_RX1_22 : Cond.constantLong RX1 22 (1000000) ∈ bigW := big_mem 734 (by decide +kernel) (by decide +kernel)
theorem wk_RX1_24 : Cond.constantLong RX1 24 (-1000000) ∈ bigW := big_mem 735 (by decide +kernel) (by decide +kernel)
theorem wm_RX1_18 : Cond.methodLink RX1 18 yX1_joined ∈ bigW := big_mem 731 (by decide +kernel) (by decide +kernel)
theorem wc_X1_joined : Cond.code yX1_joined cX1_joined 7 (some .int) ∈ bigW := big_mem 733 (by decide +kernel) (by decide +kernel)
theorem wst_X1_joined : Cond.static yX1_joined ∈ bigW := big_mem 732 (by decide +kernel) (by decide +kernel)
theorem wny_X1_joined : Cond.initialized yX1_joined.cls ∈ bigW := big_mem 109 (by decide +kernel) (by decide +kernel)
theorem wm_RX2_3 : Cond.methodLink RX2 3 Lib.objectInit ∈ bigW := big_mem 406 (by decide +kernel) (by decide +kernel)
theorem wf_RX2_9 : Cond.fieldLink RX2 9 (clT 2 1).1 (clT 2 1).2.1 (clT 2 1).2.2.1 ∈ bigW := big_mem 408 (by decide +kernel) (by decide +kernel)
set_option maxRecDepth 20000 in
theorem wC2 : ∀ w ∈ u_ws (clR 2) (clT 2) (nF 2), w ∈ bigW := big_at [410, 412, 414] (by decide +kernel) (by decide +kernel)
theorem wf_RX2_15 : Cond.fieldLink RX2 15 (clT 2 0).1 (clT 2 0).2.1 (clT 2 0).2.2.1 ∈ bigW := big_mem 407 (by decide +kernel) (by decide +kernel)
theorem wl_RX2_19 : Cond.classLink RX2 19 (clR 1) ∈ bigW := big_mem 682 (by decide +kernel) (by decide +kernel)
theorem wi_1 : Cond.instantiable (clR 1) (nF 1) ∈ bigW := big_mem 683 (by decide +kernel) (by decide +kernel)
theorem wn_1 : Cond.initialized (clR 1) ∈ bigW := big_mem 109 (by decide +kernel) (by decide +kernel)
theorem wf_RX2_21 : Cond.fieldLink RX2 21 (clT 2 2).1 (clT 2 2).2.1 (clT 2 2).2.2.1 ∈ bigW := big_mem 409 (by decide +kernel) (by decide +kernel)
theorem wm_RX2_25 : Cond.methodLink RX2 25 yJ7_copyOf_59c91 ∈ bigW := big_mem 684 (by decide +kernel) (by decide +kernel)
theorem wc_J7_copyOf_59c91 : Cond.code yJ7_copyOf_59c91 cJ7_copyOf_59c91 3 (some (.array .int)) ∈ bigW := big_mem 686 (by decide +kernel) (by decide +kernel)
theorem wst_J7_copyOf_59c91 : Cond.static yJ7_copyOf_59c91 ∈ bigW := big_mem 685 (by decide +kernel) (by decide +kernel)
theorem wny_J7_copyOf_59c91 : Cond.initialized yJ7_copyOf_59c91.cls ∈ bigW := big_mem 115 (by decide +kernel) (by decide +kernel)
theorem wm_RX2_31 : Cond.methodLink RX2 31 yX1_init ∈ bigW := big_mem 700 (by decide +kernel) (by decide +kernel)
theorem wc_X1_init : Cond.code yX1_init cX1_init 2 none ∈ bigW := big_mem 702 (by decide +kernel) (by decide +kernel)
theorem win_X1_init : Cond.instanceMethod yX1_init ∈ bigW := big_mem 701 (by decide +kernel) (by decide +kernel)
theorem wny_X1_init : Cond.initialized yX1_init.cls ∈ bigW := big_mem 109 (by decide +kernel) (by decide +kernel)
theorem wm_RX2_83 : Cond.methodLink RX2 83 yX9_refuse ∈ bigW := big_mem 614 (by decide +kernel) (by decide +kernel)
theorem wm_RX2_86 : Cond.methodLink RX2 86 yX9_skip ∈ bigW := big_mem 605 (by decide +kernel) (by decide +kernel)
theorem wm_RX2_74 : Cond.methodLink RX2 74 yX2_readTruth ∈ bigW := big_mem 624 (by decide +kernel) (by decide +kernel)
theorem wc_X2_readTruth : Cond.code yX2_readTruth cX2_readTruth 4 none ∈ bigW := big_mem 627 (by decide +kernel) (by decide +kernel)
theorem win_X2_readTruth : Cond.instanceMethod yX2_readTruth ∈ bigW := big_mem 626 (by decide +kernel) (by decide +kernel)
theorem wse_X2_readTruth : Cond.selects (clR 2) yX2_readTruth yX2_readTruth ∈ bigW := big_mem 9 (by decide +kernel) (by decide +kernel)
theorem wn_2 : Cond.initialized (clR 2) ∈ bigW := big_mem 106 (by decide +kernel) (by decide +kernel)
theorem wm_RX2_42 : Cond.methodLink RX2 42 yX9_accept ∈ bigW := big_mem 616 (by decide +kernel) (by decide +kernel)
theorem wm_RX2_71 : Cond.methodLink RX2 71 yX2_emit ∈ bigW := big_mem 606 (by decide +kernel) (by decide +kernel)
theorem wc_X2_emit : Cond.code yX2_emit cX2_emit 2 none ∈ bigW := big_mem 609 (by decide +kernel) (by decide +kernel)
theorem win_X2_emit : Cond.instanceMethod yX2_emit ∈ bigW := big_mem 608 (by decide +kernel) (by decide +kernel)
theorem wse_X2_emit : Cond.selects (clR 2) yX2_emit yX2_emit ∈ bigW := big_mem 6 (by decide +kernel) (by decide +kernel)
theorem wm_RX2_77 : Cond.methodLink RX2 77 yX2_readUnit ∈ bigW := big_mem 628 (by decide +kernel) (by decide +kernel)
theorem wc_X2_readUnit : Cond.code yX2_readUnit cX2_readUnit 5 none ∈ bigW := big_mem 631 (by decide +kernel) (by decide +kernel)
theorem win_X2_readUnit : Cond.instanceMethod yX2_readUnit ∈ bigW := big_mem 630 (by decide +kernel) (by decide +kernel)
theorem wse_X2_readUnit : Cond.selects (clR 2) yX2_readUnit yX2_readUnit ∈ bigW := big_mem 10 (by decide +kernel) (by decide +kernel)
theorem wm_RX2_56 : Cond.methodLink RX2 56 yX9_peek ∈ bigW := big_mem 587 (by decide +kernel) (by decide +kernel)
theorem wm_RX2_80 : Cond.methodLink RX2 80 yX2_opens ∈ bigW := big_mem 610 (by decide +kernel) (by decide +kernel)
theorem wc_X2_opens : Cond.code yX2_opens cX2_opens 2 (some .boolean) ∈ bigW := big_mem 613 (by decide +kernel) (by decide +kernel)
theorem win_X2_opens : Cond.instanceMethod yX2_opens ∈ bigW := big_mem 612 (by decide +kernel) (by decide +kernel)
theorem wse_X2_opens : Cond.selects (clR 2) yX2_opens yX2_opens ∈ bigW := big_mem 7 (by decide +kernel) (by decide +kernel)
theorem wm_RX2_67 : Cond.methodLink RX2 67 yX2_readCondition ∈ bigW := big_mem 620 (by decide +kernel) (by decide +kernel)
theorem wc_X2_readCondition : Cond.code yX2_readCondition cX2_readCondition 4 none ∈ bigW := big_mem 623 (by decide +kernel) (by decide +kernel)
theorem win_X2_readCondition : Cond.instanceMethod yX2_readCondition ∈ bigW := big_mem 622 (by decide +kernel) (by decide +kernel)
theorem wse_X2_readCondition : Cond.selects (clR 2) yX2_readCondition yX2_readCondition ∈ bigW := big_mem 8 (by decide +kernel) (by decide +kernel)
theorem wm_RX2_52 : Cond.methodLink RX2 52 yX9_demand ∈ bigW := big_mem 583 (by decide +kernel) (by decide +kernel)
theorem wm_RX2_60 : Cond.methodLink RX2 60 yX2_readSum ∈ bigW := big_mem 588 (by decide +kernel) (by decide +kernel)
theorem wc_X2_readSum : Cond.code yX2_readSum cX2_readSum 4 none ∈ bigW := big_mem 591 (by decide +kernel) (by decide +kernel)
theorem win_X2_readSum : Cond.instanceMethod yX2_readSum ∈ bigW := big_mem 590 (by decide +kernel) (by decide +kernel)
theorem wse_X2_readSum : Cond.selects (clR 2) yX2_readSum yX2_readSum ∈ bigW := big_mem 3 (by decide +kernel) (by decide +kernel)
theorem wm_RX2_63 : Cond.methodLink RX2 63 yX2_comparison ∈ bigW := big_mem 617 (by decide +kernel) (by decide +kernel)
theorem wc_X2_comparison : Cond.code yX2_comparison cX2_comparison 1 (some .int) ∈ bigW := big_mem 619 (by decide +kernel) (by decide +kernel)
theorem wst_X2_comparison : Cond.static yX2_comparison ∈ bigW := big_mem 618 (by decide +kernel) (by decide +kernel)
theorem wny_X2_comparison : Cond.initialized yX2_comparison.cls ∈ bigW := big_mem 106 (by decide +kernel) (by decide +kernel)
theorem wm_RX2_90 : Cond.methodLink RX2 90 yX2_readTerm ∈ bigW := big_mem 592 (by decide +kernel) (by decide +kernel)
theorem wc_X2_readTerm : Cond.code yX2_readTerm cX2_readTerm 4 none ∈ bigW := big_mem 595 (by decide +kernel) (by decide +kernel)
theorem win_X2_readTerm : Cond.instanceMethod yX2_readTerm ∈ bigW := big_mem 594 (by decide +kernel) (by decide +kernel)
theorem wse_X2_readTerm : Cond.selects (clR 2) yX2_readTerm yX2_readTerm ∈ bigW := big_mem 4 (by decide +kernel) (by decide +kernel)
theorem wm_RX2_93 : Cond.methodLink RX2 93 yX2_readAtom ∈ bigW := big_mem 596 (by decide +kernel) (by decide +kernel)
theorem wc_X2_readAtom : Cond.code yX2_readAtom cX2_readAtom 4 none ∈ bigW := big_mem 599 (by decide +kernel) (by decide +kernel)
theorem win_X2_readAtom : Cond.instanceMethod yX2_readAtom ∈ bigW := big_mem 598 (by decide +kernel) (by decide +kernel)
theorem wse_X2_readAtom : Cond.selects (clR 2) yX2_readAtom yX2_readAtom ∈ bigW := big_mem 5 (by decide +kernel) (by decide +kernel)
theorem wm_RX2_96 : Cond.methodLink RX2 96 yX1_letterOf ∈ bigW := big_mem 600 (by decide +kernel) (by decide +kernel)
theorem wc_X1_letterOf : Cond.code yX1_letterOf cX1_letterOf 2 (some .int) ∈ bigW := big_mem 602 (by decide +kernel) (by decide +kernel)
theorem wst_X1_letterOf : Cond.static yX1_letterOf ∈ bigW := big_mem 601 (by decide +kernel) (by decide +kernel)
theorem wny_X1_letterOf : Cond.initialized yX1_letterOf.cls ∈ bigW := big_mem 109 (by decide +kernel) (by decide +kernel)
theorem wm_RX2_99 : Cond.methodLink RX2 99 yX9_number ∈ bigW := big_mem 615 (by decide +kernel) (by decide +kernel)
theorem wm_RX2_34 : Cond.methodLink RX2 34 yX9_rewind ∈ bigW := big_mem 578 (by decide +kernel) (by decide +kernel)
theorem wm_RX2_39 : Cond.methodLink RX2 39 yX2_readClause ∈ bigW := big_mem 579 (by decide +kernel) (by decide +kernel)
theorem wc_X2_readClause : Cond.code yX2_readClause cX2_readClause 4 none ∈ bigW := big_mem 582 (by decide +kernel) (by decide +kernel)
theorem win_X2_readClause : Cond.instanceMethod yX2_readClause ∈ bigW := big_mem 581 (by decide +kernel) (by decide +kernel)
theorem wse_X2_readClause : Cond.selects (clR 2) yX2_readClause yX2_readClause ∈ bigW := big_mem 2 (by decide +kernel) (by decide +kernel)
theorem wm_RX2_46 : Cond.methodLink RX2 46 yX9_demandEnd ∈ bigW := big_mem 632 (by decide +kernel) (by decide +kernel)
theorem wf_RX2_49 : Cond.fieldLink RX2 49 (clT 9 3).1 (clT 9 3).2.1 (clT 9 3).2.2.1 ∈ bigW := big_mem 142 (by decide +kernel) (by decide +kernel)
theorem dX1_init_0 : decode cX1_init 0 = .ok (.aload_n 0, 1) := by decide +kernel
theorem dX1_init_1 : decode cX1_init 1 = .ok (.invokespecial 3, 3) := by decide +kernel
theorem dX1_init_4 : decode cX1_init 4 = .ok (.aload_n 0, 1) := by decide +kernel
theorem dX1_init_5 : decode cX1_init 5 = .ok (.aload_n 1, 1) := by decide +kernel
theorem dX1_init_6 : decode cX1_init 6 = .ok (.putfield 9, 3) := by decide +kernel
theorem dX1_init_9 : decode cX1_init 9 = .ok (.return_, 1) := by decide +kernel
noncomputable def kX1_init : Nat → Op := (nodeC 4 (nodeC 0 (leafC 0 (o_al 0 1)) (nodeC 1 (leafC 1 (o_oini 4)) (leafC 4 (o_al 0 5)))) (nodeC 5 (leafC 5 (o_al 1 6)) (nodeC 6 (leafC 6 (o_pR 1 0 9)) (leafC 9 (o_vret)))))
theorem sX1_init : ∀ pc, SoundOp cX1_init RX1 2 none true 1 20 pc (kX1_init pc) := (so_node (so_node (so_leaf (so_aload_n dX1_init_0 rfl)) (so_node (so_leaf (so_oini wm_RX1_3 wob1 wob2 (by decide) (by decide) dX1_init_1)) (so_leaf (so_aload_n dX1_init_4 rfl)))) (so_node (so_leaf (so_aload_n dX1_init_5 rfl)) (so_node (so_leaf (so_pR (by decide) (by decide) wC1 wf_RX1_9 (Or.inr ⟨rfl, rfl, rfl⟩) (Or.inr ⟨_, rfl⟩) dX1_init_6)) (so_leaf (so_vret dX1_init_9 rfl)))))
theorem pX1_init : ∀ pc, Pr (kX1_init pc) := (pr_node (pr_node (pr_leaf (pr_al _ _)) (pr_node (pr_leaf (pr_oini _)) (pr_leaf (pr_al _ _)))) (pr_node (pr_leaf (pr_al _ _)) (pr_node (pr_leaf (pr_pR _ _ _)) (pr_leaf (pr_vret)))))
noncomputable def FX1_init : List EV → Hp → Option (RV × Hp) := Fm kX1_init 2
theorem CX1_init : Con yX1_init cX1_init 2 none 1 20 FX1_init := con_of (own := RX1) rfl (by decide +kernel) sX1_init pX1_init (fun _ => rfl)
theorem GX1_init : Gr FX1_init := Gr_Fm pX1_init 2
theorem dX1_letterOf_0 : decode cX1_letterOf 0 = .ok (.iconst 0, 1) := by decide +kernel
theorem dX1_letterOf_1 : decode cX1_letterOf 1 = .ok (.istore_n 1, 1) := by decide +kernel
theorem dX1_letterOf_2 : decode cX1_letterOf 2 = .ok (.iload_n 1, 1) := by decide +kernel
theorem dX1_letterOf_3 : decode cX1_letterOf 3 = .ok (.getstatic 15, 3) := by decide +kernel
theorem dX1_letterOf_6 : decode cX1_letterOf 6 = .ok (.arraylength, 1) := by decide +kernel
theorem dX1_letterOf_7 : decode cX1_letterOf 7 = .ok (.if_icmp .ge 20, 3) := by decide +kernel
theorem dX1_letterOf_10 : decode cX1_letterOf 10 = .ok (.getstatic 15, 3) := by decide +kernel
theorem dX1_letterOf_13 : decode cX1_letterOf 13 = .ok (.iload_n 1, 1) := by decide +kernel
theorem dX1_letterOf_14 : decode cX1_letterOf 14 = .ok (.iaload, 1) := by decide +kernel
theorem dX1_letterOf_15 : decode cX1_letterOf 15 = .ok (.iload_n 0, 1) := by decide +kernel
theorem dX1_letterOf_16 : decode cX1_letterOf 16 = .ok (.if_icmp .ne 5, 3) := by decide +kernel
theorem dX1_letterOf_19 : decode cX1_letterOf 19 = .ok (.iload_n 1, 1) := by decide +kernel
theorem dX1_letterOf_20 : decode cX1_letterOf 20 = .ok (.ireturn, 1) := by decide +kernel
theorem dX1_letterOf_21 : decode cX1_letterOf 21 = .ok (.iinc 1 1, 3) := by decide +kernel
theorem dX1_letterOf_24 : decode cX1_letterOf 24 = .ok (.goto (-22), 3) := by decide +kernel
theorem dX1_letterOf_27 : decode cX1_letterOf 27 = .ok (.iconst (-1), 1) := by decide +kernel
theorem dX1_letterOf_28 : decode cX1_letterOf 28 = .ok (.ireturn, 1) := by decide +kernel
noncomputable def kX1_letterOf : Nat → Op := (nodeC 13 (nodeC 3 (nodeC 1 (nodeC 0 (leafC 0 (o_ic (0) 1)) (leafC 1 (o_is 1 2))) (nodeC 2 (leafC 2 (o_il 1 3)) (leafC 3 (o_pre 0 6)))) (nodeC 7 (nodeC 6 (leafC 6 (o_alen 7)) (leafC 7 (o_cge 27 10))) (nodeC 10 (leafC 10 (o_pre 0 13)) (leafC 13 (o_il 1 14))))) (nodeC 19 (nodeC 15 (nodeC 14 (leafC 14 (o_iald 15)) (leafC 15 (o_il 0 16))) (nodeC 16 (leafC 16 (o_cne 21 19)) (leafC 19 (o_il 1 20)))) (nodeC 21 (nodeC 20 (leafC 20 (o_iret)) (leafC 21 (o_inc 1 (1) 24))) (nodeC 24 (leafC 24 (o_goto 2)) (nodeC 27 (leafC 27 (o_ic (-1) 28)) (leafC 28 (o_iret)))))))
theorem sX1_letterOf : ∀ pc, SoundOp cX1_letterOf RX1 2 (some .int) false 0 0 pc (kX1_letterOf pc) := (so_node (so_node (so_node (so_node (so_leaf (so_iconst dX1_letterOf_0 (by decide))) (so_leaf (so_istore_n dX1_letterOf_1 rfl (by decide)))) (so_node (so_leaf (so_iload_n dX1_letterOf_2 rfl)) (so_leaf (so_gets (by decide) ws_RX1_15 dX1_letterOf_3)))) (so_node (so_node (so_leaf (so_alen dX1_letterOf_6)) (so_leaf (so_cge dX1_letterOf_7 (by decide)))) (so_node (so_leaf (so_gets (by decide) ws_RX1_15 dX1_letterOf_10)) (so_leaf (so_iload_n dX1_letterOf_13 rfl))))) (so_node (so_node (so_node (so_leaf (so_iald dX1_letterOf_14)) (so_leaf (so_iload_n dX1_letterOf_15 rfl))) (so_node (so_leaf (so_cne dX1_letterOf_16 (by decide))) (so_leaf (so_iload_n dX1_letterOf_19 rfl)))) (so_node (so_node (so_leaf (so_iret dX1_letterOf_20 rfl)) (so_leaf (so_iinc dX1_letterOf_21 (by decide) (by decide)))) (so_node (so_leaf (so_goto dX1_letterOf_24 (by decide))) (so_node (so_leaf (so_iconst dX1_letterOf_27 (by decide))) (so_leaf (so_iret dX1_letterOf_28 rfl)))))))
theorem pX1_letterOf : ∀ pc, Pr (kX1_letterOf pc) := (pr_node (pr_node (pr_node (pr_node (pr_leaf (pr_ic _ _)) (pr_leaf (pr_is _ _))) (pr_node (pr_leaf (pr_il _ _)) (pr_leaf (pr_pre _ _)))) (pr_node (pr_node (pr_leaf (pr_alen _)) (pr_leaf (pr_cge _ _))) (pr_node (pr_leaf (pr_pre _ _)) (pr_leaf (pr_il _ _))))) (pr_node (pr_node (pr_node (pr_leaf (pr_iald _)) (pr_leaf (pr_il _ _))) (pr_node (pr_leaf (pr_cne _ _)) (pr_leaf (pr_il _ _)))) (pr_node (pr_node (pr_leaf (pr_iret)) (pr_leaf (pr_inc _ _ _))) (pr_node (pr_leaf (pr_goto _)) (pr_node (pr_leaf (pr_ic _ _)) (pr_leaf (pr_iret)))))))
noncomputable def FX1_letterOf : List EV → Hp → Option (RV × Hp) := Fm kX1_letterOf 2
theorem CX1_letterOf : Con yX1_letterOf cX1_letterOf 2 (some .int) 0 0 FX1_letterOf := con_of (own := RX1) rfl (by decide +kernel) sX1_letterOf pX1_letterOf (fun z => by cases z)
theorem GX1_letterOf : Gr FX1_letterOf := Gr_Fm pX1_letterOf 2
theorem dX1_joined_0 : decode cX1_joined 0 = .ok (.lconst 0, 1) := by decide +kernel
theorem dX1_joined_1 : decode cX1_joined 1 = .ok (.lstore 5, 2) := by decide +kernel
theorem dX1_joined_3 : decode cX1_joined 3 = .ok (.iload_n 0, 1) := by decide +kernel
theorem dX1_joined_4 : decode cX1_joined 4 = .ok (.tableswitch 131 (-17) (-10) #[126, 114, 102, 90, 72, 64, 56, 48], 48) := by decide +kernel
theorem dX1_joined_52 : decode cX1_joined 52 = .ok (.lload_n 1, 1) := by decide +kernel
theorem dX1_joined_53 : decode cX1_joined 53 = .ok (.lload_n 3, 1) := by decide +kernel
theorem dX1_joined_54 : decode cX1_joined 54 = .ok (.ladd, 1) := by decide +kernel
theorem dX1_joined_55 : decode cX1_joined 55 = .ok (.lstore 5, 2) := by decide +kernel
theorem dX1_joined_57 : decode cX1_joined 57 = .ok (.goto 83, 3) := by decide +kernel
theorem dX1_joined_60 : decode cX1_joined 60 = .ok (.lload_n 1, 1) := by decide +kernel
theorem dX1_joined_61 : decode cX1_joined 61 = .ok (.lload_n 3, 1) := by decide +kernel
theorem dX1_joined_62 : decode cX1_joined 62 = .ok (.lsub, 1) := by decide +kernel
theorem dX1_joined_63 : decode cX1_joined 63 = .ok (.lstore 5, 2) := by decide +kernel
theorem dX1_joined_65 : decode cX1_joined 65 = .ok (.goto 75, 3) := by decide +kernel
theorem dX1_joined_68 : decode cX1_joined 68 = .ok (.lload_n 1, 1) := by decide +kernel
theorem dX1_joined_69 : decode cX1_joined 69 = .ok (.lload_n 3, 1) := by decide +kernel
theorem dX1_joined_70 : decode cX1_joined 70 = .ok (.lmul, 1) := by decide +kernel
theorem dX1_joined_71 : decode cX1_joined 71 = .ok (.lstore 5, 2) := by decide +kernel
theorem dX1_joined_73 : decode cX1_joined 73 = .ok (.goto 67, 3) := by decide +kernel
theorem dX1_joined_76 : decode cX1_joined 76 = .ok (.lload_n 3, 1) := by decide +kernel
theorem dX1_joined_77 : decode cX1_joined 77 = .ok (.lconst 0, 1) := by decide +kernel
theorem dX1_joined_78 : decode cX1_joined 78 = .ok (.lcmp, 1) := by decide +kernel
theorem dX1_joined_79 : decode cX1_joined 79 = .ok (.ifCond .ne 7, 3) := by decide +kernel
theorem dX1_joined_82 : decode cX1_joined 82 = .ok (.lconst 0, 1) := by decide +kernel
theorem dX1_joined_83 : decode cX1_joined 83 = .ok (.goto 6, 3) := by decide +kernel
theorem dX1_joined_86 : decode cX1_joined 86 = .ok (.lload_n 1, 1) := by decide +kernel
theorem dX1_joined_87 : decode cX1_joined 87 = .ok (.lload_n 3, 1) := by decide +kernel
theorem dX1_joined_88 : decode cX1_joined 88 = .ok (.ldiv, 1) := by decide +kernel
theorem dX1_joined_89 : decode cX1_joined 89 = .ok (.lstore 5, 2) := by decide +kernel
theorem dX1_joined_91 : decode cX1_joined 91 = .ok (.goto 49, 3) := by decide +kernel
theorem dX1_joined_94 : decode cX1_joined 94 = .ok (.lload_n 1, 1) := by decide +kernel
theorem dX1_joined_95 : decode cX1_joined 95 = .ok (.lload_n 3, 1) := by decide +kernel
theorem dX1_joined_96 : decode cX1_joined 96 = .ok (.lcmp, 1) := by decide +kernel
theorem dX1_joined_97 : decode cX1_joined 97 = .ok (.ifCond .ne 7, 3) := by decide +kernel
theorem dX1_joined_100 : decode cX1_joined 100 = .ok (.iconst 1, 1) := by decide +kernel
theorem dX1_joined_101 : decode cX1_joined 101 = .ok (.goto 4, 3) := by decide +kernel
theorem dX1_joined_104 : decode cX1_joined 104 = .ok (.iconst 0, 1) := by decide +kernel
theorem dX1_joined_105 : decode cX1_joined 105 = .ok (.ireturn, 1) := by decide +kernel
theorem dX1_joined_106 : decode cX1_joined 106 = .ok (.lload_n 1, 1) := by decide +kernel
theorem dX1_joined_107 : decode cX1_joined 107 = .ok (.lload_n 3, 1) := by decide +kernel
theorem dX1_joined_108 : decode cX1_joined 108 = .ok (.lcmp, 1) := by decide +kernel
theorem dX1_joined_109 : decode cX1_joined 109 = .ok (.ifCond .ge 7, 3) := by decide +kernel
theorem dX1_joined_112 : decode cX1_joined 112 = .ok (.iconst 1, 1) := by decide +kernel
theorem dX1_joined_113 : decode cX1_joined 113 = .ok (.goto 4, 3) := by decide +kernel
theorem dX1_joined_116 : decode cX1_joined 116 = .ok (.iconst 0, 1) := by decide +kernel
theorem dX1_joined_117 : decode cX1_joined 117 = .ok (.ireturn, 1) := by decide +kernel
theorem dX1_joined_118 : decode cX1_joined 118 = .ok (.lload_n 1, 1) := by decide +kernel
theorem dX1_joined_119 : decode cX1_joined 119 = .ok (.lload_n 3, 1) := by decide +kernel
theorem dX1_joined_120 : decode cX1_joined 120 = .ok (.lcmp, 1) := by decide +kernel
theorem dX1_joined_121 : decode cX1_joined 121 = .ok (.ifCond .le 7, 3) := by decide +kernel
theorem dX1_joined_124 : decode cX1_joined 124 = .ok (.iconst 1, 1) := by decide +kernel
theorem dX1_joined_125 : decode cX1_joined 125 = .ok (.goto 4, 3) := by decide +kernel
theorem dX1_joined_128 : decode cX1_joined 128 = .ok (.iconst 0, 1) := by decide +kernel
theorem dX1_joined_129 : decode cX1_joined 129 = .ok (.ireturn, 1) := by decide +kernel
theorem dX1_joined_130 : decode cX1_joined 130 = .ok (.lload_n 1, 1) := by decide +kernel
theorem dX1_joined_131 : decode cX1_joined 131 = .ok (.lload_n 3, 1) := by decide +kernel
theorem dX1_joined_132 : decode cX1_joined 132 = .ok (.land, 1) := by decide +kernel
theorem dX1_joined_133 : decode cX1_joined 133 = .ok (.l2i, 1) := by decide +kernel
theorem dX1_joined_134 : decode cX1_joined 134 = .ok (.ireturn, 1) := by decide +kernel
theorem dX1_joined_135 : decode cX1_joined 135 = .ok (.lload_n 1, 1) := by decide +kernel
theorem dX1_joined_136 : decode cX1_joined 136 = .ok (.lload_n 3, 1) := by decide +kernel
theorem dX1_joined_137 : decode cX1_joined 137 = .ok (.lor, 1) := by decide +kernel
theorem dX1_joined_138 : decode cX1_joined 138 = .ok (.l2i, 1) := by decide +kernel
theorem dX1_joined_139 : decode cX1_joined 139 = .ok (.ireturn, 1) := by decide +kernel
theorem dX1_joined_140 : decode cX1_joined 140 = .ok (.lload 5, 2) := by decide +kernel
theorem dX1_joined_142 : decode cX1_joined 142 = .ok (.ldc2_w 22, 3) := by decide +kernel
theorem dX1_joined_145 : decode cX1_joined 145 = .ok (.lcmp, 1) := by decide +kernel
theorem dX1_joined_146 : decode cX1_joined 146 = .ok (.ifCond .le 9, 3) := by decide +kernel
theorem dX1_joined_149 : decode cX1_joined 149 = .ok (.ldc2_w 22, 3) := by decide +kernel
theorem dX1_joined_152 : decode cX1_joined 152 = .ok (.goto 20, 3) := by decide +kernel
theorem dX1_joined_155 : decode cX1_joined 155 = .ok (.lload 5, 2) := by decide +kernel
theorem dX1_joined_157 : decode cX1_joined 157 = .ok (.ldc2_w 24, 3) := by decide +kernel
theorem dX1_joined_160 : decode cX1_joined 160 = .ok (.lcmp, 1) := by decide +kernel
theorem dX1_joined_161 : decode cX1_joined 161 = .ok (.ifCond .ge 9, 3) := by decide +kernel
theorem dX1_joined_164 : decode cX1_joined 164 = .ok (.ldc2_w 24, 3) := by decide +kernel
theorem dX1_joined_167 : decode cX1_joined 167 = .ok (.goto 5, 3) := by decide +kernel
theorem dX1_joined_170 : decode cX1_joined 170 = .ok (.lload 5, 2) := by decide +kernel
theorem dX1_joined_172 : decode cX1_joined 172 = .ok (.l2i, 1) := by decide +kernel
theorem dX1_joined_173 : decode cX1_joined 173 = .ok (.ireturn, 1) := by decide +kernel
noncomputable def kX1_joined : Nat → Op := (nodeC 106 (nodeC 73 (nodeC 57 (nodeC 4 (nodeC 1 (nodeC 0 (leafC 0 (o_lc (0) 1)) (leafC 1 (o_ls 5 3))) (nodeC 3 (leafC 3 (o_il 0 4)) (leafC 4 (o_sw [(-17, 130), (-16, 118), (-15, 106), (-14, 94), (-13, 76), (-12, 68), (-11, 60), (-10, 52)] 135)))) (nodeC 53 (nodeC 52 (leafC 52 (o_ll 1 53)) (leafC 53 (o_ll 3 54))) (nodeC 54 (leafC 54 (o_ladd 55)) (nodeC 55 (leafC 55 (o_ls 5 57)) (leafC 57 (o_goto 140)))))) (nodeC 65 (nodeC 61 (nodeC 60 (leafC 60 (o_ll 1 61)) (leafC 61 (o_ll 3 62))) (nodeC 62 (leafC 62 (o_lsub 63)) (nodeC 63 (leafC 63 (o_ls 5 65)) (leafC 65 (o_goto 140))))) (nodeC 69 (nodeC 68 (leafC 68 (o_ll 1 69)) (leafC 69 (o_ll 3 70))) (nodeC 70 (leafC 70 (o_lmul 71)) (nodeC 71 (leafC 71 (o_ls 5 73)) (leafC 73 (o_goto 140))))))) (nodeC 89 (nodeC 82 (nodeC 77 (nodeC 76 (leafC 76 (o_ll 3 77)) (leafC 77 (o_lc (0) 78))) (nodeC 78 (leafC 78 (o_lcmp 79)) (nodeC 79 (leafC 79 (o_zne 86 82)) (leafC 82 (o_lc (0) 83))))) (nodeC 86 (nodeC 83 (leafC 83 (o_goto 89)) (leafC 86 (o_ll 1 87))) (nodeC 87 (leafC 87 (o_ll 3 88)) (nodeC 88 (leafC 88 (o_ldiv 89)) (leafC 89 (o_ls 5 91)))))) (nodeC 97 (nodeC 94 (nodeC 91 (leafC 91 (o_goto 140)) (leafC 94 (o_ll 1 95))) (nodeC 95 (leafC 95 (o_ll 3 96)) (nodeC 96 (leafC 96 (o_lcmp 97)) (leafC 97 (o_zne 104 100))))) (nodeC 101 (nodeC 100 (leafC 100 (o_ic (1) 101)) (leafC 101 (o_goto 105))) (nodeC 104 (leafC 104 (o_ic (0) 105)) (nodeC 105 (leafC 105 (o_iret)) (leafC 106 (o_ll 1 107)))))))) (nodeC 134 (nodeC 120 (nodeC 113 (nodeC 108 (nodeC 107 (leafC 107 (o_ll 3 108)) (leafC 108 (o_lcmp 109))) (nodeC 109 (leafC 109 (o_zge 116 112)) (nodeC 112 (leafC 112 (o_ic (1) 113)) (leafC 113 (o_goto 117))))) (nodeC 117 (nodeC 116 (leafC 116 (o_ic (0) 117)) (leafC 117 (o_iret))) (nodeC 118 (leafC 118 (o_ll 1 119)) (nodeC 119 (leafC 119 (o_ll 3 120)) (leafC 120 (o_lcmp 121)))))) (nodeC 129 (nodeC 124 (nodeC 121 (leafC 121 (o_zle 128 124)) (leafC 124 (o_ic (1) 125))) (nodeC 125 (leafC 125 (o_goto 129)) (nodeC 128 (leafC 128 (o_ic (0) 129)) (leafC 129 (o_iret))))) (nodeC 131 (nodeC 130 (leafC 130 (o_ll 1 131)) (leafC 131 (o_ll 3 132))) (nodeC 132 (leafC 132 (o_land 133)) (nodeC 133 (leafC 133 (o_l2i 134)) (leafC 134 (o_iret))))))) (nodeC 149 (nodeC 139 (nodeC 136 (nodeC 135 (leafC 135 (o_ll 1 136)) (leafC 136 (o_ll 3 137))) (nodeC 137 (leafC 137 (o_lor 138)) (nodeC 138 (leafC 138 (o_l2i 139)) (leafC 139 (o_iret))))) (nodeC 142 (nodeC 140 (leafC 140 (o_ll 5 142)) (leafC 142 (o_lc (1000000) 145))) (nodeC 145 (leafC 145 (o_lcmp 146)) (nodeC 146 (leafC 146 (o_zle 155 149)) (leafC 149 (o_lc (1000000) 152)))))) (nodeC 161 (nodeC 155 (nodeC 152 (leafC 152 (o_goto 172)) (leafC 155 (o_ll 5 157))) (nodeC 157 (leafC 157 (o_lc (-1000000) 160)) (nodeC 160 (leafC 160 (o_lcmp 161)) (leafC 161 (o_zge 170 164))))) (nodeC 167 (nodeC 164 (leafC 164 (o_lc (-1000000) 167)) (leafC 167 (o_goto 172))) (nodeC 170 (leafC 170 (o_ll 5 172)) (nodeC 172 (leafC 172 (o_l2i 173)) (leafC 173 (o_iret)))))))))
theorem sX1_joined : ∀ pc, SoundOp cX1_joined RX1 7 (some .int) false 0 0 pc (kX1_joined pc) := (so_node (so_node (so_node (so_node (so_node (so_node (so_leaf (so_lconst dX1_joined_0 (by decide))) (so_leaf (so_lstore dX1_joined_1 (by decide)))) (so_node (so_leaf (so_iload_n dX1_joined_3 rfl)) (so_leaf (so_table dX1_joined_4 (by decide) (by decide) (by decide) (by decide))))) (so_node (so_node (so_leaf (so_lload_n dX1_joined_52 rfl)) (so_leaf (so_lload_n dX1_joined_53 rfl))) (so_node (so_leaf (so_ladd dX1_joined_54)) (so_node (so_leaf (so_lstore dX1_joined_55 (by decide))) (so_leaf (so_goto dX1_joined_57 (by decide))))))) (so_node (so_node (so_node (so_leaf (so_lload_n dX1_joined_60 rfl)) (so_leaf (so_lload_n dX1_joined_61 rfl))) (so_node (so_leaf (so_lsub dX1_joined_62)) (so_node (so_leaf (so_lstore dX1_joined_63 (by decide))) (so_leaf (so_goto dX1_joined_65 (by decide)))))) (so_node (so_node (so_leaf (so_lload_n dX1_joined_68 rfl)) (so_leaf (so_lload_n dX1_joined_69 rfl))) (so_node (so_leaf (so_lmul dX1_joined_70)) (so_node (so_leaf (so_lstore dX1_joined_71 (by decide))) (so_leaf (so_goto dX1_joined_73 (by decide)))))))) (so_node (so_node (so_node (so_node (so_leaf (so_lload_n dX1_joined_76 rfl)) (so_leaf (so_lconst dX1_joined_77 (by decide)))) (so_node (so_leaf (so_lcmp dX1_joined_78)) (so_node (so_leaf (so_zne dX1_joined_79 (by decide))) (so_leaf (so_lconst dX1_joined_82 (by decide)))))) (so_node (so_node (so_leaf (so_goto dX1_joined_83 (by decide))) (so_leaf (so_lload_n dX1_joined_86 rfl))) (so_node (so_leaf (so_lload_n dX1_joined_87 rfl)) (so_node (so_leaf (so_ldiv dX1_joined_88)) (so_leaf (so_lstore dX1_joined_89 (by decide))))))) (so_node (so_node (so_node (so_leaf (so_goto dX1_joined_91 (by decide))) (so_leaf (so_lload_n dX1_joined_94 rfl))) (so_node (so_leaf (so_lload_n dX1_joined_95 rfl)) (so_node (so_leaf (so_lcmp dX1_joined_96)) (so_leaf (so_zne dX1_joined_97 (by decide)))))) (so_node (so_node (so_leaf (so_iconst dX1_joined_100 (by decide))) (so_leaf (so_goto dX1_joined_101 (by decide)))) (so_node (so_leaf (so_iconst dX1_joined_104 (by decide))) (so_node (so_leaf (so_iret dX1_joined_105 rfl)) (so_leaf (so_lload_n dX1_joined_106 rfl)))))))) (so_node (so_node (so_node (so_node (so_node (so_leaf (so_lload_n dX1_joined_107 rfl)) (so_leaf (so_lcmp dX1_joined_108))) (so_node (so_leaf (so_zge dX1_joined_109 (by decide))) (so_node (so_leaf (so_iconst dX1_joined_112 (by decide))) (so_leaf (so_goto dX1_joined_113 (by decide)))))) (so_node (so_node (so_leaf (so_iconst dX1_joined_116 (by decide))) (so_leaf (so_iret dX1_joined_117 rfl))) (so_node (so_leaf (so_lload_n dX1_joined_118 rfl)) (so_node (so_leaf (so_lload_n dX1_joined_119 rfl)) (so_leaf (so_lcmp dX1_joined_120)))))) (so_node (so_node (so_node (so_leaf (so_zle dX1_joined_121 (by decide))) (so_leaf (so_iconst dX1_joined_124 (by decide)))) (so_node (so_leaf (so_goto dX1_joined_125 (by decide))) (so_node (so_leaf (so_iconst dX1_joined_128 (by decide))) (so_leaf (so_iret dX1_joined_129 rfl))))) (so_node (so_node (so_leaf (so_lload_n dX1_joined_130 rfl)) (so_leaf (so_lload_n dX1_joined_131 rfl))) (so_node (so_leaf (so_land dX1_joined_132)) (so_node (so_leaf (so_l2i dX1_joined_133)) (so_leaf (so_iret dX1_joined_134 rfl))))))) (so_node (so_node (so_node (so_node (so_leaf (so_lload_n dX1_joined_135 rfl)) (so_leaf (so_lload_n dX1_joined_136 rfl))) (so_node (so_leaf (so_lor dX1_joined_137)) (so_node (so_leaf (so_l2i dX1_joined_138)) (so_leaf (so_iret dX1_joined_139 rfl))))) (so_node (so_node (so_leaf (so_lload dX1_joined_140)) (so_leaf (so_ldc2 wk_RX1_22 dX1_joined_142))) (so_node (so_leaf (so_lcmp dX1_joined_145)) (so_node (so_leaf (so_zle dX1_joined_146 (by decide))) (so_leaf (so_ldc2 wk_RX1_22 dX1_joined_149)))))) (so_node (so_node (so_node (so_leaf (so_goto dX1_joined_152 (by decide))) (so_leaf (so_lload dX1_joined_155))) (so_node (so_leaf (so_ldc2 wk_RX1_24 dX1_joined_157)) (so_node (so_leaf (so_lcmp dX1_joined_160)) (so_leaf (so_zge dX1_joined_161 (by decide)))))) (so_node (so_node (so_leaf (so_ldc2 wk_RX1_24 dX1_joined_164)) (so_leaf (so_goto dX1_joined_167 (by decide)))) (so_node (so_leaf (so_lload dX1_joined_170)) (so_node (so_leaf (so_l2i dX1_joined_172)) (so_leaf (so_iret dX1_joined_173 rfl)))))))))
theorem pX1_joined : ∀ pc, Pr (kX1_joined pc) := (pr_node (pr_node (pr_node (pr_node (pr_node (pr_node (pr_leaf (pr_lc _ _)) (pr_leaf (pr_ls _ _))) (pr_node (pr_leaf (pr_il _ _)) (pr_leaf (pr_sw _ _)))) (pr_node (pr_node (pr_leaf (pr_ll _ _)) (pr_leaf (pr_ll _ _))) (pr_node (pr_leaf (pr_ladd _)) (pr_node (pr_leaf (pr_ls _ _)) (pr_leaf (pr_goto _)))))) (pr_node (pr_node (pr_node (pr_leaf (pr_ll _ _)) (pr_leaf (pr_ll _ _))) (pr_node (pr_leaf (pr_lsub _)) (pr_node (pr_leaf (pr_ls _ _)) (pr_leaf (pr_goto _))))) (pr_node (pr_node (pr_leaf (pr_ll _ _)) (pr_leaf (pr_ll _ _))) (pr_node (pr_leaf (pr_lmul _)) (pr_node (pr_leaf (pr_ls _ _)) (pr_leaf (pr_goto _))))))) (pr_node (pr_node (pr_node (pr_node (pr_leaf (pr_ll _ _)) (pr_leaf (pr_lc _ _))) (pr_node (pr_leaf (pr_lcmp _)) (pr_node (pr_leaf (pr_zne _ _)) (pr_leaf (pr_lc _ _))))) (pr_node (pr_node (pr_leaf (pr_goto _)) (pr_leaf (pr_ll _ _))) (pr_node (pr_leaf (pr_ll _ _)) (pr_node (pr_leaf (pr_ldiv _)) (pr_leaf (pr_ls _ _)))))) (pr_node (pr_node (pr_node (pr_leaf (pr_goto _)) (pr_leaf (pr_ll _ _))) (pr_node (pr_leaf (pr_ll _ _)) (pr_node (pr_leaf (pr_lcmp _)) (pr_leaf (pr_zne _ _))))) (pr_node (pr_node (pr_leaf (pr_ic _ _)) (pr_leaf (pr_goto _))) (pr_node (pr_leaf (pr_ic _ _)) (pr_node (pr_leaf (pr_iret)) (pr_leaf (pr_ll _ _)))))))) (pr_node (pr_node (pr_node (pr_node (pr_node (pr_leaf (pr_ll _ _)) (pr_leaf (pr_lcmp _))) (pr_node (pr_leaf (pr_zge _ _)) (pr_node (pr_leaf (pr_ic _ _)) (pr_leaf (pr_goto _))))) (pr_node (pr_node (pr_leaf (pr_ic _ _)) (pr_leaf (pr_iret))) (pr_node (pr_leaf (pr_ll _ _)) (pr_node (pr_leaf (pr_ll _ _)) (pr_leaf (pr_lcmp _)))))) (pr_node (pr_node (pr_node (pr_leaf (pr_zle _ _)) (pr_leaf (pr_ic _ _))) (pr_node (pr_leaf (pr_goto _)) (pr_node (pr_leaf (pr_ic _ _)) (pr_leaf (pr_iret))))) (pr_node (pr_node (pr_leaf (pr_ll _ _)) (pr_leaf (pr_ll _ _))) (pr_node (pr_leaf (pr_land _)) (pr_node (pr_leaf (pr_l2i _)) (pr_leaf (pr_iret))))))) (pr_node (pr_node (pr_node (pr_node (pr_leaf (pr_ll _ _)) (pr_leaf (pr_ll _ _))) (pr_node (pr_leaf (pr_lor _)) (pr_node (pr_leaf (pr_l2i _)) (pr_leaf (pr_iret))))) (pr_node (pr_node (pr_leaf (pr_ll _ _)) (pr_leaf (pr_lc _ _))) (pr_node (pr_leaf (pr_lcmp _)) (pr_node (pr_leaf (pr_zle _ _)) (pr_leaf (pr_lc _ _)))))) (pr_node (pr_node (pr_node (pr_leaf (pr_goto _)) (pr_leaf (pr_ll _ _))) (pr_node (pr_leaf (pr_lc _ _)) (pr_node (pr_leaf (pr_lcmp _)) (pr_leaf (pr_zge _ _))))) (pr_node (pr_node (pr_leaf (pr_lc _ _)) (pr_leaf (pr_goto _))) (pr_node (pr_leaf (pr_ll _ _)) (pr_node (pr_leaf (pr_l2i _)) (pr_leaf (pr_iret)))))))))
noncomputable def FX1_joined : List EV → Hp → Option (RV × Hp) := Fm kX1_joined 7
theorem CX1_joined : Con yX1_joined cX1_joined 7 (some .int) 0 0 FX1_joined := con_of (own := RX1) rfl (by decide +kernel) sX1_joined pX1_joined (fun z => by cases z)
theorem GX1_joined : Gr FX1_joined := Gr_Fm pX1_joined 7
theorem dX1_worth_0 : decode cX1_worth 0 = .ok (.iconst 0, 1) := by decide +kernel
theorem dX1_worth_1 : decode cX1_worth 1 = .ok (.istore_n 3, 1) := by decide +kernel
theorem dX1_worth_2 : decode cX1_worth 2 = .ok (.iconst 0, 1) := by decide +kernel
theorem dX1_worth_3 : decode cX1_worth 3 = .ok (.istore 4, 2) := by decide +kernel
theorem dX1_worth_5 : decode cX1_worth 5 = .ok (.iconst 0, 1) := by decide +kernel
theorem dX1_worth_6 : decode cX1_worth 6 = .ok (.istore 5, 2) := by decide +kernel
theorem dX1_worth_8 : decode cX1_worth 8 = .ok (.iload 5, 2) := by decide +kernel
theorem dX1_worth_10 : decode cX1_worth 10 = .ok (.aload_n 0, 1) := by decide +kernel
theorem dX1_worth_11 : decode cX1_worth 11 = .ok (.getfield 9, 3) := by decide +kernel
theorem dX1_worth_14 : decode cX1_worth 14 = .ok (.arraylength, 1) := by decide +kernel
theorem dX1_worth_15 : decode cX1_worth 15 = .ok (.if_icmp .ge 181, 3) := by decide +kernel
theorem dX1_worth_18 : decode cX1_worth 18 = .ok (.aload_n 0, 1) := by decide +kernel
theorem dX1_worth_19 : decode cX1_worth 19 = .ok (.getfield 9, 3) := by decide +kernel
theorem dX1_worth_22 : decode cX1_worth 22 = .ok (.iload 5, 2) := by decide +kernel
theorem dX1_worth_24 : decode cX1_worth 24 = .ok (.iaload, 1) := by decide +kernel
theorem dX1_worth_25 : decode cX1_worth 25 = .ok (.istore 6, 2) := by decide +kernel
theorem dX1_worth_27 : decode cX1_worth 27 = .ok (.iload 4, 2) := by decide +kernel
theorem dX1_worth_29 : decode cX1_worth 29 = .ok (.ifCond .eq 20, 3) := by decide +kernel
theorem dX1_worth_32 : decode cX1_worth 32 = .ok (.iload 6, 2) := by decide +kernel
theorem dX1_worth_34 : decode cX1_worth 34 = .ok (.bipush (-21), 2) := by decide +kernel
theorem dX1_worth_36 : decode cX1_worth 36 = .ok (.if_icmp .eq 7, 3) := by decide +kernel
theorem dX1_worth_39 : decode cX1_worth 39 = .ok (.iconst 1, 1) := by decide +kernel
theorem dX1_worth_40 : decode cX1_worth 40 = .ok (.goto 4, 3) := by decide +kernel
theorem dX1_worth_43 : decode cX1_worth 43 = .ok (.iconst 0, 1) := by decide +kernel
theorem dX1_worth_44 : decode cX1_worth 44 = .ok (.istore 4, 2) := by decide +kernel
theorem dX1_worth_46 : decode cX1_worth 46 = .ok (.goto 144, 3) := by decide +kernel
theorem dX1_worth_49 : decode cX1_worth 49 = .ok (.iload 6, 2) := by decide +kernel
theorem dX1_worth_51 : decode cX1_worth 51 = .ok (.bipush (-21), 2) := by decide +kernel
theorem dX1_worth_53 : decode cX1_worth 53 = .ok (.if_icmp .ne 7, 3) := by decide +kernel
theorem dX1_worth_56 : decode cX1_worth 56 = .ok (.aload_n 2, 1) := by decide +kernel
theorem dX1_worth_57 : decode cX1_worth 57 = .ok (.iconst 0, 1) := by decide +kernel
theorem dX1_worth_58 : decode cX1_worth 58 = .ok (.iaload, 1) := by decide +kernel
theorem dX1_worth_59 : decode cX1_worth 59 = .ok (.ireturn, 1) := by decide +kernel
theorem dX1_worth_60 : decode cX1_worth 60 = .ok (.iload 6, 2) := by decide +kernel
theorem dX1_worth_62 : decode cX1_worth 62 = .ok (.bipush (-20), 2) := by decide +kernel
theorem dX1_worth_64 : decode cX1_worth 64 = .ok (.if_icmp .ne 21, 3) := by decide +kernel
theorem dX1_worth_67 : decode cX1_worth 67 = .ok (.aload_n 2, 1) := by decide +kernel
theorem dX1_worth_68 : decode cX1_worth 68 = .ok (.iconst 0, 1) := by decide +kernel
theorem dX1_worth_69 : decode cX1_worth 69 = .ok (.iaload, 1) := by decide +kernel
theorem dX1_worth_70 : decode cX1_worth 70 = .ok (.ifCond .ne 7, 3) := by decide +kernel
theorem dX1_worth_73 : decode cX1_worth 73 = .ok (.iconst 1, 1) := by decide +kernel
theorem dX1_worth_74 : decode cX1_worth 74 = .ok (.goto 4, 3) := by decide +kernel
theorem dX1_worth_77 : decode cX1_worth 77 = .ok (.iconst 0, 1) := by decide +kernel
theorem dX1_worth_78 : decode cX1_worth 78 = .ok (.istore 4, 2) := by decide +kernel
theorem dX1_worth_80 : decode cX1_worth 80 = .ok (.iconst 0, 1) := by decide +kernel
theorem dX1_worth_81 : decode cX1_worth 81 = .ok (.istore_n 3, 1) := by decide +kernel
theorem dX1_worth_82 : decode cX1_worth 82 = .ok (.goto 108, 3) := by decide +kernel
theorem dX1_worth_85 : decode cX1_worth 85 = .ok (.iload 6, 2) := by decide +kernel
theorem dX1_worth_87 : decode cX1_worth 87 = .ok (.ifCond .lt 20, 3) := by decide +kernel
theorem dX1_worth_90 : decode cX1_worth 90 = .ok (.iload_n 3, 1) := by decide +kernel
theorem dX1_worth_91 : decode cX1_worth 91 = .ok (.aload_n 2, 1) := by decide +kernel
theorem dX1_worth_92 : decode cX1_worth 92 = .ok (.arraylength, 1) := by decide +kernel
theorem dX1_worth_93 : decode cX1_worth 93 = .ok (.if_icmp .ge 14, 3) := by decide +kernel
theorem dX1_worth_96 : decode cX1_worth 96 = .ok (.aload_n 2, 1) := by decide +kernel
theorem dX1_worth_97 : decode cX1_worth 97 = .ok (.iload_n 3, 1) := by decide +kernel
theorem dX1_worth_98 : decode cX1_worth 98 = .ok (.iload 6, 2) := by decide +kernel
theorem dX1_worth_100 : decode cX1_worth 100 = .ok (.iastore, 1) := by decide +kernel
theorem dX1_worth_101 : decode cX1_worth 101 = .ok (.iinc 3 1, 3) := by decide +kernel
theorem dX1_worth_104 : decode cX1_worth 104 = .ok (.goto 86, 3) := by decide +kernel
theorem dX1_worth_107 : decode cX1_worth 107 = .ok (.iload 6, 2) := by decide +kernel
theorem dX1_worth_109 : decode cX1_worth 109 = .ok (.bipush (-6), 2) := by decide +kernel
theorem dX1_worth_111 : decode cX1_worth 111 = .ok (.if_icmp .lt 24, 3) := by decide +kernel
theorem dX1_worth_114 : decode cX1_worth 114 = .ok (.iload_n 3, 1) := by decide +kernel
theorem dX1_worth_115 : decode cX1_worth 115 = .ok (.aload_n 2, 1) := by decide +kernel
theorem dX1_worth_116 : decode cX1_worth 116 = .ok (.arraylength, 1) := by decide +kernel
theorem dX1_worth_117 : decode cX1_worth 117 = .ok (.if_icmp .ge 18, 3) := by decide +kernel
theorem dX1_worth_120 : decode cX1_worth 120 = .ok (.aload_n 2, 1) := by decide +kernel
theorem dX1_worth_121 : decode cX1_worth 121 = .ok (.iload_n 3, 1) := by decide +kernel
theorem dX1_worth_122 : decode cX1_worth 122 = .ok (.aload_n 1, 1) := by decide +kernel
theorem dX1_worth_123 : decode cX1_worth 123 = .ok (.iconst (-1), 1) := by decide +kernel
theorem dX1_worth_124 : decode cX1_worth 124 = .ok (.iload 6, 2) := by decide +kernel
theorem dX1_worth_126 : decode cX1_worth 126 = .ok (.isub, 1) := by decide +kernel
theorem dX1_worth_127 : decode cX1_worth 127 = .ok (.iaload, 1) := by decide +kernel
theorem dX1_worth_128 : decode cX1_worth 128 = .ok (.iastore, 1) := by decide +kernel
theorem dX1_worth_129 : decode cX1_worth 129 = .ok (.iinc 3 1, 3) := by decide +kernel
theorem dX1_worth_132 : decode cX1_worth 132 = .ok (.goto 58, 3) := by decide +kernel
theorem dX1_worth_135 : decode cX1_worth 135 = .ok (.iload 6, 2) := by decide +kernel
theorem dX1_worth_137 : decode cX1_worth 137 = .ok (.bipush (-19), 2) := by decide +kernel
theorem dX1_worth_139 : decode cX1_worth 139 = .ok (.if_icmp .ne 23, 3) := by decide +kernel
theorem dX1_worth_142 : decode cX1_worth 142 = .ok (.iload_n 3, 1) := by decide +kernel
theorem dX1_worth_143 : decode cX1_worth 143 = .ok (.iconst 1, 1) := by decide +kernel
theorem dX1_worth_144 : decode cX1_worth 144 = .ok (.if_icmp .lt 18, 3) := by decide +kernel
theorem dX1_worth_147 : decode cX1_worth 147 = .ok (.aload_n 2, 1) := by decide +kernel
theorem dX1_worth_148 : decode cX1_worth 148 = .ok (.iload_n 3, 1) := by decide +kernel
theorem dX1_worth_149 : decode cX1_worth 149 = .ok (.iconst 1, 1) := by decide +kernel
theorem dX1_worth_150 : decode cX1_worth 150 = .ok (.isub, 1) := by decide +kernel
theorem dX1_worth_151 : decode cX1_worth 151 = .ok (.iconst 1, 1) := by decide +kernel
theorem dX1_worth_152 : decode cX1_worth 152 = .ok (.aload_n 2, 1) := by decide +kernel
theorem dX1_worth_153 : decode cX1_worth 153 = .ok (.iload_n 3, 1) := by decide +kernel
theorem dX1_worth_154 : decode cX1_worth 154 = .ok (.iconst 1, 1) := by decide +kernel
theorem dX1_worth_155 : decode cX1_worth 155 = .ok (.isub, 1) := by decide +kernel
theorem dX1_worth_156 : decode cX1_worth 156 = .ok (.iaload, 1) := by decide +kernel
theorem dX1_worth_157 : decode cX1_worth 157 = .ok (.isub, 1) := by decide +kernel
theorem dX1_worth_158 : decode cX1_worth 158 = .ok (.iastore, 1) := by decide +kernel
theorem dX1_worth_159 : decode cX1_worth 159 = .ok (.goto 31, 3) := by decide +kernel
theorem dX1_worth_162 : decode cX1_worth 162 = .ok (.iload_n 3, 1) := by decide +kernel
theorem dX1_worth_163 : decode cX1_worth 163 = .ok (.iconst 2, 1) := by decide +kernel
theorem dX1_worth_164 : decode cX1_worth 164 = .ok (.if_icmp .lt 26, 3) := by decide +kernel
theorem dX1_worth_167 : decode cX1_worth 167 = .ok (.iinc 3 (-1), 3) := by decide +kernel
theorem dX1_worth_170 : decode cX1_worth 170 = .ok (.aload_n 2, 1) := by decide +kernel
theorem dX1_worth_171 : decode cX1_worth 171 = .ok (.iload_n 3, 1) := by decide +kernel
theorem dX1_worth_172 : decode cX1_worth 172 = .ok (.iconst 1, 1) := by decide +kernel
theorem dX1_worth_173 : decode cX1_worth 173 = .ok (.isub, 1) := by decide +kernel
theorem dX1_worth_174 : decode cX1_worth 174 = .ok (.iload 6, 2) := by decide +kernel
theorem dX1_worth_176 : decode cX1_worth 176 = .ok (.aload_n 2, 1) := by decide +kernel
theorem dX1_worth_177 : decode cX1_worth 177 = .ok (.iload_n 3, 1) := by decide +kernel
theorem dX1_worth_178 : decode cX1_worth 178 = .ok (.iconst 1, 1) := by decide +kernel
theorem dX1_worth_179 : decode cX1_worth 179 = .ok (.isub, 1) := by decide +kernel
theorem dX1_worth_180 : decode cX1_worth 180 = .ok (.iaload, 1) := by decide +kernel
theorem dX1_worth_181 : decode cX1_worth 181 = .ok (.i2l, 1) := by decide +kernel
theorem dX1_worth_182 : decode cX1_worth 182 = .ok (.aload_n 2, 1) := by decide +kernel
theorem dX1_worth_183 : decode cX1_worth 183 = .ok (.iload_n 3, 1) := by decide +kernel
theorem dX1_worth_184 : decode cX1_worth 184 = .ok (.iaload, 1) := by decide +kernel
theorem dX1_worth_185 : decode cX1_worth 185 = .ok (.i2l, 1) := by decide +kernel
theorem dX1_worth_186 : decode cX1_worth 186 = .ok (.invokestatic 18, 3) := by decide +kernel
theorem dX1_worth_189 : decode cX1_worth 189 = .ok (.iastore, 1) := by decide +kernel
theorem dX1_worth_190 : decode cX1_worth 190 = .ok (.iinc 5 1, 3) := by decide +kernel
theorem dX1_worth_193 : decode cX1_worth 193 = .ok (.goto (-185), 3) := by decide +kernel
theorem dX1_worth_196 : decode cX1_worth 196 = .ok (.iconst 0, 1) := by decide +kernel
theorem dX1_worth_197 : decode cX1_worth 197 = .ok (.ireturn, 1) := by decide +kernel
noncomputable def kX1_worth : Nat → Op := (nodeC 107 (nodeC 56 (nodeC 24 (nodeC 8 (nodeC 2 (nodeC 0 (leafC 0 (o_ic (0) 1)) (nodeC 1 (leafC 1 (o_is 3 2)) (leafC 2 (o_ic (0) 3)))) (nodeC 5 (nodeC 3 (leafC 3 (o_is 4 5)) (leafC 5 (o_ic (0) 6))) (nodeC 6 (leafC 6 (o_is 5 8)) (leafC 8 (o_mask [6] (o_il 5 10)))))) (nodeC 15 (nodeC 11 (nodeC 10 (leafC 10 (o_al 0 11)) (leafC 11 (o_gR 1 0 14))) (nodeC 14 (leafC 14 (o_alen 15)) (leafC 15 (o_cge 196 18)))) (nodeC 19 (nodeC 18 (leafC 18 (o_al 0 19)) (leafC 19 (o_gR 1 0 22))) (nodeC 22 (leafC 22 (o_il 5 24)) (leafC 24 (o_iald 25)))))) (nodeC 39 (nodeC 29 (nodeC 25 (leafC 25 (o_is 6 27)) (nodeC 27 (leafC 27 (o_il 4 29)) (leafC 29 (o_zeq 49 32)))) (nodeC 34 (nodeC 32 (leafC 32 (o_il 6 34)) (leafC 34 (o_ic (-21) 36))) (nodeC 36 (leafC 36 (o_ceq 43 39)) (leafC 39 (o_ic (1) 40))))) (nodeC 46 (nodeC 43 (nodeC 40 (leafC 40 (o_goto 44)) (leafC 43 (o_ic (0) 44))) (nodeC 44 (leafC 44 (o_is 4 46)) (leafC 46 (o_goto 190)))) (nodeC 51 (nodeC 49 (leafC 49 (o_il 6 51)) (leafC 51 (o_ic (-21) 53))) (nodeC 53 (leafC 53 (o_cne 60 56)) (leafC 56 (o_al 2 57))))))) (nodeC 80 (nodeC 67 (nodeC 59 (nodeC 57 (leafC 57 (o_ic (0) 58)) (nodeC 58 (leafC 58 (o_iald 59)) (leafC 59 (o_iret)))) (nodeC 62 (nodeC 60 (leafC 60 (o_il 6 62)) (leafC 62 (o_ic (-20) 64))) (nodeC 64 (leafC 64 (o_cne 85 67)) (leafC 67 (o_al 2 68))))) (nodeC 73 (nodeC 69 (nodeC 68 (leafC 68 (o_ic (0) 69)) (leafC 69 (o_iald 70))) (nodeC 70 (leafC 70 (o_zne 77 73)) (leafC 73 (o_ic (1) 74)))) (nodeC 77 (nodeC 74 (leafC 74 (o_goto 78)) (leafC 77 (o_ic (0) 78))) (nodeC 78 (leafC 78 (o_is 4 80)) (leafC 80 (o_ic (0) 81)))))) (nodeC 92 (nodeC 85 (nodeC 81 (leafC 81 (o_is 3 82)) (nodeC 82 (leafC 82 (o_goto 190)) (leafC 85 (o_il 6 87)))) (nodeC 90 (nodeC 87 (leafC 87 (o_zlt 107 90)) (leafC 90 (o_il 3 91))) (nodeC 91 (leafC 91 (o_al 2 92)) (leafC 92 (o_alen 93))))) (nodeC 98 (nodeC 96 (nodeC 93 (leafC 93 (o_cge 107 96)) (leafC 96 (o_al 2 97))) (nodeC 97 (leafC 97 (o_il 3 98)) (leafC 98 (o_il 6 100)))) (nodeC 101 (nodeC 100 (leafC 100 (o_iast 101)) (leafC 101 (o_inc 3 (1) 104))) (nodeC 104 (leafC 104 (o_goto 190)) (leafC 107 (o_il 6 109)))))))) (nodeC 154 (nodeC 129 (nodeC 120 (nodeC 114 (nodeC 109 (leafC 109 (o_ic (-6) 111)) (nodeC 111 (leafC 111 (o_clt 135 114)) (leafC 114 (o_il 3 115)))) (nodeC 116 (nodeC 115 (leafC 115 (o_al 2 116)) (leafC 116 (o_alen 117))) (nodeC 117 (leafC 117 (o_cge 135 120)) (leafC 120 (o_al 2 121))))) (nodeC 124 (nodeC 122 (nodeC 121 (leafC 121 (o_il 3 122)) (leafC 122 (o_al 1 123))) (nodeC 123 (leafC 123 (o_ic (-1) 124)) (leafC 124 (o_il 6 126)))) (nodeC 127 (nodeC 126 (leafC 126 (o_isub 127)) (leafC 127 (o_iald 128))) (nodeC 128 (leafC 128 (o_iast 129)) (leafC 129 (o_inc 3 (1) 132)))))) (nodeC 144 (nodeC 137 (nodeC 132 (leafC 132 (o_goto 190)) (nodeC 135 (leafC 135 (o_il 6 137)) (leafC 137 (o_ic (-19) 139)))) (nodeC 142 (nodeC 139 (leafC 139 (o_cne 162 142)) (leafC 142 (o_il 3 143))) (nodeC 143 (leafC 143 (o_ic (1) 144)) (leafC 144 (o_clt 162 147))))) (nodeC 150 (nodeC 148 (nodeC 147 (leafC 147 (o_al 2 148)) (leafC 148 (o_il 3 149))) (nodeC 149 (leafC 149 (o_ic (1) 150)) (leafC 150 (o_isub 151)))) (nodeC 152 (nodeC 151 (leafC 151 (o_ic (1) 152)) (leafC 152 (o_al 2 153))) (nodeC 153 (leafC 153 (o_il 3 154)) (leafC 154 (o_ic (1) 155))))))) (nodeC 176 (nodeC 163 (nodeC 157 (nodeC 155 (leafC 155 (o_isub 156)) (nodeC 156 (leafC 156 (o_iald 157)) (leafC 157 (o_isub 158)))) (nodeC 159 (nodeC 158 (leafC 158 (o_iast 159)) (leafC 159 (o_goto 190))) (nodeC 162 (leafC 162 (o_il 3 163)) (leafC 163 (o_ic (2) 164))))) (nodeC 171 (nodeC 167 (nodeC 164 (leafC 164 (o_clt 190 167)) (leafC 167 (o_inc 3 (-1) 170))) (nodeC 170 (leafC 170 (o_al 2 171)) (leafC 171 (o_il 3 172)))) (nodeC 173 (nodeC 172 (leafC 172 (o_ic (1) 173)) (leafC 173 (o_isub 174))) (nodeC 174 (leafC 174 (o_il 6 176)) (leafC 176 (o_al 2 177)))))) (nodeC 183 (nodeC 179 (nodeC 177 (leafC 177 (o_il 3 178)) (nodeC 178 (leafC 178 (o_ic (1) 179)) (leafC 179 (o_isub 180)))) (nodeC 181 (nodeC 180 (leafC 180 (o_iald 181)) (leafC 181 (o_i2l 182))) (nodeC 182 (leafC 182 (o_al 2 183)) (leafC 183 (o_il 3 184))))) (nodeC 189 (nodeC 185 (nodeC 184 (leafC 184 (o_iald 185)) (leafC 185 (o_i2l 186))) (nodeC 186 (leafC 186 (o_ist 3 1 FX1_joined 189)) (leafC 189 (o_iast 190)))) (nodeC 193 (nodeC 190 (leafC 190 (o_inc 5 (1) 193)) (leafC 193 (o_goto 8))) (nodeC 196 (leafC 196 (o_ic (0) 197)) (leafC 197 (o_iret)))))))))
theorem sX1_worth : ∀ pc, SoundOp cX1_worth RX1 7 (some .int) false 1 26 pc (kX1_worth pc) := (so_node (so_node (so_node (so_node (so_node (so_node (so_leaf (so_iconst dX1_worth_0 (by decide))) (so_node (so_leaf (so_istore_n dX1_worth_1 rfl (by decide))) (so_leaf (so_iconst dX1_worth_2 (by decide))))) (so_node (so_node (so_leaf (so_istore dX1_worth_3 (by decide))) (so_leaf (so_iconst dX1_worth_5 (by decide)))) (so_node (so_leaf (so_istore dX1_worth_6 (by decide))) (so_leaf (so_mask (so_iload dX1_worth_8)))))) (so_node (so_node (so_node (so_leaf (so_aload_n dX1_worth_10 rfl)) (so_leaf (so_gR (by decide) (by decide) wC1 wf_RX1_9 (fun _ _ _ => rfl) dX1_worth_11))) (so_node (so_leaf (so_alen dX1_worth_14)) (so_leaf (so_cge dX1_worth_15 (by decide))))) (so_node (so_node (so_leaf (so_aload_n dX1_worth_18 rfl)) (so_leaf (so_gR (by decide) (by decide) wC1 wf_RX1_9 (fun _ _ _ => rfl) dX1_worth_19))) (so_node (so_leaf (so_iload dX1_worth_22)) (so_leaf (so_iald dX1_worth_24)))))) (so_node (so_node (so_node (so_leaf (so_istore dX1_worth_25 (by decide))) (so_node (so_leaf (so_iload dX1_worth_27)) (so_leaf (so_zeq dX1_worth_29 (by decide))))) (so_node (so_node (so_leaf (so_iload dX1_worth_32)) (so_leaf (so_bipush dX1_worth_34 (by decide)))) (so_node (so_leaf (so_ceq dX1_worth_36 (by decide))) (so_leaf (so_iconst dX1_worth_39 (by decide)))))) (so_node (so_node (so_node (so_leaf (so_goto dX1_worth_40 (by decide))) (so_leaf (so_iconst dX1_worth_43 (by decide)))) (so_node (so_leaf (so_istore dX1_worth_44 (by decide))) (so_leaf (so_goto dX1_worth_46 (by decide))))) (so_node (so_node (so_leaf (so_iload dX1_worth_49)) (so_leaf (so_bipush dX1_worth_51 (by decide)))) (so_node (so_leaf (so_cne dX1_worth_53 (by decide))) (so_leaf (so_aload_n dX1_worth_56 rfl))))))) (so_node (so_node (so_node (so_node (so_leaf (so_iconst dX1_worth_57 (by decide))) (so_node (so_leaf (so_iald dX1_worth_58)) (so_leaf (so_iret dX1_worth_59 rfl)))) (so_node (so_node (so_leaf (so_iload dX1_worth_60)) (so_leaf (so_bipush dX1_worth_62 (by decide)))) (so_node (so_leaf (so_cne dX1_worth_64 (by decide))) (so_leaf (so_aload_n dX1_worth_67 rfl))))) (so_node (so_node (so_node (so_leaf (so_iconst dX1_worth_68 (by decide))) (so_leaf (so_iald dX1_worth_69))) (so_node (so_leaf (so_zne dX1_worth_70 (by decide))) (so_leaf (so_iconst dX1_worth_73 (by decide))))) (so_node (so_node (so_leaf (so_goto dX1_worth_74 (by decide))) (so_leaf (so_iconst dX1_worth_77 (by decide)))) (so_node (so_leaf (so_istore dX1_worth_78 (by decide))) (so_leaf (so_iconst dX1_worth_80 (by decide))))))) (so_node (so_node (so_node (so_leaf (so_istore_n dX1_worth_81 rfl (by decide))) (so_node (so_leaf (so_goto dX1_worth_82 (by decide))) (so_leaf (so_iload dX1_worth_85)))) (so_node (so_node (so_leaf (so_zlt dX1_worth_87 (by decide))) (so_leaf (so_iload_n dX1_worth_90 rfl))) (so_node (so_leaf (so_aload_n dX1_worth_91 rfl)) (so_leaf (so_alen dX1_worth_92))))) (so_node (so_node (so_node (so_leaf (so_cge dX1_worth_93 (by decide))) (so_leaf (so_aload_n dX1_worth_96 rfl))) (so_node (so_leaf (so_iload_n dX1_worth_97 rfl)) (so_leaf (so_iload dX1_worth_98)))) (so_node (so_node (so_leaf (so_iast dX1_worth_100)) (so_leaf (so_iinc dX1_worth_101 (by decide) (by decide)))) (so_node (so_leaf (so_goto dX1_worth_104 (by decide))) (so_leaf (so_iload dX1_worth_107)))))))) (so_node (so_node (so_node (so_node (so_node (so_leaf (so_bipush dX1_worth_109 (by decide))) (so_node (so_leaf (so_clt dX1_worth_111 (by decide))) (so_leaf (so_iload_n dX1_worth_114 rfl)))) (so_node (so_node (so_leaf (so_aload_n dX1_worth_115 rfl)) (so_leaf (so_alen dX1_worth_116))) (so_node (so_leaf (so_cge dX1_worth_117 (by decide))) (so_leaf (so_aload_n dX1_worth_120 rfl))))) (so_node (so_node (so_node (so_leaf (so_iload_n dX1_worth_121 rfl)) (so_leaf (so_aload_n dX1_worth_122 rfl))) (so_node (so_leaf (so_iconst dX1_worth_123 (by decide))) (so_leaf (so_iload dX1_worth_124)))) (so_node (so_node (so_leaf (so_isub dX1_worth_126)) (so_leaf (so_iald dX1_worth_127))) (so_node (so_leaf (so_iast dX1_worth_128)) (so_leaf (so_iinc dX1_worth_129 (by decide) (by decide))))))) (so_node (so_node (so_node (so_leaf (so_goto dX1_worth_132 (by decide))) (so_node (so_leaf (so_iload dX1_worth_135)) (so_leaf (so_bipush dX1_worth_137 (by decide))))) (so_node (so_node (so_leaf (so_cne dX1_worth_139 (by decide))) (so_leaf (so_iload_n dX1_worth_142 rfl))) (so_node (so_leaf (so_iconst dX1_worth_143 (by decide))) (so_leaf (so_clt dX1_worth_144 (by decide)))))) (so_node (so_node (so_node (so_leaf (so_aload_n dX1_worth_147 rfl)) (so_leaf (so_iload_n dX1_worth_148 rfl))) (so_node (so_leaf (so_iconst dX1_worth_149 (by decide))) (so_leaf (so_isub dX1_worth_150)))) (so_node (so_node (so_leaf (so_iconst dX1_worth_151 (by decide))) (so_leaf (so_aload_n dX1_worth_152 rfl))) (so_node (so_leaf (so_iload_n dX1_worth_153 rfl)) (so_leaf (so_iconst dX1_worth_154 (by decide)))))))) (so_node (so_node (so_node (so_node (so_leaf (so_isub dX1_worth_155)) (so_node (so_leaf (so_iald dX1_worth_156)) (so_leaf (so_isub dX1_worth_157)))) (so_node (so_node (so_leaf (so_iast dX1_worth_158)) (so_leaf (so_goto dX1_worth_159 (by decide)))) (so_node (so_leaf (so_iload_n dX1_worth_162 rfl)) (so_leaf (so_iconst dX1_worth_163 (by decide)))))) (so_node (so_node (so_node (so_leaf (so_clt dX1_worth_164 (by decide))) (so_leaf (so_iinc dX1_worth_167 (by decide) (by decide)))) (so_node (so_leaf (so_aload_n dX1_worth_170 rfl)) (so_leaf (so_iload_n dX1_worth_171 rfl)))) (so_node (so_node (so_leaf (so_iconst dX1_worth_172 (by decide))) (so_leaf (so_isub dX1_worth_173))) (so_node (so_leaf (so_iload dX1_worth_174)) (so_leaf (so_aload_n dX1_worth_176 rfl)))))) (so_node (so_node (so_node (so_leaf (so_iload_n dX1_worth_177 rfl)) (so_node (so_leaf (so_iconst dX1_worth_178 (by decide))) (so_leaf (so_isub dX1_worth_179)))) (so_node (so_node (so_leaf (so_iald dX1_worth_180)) (so_leaf (so_i2l dX1_worth_181))) (so_node (so_leaf (so_aload_n dX1_worth_182 rfl)) (so_leaf (so_iload_n dX1_worth_183 rfl))))) (so_node (so_node (so_node (so_leaf (so_iald dX1_worth_184)) (so_leaf (so_i2l dX1_worth_185))) (so_node (so_leaf (so_ist CX1_joined rfl wm_RX1_18 wst_X1_joined wny_X1_joined wc_X1_joined (by decide +kernel) (by decide) (by decide) dX1_worth_186)) (so_leaf (so_iast dX1_worth_189)))) (so_node (so_node (so_leaf (so_iinc dX1_worth_190 (by decide) (by decide))) (so_leaf (so_goto dX1_worth_193 (by decide)))) (so_node (so_leaf (so_iconst dX1_worth_196 (by decide))) (so_leaf (so_iret dX1_worth_197 rfl)))))))))
theorem pX1_worth : ∀ pc, Pr (kX1_worth pc) := (pr_node (pr_node (pr_node (pr_node (pr_node (pr_node (pr_leaf (pr_ic _ _)) (pr_node (pr_leaf (pr_is _ _)) (pr_leaf (pr_ic _ _)))) (pr_node (pr_node (pr_leaf (pr_is _ _)) (pr_leaf (pr_ic _ _))) (pr_node (pr_leaf (pr_is _ _)) (pr_leaf (pr_mask (pr_il _ _)))))) (pr_node (pr_node (pr_node (pr_leaf (pr_al _ _)) (pr_leaf (pr_gR _ _ _))) (pr_node (pr_leaf (pr_alen _)) (pr_leaf (pr_cge _ _)))) (pr_node (pr_node (pr_leaf (pr_al _ _)) (pr_leaf (pr_gR _ _ _))) (pr_node (pr_leaf (pr_il _ _)) (pr_leaf (pr_iald _)))))) (pr_node (pr_node (pr_node (pr_leaf (pr_is _ _)) (pr_node (pr_leaf (pr_il _ _)) (pr_leaf (pr_zeq _ _)))) (pr_node (pr_node (pr_leaf (pr_il _ _)) (pr_leaf (pr_ic _ _))) (pr_node (pr_leaf (pr_ceq _ _)) (pr_leaf (pr_ic _ _))))) (pr_node (pr_node (pr_node (pr_leaf (pr_goto _)) (pr_leaf (pr_ic _ _))) (pr_node (pr_leaf (pr_is _ _)) (pr_leaf (pr_goto _)))) (pr_node (pr_node (pr_leaf (pr_il _ _)) (pr_leaf (pr_ic _ _))) (pr_node (pr_leaf (pr_cne _ _)) (pr_leaf (pr_al _ _))))))) (pr_node (pr_node (pr_node (pr_node (pr_leaf (pr_ic _ _)) (pr_node (pr_leaf (pr_iald _)) (pr_leaf (pr_iret)))) (pr_node (pr_node (pr_leaf (pr_il _ _)) (pr_leaf (pr_ic _ _))) (pr_node (pr_leaf (pr_cne _ _)) (pr_leaf (pr_al _ _))))) (pr_node (pr_node (pr_node (pr_leaf (pr_ic _ _)) (pr_leaf (pr_iald _))) (pr_node (pr_leaf (pr_zne _ _)) (pr_leaf (pr_ic _ _)))) (pr_node (pr_node (pr_leaf (pr_goto _)) (pr_leaf (pr_ic _ _))) (pr_node (pr_leaf (pr_is _ _)) (pr_leaf (pr_ic _ _)))))) (pr_node (pr_node (pr_node (pr_leaf (pr_is _ _)) (pr_node (pr_leaf (pr_goto _)) (pr_leaf (pr_il _ _)))) (pr_node (pr_node (pr_leaf (pr_zlt _ _)) (pr_leaf (pr_il _ _))) (pr_node (pr_leaf (pr_al _ _)) (pr_leaf (pr_alen _))))) (pr_node (pr_node (pr_node (pr_leaf (pr_cge _ _)) (pr_leaf (pr_al _ _))) (pr_node (pr_leaf (pr_il _ _)) (pr_leaf (pr_il _ _)))) (pr_node (pr_node (pr_leaf (pr_iast _)) (pr_leaf (pr_inc _ _ _))) (pr_node (pr_leaf (pr_goto _)) (pr_leaf (pr_il _ _)))))))) (pr_node (pr_node (pr_node (pr_node (pr_node (pr_leaf (pr_ic _ _)) (pr_node (pr_leaf (pr_clt _ _)) (pr_leaf (pr_il _ _)))) (pr_node (pr_node (pr_leaf (pr_al _ _)) (pr_leaf (pr_alen _))) (pr_node (pr_leaf (pr_cge _ _)) (pr_leaf (pr_al _ _))))) (pr_node (pr_node (pr_node (pr_leaf (pr_il _ _)) (pr_leaf (pr_al _ _))) (pr_node (pr_leaf (pr_ic _ _)) (pr_leaf (pr_il _ _)))) (pr_node (pr_node (pr_leaf (pr_isub _)) (pr_leaf (pr_iald _))) (pr_node (pr_leaf (pr_iast _)) (pr_leaf (pr_inc _ _ _)))))) (pr_node (pr_node (pr_node (pr_leaf (pr_goto _)) (pr_node (pr_leaf (pr_il _ _)) (pr_leaf (pr_ic _ _)))) (pr_node (pr_node (pr_leaf (pr_cne _ _)) (pr_leaf (pr_il _ _))) (pr_node (pr_leaf (pr_ic _ _)) (pr_leaf (pr_clt _ _))))) (pr_node (pr_node (pr_node (pr_leaf (pr_al _ _)) (pr_leaf (pr_il _ _))) (pr_node (pr_leaf (pr_ic _ _)) (pr_leaf (pr_isub _)))) (pr_node (pr_node (pr_leaf (pr_ic _ _)) (pr_leaf (pr_al _ _))) (pr_node (pr_leaf (pr_il _ _)) (pr_leaf (pr_ic _ _))))))) (pr_node (pr_node (pr_node (pr_node (pr_leaf (pr_isub _)) (pr_node (pr_leaf (pr_iald _)) (pr_leaf (pr_isub _)))) (pr_node (pr_node (pr_leaf (pr_iast _)) (pr_leaf (pr_goto _))) (pr_node (pr_leaf (pr_il _ _)) (pr_leaf (pr_ic _ _))))) (pr_node (pr_node (pr_node (pr_leaf (pr_clt _ _)) (pr_leaf (pr_inc _ _ _))) (pr_node (pr_leaf (pr_al _ _)) (pr_leaf (pr_il _ _)))) (pr_node (pr_node (pr_leaf (pr_ic _ _)) (pr_leaf (pr_isub _))) (pr_node (pr_leaf (pr_il _ _)) (pr_leaf (pr_al _ _)))))) (pr_node (pr_node (pr_node (pr_leaf (pr_il _ _)) (pr_node (pr_leaf (pr_ic _ _)) (pr_leaf (pr_isub _)))) (pr_node (pr_node (pr_leaf (pr_iald _)) (pr_leaf (pr_i2l _))) (pr_node (pr_leaf (pr_al _ _)) (pr_leaf (pr_il _ _))))) (pr_node (pr_node (pr_node (pr_leaf (pr_iald _)) (pr_leaf (pr_i2l _))) (pr_node (pr_leaf (pr_ist _ _ GX1_joined _)) (pr_leaf (pr_iast _)))) (pr_node (pr_node (pr_leaf (pr_inc _ _ _)) (pr_leaf (pr_goto _))) (pr_node (pr_leaf (pr_ic _ _)) (pr_leaf (pr_iret)))))))))
noncomputable def FX1_worth : List EV → Hp → Option (RV × Hp) := Fm kX1_worth 7
theorem CX1_worth : Con yX1_worth cX1_worth 7 (some .int) 1 26 FX1_worth := con_of (own := RX1) rfl (by decide +kernel) sX1_worth pX1_worth (fun z => by cases z)
theorem GX1_worth : Gr FX1_worth := Gr_Fm pX1_worth 7
theorem dX2_init_0 : decode cX2_init 0 = .ok (.aload_n 0, 1) := by decide +kernel
theorem dX2_init_1 : decode cX2_init 1 = .ok (.invokespecial 3, 3) := by decide +kernel
theorem dX2_init_4 : decode cX2_init 4 = .ok (.aload_n 0, 1) := by decide +kernel
theorem dX2_init_5 : decode cX2_init 5 = .ok (.sipush 240, 3) := by decide +kernel
theorem dX2_init_8 : decode cX2_init 8 = .ok (.newarray .int, 2) := by decide +kernel
theorem dX2_init_10 : decode cX2_init 10 = .ok (.putfield 9, 3) := by decide +kernel
theorem dX2_init_13 : decode cX2_init 13 = .ok (.aload_n 0, 1) := by decide +kernel
theorem dX2_init_14 : decode cX2_init 14 = .ok (.aload_n 1, 1) := by decide +kernel
theorem dX2_init_15 : decode cX2_init 15 = .ok (.putfield 15, 3) := by decide +kernel
theorem dX2_init_18 : decode cX2_init 18 = .ok (.return_, 1) := by decide +kernel
noncomputable def kX2_init : Nat → Op := (nodeC 8 (nodeC 1 (nodeC 0 (leafC 0 (o_al 0 1)) (leafC 1 (o_oini 4))) (nodeC 4 (leafC 4 (o_al 0 5)) (nodeC 5 (leafC 5 (o_ic (240) 8)) (leafC 8 (o_newa 20 10))))) (nodeC 13 (nodeC 10 (leafC 10 (o_pR 2 1 13)) (leafC 13 (o_al 0 14))) (nodeC 14 (leafC 14 (o_al 1 15)) (nodeC 15 (leafC 15 (o_pR 2 0 18)) (leafC 18 (o_vret))))))
theorem sX2_init : ∀ pc, SoundOp cX2_init RX2 2 none true 1 20 pc (kX2_init pc) := (so_node (so_node (so_node (so_leaf (so_aload_n dX2_init_0 rfl)) (so_leaf (so_oini wm_RX2_3 wob1 wob2 (by decide) (by decide) dX2_init_1))) (so_node (so_leaf (so_aload_n dX2_init_4 rfl)) (so_node (so_leaf (so_sipush dX2_init_5 (by decide))) (so_leaf (so_newa (at' := .int) (t0 := 0) (Or.inl rfl) (fun _ => rfl) (fun _ _ z => z) rfl (by decide) wa_int dX2_init_8))))) (so_node (so_node (so_leaf (so_pR (by decide) (by decide) wC2 wf_RX2_9 (Or.inr ⟨rfl, rfl, rfl⟩) (Or.inr ⟨_, rfl⟩) dX2_init_10)) (so_leaf (so_aload_n dX2_init_13 rfl))) (so_node (so_leaf (so_aload_n dX2_init_14 rfl)) (so_node (so_leaf (so_pR (by decide) (by decide) wC2 wf_RX2_15 (Or.inr ⟨rfl, rfl, rfl⟩) (Or.inl ⟨_, rfl⟩) dX2_init_15)) (so_leaf (so_vret dX2_init_18 rfl))))))
theorem pX2_init : ∀ pc, Pr (kX2_init pc) := (pr_node (pr_node (pr_node (pr_leaf (pr_al _ _)) (pr_leaf (pr_oini _))) (pr_node (pr_leaf (pr_al _ _)) (pr_node (pr_leaf (pr_ic _ _)) (pr_leaf (pr_newa _ _))))) (pr_node (pr_node (pr_leaf (pr_pR _ _ _)) (pr_leaf (pr_al _ _))) (pr_node (pr_leaf (pr_al _ _)) (pr_node (pr_leaf (pr_pR _ _ _)) (pr_leaf (pr_vret))))))
noncomputable def FX2_init : List EV → Hp → Option (RV × Hp) := Fm kX2_init 2
theorem CX2_init : Con yX2_init cX2_init 2 none 1 20 FX2_init := con_of (own := RX2) rfl (by decide +kernel) sX2_init pX2_init (fun _ => rfl)
theorem GX2_init : Gr FX2_init := Gr_Fm pX2_init 2
theorem dX2_makeLaw_0 : decode cX2_makeLaw 0 = .ok (.new 19, 3) := by decide +kernel
theorem dX2_makeLaw_3 : decode cX2_makeLaw 3 = .ok (.dup, 1) := by decide +kernel
theorem dX2_makeLaw_4 : decode cX2_makeLaw 4 = .ok (.aload_n 0, 1) := by decide +kernel
theorem dX2_makeLaw_5 : decode cX2_makeLaw 5 = .ok (.getfield 9, 3) := by decide +kernel
theorem dX2_makeLaw_8 : decode cX2_makeLaw 8 = .ok (.aload_n 0, 1) := by decide +kernel
theorem dX2_makeLaw_9 : decode cX2_makeLaw 9 = .ok (.getfield 21, 3) := by decide +kernel
theorem dX2_makeLaw_12 : decode cX2_makeLaw 12 = .ok (.invokestatic 25, 3) := by decide +kernel
theorem dX2_makeLaw_15 : decode cX2_makeLaw 15 = .ok (.invokespecial 31, 3) := by decide +kernel
theorem dX2_makeLaw_18 : decode cX2_makeLaw 18 = .ok (.areturn, 1) := by decide +kernel
noncomputable def kX2_makeLaw : Nat → Op := (nodeC 5 (nodeC 3 (nodeC 0 (leafC 0 (o_new 1 3)) (leafC 3 (o_dupR 4))) (nodeC 4 (leafC 4 (o_al 0 5)) (leafC 5 (o_gR 2 1 8)))) (nodeC 9 (nodeC 8 (leafC 8 (o_al 0 9)) (leafC 9 (o_gI 2 2 12))) (nodeC 12 (leafC 12 (o_ist 2 3 FJ7_copyOf_59c91 15)) (nodeC 15 (leafC 15 (o_inv 1 1 0 FX1_init 18)) (leafC 18 (o_aret))))))
theorem sX2_makeLaw : ∀ pc, SoundOp cX2_makeLaw RX2 1 (some (.object "CraneCloth$Law")) false 2 82 pc (kX2_makeLaw pc) := (so_node (so_node (so_node (so_leaf (so_new (by decide) fd1 wC1 wl_RX2_19 wi_1 wn_1 dX2_makeLaw_0)) (so_leaf (so_dupR dX2_makeLaw_3))) (so_node (so_leaf (so_aload_n dX2_makeLaw_4 rfl)) (so_leaf (so_gR (by decide) (by decide) wC2 wf_RX2_9 (fun _ _ _ => rfl) dX2_makeLaw_5)))) (so_node (so_node (so_leaf (so_aload_n dX2_makeLaw_8 rfl)) (so_leaf (so_gI (by decide) (by decide) wC2 wf_RX2_21 (fun _ _ _ => rfl) dX2_makeLaw_9))) (so_node (so_leaf (so_ist CJ7_copyOf_59c91 rfl wm_RX2_25 wst_J7_copyOf_59c91 wny_J7_copyOf_59c91 wc_J7_copyOf_59c91 (by decide +kernel) (by decide) (by decide) dX2_makeLaw_12)) (so_node (so_leaf (so_ini CX1_init rfl wm_RX2_31 win_X1_init wny_X1_init wc_X1_init (by decide +kernel) (by decide) (by decide) dX2_makeLaw_15)) (so_leaf (so_aret dX2_makeLaw_18 rfl))))))
theorem pX2_makeLaw : ∀ pc, Pr (kX2_makeLaw pc) := (pr_node (pr_node (pr_node (pr_leaf (pr_new _ _)) (pr_leaf (pr_dupR _))) (pr_node (pr_leaf (pr_al _ _)) (pr_leaf (pr_gR _ _ _)))) (pr_node (pr_node (pr_leaf (pr_al _ _)) (pr_leaf (pr_gI _ _ _))) (pr_node (pr_leaf (pr_ist _ _ GJ7_copyOf_59c91 _)) (pr_node (pr_leaf (pr_inv _ _ _ GX1_init _)) (pr_leaf (pr_aret))))))
noncomputable def FX2_makeLaw : List EV → Hp → Option (RV × Hp) := Fm kX2_makeLaw 1
theorem CX2_makeLaw : Con yX2_makeLaw cX2_makeLaw 1 (some (.object "CraneCloth$Law")) 2 82 FX2_makeLaw := con_of (own := RX2) rfl (by decide +kernel) sX2_makeLaw pX2_makeLaw (fun z => by cases z)
theorem GX2_makeLaw : Gr FX2_makeLaw := Gr_Fm pX2_makeLaw 1
theorem dX2_emit_0 : decode cX2_emit 0 = .ok (.aload_n 0, 1) := by decide +kernel
theorem dX2_emit_1 : decode cX2_emit 1 = .ok (.getfield 21, 3) := by decide +kernel
theorem dX2_emit_4 : decode cX2_emit 4 = .ok (.aload_n 0, 1) := by decide +kernel
theorem dX2_emit_5 : decode cX2_emit 5 = .ok (.getfield 9, 3) := by decide +kernel
theorem dX2_emit_8 : decode cX2_emit 8 = .ok (.arraylength, 1) := by decide +kernel
theorem dX2_emit_9 : decode cX2_emit 9 = .ok (.if_icmp .ge 23, 3) := by decide +kernel
theorem dX2_emit_12 : decode cX2_emit 12 = .ok (.aload_n 0, 1) := by decide +kernel
theorem dX2_emit_13 : decode cX2_emit 13 = .ok (.getfield 9, 3) := by decide +kernel
theorem dX2_emit_16 : decode cX2_emit 16 = .ok (.aload_n 0, 1) := by decide +kernel
theorem dX2_emit_17 : decode cX2_emit 17 = .ok (.getfield 21, 3) := by decide +kernel
theorem dX2_emit_20 : decode cX2_emit 20 = .ok (.iload_n 1, 1) := by decide +kernel
theorem dX2_emit_21 : decode cX2_emit 21 = .ok (.iastore, 1) := by decide +kernel
theorem dX2_emit_22 : decode cX2_emit 22 = .ok (.aload_n 0, 1) := by decide +kernel
theorem dX2_emit_23 : decode cX2_emit 23 = .ok (.dup, 1) := by decide +kernel
theorem dX2_emit_24 : decode cX2_emit 24 = .ok (.getfield 21, 3) := by decide +kernel
theorem dX2_emit_27 : decode cX2_emit 27 = .ok (.iconst 1, 1) := by decide +kernel
theorem dX2_emit_28 : decode cX2_emit 28 = .ok (.iadd, 1) := by decide +kernel
theorem dX2_emit_29 : decode cX2_emit 29 = .ok (.putfield 21, 3) := by decide +kernel
theorem dX2_emit_32 : decode cX2_emit 32 = .ok (.return_, 1) := by decide +kernel
noncomputable def kX2_emit : Nat → Op := (nodeC 16 (nodeC 5 (nodeC 1 (nodeC 0 (leafC 0 (o_al 0 1)) (leafC 1 (o_gI 2 2 4))) (nodeC 4 (leafC 4 (o_al 0 5)) (leafC 5 (o_gR 2 1 8)))) (nodeC 9 (nodeC 8 (leafC 8 (o_alen 9)) (leafC 9 (o_cge 32 12))) (nodeC 12 (leafC 12 (o_al 0 13)) (nodeC 13 (leafC 13 (o_gR 2 1 16)) (leafC 16 (o_al 0 17)))))) (nodeC 23 (nodeC 20 (nodeC 17 (leafC 17 (o_gI 2 2 20)) (leafC 20 (o_il 1 21))) (nodeC 21 (leafC 21 (o_iast 22)) (nodeC 22 (leafC 22 (o_al 0 23)) (leafC 23 (o_dupR 24))))) (nodeC 27 (nodeC 24 (leafC 24 (o_gI 2 2 27)) (leafC 27 (o_ic (1) 28))) (nodeC 28 (leafC 28 (o_iadd 29)) (nodeC 29 (leafC 29 (o_pI 2 2 32)) (leafC 32 (o_vret)))))))
theorem sX2_emit : ∀ pc, SoundOp cX2_emit RX2 2 none false 0 0 pc (kX2_emit pc) := (so_node (so_node (so_node (so_node (so_leaf (so_aload_n dX2_emit_0 rfl)) (so_leaf (so_gI (by decide) (by decide) wC2 wf_RX2_21 (fun _ _ _ => rfl) dX2_emit_1))) (so_node (so_leaf (so_aload_n dX2_emit_4 rfl)) (so_leaf (so_gR (by decide) (by decide) wC2 wf_RX2_9 (fun _ _ _ => rfl) dX2_emit_5)))) (so_node (so_node (so_leaf (so_alen dX2_emit_8)) (so_leaf (so_cge dX2_emit_9 (by decide)))) (so_node (so_leaf (so_aload_n dX2_emit_12 rfl)) (so_node (so_leaf (so_gR (by decide) (by decide) wC2 wf_RX2_9 (fun _ _ _ => rfl) dX2_emit_13)) (so_leaf (so_aload_n dX2_emit_16 rfl)))))) (so_node (so_node (so_node (so_leaf (so_gI (by decide) (by decide) wC2 wf_RX2_21 (fun _ _ _ => rfl) dX2_emit_17)) (so_leaf (so_iload_n dX2_emit_20 rfl))) (so_node (so_leaf (so_iast dX2_emit_21)) (so_node (so_leaf (so_aload_n dX2_emit_22 rfl)) (so_leaf (so_dupR dX2_emit_23))))) (so_node (so_node (so_leaf (so_gI (by decide) (by decide) wC2 wf_RX2_21 (fun _ _ _ => rfl) dX2_emit_24)) (so_leaf (so_iconst dX2_emit_27 (by decide)))) (so_node (so_leaf (so_iadd dX2_emit_28)) (so_node (so_leaf (so_pI (by decide) (by decide) wC2 wf_RX2_21 (Or.inl rfl) rfl dX2_emit_29)) (so_leaf (so_vret dX2_emit_32 rfl)))))))
theorem pX2_emit : ∀ pc, Pr (kX2_emit pc) := (pr_node (pr_node (pr_node (pr_node (pr_leaf (pr_al _ _)) (pr_leaf (pr_gI _ _ _))) (pr_node (pr_leaf (pr_al _ _)) (pr_leaf (pr_gR _ _ _)))) (pr_node (pr_node (pr_leaf (pr_alen _)) (pr_leaf (pr_cge _ _))) (pr_node (pr_leaf (pr_al _ _)) (pr_node (pr_leaf (pr_gR _ _ _)) (pr_leaf (pr_al _ _)))))) (pr_node (pr_node (pr_node (pr_leaf (pr_gI _ _ _)) (pr_leaf (pr_il _ _))) (pr_node (pr_leaf (pr_iast _)) (pr_node (pr_leaf (pr_al _ _)) (pr_leaf (pr_dupR _))))) (pr_node (pr_node (pr_leaf (pr_gI _ _ _)) (pr_leaf (pr_ic _ _))) (pr_node (pr_leaf (pr_iadd _)) (pr_node (pr_leaf (pr_pI _ _ _)) (pr_leaf (pr_vret)))))))
noncomputable def FX2_emit : List EV → Hp → Option (RV × Hp) := Fm kX2_emit 2
theorem CX2_emit : Con yX2_emit cX2_emit 2 none 0 0 FX2_emit := con_of (own := RX2) rfl (by decide +kernel) sX2_emit pX2_emit (fun z => by cases z)
theorem GX2_emit : Gr FX2_emit := Gr_Fm pX2_emit 2
theorem dX2_opens_0 : decode cX2_opens 0 = .ok (.iload_n 1, 1) := by decide +kernel
theorem dX2_opens_1 : decode cX2_opens 1 = .ok (.bipush 6, 2) := by decide +kernel
theorem dX2_opens_3 : decode cX2_opens 3 = .ok (.if_icmp .lt 10, 3) := by decide +kernel
theorem dX2_opens_6 : decode cX2_opens 6 = .ok (.aload_n 0, 1) := by decide +kernel
theorem dX2_opens_7 : decode cX2_opens 7 = .ok (.getfield 15, 3) := by decide +kernel
theorem dX2_opens_10 : decode cX2_opens 10 = .ok (.invokevirtual 83, 3) := by decide +kernel
theorem dX2_opens_13 : decode cX2_opens 13 = .ok (.aload_n 0, 1) := by decide +kernel
theorem dX2_opens_14 : decode cX2_opens 14 = .ok (.getfield 15, 3) := by decide +kernel
theorem dX2_opens_17 : decode cX2_opens 17 = .ok (.invokevirtual 86, 3) := by decide +kernel
theorem dX2_opens_20 : decode cX2_opens 20 = .ok (.ireturn, 1) := by decide +kernel
noncomputable def kX2_opens : Nat → Op := (nodeC 7 (nodeC 1 (nodeC 0 (leafC 0 (o_il 1 1)) (leafC 1 (o_ic (6) 3))) (nodeC 3 (leafC 3 (o_clt 13 6)) (nodeC 6 (leafC 6 (o_al 0 7)) (leafC 7 (o_gR 2 0 10))))) (nodeC 13 (nodeC 10 (leafC 10 (o_inv 0 9 0 FX9_refuse 13)) (leafC 13 (o_al 0 14))) (nodeC 14 (leafC 14 (o_gR 2 0 17)) (nodeC 17 (leafC 17 (o_inv 0 9 1 FX9_skip 20)) (leafC 20 (o_zret))))))
theorem sX2_opens : ∀ pc, SoundOp cX2_opens RX2 2 (some .boolean) false 1 20 pc (kX2_opens pc) := (so_node (so_node (so_node (so_leaf (so_iload_n dX2_opens_0 rfl)) (so_leaf (so_bipush dX2_opens_1 (by decide)))) (so_node (so_leaf (so_clt dX2_opens_3 (by decide))) (so_node (so_leaf (so_aload_n dX2_opens_6 rfl)) (so_leaf (so_gR (by decide) (by decide) wC2 wf_RX2_15 (fun _ _ _ => rfl) dX2_opens_7))))) (so_node (so_node (so_leaf (so_inv CX9_refuse (by decide) rfl wm_RX2_83 win_X9_refuse wse_X9_refuse wn_9 wc_X9_refuse (by decide +kernel) (by decide) (by decide) dX2_opens_10)) (so_leaf (so_aload_n dX2_opens_13 rfl))) (so_node (so_leaf (so_gR (by decide) (by decide) wC2 wf_RX2_15 (fun _ _ _ => rfl) dX2_opens_14)) (so_node (so_leaf (so_inv CX9_skip (by decide) rfl wm_RX2_86 win_X9_skip wse_X9_skip wn_9 wc_X9_skip (by decide +kernel) (by decide) (by decide) dX2_opens_17)) (so_leaf (so_zret dX2_opens_20 rfl))))))
theorem pX2_opens : ∀ pc, Pr (kX2_opens pc) := (pr_node (pr_node (pr_node (pr_leaf (pr_il _ _)) (pr_leaf (pr_ic _ _))) (pr_node (pr_leaf (pr_clt _ _)) (pr_node (pr_leaf (pr_al _ _)) (pr_leaf (pr_gR _ _ _))))) (pr_node (pr_node (pr_leaf (pr_inv _ _ _ GX9_refuse _)) (pr_leaf (pr_al _ _))) (pr_node (pr_leaf (pr_gR _ _ _)) (pr_node (pr_leaf (pr_inv _ _ _ GX9_skip _)) (pr_leaf (pr_zret))))))
noncomputable def FX2_opens : List EV → Hp → Option (RV × Hp) := Fm kX2_opens 2
theorem CX2_opens : Con yX2_opens cX2_opens 2 (some .boolean) 1 20 FX2_opens := con_of (own := RX2) rfl (by decide +kernel) sX2_opens pX2_opens (fun z => by cases z)
theorem GX2_opens : Gr FX2_opens := Gr_Fm pX2_opens 2
theorem dX2_comparison_0 : decode cX2_comparison 0 = .ok (.iload_n 0, 1) := by decide +kernel
theorem dX2_comparison_1 : decode cX2_comparison 1 = .ok (.tableswitch 36 60 62 #[30, 27, 33], 27) := by decide +kernel
theorem dX2_comparison_28 : decode cX2_comparison 28 = .ok (.bipush (-14), 2) := by decide +kernel
theorem dX2_comparison_30 : decode cX2_comparison 30 = .ok (.ireturn, 1) := by decide +kernel
theorem dX2_comparison_31 : decode cX2_comparison 31 = .ok (.bipush (-15), 2) := by decide +kernel
theorem dX2_comparison_33 : decode cX2_comparison 33 = .ok (.ireturn, 1) := by decide +kernel
theorem dX2_comparison_34 : decode cX2_comparison 34 = .ok (.bipush (-16), 2) := by decide +kernel
theorem dX2_comparison_36 : decode cX2_comparison 36 = .ok (.ireturn, 1) := by decide +kernel
theorem dX2_comparison_37 : decode cX2_comparison 37 = .ok (.iconst (-1), 1) := by decide +kernel
theorem dX2_comparison_38 : decode cX2_comparison 38 = .ok (.ireturn, 1) := by decide +kernel
noncomputable def kX2_comparison : Nat → Op := (nodeC 31 (nodeC 1 (nodeC 0 (leafC 0 (o_il 0 1)) (leafC 1 (o_sw [(60, 31), (61, 28), (62, 34)] 37))) (nodeC 28 (leafC 28 (o_ic (-14) 30)) (nodeC 30 (leafC 30 (o_iret)) (leafC 31 (o_ic (-15) 33))))) (nodeC 34 (nodeC 33 (leafC 33 (o_iret)) (leafC 34 (o_ic (-16) 36))) (nodeC 36 (leafC 36 (o_iret)) (nodeC 37 (leafC 37 (o_ic (-1) 38)) (leafC 38 (o_iret))))))
theorem sX2_comparison : ∀ pc, SoundOp cX2_comparison RX2 1 (some .int) false 0 0 pc (kX2_comparison pc) := (so_node (so_node (so_node (so_leaf (so_iload_n dX2_comparison_0 rfl)) (so_leaf (so_table dX2_comparison_1 (by decide) (by decide) (by decide) (by decide)))) (so_node (so_leaf (so_bipush dX2_comparison_28 (by decide))) (so_node (so_leaf (so_iret dX2_comparison_30 rfl)) (so_leaf (so_bipush dX2_comparison_31 (by decide)))))) (so_node (so_node (so_leaf (so_iret dX2_comparison_33 rfl)) (so_leaf (so_bipush dX2_comparison_34 (by decide)))) (so_node (so_leaf (so_iret dX2_comparison_36 rfl)) (so_node (so_leaf (so_iconst dX2_comparison_37 (by decide))) (so_leaf (so_iret dX2_comparison_38 rfl))))))
theorem pX2_comparison : ∀ pc, Pr (kX2_comparison pc) := (pr_node (pr_node (pr_node (pr_leaf (pr_il _ _)) (pr_leaf (pr_sw _ _))) (pr_node (pr_leaf (pr_ic _ _)) (pr_node (pr_leaf (pr_iret)) (pr_leaf (pr_ic _ _))))) (pr_node (pr_node (pr_leaf (pr_iret)) (pr_leaf (pr_ic _ _))) (pr_node (pr_leaf (pr_iret)) (pr_node (pr_leaf (pr_ic _ _)) (pr_leaf (pr_iret))))))
noncomputable def FX2_comparison : List EV → Hp → Option (RV × Hp) := Fm kX2_comparison 1
theorem CX2_comparison : Con yX2_comparison cX2_comparison 1 (some .int) 0 0 FX2_comparison := con_of (own := RX2) rfl (by decide +kernel) sX2_comparison pX2_comparison (fun z => by cases z)
theorem GX2_comparison : Gr FX2_comparison := Gr_Fm pX2_comparison 1
theorem dX2_readCondition_0 : decode cX2_readCondition 0 = .ok (.aload_n 0, 1) := by decide +kernel
theorem dX2_readCondition_1 : decode cX2_readCondition 1 = .ok (.iload_n 1, 1) := by decide +kernel
theorem dX2_readCondition_2 : decode cX2_readCondition 2 = .ok (.iload_n 2, 1) := by decide +kernel
theorem dX2_readCondition_3 : decode cX2_readCondition 3 = .ok (.invokevirtual 74, 3) := by decide +kernel
theorem dX2_readCondition_6 : decode cX2_readCondition 6 = .ok (.iconst 0, 1) := by decide +kernel
theorem dX2_readCondition_7 : decode cX2_readCondition 7 = .ok (.istore_n 3, 1) := by decide +kernel
theorem dX2_readCondition_8 : decode cX2_readCondition 8 = .ok (.iload_n 3, 1) := by decide +kernel
theorem dX2_readCondition_9 : decode cX2_readCondition 9 = .ok (.sipush 240, 3) := by decide +kernel
theorem dX2_readCondition_12 : decode cX2_readCondition 12 = .ok (.if_icmp .ge 33, 3) := by decide +kernel
theorem dX2_readCondition_15 : decode cX2_readCondition 15 = .ok (.aload_n 0, 1) := by decide +kernel
theorem dX2_readCondition_16 : decode cX2_readCondition 16 = .ok (.getfield 15, 3) := by decide +kernel
theorem dX2_readCondition_19 : decode cX2_readCondition 19 = .ok (.bipush 124, 2) := by decide +kernel
theorem dX2_readCondition_21 : decode cX2_readCondition 21 = .ok (.invokevirtual 42, 3) := by decide +kernel
theorem dX2_readCondition_24 : decode cX2_readCondition 24 = .ok (.ifCond .eq 21, 3) := by decide +kernel
theorem dX2_readCondition_27 : decode cX2_readCondition 27 = .ok (.aload_n 0, 1) := by decide +kernel
theorem dX2_readCondition_28 : decode cX2_readCondition 28 = .ok (.iload_n 1, 1) := by decide +kernel
theorem dX2_readCondition_29 : decode cX2_readCondition 29 = .ok (.iconst 0, 1) := by decide +kernel
theorem dX2_readCondition_30 : decode cX2_readCondition 30 = .ok (.invokevirtual 74, 3) := by decide +kernel
theorem dX2_readCondition_33 : decode cX2_readCondition 33 = .ok (.aload_n 0, 1) := by decide +kernel
theorem dX2_readCondition_34 : decode cX2_readCondition 34 = .ok (.bipush (-18), 2) := by decide +kernel
theorem dX2_readCondition_36 : decode cX2_readCondition 36 = .ok (.invokevirtual 71, 3) := by decide +kernel
theorem dX2_readCondition_39 : decode cX2_readCondition 39 = .ok (.iinc 3 1, 3) := by decide +kernel
theorem dX2_readCondition_42 : decode cX2_readCondition 42 = .ok (.goto (-34), 3) := by decide +kernel
theorem dX2_readCondition_45 : decode cX2_readCondition 45 = .ok (.return_, 1) := by decide +kernel
theorem dX2_readTruth_0 : decode cX2_readTruth 0 = .ok (.aload_n 0, 1) := by decide +kernel
theorem dX2_readTruth_1 : decode cX2_readTruth 1 = .ok (.iload_n 1, 1) := by decide +kernel
theorem dX2_readTruth_2 : decode cX2_readTruth 2 = .ok (.iload_n 2, 1) := by decide +kernel
theorem dX2_readTruth_3 : decode cX2_readTruth 3 = .ok (.invokevirtual 77, 3) := by decide +kernel
theorem dX2_readTruth_6 : decode cX2_readTruth 6 = .ok (.iconst 0, 1) := by decide +kernel
theorem dX2_readTruth_7 : decode cX2_readTruth 7 = .ok (.istore_n 3, 1) := by decide +kernel
theorem dX2_readTruth_8 : decode cX2_readTruth 8 = .ok (.iload_n 3, 1) := by decide +kernel
theorem dX2_readTruth_9 : decode cX2_readTruth 9 = .ok (.sipush 240, 3) := by decide +kernel
theorem dX2_readTruth_12 : decode cX2_readTruth 12 = .ok (.if_icmp .ge 33, 3) := by decide +kernel
theorem dX2_readTruth_15 : decode cX2_readTruth 15 = .ok (.aload_n 0, 1) := by decide +kernel
theorem dX2_readTruth_16 : decode cX2_readTruth 16 = .ok (.getfield 15, 3) := by decide +kernel
theorem dX2_readTruth_19 : decode cX2_readTruth 19 = .ok (.bipush 38, 2) := by decide +kernel
theorem dX2_readTruth_21 : decode cX2_readTruth 21 = .ok (.invokevirtual 42, 3) := by decide +kernel
theorem dX2_readTruth_24 : decode cX2_readTruth 24 = .ok (.ifCond .eq 21, 3) := by decide +kernel
theorem dX2_readTruth_27 : decode cX2_readTruth 27 = .ok (.aload_n 0, 1) := by decide +kernel
theorem dX2_readTruth_28 : decode cX2_readTruth 28 = .ok (.iload_n 1, 1) := by decide +kernel
theorem dX2_readTruth_29 : decode cX2_readTruth 29 = .ok (.iconst 0, 1) := by decide +kernel
theorem dX2_readTruth_30 : decode cX2_readTruth 30 = .ok (.invokevirtual 77, 3) := by decide +kernel
theorem dX2_readTruth_33 : decode cX2_readTruth 33 = .ok (.aload_n 0, 1) := by decide +kernel
theorem dX2_readTruth_34 : decode cX2_readTruth 34 = .ok (.bipush (-17), 2) := by decide +kernel
theorem dX2_readTruth_36 : decode cX2_readTruth 36 = .ok (.invokevirtual 71, 3) := by decide +kernel
theorem dX2_readTruth_39 : decode cX2_readTruth 39 = .ok (.iinc 3 1, 3) := by decide +kernel
theorem dX2_readTruth_42 : decode cX2_readTruth 42 = .ok (.goto (-34), 3) := by decide +kernel
theorem dX2_readTruth_45 : decode cX2_readTruth 45 = .ok (.return_, 1) := by decide +kernel
theorem dX2_readUnit_0 : decode cX2_readUnit 0 = .ok (.aload_n 0, 1) := by decide +kernel
theorem dX2_readUnit_1 : decode cX2_readUnit 1 = .ok (.getfield 15, 3) := by decide +kernel
theorem dX2_readUnit_4 : decode cX2_readUnit 4 = .ok (.invokevirtual 56, 3) := by decide +kernel
theorem dX2_readUnit_7 : decode cX2_readUnit 7 = .ok (.istore_n 3, 1) := by decide +kernel
theorem dX2_readUnit_8 : decode cX2_readUnit 8 = .ok (.iload_n 2, 1) := by decide +kernel
theorem dX2_readUnit_9 : decode cX2_readUnit 9 = .ok (.ifCond .ne 32, 3) := by decide +kernel
theorem dX2_readUnit_12 : decode cX2_readUnit 12 = .ok (.iload_n 3, 1) := by decide +kernel
theorem dX2_readUnit_13 : decode cX2_readUnit 13 = .ok (.bipush 33, 2) := by decide +kernel
theorem dX2_readUnit_15 : decode cX2_readUnit 15 = .ok (.if_icmp .ne 26, 3) := by decide +kernel
theorem dX2_readUnit_18 : decode cX2_readUnit 18 = .ok (.aload_n 0, 1) := by decide +kernel
theorem dX2_readUnit_19 : decode cX2_readUnit 19 = .ok (.iload_n 1, 1) := by decide +kernel
theorem dX2_readUnit_20 : decode cX2_readUnit 20 = .ok (.invokevirtual 80, 3) := by decide +kernel
theorem dX2_readUnit_23 : decode cX2_readUnit 23 = .ok (.ifCond .eq 17, 3) := by decide +kernel
theorem dX2_readUnit_26 : decode cX2_readUnit 26 = .ok (.aload_n 0, 1) := by decide +kernel
theorem dX2_readUnit_27 : decode cX2_readUnit 27 = .ok (.iload_n 1, 1) := by decide +kernel
theorem dX2_readUnit_28 : decode cX2_readUnit 28 = .ok (.iconst 1, 1) := by decide +kernel
theorem dX2_readUnit_29 : decode cX2_readUnit 29 = .ok (.iadd, 1) := by decide +kernel
theorem dX2_readUnit_30 : decode cX2_readUnit 30 = .ok (.iconst 0, 1) := by decide +kernel
theorem dX2_readUnit_31 : decode cX2_readUnit 31 = .ok (.invokevirtual 77, 3) := by decide +kernel
theorem dX2_readUnit_34 : decode cX2_readUnit 34 = .ok (.aload_n 0, 1) := by decide +kernel
theorem dX2_readUnit_35 : decode cX2_readUnit 35 = .ok (.bipush (-19), 2) := by decide +kernel
theorem dX2_readUnit_37 : decode cX2_readUnit 37 = .ok (.invokevirtual 71, 3) := by decide +kernel
theorem dX2_readUnit_40 : decode cX2_readUnit 40 = .ok (.return_, 1) := by decide +kernel
theorem dX2_readUnit_41 : decode cX2_readUnit 41 = .ok (.iload_n 2, 1) := by decide +kernel
theorem dX2_readUnit_42 : decode cX2_readUnit 42 = .ok (.ifCond .ne 35, 3) := by decide +kernel
theorem dX2_readUnit_45 : decode cX2_readUnit 45 = .ok (.iload_n 3, 1) := by decide +kernel
theorem dX2_readUnit_46 : decode cX2_readUnit 46 = .ok (.bipush 40, 2) := by decide +kernel
theorem dX2_readUnit_48 : decode cX2_readUnit 48 = .ok (.if_icmp .ne 29, 3) := by decide +kernel
theorem dX2_readUnit_51 : decode cX2_readUnit 51 = .ok (.aload_n 0, 1) := by decide +kernel
theorem dX2_readUnit_52 : decode cX2_readUnit 52 = .ok (.iload_n 1, 1) := by decide +kernel
theorem dX2_readUnit_53 : decode cX2_readUnit 53 = .ok (.invokevirtual 80, 3) := by decide +kernel
theorem dX2_readUnit_56 : decode cX2_readUnit 56 = .ok (.ifCond .eq 20, 3) := by decide +kernel
theorem dX2_readUnit_59 : decode cX2_readUnit 59 = .ok (.aload_n 0, 1) := by decide +kernel
theorem dX2_readUnit_60 : decode cX2_readUnit 60 = .ok (.iload_n 1, 1) := by decide +kernel
theorem dX2_readUnit_61 : decode cX2_readUnit 61 = .ok (.iconst 1, 1) := by decide +kernel
theorem dX2_readUnit_62 : decode cX2_readUnit 62 = .ok (.iadd, 1) := by decide +kernel
theorem dX2_readUnit_63 : decode cX2_readUnit 63 = .ok (.iconst 0, 1) := by decide +kernel
theorem dX2_readUnit_64 : decode cX2_readUnit 64 = .ok (.invokevirtual 67, 3) := by decide +kernel
theorem dX2_readUnit_67 : decode cX2_readUnit 67 = .ok (.aload_n 0, 1) := by decide +kernel
theorem dX2_readUnit_68 : decode cX2_readUnit 68 = .ok (.getfield 15, 3) := by decide +kernel
theorem dX2_readUnit_71 : decode cX2_readUnit 71 = .ok (.bipush 41, 2) := by decide +kernel
theorem dX2_readUnit_73 : decode cX2_readUnit 73 = .ok (.invokevirtual 52, 3) := by decide +kernel
theorem dX2_readUnit_76 : decode cX2_readUnit 76 = .ok (.return_, 1) := by decide +kernel
theorem dX2_readUnit_77 : decode cX2_readUnit 77 = .ok (.iload_n 2, 1) := by decide +kernel
theorem dX2_readUnit_78 : decode cX2_readUnit 78 = .ok (.ifCond .ne 8, 3) := by decide +kernel
theorem dX2_readUnit_81 : decode cX2_readUnit 81 = .ok (.aload_n 0, 1) := by decide +kernel
theorem dX2_readUnit_82 : decode cX2_readUnit 82 = .ok (.iload_n 1, 1) := by decide +kernel
theorem dX2_readUnit_83 : decode cX2_readUnit 83 = .ok (.invokevirtual 60, 3) := by decide +kernel
theorem dX2_readUnit_86 : decode cX2_readUnit 86 = .ok (.aload_n 0, 1) := by decide +kernel
theorem dX2_readUnit_87 : decode cX2_readUnit 87 = .ok (.getfield 15, 3) := by decide +kernel
theorem dX2_readUnit_90 : decode cX2_readUnit 90 = .ok (.invokevirtual 56, 3) := by decide +kernel
theorem dX2_readUnit_93 : decode cX2_readUnit 93 = .ok (.invokestatic 63, 3) := by decide +kernel
theorem dX2_readUnit_96 : decode cX2_readUnit 96 = .ok (.istore 4, 2) := by decide +kernel
theorem dX2_readUnit_98 : decode cX2_readUnit 98 = .ok (.iload 4, 2) := by decide +kernel
theorem dX2_readUnit_100 : decode cX2_readUnit 100 = .ok (.iconst (-1), 1) := by decide +kernel
theorem dX2_readUnit_101 : decode cX2_readUnit 101 = .ok (.if_icmp .ne 13, 3) := by decide +kernel
theorem dX2_readUnit_104 : decode cX2_readUnit 104 = .ok (.aload_n 0, 1) := by decide +kernel
theorem dX2_readUnit_105 : decode cX2_readUnit 105 = .ok (.getfield 15, 3) := by decide +kernel
theorem dX2_readUnit_108 : decode cX2_readUnit 108 = .ok (.invokevirtual 83, 3) := by decide +kernel
theorem dX2_readUnit_111 : decode cX2_readUnit 111 = .ok (.goto 24, 3) := by decide +kernel
theorem dX2_readUnit_114 : decode cX2_readUnit 114 = .ok (.aload_n 0, 1) := by decide +kernel
theorem dX2_readUnit_115 : decode cX2_readUnit 115 = .ok (.getfield 15, 3) := by decide +kernel
theorem dX2_readUnit_118 : decode cX2_readUnit 118 = .ok (.invokevirtual 86, 3) := by decide +kernel
theorem dX2_readUnit_121 : decode cX2_readUnit 121 = .ok (.ifCond .eq 14, 3) := by decide +kernel
theorem dX2_readUnit_124 : decode cX2_readUnit 124 = .ok (.aload_n 0, 1) := by decide +kernel
theorem dX2_readUnit_125 : decode cX2_readUnit 125 = .ok (.iload_n 1, 1) := by decide +kernel
theorem dX2_readUnit_126 : decode cX2_readUnit 126 = .ok (.invokevirtual 60, 3) := by decide +kernel
theorem dX2_readUnit_129 : decode cX2_readUnit 129 = .ok (.aload_n 0, 1) := by decide +kernel
theorem dX2_readUnit_130 : decode cX2_readUnit 130 = .ok (.iload 4, 2) := by decide +kernel
theorem dX2_readUnit_132 : decode cX2_readUnit 132 = .ok (.invokevirtual 71, 3) := by decide +kernel
theorem dX2_readUnit_135 : decode cX2_readUnit 135 = .ok (.return_, 1) := by decide +kernel
theorem dX2_readSum_0 : decode cX2_readSum 0 = .ok (.aload_n 0, 1) := by decide +kernel
theorem dX2_readSum_1 : decode cX2_readSum 1 = .ok (.iload_n 1, 1) := by decide +kernel
theorem dX2_readSum_2 : decode cX2_readSum 2 = .ok (.invokevirtual 90, 3) := by decide +kernel
theorem dX2_readSum_5 : decode cX2_readSum 5 = .ok (.iconst 0, 1) := by decide +kernel
theorem dX2_readSum_6 : decode cX2_readSum 6 = .ok (.istore_n 2, 1) := by decide +kernel
theorem dX2_readSum_7 : decode cX2_readSum 7 = .ok (.iload_n 2, 1) := by decide +kernel
theorem dX2_readSum_8 : decode cX2_readSum 8 = .ok (.sipush 240, 3) := by decide +kernel
theorem dX2_readSum_11 : decode cX2_readSum 11 = .ok (.if_icmp .ge 56, 3) := by decide +kernel
theorem dX2_readSum_14 : decode cX2_readSum 14 = .ok (.aload_n 0, 1) := by decide +kernel
theorem dX2_readSum_15 : decode cX2_readSum 15 = .ok (.getfield 15, 3) := by decide +kernel
theorem dX2_readSum_18 : decode cX2_readSum 18 = .ok (.bipush 43, 2) := by decide +kernel
theorem dX2_readSum_20 : decode cX2_readSum 20 = .ok (.invokevirtual 42, 3) := by decide +kernel
theorem dX2_readSum_23 : decode cX2_readSum 23 = .ok (.istore_n 3, 1) := by decide +kernel
theorem dX2_readSum_24 : decode cX2_readSum 24 = .ok (.iload_n 3, 1) := by decide +kernel
theorem dX2_readSum_25 : decode cX2_readSum 25 = .ok (.ifCond .ne 16, 3) := by decide +kernel
theorem dX2_readSum_28 : decode cX2_readSum 28 = .ok (.aload_n 0, 1) := by decide +kernel
theorem dX2_readSum_29 : decode cX2_readSum 29 = .ok (.getfield 15, 3) := by decide +kernel
theorem dX2_readSum_32 : decode cX2_readSum 32 = .ok (.bipush 45, 2) := by decide +kernel
theorem dX2_readSum_34 : decode cX2_readSum 34 = .ok (.invokevirtual 42, 3) := by decide +kernel
theorem dX2_readSum_37 : decode cX2_readSum 37 = .ok (.ifCond .ne 4, 3) := by decide +kernel
theorem dX2_readSum_40 : decode cX2_readSum 40 = .ok (.return_, 1) := by decide +kernel
theorem dX2_readSum_41 : decode cX2_readSum 41 = .ok (.aload_n 0, 1) := by decide +kernel
theorem dX2_readSum_42 : decode cX2_readSum 42 = .ok (.iload_n 1, 1) := by decide +kernel
theorem dX2_readSum_43 : decode cX2_readSum 43 = .ok (.invokevirtual 90, 3) := by decide +kernel
theorem dX2_readSum_46 : decode cX2_readSum 46 = .ok (.aload_n 0, 1) := by decide +kernel
theorem dX2_readSum_47 : decode cX2_readSum 47 = .ok (.iload_n 3, 1) := by decide +kernel
theorem dX2_readSum_48 : decode cX2_readSum 48 = .ok (.ifCond .eq 8, 3) := by decide +kernel
theorem dX2_readSum_51 : decode cX2_readSum 51 = .ok (.bipush (-10), 2) := by decide +kernel
theorem dX2_readSum_53 : decode cX2_readSum 53 = .ok (.goto 5, 3) := by decide +kernel
theorem dX2_readSum_56 : decode cX2_readSum 56 = .ok (.bipush (-11), 2) := by decide +kernel
theorem dX2_readSum_58 : decode cX2_readSum 58 = .ok (.invokevirtual 71, 3) := by decide +kernel
theorem dX2_readSum_61 : decode cX2_readSum 61 = .ok (.iinc 2 1, 3) := by decide +kernel
theorem dX2_readSum_64 : decode cX2_readSum 64 = .ok (.goto (-57), 3) := by decide +kernel
theorem dX2_readSum_67 : decode cX2_readSum 67 = .ok (.return_, 1) := by decide +kernel
theorem dX2_readTerm_0 : decode cX2_readTerm 0 = .ok (.aload_n 0, 1) := by decide +kernel
theorem dX2_readTerm_1 : decode cX2_readTerm 1 = .ok (.iload_n 1, 1) := by decide +kernel
theorem dX2_readTerm_2 : decode cX2_readTerm 2 = .ok (.invokevirtual 93, 3) := by decide +kernel
theorem dX2_readTerm_5 : decode cX2_readTerm 5 = .ok (.iconst 0, 1) := by decide +kernel
theorem dX2_readTerm_6 : decode cX2_readTerm 6 = .ok (.istore_n 2, 1) := by decide +kernel
theorem dX2_readTerm_7 : decode cX2_readTerm 7 = .ok (.iload_n 2, 1) := by decide +kernel
theorem dX2_readTerm_8 : decode cX2_readTerm 8 = .ok (.sipush 240, 3) := by decide +kernel
theorem dX2_readTerm_11 : decode cX2_readTerm 11 = .ok (.if_icmp .ge 56, 3) := by decide +kernel
theorem dX2_readTerm_14 : decode cX2_readTerm 14 = .ok (.aload_n 0, 1) := by decide +kernel
theorem dX2_readTerm_15 : decode cX2_readTerm 15 = .ok (.getfield 15, 3) := by decide +kernel
theorem dX2_readTerm_18 : decode cX2_readTerm 18 = .ok (.bipush 42, 2) := by decide +kernel
theorem dX2_readTerm_20 : decode cX2_readTerm 20 = .ok (.invokevirtual 42, 3) := by decide +kernel
theorem dX2_readTerm_23 : decode cX2_readTerm 23 = .ok (.istore_n 3, 1) := by decide +kernel
theorem dX2_readTerm_24 : decode cX2_readTerm 24 = .ok (.iload_n 3, 1) := by decide +kernel
theorem dX2_readTerm_25 : decode cX2_readTerm 25 = .ok (.ifCond .ne 16, 3) := by decide +kernel
theorem dX2_readTerm_28 : decode cX2_readTerm 28 = .ok (.aload_n 0, 1) := by decide +kernel
theorem dX2_readTerm_29 : decode cX2_readTerm 29 = .ok (.getfield 15, 3) := by decide +kernel
theorem dX2_readTerm_32 : decode cX2_readTerm 32 = .ok (.bipush 47, 2) := by decide +kernel
theorem dX2_readTerm_34 : decode cX2_readTerm 34 = .ok (.invokevirtual 42, 3) := by decide +kernel
theorem dX2_readTerm_37 : decode cX2_readTerm 37 = .ok (.ifCond .ne 4, 3) := by decide +kernel
theorem dX2_readTerm_40 : decode cX2_readTerm 40 = .ok (.return_, 1) := by decide +kernel
theorem dX2_readTerm_41 : decode cX2_readTerm 41 = .ok (.aload_n 0, 1) := by decide +kernel
theorem dX2_readTerm_42 : decode cX2_readTerm 42 = .ok (.iload_n 1, 1) := by decide +kernel
theorem dX2_readTerm_43 : decode cX2_readTerm 43 = .ok (.invokevirtual 93, 3) := by decide +kernel
theorem dX2_readTerm_46 : decode cX2_readTerm 46 = .ok (.aload_n 0, 1) := by decide +kernel
theorem dX2_readTerm_47 : decode cX2_readTerm 47 = .ok (.iload_n 3, 1) := by decide +kernel
theorem dX2_readTerm_48 : decode cX2_readTerm 48 = .ok (.ifCond .eq 8, 3) := by decide +kernel
theorem dX2_readTerm_51 : decode cX2_readTerm 51 = .ok (.bipush (-12), 2) := by decide +kernel
theorem dX2_readTerm_53 : decode cX2_readTerm 53 = .ok (.goto 5, 3) := by decide +kernel
theorem dX2_readTerm_56 : decode cX2_readTerm 56 = .ok (.bipush (-13), 2) := by decide +kernel
theorem dX2_readTerm_58 : decode cX2_readTerm 58 = .ok (.invokevirtual 71, 3) := by decide +kernel
theorem dX2_readTerm_61 : decode cX2_readTerm 61 = .ok (.iinc 2 1, 3) := by decide +kernel
theorem dX2_readTerm_64 : decode cX2_readTerm 64 = .ok (.goto (-57), 3) := by decide +kernel
theorem dX2_readTerm_67 : decode cX2_readTerm 67 = .ok (.return_, 1) := by decide +kernel
theorem dX2_readAtom_0 : decode cX2_readAtom 0 = .ok (.aload_n 0, 1) := by decide +kernel
theorem dX2_readAtom_1 : decode cX2_readAtom 1 = .ok (.getfield 15, 3) := by decide +kernel
theorem dX2_readAtom_4 : decode cX2_readAtom 4 = .ok (.invokevirtual 56, 3) := by decide +kernel
theorem dX2_readAtom_7 : decode cX2_readAtom 7 = .ok (.istore_n 2, 1) := by decide +kernel
theorem dX2_readAtom_8 : decode cX2_readAtom 8 = .ok (.iload_n 2, 1) := by decide +kernel
theorem dX2_readAtom_9 : decode cX2_readAtom 9 = .ok (.invokestatic 96, 3) := by decide +kernel
theorem dX2_readAtom_12 : decode cX2_readAtom 12 = .ok (.istore_n 3, 1) := by decide +kernel
theorem dX2_readAtom_13 : decode cX2_readAtom 13 = .ok (.iload_n 3, 1) := by decide +kernel
theorem dX2_readAtom_14 : decode cX2_readAtom 14 = .ok (.iconst (-1), 1) := by decide +kernel
theorem dX2_readAtom_15 : decode cX2_readAtom 15 = .ok (.if_icmp .eq 21, 3) := by decide +kernel
theorem dX2_readAtom_18 : decode cX2_readAtom 18 = .ok (.aload_n 0, 1) := by decide +kernel
theorem dX2_readAtom_19 : decode cX2_readAtom 19 = .ok (.getfield 15, 3) := by decide +kernel
theorem dX2_readAtom_22 : decode cX2_readAtom 22 = .ok (.invokevirtual 86, 3) := by decide +kernel
theorem dX2_readAtom_25 : decode cX2_readAtom 25 = .ok (.pop, 1) := by decide +kernel
theorem dX2_readAtom_26 : decode cX2_readAtom 26 = .ok (.aload_n 0, 1) := by decide +kernel
theorem dX2_readAtom_27 : decode cX2_readAtom 27 = .ok (.iconst (-1), 1) := by decide +kernel
theorem dX2_readAtom_28 : decode cX2_readAtom 28 = .ok (.iload_n 3, 1) := by decide +kernel
theorem dX2_readAtom_29 : decode cX2_readAtom 29 = .ok (.isub, 1) := by decide +kernel
theorem dX2_readAtom_30 : decode cX2_readAtom 30 = .ok (.invokevirtual 71, 3) := by decide +kernel
theorem dX2_readAtom_33 : decode cX2_readAtom 33 = .ok (.goto 52, 3) := by decide +kernel
theorem dX2_readAtom_36 : decode cX2_readAtom 36 = .ok (.iload_n 2, 1) := by decide +kernel
theorem dX2_readAtom_37 : decode cX2_readAtom 37 = .ok (.bipush 91, 2) := by decide +kernel
theorem dX2_readAtom_39 : decode cX2_readAtom 39 = .ok (.if_icmp .ne 30, 3) := by decide +kernel
theorem dX2_readAtom_42 : decode cX2_readAtom 42 = .ok (.aload_n 0, 1) := by decide +kernel
theorem dX2_readAtom_43 : decode cX2_readAtom 43 = .ok (.iload_n 1, 1) := by decide +kernel
theorem dX2_readAtom_44 : decode cX2_readAtom 44 = .ok (.invokevirtual 80, 3) := by decide +kernel
theorem dX2_readAtom_47 : decode cX2_readAtom 47 = .ok (.ifCond .eq 38, 3) := by decide +kernel
theorem dX2_readAtom_50 : decode cX2_readAtom 50 = .ok (.aload_n 0, 1) := by decide +kernel
theorem dX2_readAtom_51 : decode cX2_readAtom 51 = .ok (.iload_n 1, 1) := by decide +kernel
theorem dX2_readAtom_52 : decode cX2_readAtom 52 = .ok (.iconst 1, 1) := by decide +kernel
theorem dX2_readAtom_53 : decode cX2_readAtom 53 = .ok (.iadd, 1) := by decide +kernel
theorem dX2_readAtom_54 : decode cX2_readAtom 54 = .ok (.invokevirtual 60, 3) := by decide +kernel
theorem dX2_readAtom_57 : decode cX2_readAtom 57 = .ok (.aload_n 0, 1) := by decide +kernel
theorem dX2_readAtom_58 : decode cX2_readAtom 58 = .ok (.getfield 15, 3) := by decide +kernel
theorem dX2_readAtom_61 : decode cX2_readAtom 61 = .ok (.bipush 93, 2) := by decide +kernel
theorem dX2_readAtom_63 : decode cX2_readAtom 63 = .ok (.invokevirtual 52, 3) := by decide +kernel
theorem dX2_readAtom_66 : decode cX2_readAtom 66 = .ok (.goto 19, 3) := by decide +kernel
theorem dX2_readAtom_69 : decode cX2_readAtom 69 = .ok (.aload_n 0, 1) := by decide +kernel
theorem dX2_readAtom_70 : decode cX2_readAtom 70 = .ok (.aload_n 0, 1) := by decide +kernel
theorem dX2_readAtom_71 : decode cX2_readAtom 71 = .ok (.getfield 15, 3) := by decide +kernel
theorem dX2_readAtom_74 : decode cX2_readAtom 74 = .ok (.iconst 4, 1) := by decide +kernel
theorem dX2_readAtom_75 : decode cX2_readAtom 75 = .ok (.iconst 0, 1) := by decide +kernel
theorem dX2_readAtom_76 : decode cX2_readAtom 76 = .ok (.sipush 9999, 3) := by decide +kernel
theorem dX2_readAtom_79 : decode cX2_readAtom 79 = .ok (.invokevirtual 99, 3) := by decide +kernel
theorem dX2_readAtom_82 : decode cX2_readAtom 82 = .ok (.invokevirtual 71, 3) := by decide +kernel
theorem dX2_readAtom_85 : decode cX2_readAtom 85 = .ok (.return_, 1) := by decide +kernel
def gcRd (d : Nat) (g : Nat → List EV → Hp → Option (RV × Hp)) : Prop := Con yX2_readCondition cX2_readCondition 4 none (2 + d) (45 + d * 24) (g 0) ∧ Con yX2_readTruth cX2_readTruth 4 none (2 + d) (45 + d * 24) (g 1) ∧ Con yX2_readUnit cX2_readUnit 5 none (2 + d) (45 + d * 24) (g 2) ∧ Con yX2_readSum cX2_readSum 4 none (2 + d) (45 + d * 24) (g 3) ∧ Con yX2_readTerm cX2_readTerm 4 none (2 + d) (45 + d * 24) (g 4) ∧ Con yX2_readAtom cX2_readAtom 4 none (2 + d) (45 + d * 24) (g 5)
noncomputable def kX2_readCondition (g : Nat → List EV → Hp → Option (RV × Hp)) : Nat → Op := (nodeC 19 (nodeC 7 (nodeC 2 (nodeC 0 (leafC 0 (o_al 0 1)) (nodeC 1 (leafC 1 (o_il 1 2)) (leafC 2 (o_il 2 3)))) (nodeC 3 (leafC 3 (o_inv 2 2 0 (g 1) 6)) (nodeC 6 (leafC 6 (o_ic (0) 7)) (leafC 7 (o_is 3 8))))) (nodeC 12 (nodeC 8 (leafC 8 (o_mask [2] (o_il 3 9))) (nodeC 9 (leafC 9 (o_ic (240) 12)) (leafC 12 (o_cge 45 15)))) (nodeC 15 (leafC 15 (o_al 0 16)) (nodeC 16 (leafC 16 (o_gR 2 0 19)) (leafC 19 (o_ic (124) 21)))))) (nodeC 30 (nodeC 27 (nodeC 21 (leafC 21 (o_inv 1 9 1 FX9_accept 24)) (nodeC 24 (leafC 24 (o_zeq 45 27)) (leafC 27 (o_al 0 28)))) (nodeC 28 (leafC 28 (o_il 1 29)) (nodeC 29 (leafC 29 (o_ic (0) 30)) (leafC 30 (o_inv 2 2 0 (g 1) 33))))) (nodeC 36 (nodeC 33 (leafC 33 (o_al 0 34)) (nodeC 34 (leafC 34 (o_ic (-18) 36)) (leafC 36 (o_inv 1 2 0 FX2_emit 39)))) (nodeC 39 (leafC 39 (o_inc 3 (1) 42)) (nodeC 42 (leafC 42 (o_goto 8)) (leafC 45 (o_vret)))))))
theorem sX2_readCondition {d : Nat} {g : Nat → List EV → Hp → Option (RV × Hp)} (hC : gcRd d g) : ∀ pc, SoundOp cX2_readCondition RX2 4 none false (2 + (d + 1)) (45 + (d + 1) * 24) pc (kX2_readCondition g pc) := (so_node (so_node (so_node (so_node (so_leaf (so_aload_n dX2_readCondition_0 rfl)) (so_node (so_leaf (so_iload_n dX2_readCondition_1 rfl)) (so_leaf (so_iload_n dX2_readCondition_2 rfl)))) (so_node (so_leaf (so_inv hC.2.1 (by decide) rfl wm_RX2_74 win_X2_readTruth wse_X2_readTruth wn_2 wc_X2_readTruth (by decide +kernel) (by omega) (by omega) dX2_readCondition_3)) (so_node (so_leaf (so_iconst dX2_readCondition_6 (by decide))) (so_leaf (so_istore_n dX2_readCondition_7 rfl (by decide)))))) (so_node (so_node (so_leaf (so_mask (so_iload_n dX2_readCondition_8 rfl))) (so_node (so_leaf (so_sipush dX2_readCondition_9 (by decide))) (so_leaf (so_cge dX2_readCondition_12 (by decide))))) (so_node (so_leaf (so_aload_n dX2_readCondition_15 rfl)) (so_node (so_leaf (so_gR (by decide) (by decide) wC2 wf_RX2_15 (fun _ _ _ => rfl) dX2_readCondition_16)) (so_leaf (so_bipush dX2_readCondition_19 (by decide))))))) (so_node (so_node (so_node (so_leaf (so_inv CX9_accept (by decide) rfl wm_RX2_42 win_X9_accept wse_X9_accept wn_9 wc_X9_accept (by decide +kernel) (by omega) (by omega) dX2_readCondition_21)) (so_node (so_leaf (so_zeq dX2_readCondition_24 (by decide))) (so_leaf (so_aload_n dX2_readCondition_27 rfl)))) (so_node (so_leaf (so_iload_n dX2_readCondition_28 rfl)) (so_node (so_leaf (so_iconst dX2_readCondition_29 (by decide))) (so_leaf (so_inv hC.2.1 (by decide) rfl wm_RX2_74 win_X2_readTruth wse_X2_readTruth wn_2 wc_X2_readTruth (by decide +kernel) (by omega) (by omega) dX2_readCondition_30))))) (so_node (so_node (so_leaf (so_aload_n dX2_readCondition_33 rfl)) (so_node (so_leaf (so_bipush dX2_readCondition_34 (by decide))) (so_leaf (so_inv CX2_emit (by decide) rfl wm_RX2_71 win_X2_emit wse_X2_emit wn_2 wc_X2_emit (by decide +kernel) (by omega) (by omega) dX2_readCondition_36)))) (so_node (so_leaf (so_iinc dX2_readCondition_39 (by decide) (by decide))) (so_node (so_leaf (so_goto dX2_readCondition_42 (by decide))) (so_leaf (so_vret dX2_readCondition_45 rfl)))))))
theorem pX2_readCondition {g : Nat → List EV → Hp → Option (RV × Hp)} (hG : ∀ i, Gr (g i)) : ∀ pc, Pr (kX2_readCondition g pc) := (pr_node (pr_node (pr_node (pr_node (pr_leaf (pr_al _ _)) (pr_node (pr_leaf (pr_il _ _)) (pr_leaf (pr_il _ _)))) (pr_node (pr_leaf (pr_inv _ _ _ (hG 1) _)) (pr_node (pr_leaf (pr_ic _ _)) (pr_leaf (pr_is _ _))))) (pr_node (pr_node (pr_leaf (pr_mask (pr_il _ _))) (pr_node (pr_leaf (pr_ic _ _)) (pr_leaf (pr_cge _ _)))) (pr_node (pr_leaf (pr_al _ _)) (pr_node (pr_leaf (pr_gR _ _ _)) (pr_leaf (pr_ic _ _)))))) (pr_node (pr_node (pr_node (pr_leaf (pr_inv _ _ _ GX9_accept _)) (pr_node (pr_leaf (pr_zeq _ _)) (pr_leaf (pr_al _ _)))) (pr_node (pr_leaf (pr_il _ _)) (pr_node (pr_leaf (pr_ic _ _)) (pr_leaf (pr_inv _ _ _ (hG 1) _))))) (pr_node (pr_node (pr_leaf (pr_al _ _)) (pr_node (pr_leaf (pr_ic _ _)) (pr_leaf (pr_inv _ _ _ GX2_emit _)))) (pr_node (pr_leaf (pr_inc _ _ _)) (pr_node (pr_leaf (pr_goto _)) (pr_leaf (pr_vret)))))))
noncomputable def kX2_readTruth (g : Nat → List EV → Hp → Option (RV × Hp)) : Nat → Op := (nodeC 19 (nodeC 7 (nodeC 2 (nodeC 0 (leafC 0 (o_al 0 1)) (nodeC 1 (leafC 1 (o_il 1 2)) (leafC 2 (o_il 2 3)))) (nodeC 3 (leafC 3 (o_inv 2 2 0 (g 2) 6)) (nodeC 6 (leafC 6 (o_ic (0) 7)) (leafC 7 (o_is 3 8))))) (nodeC 12 (nodeC 8 (leafC 8 (o_mask [2] (o_il 3 9))) (nodeC 9 (leafC 9 (o_ic (240) 12)) (leafC 12 (o_cge 45 15)))) (nodeC 15 (leafC 15 (o_al 0 16)) (nodeC 16 (leafC 16 (o_gR 2 0 19)) (leafC 19 (o_ic (38) 21)))))) (nodeC 30 (nodeC 27 (nodeC 21 (leafC 21 (o_inv 1 9 1 FX9_accept 24)) (nodeC 24 (leafC 24 (o_zeq 45 27)) (leafC 27 (o_al 0 28)))) (nodeC 28 (leafC 28 (o_il 1 29)) (nodeC 29 (leafC 29 (o_ic (0) 30)) (leafC 30 (o_inv 2 2 0 (g 2) 33))))) (nodeC 36 (nodeC 33 (leafC 33 (o_al 0 34)) (nodeC 34 (leafC 34 (o_ic (-17) 36)) (leafC 36 (o_inv 1 2 0 FX2_emit 39)))) (nodeC 39 (leafC 39 (o_inc 3 (1) 42)) (nodeC 42 (leafC 42 (o_goto 8)) (leafC 45 (o_vret)))))))
theorem sX2_readTruth {d : Nat} {g : Nat → List EV → Hp → Option (RV × Hp)} (hC : gcRd d g) : ∀ pc, SoundOp cX2_readTruth RX2 4 none false (2 + (d + 1)) (45 + (d + 1) * 24) pc (kX2_readTruth g pc) := (so_node (so_node (so_node (so_node (so_leaf (so_aload_n dX2_readTruth_0 rfl)) (so_node (so_leaf (so_iload_n dX2_readTruth_1 rfl)) (so_leaf (so_iload_n dX2_readTruth_2 rfl)))) (so_node (so_leaf (so_inv hC.2.2.1 (by decide) rfl wm_RX2_77 win_X2_readUnit wse_X2_readUnit wn_2 wc_X2_readUnit (by decide +kernel) (by omega) (by omega) dX2_readTruth_3)) (so_node (so_leaf (so_iconst dX2_readTruth_6 (by decide))) (so_leaf (so_istore_n dX2_readTruth_7 rfl (by decide)))))) (so_node (so_node (so_leaf (so_mask (so_iload_n dX2_readTruth_8 rfl))) (so_node (so_leaf (so_sipush dX2_readTruth_9 (by decide))) (so_leaf (so_cge dX2_readTruth_12 (by decide))))) (so_node (so_leaf (so_aload_n dX2_readTruth_15 rfl)) (so_node (so_leaf (so_gR (by decide) (by decide) wC2 wf_RX2_15 (fun _ _ _ => rfl) dX2_readTruth_16)) (so_leaf (so_bipush dX2_readTruth_19 (by decide))))))) (so_node (so_node (so_node (so_leaf (so_inv CX9_accept (by decide) rfl wm_RX2_42 win_X9_accept wse_X9_accept wn_9 wc_X9_accept (by decide +kernel) (by omega) (by omega) dX2_readTruth_21)) (so_node (so_leaf (so_zeq dX2_readTruth_24 (by decide))) (so_leaf (so_aload_n dX2_readTruth_27 rfl)))) (so_node (so_leaf (so_iload_n dX2_readTruth_28 rfl)) (so_node (so_leaf (so_iconst dX2_readTruth_29 (by decide))) (so_leaf (so_inv hC.2.2.1 (by decide) rfl wm_RX2_77 win_X2_readUnit wse_X2_readUnit wn_2 wc_X2_readUnit (by decide +kernel) (by omega) (by omega) dX2_readTruth_30))))) (so_node (so_node (so_leaf (so_aload_n dX2_readTruth_33 rfl)) (so_node (so_leaf (so_bipush dX2_readTruth_34 (by decide))) (so_leaf (so_inv CX2_emit (by decide) rfl wm_RX2_71 win_X2_emit wse_X2_emit wn_2 wc_X2_emit (by decide +kernel) (by omega) (by omega) dX2_readTruth_36)))) (so_node (so_leaf (so_iinc dX2_readTruth_39 (by decide) (by decide))) (so_node (so_leaf (so_goto dX2_readTruth_42 (by decide))) (so_leaf (so_vret dX2_readTruth_45 rfl)))))))
theorem pX2_readTruth {g : Nat → List EV → Hp → Option (RV × Hp)} (hG : ∀ i, Gr (g i)) : ∀ pc, Pr (kX2_readTruth g pc) := (pr_node (pr_node (pr_node (pr_node (pr_leaf (pr_al _ _)) (pr_node (pr_leaf (pr_il _ _)) (pr_leaf (pr_il _ _)))) (pr_node (pr_leaf (pr_inv _ _ _ (hG 2) _)) (pr_node (pr_leaf (pr_ic _ _)) (pr_leaf (pr_is _ _))))) (pr_node (pr_node (pr_leaf (pr_mask (pr_il _ _))) (pr_node (pr_leaf (pr_ic _ _)) (pr_leaf (pr_cge _ _)))) (pr_node (pr_leaf (pr_al _ _)) (pr_node (pr_leaf (pr_gR _ _ _)) (pr_leaf (pr_ic _ _)))))) (pr_node (pr_node (pr_node (pr_leaf (pr_inv _ _ _ GX9_accept _)) (pr_node (pr_leaf (pr_zeq _ _)) (pr_leaf (pr_al _ _)))) (pr_node (pr_leaf (pr_il _ _)) (pr_node (pr_leaf (pr_ic _ _)) (pr_leaf (pr_inv _ _ _ (hG 2) _))))) (pr_node (pr_node (pr_leaf (pr_al _ _)) (pr_node (pr_leaf (pr_ic _ _)) (pr_leaf (pr_inv _ _ _ GX2_emit _)))) (pr_node (pr_leaf (pr_inc _ _ _)) (pr_node (pr_leaf (pr_goto _)) (pr_leaf (pr_vret)))))))
noncomputable def kX2_readUnit (g : Nat → List EV → Hp → Option (RV × Hp)) : Nat → Op := (nodeC 61 (nodeC 29 (nodeC 13 (nodeC 7 (nodeC 1 (nodeC 0 (leafC 0 (o_al 0 1)) (leafC 1 (o_gR 2 0 4))) (nodeC 4 (leafC 4 (o_inv 0 9 1 FX9_peek 7)) (leafC 7 (o_is 3 8)))) (nodeC 9 (nodeC 8 (leafC 8 (o_il 2 9)) (leafC 9 (o_zne 41 12))) (nodeC 12 (leafC 12 (o_il 3 13)) (leafC 13 (o_ic (33) 15))))) (nodeC 20 (nodeC 18 (nodeC 15 (leafC 15 (o_cne 41 18)) (leafC 18 (o_al 0 19))) (nodeC 19 (leafC 19 (o_il 1 20)) (leafC 20 (o_inv 1 2 1 FX2_opens 23)))) (nodeC 26 (nodeC 23 (leafC 23 (o_zeq 40 26)) (leafC 26 (o_al 0 27))) (nodeC 27 (leafC 27 (o_il 1 28)) (nodeC 28 (leafC 28 (o_ic (1) 29)) (leafC 29 (o_iadd 30))))))) (nodeC 45 (nodeC 35 (nodeC 31 (nodeC 30 (leafC 30 (o_ic (0) 31)) (leafC 31 (o_inv 2 2 0 (g 2) 34))) (nodeC 34 (leafC 34 (o_al 0 35)) (leafC 35 (o_ic (-19) 37)))) (nodeC 40 (nodeC 37 (leafC 37 (o_inv 1 2 0 FX2_emit 40)) (leafC 40 (o_vret))) (nodeC 41 (leafC 41 (o_il 2 42)) (nodeC 42 (leafC 42 (o_zne 77 45)) (leafC 45 (o_il 3 46)))))) (nodeC 52 (nodeC 48 (nodeC 46 (leafC 46 (o_ic (40) 48)) (leafC 48 (o_cne 77 51))) (nodeC 51 (leafC 51 (o_al 0 52)) (leafC 52 (o_il 1 53)))) (nodeC 56 (nodeC 53 (leafC 53 (o_inv 1 2 1 FX2_opens 56)) (leafC 56 (o_zeq 76 59))) (nodeC 59 (leafC 59 (o_al 0 60)) (nodeC 60 (leafC 60 (o_il 1 61)) (leafC 61 (o_ic (1) 62)))))))) (nodeC 96 (nodeC 77 (nodeC 67 (nodeC 63 (nodeC 62 (leafC 62 (o_iadd 63)) (leafC 63 (o_ic (0) 64))) (nodeC 64 (leafC 64 (o_inv 2 2 0 (g 0) 67)) (leafC 67 (o_al 0 68)))) (nodeC 71 (nodeC 68 (leafC 68 (o_gR 2 0 71)) (leafC 71 (o_ic (41) 73))) (nodeC 73 (leafC 73 (o_inv 1 9 0 FX9_demand 76)) (nodeC 76 (leafC 76 (o_vret)) (leafC 77 (o_mask [3, 4] (o_il 2 78))))))) (nodeC 83 (nodeC 81 (nodeC 78 (leafC 78 (o_zne 86 81)) (leafC 81 (o_al 0 82))) (nodeC 82 (leafC 82 (o_il 1 83)) (leafC 83 (o_inv 1 2 0 (g 3) 86)))) (nodeC 87 (nodeC 86 (leafC 86 (o_al 0 87)) (leafC 87 (o_gR 2 0 90))) (nodeC 90 (leafC 90 (o_inv 0 9 1 FX9_peek 93)) (nodeC 93 (leafC 93 (o_ist 1 1 FX2_comparison 96)) (leafC 96 (o_is 4 98))))))) (nodeC 115 (nodeC 104 (nodeC 100 (nodeC 98 (leafC 98 (o_il 4 100)) (leafC 100 (o_ic (-1) 101))) (nodeC 101 (leafC 101 (o_cne 114 104)) (leafC 104 (o_al 0 105)))) (nodeC 108 (nodeC 105 (leafC 105 (o_gR 2 0 108)) (leafC 108 (o_inv 0 9 0 FX9_refuse 111))) (nodeC 111 (leafC 111 (o_goto 135)) (nodeC 114 (leafC 114 (o_al 0 115)) (leafC 115 (o_gR 2 0 118)))))) (nodeC 125 (nodeC 121 (nodeC 118 (leafC 118 (o_inv 0 9 1 FX9_skip 121)) (leafC 121 (o_zeq 135 124))) (nodeC 124 (leafC 124 (o_al 0 125)) (leafC 125 (o_il 1 126)))) (nodeC 129 (nodeC 126 (leafC 126 (o_inv 1 2 0 (g 3) 129)) (leafC 129 (o_al 0 130))) (nodeC 130 (leafC 130 (o_il 4 132)) (nodeC 132 (leafC 132 (o_inv 1 2 0 FX2_emit 135)) (leafC 135 (o_vret)))))))))
theorem sX2_readUnit {d : Nat} {g : Nat → List EV → Hp → Option (RV × Hp)} (hC : gcRd d g) : ∀ pc, SoundOp cX2_readUnit RX2 5 none false (2 + (d + 1)) (45 + (d + 1) * 24) pc (kX2_readUnit g pc) := (so_node (so_node (so_node (so_node (so_node (so_node (so_leaf (so_aload_n dX2_readUnit_0 rfl)) (so_leaf (so_gR (by decide) (by decide) wC2 wf_RX2_15 (fun _ _ _ => rfl) dX2_readUnit_1))) (so_node (so_leaf (so_inv CX9_peek (by decide) rfl wm_RX2_56 win_X9_peek wse_X9_peek wn_9 wc_X9_peek (by decide +kernel) (by omega) (by omega) dX2_readUnit_4)) (so_leaf (so_istore_n dX2_readUnit_7 rfl (by decide))))) (so_node (so_node (so_leaf (so_iload_n dX2_readUnit_8 rfl)) (so_leaf (so_zne dX2_readUnit_9 (by decide)))) (so_node (so_leaf (so_iload_n dX2_readUnit_12 rfl)) (so_leaf (so_bipush dX2_readUnit_13 (by decide)))))) (so_node (so_node (so_node (so_leaf (so_cne dX2_readUnit_15 (by decide))) (so_leaf (so_aload_n dX2_readUnit_18 rfl))) (so_node (so_leaf (so_iload_n dX2_readUnit_19 rfl)) (so_leaf (so_inv CX2_opens (by decide) rfl wm_RX2_80 win_X2_opens wse_X2_opens wn_2 wc_X2_opens (by decide +kernel) (by omega) (by omega) dX2_readUnit_20)))) (so_node (so_node (so_leaf (so_zeq dX2_readUnit_23 (by decide))) (so_leaf (so_aload_n dX2_readUnit_26 rfl))) (so_node (so_leaf (so_iload_n dX2_readUnit_27 rfl)) (so_node (so_leaf (so_iconst dX2_readUnit_28 (by decide))) (so_leaf (so_iadd dX2_readUnit_29))))))) (so_node (so_node (so_node (so_node (so_leaf (so_iconst dX2_readUnit_30 (by decide))) (so_leaf (so_inv hC.2.2.1 (by decide) rfl wm_RX2_77 win_X2_readUnit wse_X2_readUnit wn_2 wc_X2_readUnit (by decide +kernel) (by omega) (by omega) dX2_readUnit_31))) (so_node (so_leaf (so_aload_n dX2_readUnit_34 rfl)) (so_leaf (so_bipush dX2_readUnit_35 (by decide))))) (so_node (so_node (so_leaf (so_inv CX2_emit (by decide) rfl wm_RX2_71 win_X2_emit wse_X2_emit wn_2 wc_X2_emit (by decide +kernel) (by omega) (by omega) dX2_readUnit_37)) (so_leaf (so_vret dX2_readUnit_40 rfl))) (so_node (so_leaf (so_iload_n dX2_readUnit_41 rfl)) (so_node (so_leaf (so_zne dX2_readUnit_42 (by decide))) (so_leaf (so_iload_n dX2_readUnit_45 rfl)))))) (so_node (so_node (so_node (so_leaf (so_bipush dX2_readUnit_46 (by decide))) (so_leaf (so_cne dX2_readUnit_48 (by decide)))) (so_node (so_leaf (so_aload_n dX2_readUnit_51 rfl)) (so_leaf (so_iload_n dX2_readUnit_52 rfl)))) (so_node (so_node (so_leaf (so_inv CX2_opens (by decide) rfl wm_RX2_80 win_X2_opens wse_X2_opens wn_2 wc_X2_opens (by decide +kernel) (by omega) (by omega) dX2_readUnit_53)) (so_leaf (so_zeq dX2_readUnit_56 (by decide)))) (so_node (so_leaf (so_aload_n dX2_readUnit_59 rfl)) (so_node (so_leaf (so_iload_n dX2_readUnit_60 rfl)) (so_leaf (so_iconst dX2_readUnit_61 (by decide))))))))) (so_node (so_node (so_node (so_node (so_node (so_leaf (so_iadd dX2_readUnit_62)) (so_leaf (so_iconst dX2_readUnit_63 (by decide)))) (so_node (so_leaf (so_inv hC.1 (by decide) rfl wm_RX2_67 win_X2_readCondition wse_X2_readCondition wn_2 wc_X2_readCondition (by decide +kernel) (by omega) (by omega) dX2_readUnit_64)) (so_leaf (so_aload_n dX2_readUnit_67 rfl)))) (so_node (so_node (so_leaf (so_gR (by decide) (by decide) wC2 wf_RX2_15 (fun _ _ _ => rfl) dX2_readUnit_68)) (so_leaf (so_bipush dX2_readUnit_71 (by decide)))) (so_node (so_leaf (so_inv CX9_demand (by decide) rfl wm_RX2_52 win_X9_demand wse_X9_demand wn_9 wc_X9_demand (by decide +kernel) (by omega) (by omega) dX2_readUnit_73)) (so_node (so_leaf (so_vret dX2_readUnit_76 rfl)) (so_leaf (so_mask (so_iload_n dX2_readUnit_77 rfl))))))) (so_node (so_node (so_node (so_leaf (so_zne dX2_readUnit_78 (by decide))) (so_leaf (so_aload_n dX2_readUnit_81 rfl))) (so_node (so_leaf (so_iload_n dX2_readUnit_82 rfl)) (so_leaf (so_inv hC.2.2.2.1 (by decide) rfl wm_RX2_60 win_X2_readSum wse_X2_readSum wn_2 wc_X2_readSum (by decide +kernel) (by omega) (by omega) dX2_readUnit_83)))) (so_node (so_node (so_leaf (so_aload_n dX2_readUnit_86 rfl)) (so_leaf (so_gR (by decide) (by decide) wC2 wf_RX2_15 (fun _ _ _ => rfl) dX2_readUnit_87))) (so_node (so_leaf (so_inv CX9_peek (by decide) rfl wm_RX2_56 win_X9_peek wse_X9_peek wn_9 wc_X9_peek (by decide +kernel) (by omega) (by omega) dX2_readUnit_90)) (so_node (so_leaf (so_ist CX2_comparison rfl wm_RX2_63 wst_X2_comparison wny_X2_comparison wc_X2_comparison (by decide +kernel) (by omega) (by omega) dX2_readUnit_93)) (so_leaf (so_istore dX2_readUnit_96 (by decide)))))))) (so_node (so_node (so_node (so_node (so_leaf (so_iload dX2_readUnit_98)) (so_leaf (so_iconst dX2_readUnit_100 (by decide)))) (so_node (so_leaf (so_cne dX2_readUnit_101 (by decide))) (so_leaf (so_aload_n dX2_readUnit_104 rfl)))) (so_node (so_node (so_leaf (so_gR (by decide) (by decide) wC2 wf_RX2_15 (fun _ _ _ => rfl) dX2_readUnit_105)) (so_leaf (so_inv CX9_refuse (by decide) rfl wm_RX2_83 win_X9_refuse wse_X9_refuse wn_9 wc_X9_refuse (by decide +kernel) (by omega) (by omega) dX2_readUnit_108))) (so_node (so_leaf (so_goto dX2_readUnit_111 (by decide))) (so_node (so_leaf (so_aload_n dX2_readUnit_114 rfl)) (so_leaf (so_gR (by decide) (by decide) wC2 wf_RX2_15 (fun _ _ _ => rfl) dX2_readUnit_115)))))) (so_node (so_node (so_node (so_leaf (so_inv CX9_skip (by decide) rfl wm_RX2_86 win_X9_skip wse_X9_skip wn_9 wc_X9_skip (by decide +kernel) (by omega) (by omega) dX2_readUnit_118)) (so_leaf (so_zeq dX2_readUnit_121 (by decide)))) (so_node (so_leaf (so_aload_n dX2_readUnit_124 rfl)) (so_leaf (so_iload_n dX2_readUnit_125 rfl)))) (so_node (so_node (so_leaf (so_inv hC.2.2.2.1 (by decide) rfl wm_RX2_60 win_X2_readSum wse_X2_readSum wn_2 wc_X2_readSum (by decide +kernel) (by omega) (by omega) dX2_readUnit_126)) (so_leaf (so_aload_n dX2_readUnit_129 rfl))) (so_node (so_leaf (so_iload dX2_readUnit_130)) (so_node (so_leaf (so_inv CX2_emit (by decide) rfl wm_RX2_71 win_X2_emit wse_X2_emit wn_2 wc_X2_emit (by decide +kernel) (by omega) (by omega) dX2_readUnit_132)) (so_leaf (so_vret dX2_readUnit_135 rfl)))))))))
theorem pX2_readUnit {g : Nat → List EV → Hp → Option (RV × Hp)} (hG : ∀ i, Gr (g i)) : ∀ pc, Pr (kX2_readUnit g pc) := (pr_node (pr_node (pr_node (pr_node (pr_node (pr_node (pr_leaf (pr_al _ _)) (pr_leaf (pr_gR _ _ _))) (pr_node (pr_leaf (pr_inv _ _ _ GX9_peek _)) (pr_leaf (pr_is _ _)))) (pr_node (pr_node (pr_leaf (pr_il _ _)) (pr_leaf (pr_zne _ _))) (pr_node (pr_leaf (pr_il _ _)) (pr_leaf (pr_ic _ _))))) (pr_node (pr_node (pr_node (pr_leaf (pr_cne _ _)) (pr_leaf (pr_al _ _))) (pr_node (pr_leaf (pr_il _ _)) (pr_leaf (pr_inv _ _ _ GX2_opens _)))) (pr_node (pr_node (pr_leaf (pr_zeq _ _)) (pr_leaf (pr_al _ _))) (pr_node (pr_leaf (pr_il _ _)) (pr_node (pr_leaf (pr_ic _ _)) (pr_leaf (pr_iadd _))))))) (pr_node (pr_node (pr_node (pr_node (pr_leaf (pr_ic _ _)) (pr_leaf (pr_inv _ _ _ (hG 2) _))) (pr_node (pr_leaf (pr_al _ _)) (pr_leaf (pr_ic _ _)))) (pr_node (pr_node (pr_leaf (pr_inv _ _ _ GX2_emit _)) (pr_leaf (pr_vret))) (pr_node (pr_leaf (pr_il _ _)) (pr_node (pr_leaf (pr_zne _ _)) (pr_leaf (pr_il _ _)))))) (pr_node (pr_node (pr_node (pr_leaf (pr_ic _ _)) (pr_leaf (pr_cne _ _))) (pr_node (pr_leaf (pr_al _ _)) (pr_leaf (pr_il _ _)))) (pr_node (pr_node (pr_leaf (pr_inv _ _ _ GX2_opens _)) (pr_leaf (pr_zeq _ _))) (pr_node (pr_leaf (pr_al _ _)) (pr_node (pr_leaf (pr_il _ _)) (pr_leaf (pr_ic _ _)))))))) (pr_node (pr_node (pr_node (pr_node (pr_node (pr_leaf (pr_iadd _)) (pr_leaf (pr_ic _ _))) (pr_node (pr_leaf (pr_inv _ _ _ (hG 0) _)) (pr_leaf (pr_al _ _)))) (pr_node (pr_node (pr_leaf (pr_gR _ _ _)) (pr_leaf (pr_ic _ _))) (pr_node (pr_leaf (pr_inv _ _ _ GX9_demand _)) (pr_node (pr_leaf (pr_vret)) (pr_leaf (pr_mask (pr_il _ _))))))) (pr_node (pr_node (pr_node (pr_leaf (pr_zne _ _)) (pr_leaf (pr_al _ _))) (pr_node (pr_leaf (pr_il _ _)) (pr_leaf (pr_inv _ _ _ (hG 3) _)))) (pr_node (pr_node (pr_leaf (pr_al _ _)) (pr_leaf (pr_gR _ _ _))) (pr_node (pr_leaf (pr_inv _ _ _ GX9_peek _)) (pr_node (pr_leaf (pr_ist _ _ GX2_comparison _)) (pr_leaf (pr_is _ _))))))) (pr_node (pr_node (pr_node (pr_node (pr_leaf (pr_il _ _)) (pr_leaf (pr_ic _ _))) (pr_node (pr_leaf (pr_cne _ _)) (pr_leaf (pr_al _ _)))) (pr_node (pr_node (pr_leaf (pr_gR _ _ _)) (pr_leaf (pr_inv _ _ _ GX9_refuse _))) (pr_node (pr_leaf (pr_goto _)) (pr_node (pr_leaf (pr_al _ _)) (pr_leaf (pr_gR _ _ _)))))) (pr_node (pr_node (pr_node (pr_leaf (pr_inv _ _ _ GX9_skip _)) (pr_leaf (pr_zeq _ _))) (pr_node (pr_leaf (pr_al _ _)) (pr_leaf (pr_il _ _)))) (pr_node (pr_node (pr_leaf (pr_inv _ _ _ (hG 3) _)) (pr_leaf (pr_al _ _))) (pr_node (pr_leaf (pr_il _ _)) (pr_node (pr_leaf (pr_inv _ _ _ GX2_emit _)) (pr_leaf (pr_vret)))))))))
noncomputable def kX2_readSum (g : Nat → List EV → Hp → Option (RV × Hp)) : Nat → Op := (nodeC 29 (nodeC 11 (nodeC 5 (nodeC 1 (nodeC 0 (leafC 0 (o_al 0 1)) (leafC 1 (o_il 1 2))) (nodeC 2 (leafC 2 (o_inv 1 2 0 (g 4) 5)) (leafC 5 (o_ic (0) 6)))) (nodeC 7 (nodeC 6 (leafC 6 (o_is 2 7)) (leafC 7 (o_mask [3] (o_il 2 8)))) (nodeC 8 (leafC 8 (o_ic (240) 11)) (leafC 11 (o_cge 67 14))))) (nodeC 20 (nodeC 15 (nodeC 14 (leafC 14 (o_al 0 15)) (leafC 15 (o_gR 2 0 18))) (nodeC 18 (leafC 18 (o_ic (43) 20)) (leafC 20 (o_inv 1 9 1 FX9_accept 23)))) (nodeC 24 (nodeC 23 (leafC 23 (o_is 3 24)) (leafC 24 (o_il 3 25))) (nodeC 25 (leafC 25 (o_zne 41 28)) (nodeC 28 (leafC 28 (o_al 0 29)) (leafC 29 (o_gR 2 0 32))))))) (nodeC 46 (nodeC 40 (nodeC 34 (nodeC 32 (leafC 32 (o_ic (45) 34)) (leafC 34 (o_inv 1 9 1 FX9_accept 37))) (nodeC 37 (leafC 37 (o_zne 41 40)) (leafC 40 (o_vret)))) (nodeC 42 (nodeC 41 (leafC 41 (o_al 0 42)) (leafC 42 (o_il 1 43))) (nodeC 43 (leafC 43 (o_inv 1 2 0 (g 4) 46)) (leafC 46 (o_al 0 47))))) (nodeC 53 (nodeC 48 (nodeC 47 (leafC 47 (o_il 3 48)) (leafC 48 (o_zeq 56 51))) (nodeC 51 (leafC 51 (o_ic (-10) 53)) (leafC 53 (o_goto 58)))) (nodeC 58 (nodeC 56 (leafC 56 (o_ic (-11) 58)) (leafC 58 (o_inv 1 2 0 FX2_emit 61))) (nodeC 61 (leafC 61 (o_inc 2 (1) 64)) (nodeC 64 (leafC 64 (o_goto 7)) (leafC 67 (o_vret))))))))
theorem sX2_readSum {d : Nat} {g : Nat → List EV → Hp → Option (RV × Hp)} (hC : gcRd d g) : ∀ pc, SoundOp cX2_readSum RX2 4 none false (2 + (d + 1)) (45 + (d + 1) * 24) pc (kX2_readSum g pc) := (so_node (so_node (so_node (so_node (so_node (so_leaf (so_aload_n dX2_readSum_0 rfl)) (so_leaf (so_iload_n dX2_readSum_1 rfl))) (so_node (so_leaf (so_inv hC.2.2.2.2.1 (by decide) rfl wm_RX2_90 win_X2_readTerm wse_X2_readTerm wn_2 wc_X2_readTerm (by decide +kernel) (by omega) (by omega) dX2_readSum_2)) (so_leaf (so_iconst dX2_readSum_5 (by decide))))) (so_node (so_node (so_leaf (so_istore_n dX2_readSum_6 rfl (by decide))) (so_leaf (so_mask (so_iload_n dX2_readSum_7 rfl)))) (so_node (so_leaf (so_sipush dX2_readSum_8 (by decide))) (so_leaf (so_cge dX2_readSum_11 (by decide)))))) (so_node (so_node (so_node (so_leaf (so_aload_n dX2_readSum_14 rfl)) (so_leaf (so_gR (by decide) (by decide) wC2 wf_RX2_15 (fun _ _ _ => rfl) dX2_readSum_15))) (so_node (so_leaf (so_bipush dX2_readSum_18 (by decide))) (so_leaf (so_inv CX9_accept (by decide) rfl wm_RX2_42 win_X9_accept wse_X9_accept wn_9 wc_X9_accept (by decide +kernel) (by omega) (by omega) dX2_readSum_20)))) (so_node (so_node (so_leaf (so_istore_n dX2_readSum_23 rfl (by decide))) (so_leaf (so_iload_n dX2_readSum_24 rfl))) (so_node (so_leaf (so_zne dX2_readSum_25 (by decide))) (so_node (so_leaf (so_aload_n dX2_readSum_28 rfl)) (so_leaf (so_gR (by decide) (by decide) wC2 wf_RX2_15 (fun _ _ _ => rfl) dX2_readSum_29))))))) (so_node (so_node (so_node (so_node (so_leaf (so_bipush dX2_readSum_32 (by decide))) (so_leaf (so_inv CX9_accept (by decide) rfl wm_RX2_42 win_X9_accept wse_X9_accept wn_9 wc_X9_accept (by decide +kernel) (by omega) (by omega) dX2_readSum_34))) (so_node (so_leaf (so_zne dX2_readSum_37 (by decide))) (so_leaf (so_vret dX2_readSum_40 rfl)))) (so_node (so_node (so_leaf (so_aload_n dX2_readSum_41 rfl)) (so_leaf (so_iload_n dX2_readSum_42 rfl))) (so_node (so_leaf (so_inv hC.2.2.2.2.1 (by decide) rfl wm_RX2_90 win_X2_readTerm wse_X2_readTerm wn_2 wc_X2_readTerm (by decide +kernel) (by omega) (by omega) dX2_readSum_43)) (so_leaf (so_aload_n dX2_readSum_46 rfl))))) (so_node (so_node (so_node (so_leaf (so_iload_n dX2_readSum_47 rfl)) (so_leaf (so_zeq dX2_readSum_48 (by decide)))) (so_node (so_leaf (so_bipush dX2_readSum_51 (by decide))) (so_leaf (so_goto dX2_readSum_53 (by decide))))) (so_node (so_node (so_leaf (so_bipush dX2_readSum_56 (by decide))) (so_leaf (so_inv CX2_emit (by decide) rfl wm_RX2_71 win_X2_emit wse_X2_emit wn_2 wc_X2_emit (by decide +kernel) (by omega) (by omega) dX2_readSum_58))) (so_node (so_leaf (so_iinc dX2_readSum_61 (by decide) (by decide))) (so_node (so_leaf (so_goto dX2_readSum_64 (by decide))) (so_leaf (so_vret dX2_readSum_67 rfl))))))))
theorem pX2_readSum {g : Nat → List EV → Hp → Option (RV × Hp)} (hG : ∀ i, Gr (g i)) : ∀ pc, Pr (kX2_readSum g pc) := (pr_node (pr_node (pr_node (pr_node (pr_node (pr_leaf (pr_al _ _)) (pr_leaf (pr_il _ _))) (pr_node (pr_leaf (pr_inv _ _ _ (hG 4) _)) (pr_leaf (pr_ic _ _)))) (pr_node (pr_node (pr_leaf (pr_is _ _)) (pr_leaf (pr_mask (pr_il _ _)))) (pr_node (pr_leaf (pr_ic _ _)) (pr_leaf (pr_cge _ _))))) (pr_node (pr_node (pr_node (pr_leaf (pr_al _ _)) (pr_leaf (pr_gR _ _ _))) (pr_node (pr_leaf (pr_ic _ _)) (pr_leaf (pr_inv _ _ _ GX9_accept _)))) (pr_node (pr_node (pr_leaf (pr_is _ _)) (pr_leaf (pr_il _ _))) (pr_node (pr_leaf (pr_zne _ _)) (pr_node (pr_leaf (pr_al _ _)) (pr_leaf (pr_gR _ _ _))))))) (pr_node (pr_node (pr_node (pr_node (pr_leaf (pr_ic _ _)) (pr_leaf (pr_inv _ _ _ GX9_accept _))) (pr_node (pr_leaf (pr_zne _ _)) (pr_leaf (pr_vret)))) (pr_node (pr_node (pr_leaf (pr_al _ _)) (pr_leaf (pr_il _ _))) (pr_node (pr_leaf (pr_inv _ _ _ (hG 4) _)) (pr_leaf (pr_al _ _))))) (pr_node (pr_node (pr_node (pr_leaf (pr_il _ _)) (pr_leaf (pr_zeq _ _))) (pr_node (pr_leaf (pr_ic _ _)) (pr_leaf (pr_goto _)))) (pr_node (pr_node (pr_leaf (pr_ic _ _)) (pr_leaf (pr_inv _ _ _ GX2_emit _))) (pr_node (pr_leaf (pr_inc _ _ _)) (pr_node (pr_leaf (pr_goto _)) (pr_leaf (pr_vret))))))))
noncomputable def kX2_readTerm (g : Nat → List EV → Hp → Option (RV × Hp)) : Nat → Op := (nodeC 29 (nodeC 11 (nodeC 5 (nodeC 1 (nodeC 0 (leafC 0 (o_al 0 1)) (leafC 1 (o_il 1 2))) (nodeC 2 (leafC 2 (o_inv 1 2 0 (g 5) 5)) (leafC 5 (o_ic (0) 6)))) (nodeC 7 (nodeC 6 (leafC 6 (o_is 2 7)) (leafC 7 (o_mask [3] (o_il 2 8)))) (nodeC 8 (leafC 8 (o_ic (240) 11)) (leafC 11 (o_cge 67 14))))) (nodeC 20 (nodeC 15 (nodeC 14 (leafC 14 (o_al 0 15)) (leafC 15 (o_gR 2 0 18))) (nodeC 18 (leafC 18 (o_ic (42) 20)) (leafC 20 (o_inv 1 9 1 FX9_accept 23)))) (nodeC 24 (nodeC 23 (leafC 23 (o_is 3 24)) (leafC 24 (o_il 3 25))) (nodeC 25 (leafC 25 (o_zne 41 28)) (nodeC 28 (leafC 28 (o_al 0 29)) (leafC 29 (o_gR 2 0 32))))))) (nodeC 46 (nodeC 40 (nodeC 34 (nodeC 32 (leafC 32 (o_ic (47) 34)) (leafC 34 (o_inv 1 9 1 FX9_accept 37))) (nodeC 37 (leafC 37 (o_zne 41 40)) (leafC 40 (o_vret)))) (nodeC 42 (nodeC 41 (leafC 41 (o_al 0 42)) (leafC 42 (o_il 1 43))) (nodeC 43 (leafC 43 (o_inv 1 2 0 (g 5) 46)) (leafC 46 (o_al 0 47))))) (nodeC 53 (nodeC 48 (nodeC 47 (leafC 47 (o_il 3 48)) (leafC 48 (o_zeq 56 51))) (nodeC 51 (leafC 51 (o_ic (-12) 53)) (leafC 53 (o_goto 58)))) (nodeC 58 (nodeC 56 (leafC 56 (o_ic (-13) 58)) (leafC 58 (o_inv 1 2 0 FX2_emit 61))) (nodeC 61 (leafC 61 (o_inc 2 (1) 64)) (nodeC 64 (leafC 64 (o_goto 7)) (leafC 67 (o_vret))))))))
theorem sX2_readTerm {d : Nat} {g : Nat → List EV → Hp → Option (RV × Hp)} (hC : gcRd d g) : ∀ pc, SoundOp cX2_readTerm RX2 4 none false (2 + (d + 1)) (45 + (d + 1) * 24) pc (kX2_readTerm g pc) := (so_node (so_node (so_node (so_node (so_node (so_leaf (so_aload_n dX2_readTerm_0 rfl)) (so_leaf (so_iload_n dX2_readTerm_1 rfl))) (so_node (so_leaf (so_inv hC.2.2.2.2.2 (by decide) rfl wm_RX2_93 win_X2_readAtom wse_X2_readAtom wn_2 wc_X2_readAtom (by decide +kernel) (by omega) (by omega) dX2_readTerm_2)) (so_leaf (so_iconst dX2_readTerm_5 (by decide))))) (so_node (so_node (so_leaf (so_istore_n dX2_readTerm_6 rfl (by decide))) (so_leaf (so_mask (so_iload_n dX2_readTerm_7 rfl)))) (so_node (so_leaf (so_sipush dX2_readTerm_8 (by decide))) (so_leaf (so_cge dX2_readTerm_11 (by decide)))))) (so_node (so_node (so_node (so_leaf (so_aload_n dX2_readTerm_14 rfl)) (so_leaf (so_gR (by decide) (by decide) wC2 wf_RX2_15 (fun _ _ _ => rfl) dX2_readTerm_15))) (so_node (so_leaf (so_bipush dX2_readTerm_18 (by decide))) (so_leaf (so_inv CX9_accept (by decide) rfl wm_RX2_42 win_X9_accept wse_X9_accept wn_9 wc_X9_accept (by decide +kernel) (by omega) (by omega) dX2_readTerm_20)))) (so_node (so_node (so_leaf (so_istore_n dX2_readTerm_23 rfl (by decide))) (so_leaf (so_iload_n dX2_readTerm_24 rfl))) (so_node (so_leaf (so_zne dX2_readTerm_25 (by decide))) (so_node (so_leaf (so_aload_n dX2_readTerm_28 rfl)) (so_leaf (so_gR (by decide) (by decide) wC2 wf_RX2_15 (fun _ _ _ => rfl) dX2_readTerm_29))))))) (so_node (so_node (so_node (so_node (so_leaf (so_bipush dX2_readTerm_32 (by decide))) (so_leaf (so_inv CX9_accept (by decide) rfl wm_RX2_42 win_X9_accept wse_X9_accept wn_9 wc_X9_accept (by decide +kernel) (by omega) (by omega) dX2_readTerm_34))) (so_node (so_leaf (so_zne dX2_readTerm_37 (by decide))) (so_leaf (so_vret dX2_readTerm_40 rfl)))) (so_node (so_node (so_leaf (so_aload_n dX2_readTerm_41 rfl)) (so_leaf (so_iload_n dX2_readTerm_42 rfl))) (so_node (so_leaf (so_inv hC.2.2.2.2.2 (by decide) rfl wm_RX2_93 win_X2_readAtom wse_X2_readAtom wn_2 wc_X2_readAtom (by decide +kernel) (by omega) (by omega) dX2_readTerm_43)) (so_leaf (so_aload_n dX2_readTerm_46 rfl))))) (so_node (so_node (so_node (so_leaf (so_iload_n dX2_readTerm_47 rfl)) (so_leaf (so_zeq dX2_readTerm_48 (by decide)))) (so_node (so_leaf (so_bipush dX2_readTerm_51 (by decide))) (so_leaf (so_goto dX2_readTerm_53 (by decide))))) (so_node (so_node (so_leaf (so_bipush dX2_readTerm_56 (by decide))) (so_leaf (so_inv CX2_emit (by decide) rfl wm_RX2_71 win_X2_emit wse_X2_emit wn_2 wc_X2_emit (by decide +kernel) (by omega) (by omega) dX2_readTerm_58))) (so_node (so_leaf (so_iinc dX2_readTerm_61 (by decide) (by decide))) (so_node (so_leaf (so_goto dX2_readTerm_64 (by decide))) (so_leaf (so_vret dX2_readTerm_67 rfl))))))))
theorem pX2_readTerm {g : Nat → List EV → Hp → Option (RV × Hp)} (hG : ∀ i, Gr (g i)) : ∀ pc, Pr (kX2_readTerm g pc) := (pr_node (pr_node (pr_node (pr_node (pr_node (pr_leaf (pr_al _ _)) (pr_leaf (pr_il _ _))) (pr_node (pr_leaf (pr_inv _ _ _ (hG 5) _)) (pr_leaf (pr_ic _ _)))) (pr_node (pr_node (pr_leaf (pr_is _ _)) (pr_leaf (pr_mask (pr_il _ _)))) (pr_node (pr_leaf (pr_ic _ _)) (pr_leaf (pr_cge _ _))))) (pr_node (pr_node (pr_node (pr_leaf (pr_al _ _)) (pr_leaf (pr_gR _ _ _))) (pr_node (pr_leaf (pr_ic _ _)) (pr_leaf (pr_inv _ _ _ GX9_accept _)))) (pr_node (pr_node (pr_leaf (pr_is _ _)) (pr_leaf (pr_il _ _))) (pr_node (pr_leaf (pr_zne _ _)) (pr_node (pr_leaf (pr_al _ _)) (pr_leaf (pr_gR _ _ _))))))) (pr_node (pr_node (pr_node (pr_node (pr_leaf (pr_ic _ _)) (pr_leaf (pr_inv _ _ _ GX9_accept _))) (pr_node (pr_leaf (pr_zne _ _)) (pr_leaf (pr_vret)))) (pr_node (pr_node (pr_leaf (pr_al _ _)) (pr_leaf (pr_il _ _))) (pr_node (pr_leaf (pr_inv _ _ _ (hG 5) _)) (pr_leaf (pr_al _ _))))) (pr_node (pr_node (pr_node (pr_leaf (pr_il _ _)) (pr_leaf (pr_zeq _ _))) (pr_node (pr_leaf (pr_ic _ _)) (pr_leaf (pr_goto _)))) (pr_node (pr_node (pr_leaf (pr_ic _ _)) (pr_leaf (pr_inv _ _ _ GX2_emit _))) (pr_node (pr_leaf (pr_inc _ _ _)) (pr_node (pr_leaf (pr_goto _)) (pr_leaf (pr_vret))))))))
noncomputable def kX2_readAtom (g : Nat → List EV → Hp → Option (RV × Hp)) : Nat → Op := (nodeC 39 (nodeC 18 (nodeC 8 (nodeC 1 (nodeC 0 (leafC 0 (o_al 0 1)) (leafC 1 (o_gR 2 0 4))) (nodeC 4 (leafC 4 (o_inv 0 9 1 FX9_peek 7)) (nodeC 7 (leafC 7 (o_is 2 8)) (leafC 8 (o_il 2 9))))) (nodeC 13 (nodeC 9 (leafC 9 (o_ist 1 1 FX1_letterOf 12)) (nodeC 12 (leafC 12 (o_is 3 13)) (leafC 13 (o_il 3 14)))) (nodeC 14 (leafC 14 (o_ic (-1) 15)) (nodeC 15 (leafC 15 (o_ceq 36 18)) (leafC 18 (o_al 0 19)))))) (nodeC 28 (nodeC 25 (nodeC 19 (leafC 19 (o_gR 2 0 22)) (nodeC 22 (leafC 22 (o_inv 0 9 1 FX9_skip 25)) (leafC 25 (o_popI 26)))) (nodeC 26 (leafC 26 (o_al 0 27)) (nodeC 27 (leafC 27 (o_ic (-1) 28)) (leafC 28 (o_il 3 29))))) (nodeC 33 (nodeC 29 (leafC 29 (o_isub 30)) (nodeC 30 (leafC 30 (o_inv 1 2 0 FX2_emit 33)) (leafC 33 (o_goto 85)))) (nodeC 36 (leafC 36 (o_il 2 37)) (nodeC 37 (leafC 37 (o_ic (91) 39)) (leafC 39 (o_cne 69 42))))))) (nodeC 58 (nodeC 50 (nodeC 43 (nodeC 42 (leafC 42 (o_al 0 43)) (leafC 43 (o_il 1 44))) (nodeC 44 (leafC 44 (o_inv 1 2 1 FX2_opens 47)) (nodeC 47 (leafC 47 (o_zeq 85 50)) (leafC 50 (o_al 0 51))))) (nodeC 53 (nodeC 51 (leafC 51 (o_il 1 52)) (nodeC 52 (leafC 52 (o_ic (1) 53)) (leafC 53 (o_iadd 54)))) (nodeC 54 (leafC 54 (o_inv 1 2 0 (g 3) 57)) (nodeC 57 (leafC 57 (o_al 0 58)) (leafC 58 (o_gR 2 0 61)))))) (nodeC 71 (nodeC 66 (nodeC 61 (leafC 61 (o_ic (93) 63)) (nodeC 63 (leafC 63 (o_inv 1 9 0 FX9_demand 66)) (leafC 66 (o_goto 85)))) (nodeC 69 (leafC 69 (o_al 0 70)) (nodeC 70 (leafC 70 (o_al 0 71)) (leafC 71 (o_gR 2 0 74))))) (nodeC 76 (nodeC 74 (leafC 74 (o_ic (4) 75)) (nodeC 75 (leafC 75 (o_ic (0) 76)) (leafC 76 (o_ic (9999) 79)))) (nodeC 79 (leafC 79 (o_inv 3 9 1 FX9_number 82)) (nodeC 82 (leafC 82 (o_inv 1 2 0 FX2_emit 85)) (leafC 85 (o_vret))))))))
theorem sX2_readAtom {d : Nat} {g : Nat → List EV → Hp → Option (RV × Hp)} (hC : gcRd d g) : ∀ pc, SoundOp cX2_readAtom RX2 4 none false (2 + (d + 1)) (45 + (d + 1) * 24) pc (kX2_readAtom g pc) := (so_node (so_node (so_node (so_node (so_node (so_leaf (so_aload_n dX2_readAtom_0 rfl)) (so_leaf (so_gR (by decide) (by decide) wC2 wf_RX2_15 (fun _ _ _ => rfl) dX2_readAtom_1))) (so_node (so_leaf (so_inv CX9_peek (by decide) rfl wm_RX2_56 win_X9_peek wse_X9_peek wn_9 wc_X9_peek (by decide +kernel) (by omega) (by omega) dX2_readAtom_4)) (so_node (so_leaf (so_istore_n dX2_readAtom_7 rfl (by decide))) (so_leaf (so_iload_n dX2_readAtom_8 rfl))))) (so_node (so_node (so_leaf (so_ist CX1_letterOf rfl wm_RX2_96 wst_X1_letterOf wny_X1_letterOf wc_X1_letterOf (by decide +kernel) (by omega) (by omega) dX2_readAtom_9)) (so_node (so_leaf (so_istore_n dX2_readAtom_12 rfl (by decide))) (so_leaf (so_iload_n dX2_readAtom_13 rfl)))) (so_node (so_leaf (so_iconst dX2_readAtom_14 (by decide))) (so_node (so_leaf (so_ceq dX2_readAtom_15 (by decide))) (so_leaf (so_aload_n dX2_readAtom_18 rfl)))))) (so_node (so_node (so_node (so_leaf (so_gR (by decide) (by decide) wC2 wf_RX2_15 (fun _ _ _ => rfl) dX2_readAtom_19)) (so_node (so_leaf (so_inv CX9_skip (by decide) rfl wm_RX2_86 win_X9_skip wse_X9_skip wn_9 wc_X9_skip (by decide +kernel) (by omega) (by omega) dX2_readAtom_22)) (so_leaf (so_popI dX2_readAtom_25)))) (so_node (so_leaf (so_aload_n dX2_readAtom_26 rfl)) (so_node (so_leaf (so_iconst dX2_readAtom_27 (by decide))) (so_leaf (so_iload_n dX2_readAtom_28 rfl))))) (so_node (so_node (so_leaf (so_isub dX2_readAtom_29)) (so_node (so_leaf (so_inv CX2_emit (by decide) rfl wm_RX2_71 win_X2_emit wse_X2_emit wn_2 wc_X2_emit (by decide +kernel) (by omega) (by omega) dX2_readAtom_30)) (so_leaf (so_goto dX2_readAtom_33 (by decide))))) (so_node (so_leaf (so_iload_n dX2_readAtom_36 rfl)) (so_node (so_leaf (so_bipush dX2_readAtom_37 (by decide))) (so_leaf (so_cne dX2_readAtom_39 (by decide)))))))) (so_node (so_node (so_node (so_node (so_leaf (so_aload_n dX2_readAtom_42 rfl)) (so_leaf (so_iload_n dX2_readAtom_43 rfl))) (so_node (so_leaf (so_inv CX2_opens (by decide) rfl wm_RX2_80 win_X2_opens wse_X2_opens wn_2 wc_X2_opens (by decide +kernel) (by omega) (by omega) dX2_readAtom_44)) (so_node (so_leaf (so_zeq dX2_readAtom_47 (by decide))) (so_leaf (so_aload_n dX2_readAtom_50 rfl))))) (so_node (so_node (so_leaf (so_iload_n dX2_readAtom_51 rfl)) (so_node (so_leaf (so_iconst dX2_readAtom_52 (by decide))) (so_leaf (so_iadd dX2_readAtom_53)))) (so_node (so_leaf (so_inv hC.2.2.2.1 (by decide) rfl wm_RX2_60 win_X2_readSum wse_X2_readSum wn_2 wc_X2_readSum (by decide +kernel) (by omega) (by omega) dX2_readAtom_54)) (so_node (so_leaf (so_aload_n dX2_readAtom_57 rfl)) (so_leaf (so_gR (by decide) (by decide) wC2 wf_RX2_15 (fun _ _ _ => rfl) dX2_readAtom_58)))))) (so_node (so_node (so_node (so_leaf (so_bipush dX2_readAtom_61 (by decide))) (so_node (so_leaf (so_inv CX9_demand (by decide) rfl wm_RX2_52 win_X9_demand wse_X9_demand wn_9 wc_X9_demand (by decide +kernel) (by omega) (by omega) dX2_readAtom_63)) (so_leaf (so_goto dX2_readAtom_66 (by decide))))) (so_node (so_leaf (so_aload_n dX2_readAtom_69 rfl)) (so_node (so_leaf (so_aload_n dX2_readAtom_70 rfl)) (so_leaf (so_gR (by decide) (by decide) wC2 wf_RX2_15 (fun _ _ _ => rfl) dX2_readAtom_71))))) (so_node (so_node (so_leaf (so_iconst dX2_readAtom_74 (by decide))) (so_node (so_leaf (so_iconst dX2_readAtom_75 (by decide))) (so_leaf (so_sipush dX2_readAtom_76 (by decide))))) (so_node (so_leaf (so_inv CX9_number (by decide) rfl wm_RX2_99 win_X9_number wse_X9_number wn_9 wc_X9_number (by decide +kernel) (by omega) (by omega) dX2_readAtom_79)) (so_node (so_leaf (so_inv CX2_emit (by decide) rfl wm_RX2_71 win_X2_emit wse_X2_emit wn_2 wc_X2_emit (by decide +kernel) (by omega) (by omega) dX2_readAtom_82)) (so_leaf (so_vret dX2_readAtom_85 rfl))))))))
theorem pX2_readAtom {g : Nat → List EV → Hp → Option (RV × Hp)} (hG : ∀ i, Gr (g i)) : ∀ pc, Pr (kX2_readAtom g pc) := (pr_node (pr_node (pr_node (pr_node (pr_node (pr_leaf (pr_al _ _)) (pr_leaf (pr_gR _ _ _))) (pr_node (pr_leaf (pr_inv _ _ _ GX9_peek _)) (pr_node (pr_leaf (pr_is _ _)) (pr_leaf (pr_il _ _))))) (pr_node (pr_node (pr_leaf (pr_ist _ _ GX1_letterOf _)) (pr_node (pr_leaf (pr_is _ _)) (pr_leaf (pr_il _ _)))) (pr_node (pr_leaf (pr_ic _ _)) (pr_node (pr_leaf (pr_ceq _ _)) (pr_leaf (pr_al _ _)))))) (pr_node (pr_node (pr_node (pr_leaf (pr_gR _ _ _)) (pr_node (pr_leaf (pr_inv _ _ _ GX9_skip _)) (pr_leaf (pr_popI _)))) (pr_node (pr_leaf (pr_al _ _)) (pr_node (pr_leaf (pr_ic _ _)) (pr_leaf (pr_il _ _))))) (pr_node (pr_node (pr_leaf (pr_isub _)) (pr_node (pr_leaf (pr_inv _ _ _ GX2_emit _)) (pr_leaf (pr_goto _)))) (pr_node (pr_leaf (pr_il _ _)) (pr_node (pr_leaf (pr_ic _ _)) (pr_leaf (pr_cne _ _))))))) (pr_node (pr_node (pr_node (pr_node (pr_leaf (pr_al _ _)) (pr_leaf (pr_il _ _))) (pr_node (pr_leaf (pr_inv _ _ _ GX2_opens _)) (pr_node (pr_leaf (pr_zeq _ _)) (pr_leaf (pr_al _ _))))) (pr_node (pr_node (pr_leaf (pr_il _ _)) (pr_node (pr_leaf (pr_ic _ _)) (pr_leaf (pr_iadd _)))) (pr_node (pr_leaf (pr_inv _ _ _ (hG 3) _)) (pr_node (pr_leaf (pr_al _ _)) (pr_leaf (pr_gR _ _ _)))))) (pr_node (pr_node (pr_node (pr_leaf (pr_ic _ _)) (pr_node (pr_leaf (pr_inv _ _ _ GX9_demand _)) (pr_leaf (pr_goto _)))) (pr_node (pr_leaf (pr_al _ _)) (pr_node (pr_leaf (pr_al _ _)) (pr_leaf (pr_gR _ _ _))))) (pr_node (pr_node (pr_leaf (pr_ic _ _)) (pr_node (pr_leaf (pr_ic _ _)) (pr_leaf (pr_ic _ _)))) (pr_node (pr_leaf (pr_inv _ _ _ GX9_number _)) (pr_node (pr_leaf (pr_inv _ _ _ GX2_emit _)) (pr_leaf (pr_vret))))))))
noncomputable def gRd : Nat → Nat → List EV → Hp → Option (RV × Hp)
  | 0 => fun _ _ _ => none
  | d + 1 => fun i => match i with
    | 0 => Fm (kX2_readCondition (gRd d)) 4
    | 1 => Fm (kX2_readTruth (gRd d)) 4
    | 2 => Fm (kX2_readUnit (gRd d)) 5
    | 3 => Fm (kX2_readSum (gRd d)) 4
    | 4 => Fm (kX2_readTerm (gRd d)) 4
    | 5 => Fm (kX2_readAtom (gRd d)) 4
    | _ => fun _ _ => none
theorem gRd_G : ∀ d i, Gr (gRd d i) := by
  intro d
  induction d with
  | zero => intro i as h r h1 z; cases z
  | succ d ih =>
    intro i
    match i with
    | 0 => exact Gr_Fm (pX2_readCondition ih) 4
    | 1 => exact Gr_Fm (pX2_readTruth ih) 4
    | 2 => exact Gr_Fm (pX2_readUnit ih) 5
    | 3 => exact Gr_Fm (pX2_readSum ih) 4
    | 4 => exact Gr_Fm (pX2_readTerm ih) 4
    | 5 => exact Gr_Fm (pX2_readAtom ih) 4
    | _ + 6 => intro as h r h1 z; cases z
theorem gRd_C : ∀ d, gcRd d (gRd d) := by
  intro d
  induction d with
  | zero => exact ⟨(fun l b D cy pre as h out z => by cases z), (fun l b D cy pre as h out z => by cases z), (fun l b D cy pre as h out z => by cases z), (fun l b D cy pre as h out z => by cases z), (fun l b D cy pre as h out z => by cases z), (fun l b D cy pre as h out z => by cases z)⟩
  | succ d ih => exact ⟨con_of (own := RX2) rfl (by decide +kernel) (sX2_readCondition ih) (pX2_readCondition (gRd_G d)) (fun z => by cases z), con_of (own := RX2) rfl (by decide +kernel) (sX2_readTruth ih) (pX2_readTruth (gRd_G d)) (fun z => by cases z), con_of (own := RX2) rfl (by decide +kernel) (sX2_readUnit ih) (pX2_readUnit (gRd_G d)) (fun z => by cases z), con_of (own := RX2) rfl (by decide +kernel) (sX2_readSum ih) (pX2_readSum (gRd_G d)) (fun z => by cases z), con_of (own := RX2) rfl (by decide +kernel) (sX2_readTerm ih) (pX2_readTerm (gRd_G d)) (fun z => by cases z), con_of (own := RX2) rfl (by decide +kernel) (sX2_readAtom ih) (pX2_readAtom (gRd_G d)) (fun z => by cases z)⟩
noncomputable def FX2_readCondition : List EV → Hp → Option (RV × Hp) := gRd 60 0
theorem CX2_readCondition : Con yX2_readCondition cX2_readCondition 4 none 62 1485 FX2_readCondition := (gRd_C 60).1
theorem GX2_readCondition : Gr FX2_readCondition := gRd_G 60 0
noncomputable def FX2_readTruth : List EV → Hp → Option (RV × Hp) := gRd 60 1
theorem CX2_readTruth : Con yX2_readTruth cX2_readTruth 4 none 62 1485 FX2_readTruth := (gRd_C 60).2.1
theorem GX2_readTruth : Gr FX2_readTruth := gRd_G 60 1
noncomputable def FX2_readUnit : List EV → Hp → Option (RV × Hp) := gRd 60 2
theorem CX2_readUnit : Con yX2_readUnit cX2_readUnit 5 none 62 1485 FX2_readUnit := (gRd_C 60).2.2.1
theorem GX2_readUnit : Gr FX2_readUnit := gRd_G 60 2
noncomputable def FX2_readSum : List EV → Hp → Option (RV × Hp) := gRd 60 3
theorem CX2_readSum : Con yX2_readSum cX2_readSum 4 none 62 1485 FX2_readSum := (gRd_C 60).2.2.2.1
theorem GX2_readSum : Gr FX2_readSum := gRd_G 60 3
noncomputable def FX2_readTerm : List EV → Hp → Option (RV × Hp) := gRd 60 4
theorem CX2_readTerm : Con yX2_readTerm cX2_readTerm 4 none 62 1485 FX2_readTerm := (gRd_C 60).2.2.2.2.1
theorem GX2_readTerm : Gr FX2_readTerm := gRd_G 60 4
noncomputable def FX2_readAtom : List EV → Hp → Option (RV × Hp) := gRd 60 5
theorem CX2_readAtom : Con yX2_readAtom cX2_readAtom 4 none 62 1485 FX2_readAtom := (gRd_C 60).2.2.2.2.2
theorem GX2_readAtom : Gr FX2_readAtom := gRd_G 60 5
theorem dX2_readClause_0 : decode cX2_readClause 0 = .ok (.aload_n 0, 1) := by decide +kernel
theorem dX2_readClause_1 : decode cX2_readClause 1 = .ok (.getfield 15, 3) := by decide +kernel
theorem dX2_readClause_4 : decode cX2_readClause 4 = .ok (.bipush 121, 2) := by decide +kernel
theorem dX2_readClause_6 : decode cX2_readClause 6 = .ok (.invokevirtual 52, 3) := by decide +kernel
theorem dX2_readClause_9 : decode cX2_readClause 9 = .ok (.aload_n 0, 1) := by decide +kernel
theorem dX2_readClause_10 : decode cX2_readClause 10 = .ok (.getfield 15, 3) := by decide +kernel
theorem dX2_readClause_13 : decode cX2_readClause 13 = .ok (.bipush 58, 2) := by decide +kernel
theorem dX2_readClause_15 : decode cX2_readClause 15 = .ok (.invokevirtual 52, 3) := by decide +kernel
theorem dX2_readClause_18 : decode cX2_readClause 18 = .ok (.aload_n 0, 1) := by decide +kernel
theorem dX2_readClause_19 : decode cX2_readClause 19 = .ok (.getfield 15, 3) := by decide +kernel
theorem dX2_readClause_22 : decode cX2_readClause 22 = .ok (.invokevirtual 56, 3) := by decide +kernel
theorem dX2_readClause_25 : decode cX2_readClause 25 = .ok (.istore_n 1, 1) := by decide +kernel
theorem dX2_readClause_26 : decode cX2_readClause 26 = .ok (.iload_n 1, 1) := by decide +kernel
theorem dX2_readClause_27 : decode cX2_readClause 27 = .ok (.bipush 33, 2) := by decide +kernel
theorem dX2_readClause_29 : decode cX2_readClause 29 = .ok (.if_icmp .eq 9, 3) := by decide +kernel
theorem dX2_readClause_32 : decode cX2_readClause 32 = .ok (.iload_n 1, 1) := by decide +kernel
theorem dX2_readClause_33 : decode cX2_readClause 33 = .ok (.bipush 40, 2) := by decide +kernel
theorem dX2_readClause_35 : decode cX2_readClause 35 = .ok (.if_icmp .ne 7, 3) := by decide +kernel
theorem dX2_readClause_38 : decode cX2_readClause 38 = .ok (.iconst 1, 1) := by decide +kernel
theorem dX2_readClause_39 : decode cX2_readClause 39 = .ok (.goto 4, 3) := by decide +kernel
theorem dX2_readClause_42 : decode cX2_readClause 42 = .ok (.iconst 0, 1) := by decide +kernel
theorem dX2_readClause_43 : decode cX2_readClause 43 = .ok (.istore_n 2, 1) := by decide +kernel
theorem dX2_readClause_44 : decode cX2_readClause 44 = .ok (.iconst 0, 1) := by decide +kernel
theorem dX2_readClause_45 : decode cX2_readClause 45 = .ok (.istore_n 3, 1) := by decide +kernel
theorem dX2_readClause_46 : decode cX2_readClause 46 = .ok (.iload_n 2, 1) := by decide +kernel
theorem dX2_readClause_47 : decode cX2_readClause 47 = .ok (.ifCond .ne 30, 3) := by decide +kernel
theorem dX2_readClause_50 : decode cX2_readClause 50 = .ok (.aload_n 0, 1) := by decide +kernel
theorem dX2_readClause_51 : decode cX2_readClause 51 = .ok (.iconst 0, 1) := by decide +kernel
theorem dX2_readClause_52 : decode cX2_readClause 52 = .ok (.invokevirtual 60, 3) := by decide +kernel
theorem dX2_readClause_55 : decode cX2_readClause 55 = .ok (.aload_n 0, 1) := by decide +kernel
theorem dX2_readClause_56 : decode cX2_readClause 56 = .ok (.getfield 15, 3) := by decide +kernel
theorem dX2_readClause_59 : decode cX2_readClause 59 = .ok (.invokevirtual 56, 3) := by decide +kernel
theorem dX2_readClause_62 : decode cX2_readClause 62 = .ok (.invokestatic 63, 3) := by decide +kernel
theorem dX2_readClause_65 : decode cX2_readClause 65 = .ok (.iconst (-1), 1) := by decide +kernel
theorem dX2_readClause_66 : decode cX2_readClause 66 = .ok (.if_icmp .eq 7, 3) := by decide +kernel
theorem dX2_readClause_69 : decode cX2_readClause 69 = .ok (.iconst 1, 1) := by decide +kernel
theorem dX2_readClause_70 : decode cX2_readClause 70 = .ok (.goto 4, 3) := by decide +kernel
theorem dX2_readClause_73 : decode cX2_readClause 73 = .ok (.iconst 0, 1) := by decide +kernel
theorem dX2_readClause_74 : decode cX2_readClause 74 = .ok (.istore_n 2, 1) := by decide +kernel
theorem dX2_readClause_75 : decode cX2_readClause 75 = .ok (.iconst 1, 1) := by decide +kernel
theorem dX2_readClause_76 : decode cX2_readClause 76 = .ok (.istore_n 3, 1) := by decide +kernel
theorem dX2_readClause_77 : decode cX2_readClause 77 = .ok (.iload_n 2, 1) := by decide +kernel
theorem dX2_readClause_78 : decode cX2_readClause 78 = .ok (.ifCond .eq 29, 3) := by decide +kernel
theorem dX2_readClause_81 : decode cX2_readClause 81 = .ok (.aload_n 0, 1) := by decide +kernel
theorem dX2_readClause_82 : decode cX2_readClause 82 = .ok (.iconst 0, 1) := by decide +kernel
theorem dX2_readClause_83 : decode cX2_readClause 83 = .ok (.iload_n 3, 1) := by decide +kernel
theorem dX2_readClause_84 : decode cX2_readClause 84 = .ok (.invokevirtual 67, 3) := by decide +kernel
theorem dX2_readClause_87 : decode cX2_readClause 87 = .ok (.aload_n 0, 1) := by decide +kernel
theorem dX2_readClause_88 : decode cX2_readClause 88 = .ok (.getfield 15, 3) := by decide +kernel
theorem dX2_readClause_91 : decode cX2_readClause 91 = .ok (.bipush 63, 2) := by decide +kernel
theorem dX2_readClause_93 : decode cX2_readClause 93 = .ok (.invokevirtual 52, 3) := by decide +kernel
theorem dX2_readClause_96 : decode cX2_readClause 96 = .ok (.aload_n 0, 1) := by decide +kernel
theorem dX2_readClause_97 : decode cX2_readClause 97 = .ok (.bipush (-20), 2) := by decide +kernel
theorem dX2_readClause_99 : decode cX2_readClause 99 = .ok (.invokevirtual 71, 3) := by decide +kernel
theorem dX2_readClause_102 : decode cX2_readClause 102 = .ok (.aload_n 0, 1) := by decide +kernel
theorem dX2_readClause_103 : decode cX2_readClause 103 = .ok (.iconst 0, 1) := by decide +kernel
theorem dX2_readClause_104 : decode cX2_readClause 104 = .ok (.invokevirtual 60, 3) := by decide +kernel
theorem dX2_readClause_107 : decode cX2_readClause 107 = .ok (.aload_n 0, 1) := by decide +kernel
theorem dX2_readClause_108 : decode cX2_readClause 108 = .ok (.bipush (-21), 2) := by decide +kernel
theorem dX2_readClause_110 : decode cX2_readClause 110 = .ok (.invokevirtual 71, 3) := by decide +kernel
theorem dX2_readClause_113 : decode cX2_readClause 113 = .ok (.return_, 1) := by decide +kernel
noncomputable def kX2_readClause : Nat → Op := (nodeC 55 (nodeC 29 (nodeC 13 (nodeC 4 (nodeC 0 (leafC 0 (o_al 0 1)) (nodeC 1 (leafC 1 (o_gR 2 0 4)) (leafC 4 (o_ic (121) 6)))) (nodeC 9 (nodeC 6 (leafC 6 (o_inv 1 9 0 FX9_demand 9)) (leafC 9 (o_al 0 10))) (nodeC 10 (leafC 10 (o_gR 2 0 13)) (leafC 13 (o_ic (58) 15))))) (nodeC 22 (nodeC 18 (nodeC 15 (leafC 15 (o_inv 1 9 0 FX9_demand 18)) (leafC 18 (o_al 0 19))) (nodeC 19 (leafC 19 (o_gR 2 0 22)) (leafC 22 (o_inv 0 9 1 FX9_peek 25)))) (nodeC 26 (nodeC 25 (leafC 25 (o_is 1 26)) (leafC 26 (o_il 1 27))) (nodeC 27 (leafC 27 (o_ic (33) 29)) (leafC 29 (o_ceq 38 32)))))) (nodeC 43 (nodeC 35 (nodeC 32 (leafC 32 (o_il 1 33)) (nodeC 33 (leafC 33 (o_ic (40) 35)) (leafC 35 (o_cne 42 38)))) (nodeC 39 (nodeC 38 (leafC 38 (o_ic (1) 39)) (leafC 39 (o_goto 43))) (nodeC 42 (leafC 42 (o_ic (0) 43)) (leafC 43 (o_is 2 44))))) (nodeC 47 (nodeC 45 (nodeC 44 (leafC 44 (o_ic (0) 45)) (leafC 45 (o_is 3 46))) (nodeC 46 (leafC 46 (o_il 2 47)) (leafC 47 (o_zne 77 50)))) (nodeC 51 (nodeC 50 (leafC 50 (o_al 0 51)) (leafC 51 (o_ic (0) 52))) (nodeC 52 (leafC 52 (o_inv 1 2 0 FX2_readSum 55)) (leafC 55 (o_al 0 56))))))) (nodeC 82 (nodeC 70 (nodeC 62 (nodeC 56 (leafC 56 (o_gR 2 0 59)) (nodeC 59 (leafC 59 (o_inv 0 9 1 FX9_peek 62)) (leafC 62 (o_ist 1 1 FX2_comparison 65)))) (nodeC 66 (nodeC 65 (leafC 65 (o_ic (-1) 66)) (leafC 66 (o_ceq 73 69))) (nodeC 69 (leafC 69 (o_ic (1) 70)) (leafC 70 (o_goto 74))))) (nodeC 76 (nodeC 74 (nodeC 73 (leafC 73 (o_ic (0) 74)) (leafC 74 (o_is 2 75))) (nodeC 75 (leafC 75 (o_ic (1) 76)) (leafC 76 (o_is 3 77)))) (nodeC 78 (nodeC 77 (leafC 77 (o_il 2 78)) (leafC 78 (o_zeq 107 81))) (nodeC 81 (leafC 81 (o_al 0 82)) (leafC 82 (o_ic (0) 83)))))) (nodeC 97 (nodeC 88 (nodeC 84 (nodeC 83 (leafC 83 (o_il 3 84)) (leafC 84 (o_inv 2 2 0 FX2_readCondition 87))) (nodeC 87 (leafC 87 (o_al 0 88)) (leafC 88 (o_gR 2 0 91)))) (nodeC 93 (nodeC 91 (leafC 91 (o_ic (63) 93)) (leafC 93 (o_inv 1 9 0 FX9_demand 96))) (nodeC 96 (leafC 96 (o_al 0 97)) (leafC 97 (o_ic (-20) 99))))) (nodeC 104 (nodeC 102 (nodeC 99 (leafC 99 (o_inv 1 2 0 FX2_emit 102)) (leafC 102 (o_al 0 103))) (nodeC 103 (leafC 103 (o_ic (0) 104)) (leafC 104 (o_inv 1 2 0 FX2_readSum 107)))) (nodeC 108 (nodeC 107 (leafC 107 (o_al 0 108)) (leafC 108 (o_ic (-21) 110))) (nodeC 110 (leafC 110 (o_inv 1 2 0 FX2_emit 113)) (leafC 113 (o_vret))))))))
theorem sX2_readClause : ∀ pc, SoundOp cX2_readClause RX2 4 none false 63 1508 pc (kX2_readClause pc) := (so_node (so_node (so_node (so_node (so_node (so_leaf (so_aload_n dX2_readClause_0 rfl)) (so_node (so_leaf (so_gR (by decide) (by decide) wC2 wf_RX2_15 (fun _ _ _ => rfl) dX2_readClause_1)) (so_leaf (so_bipush dX2_readClause_4 (by decide))))) (so_node (so_node (so_leaf (so_inv CX9_demand (by decide) rfl wm_RX2_52 win_X9_demand wse_X9_demand wn_9 wc_X9_demand (by decide +kernel) (by decide) (by decide) dX2_readClause_6)) (so_leaf (so_aload_n dX2_readClause_9 rfl))) (so_node (so_leaf (so_gR (by decide) (by decide) wC2 wf_RX2_15 (fun _ _ _ => rfl) dX2_readClause_10)) (so_leaf (so_bipush dX2_readClause_13 (by decide)))))) (so_node (so_node (so_node (so_leaf (so_inv CX9_demand (by decide) rfl wm_RX2_52 win_X9_demand wse_X9_demand wn_9 wc_X9_demand (by decide +kernel) (by decide) (by decide) dX2_readClause_15)) (so_leaf (so_aload_n dX2_readClause_18 rfl))) (so_node (so_leaf (so_gR (by decide) (by decide) wC2 wf_RX2_15 (fun _ _ _ => rfl) dX2_readClause_19)) (so_leaf (so_inv CX9_peek (by decide) rfl wm_RX2_56 win_X9_peek wse_X9_peek wn_9 wc_X9_peek (by decide +kernel) (by decide) (by decide) dX2_readClause_22)))) (so_node (so_node (so_leaf (so_istore_n dX2_readClause_25 rfl (by decide))) (so_leaf (so_iload_n dX2_readClause_26 rfl))) (so_node (so_leaf (so_bipush dX2_readClause_27 (by decide))) (so_leaf (so_ceq dX2_readClause_29 (by decide))))))) (so_node (so_node (so_node (so_leaf (so_iload_n dX2_readClause_32 rfl)) (so_node (so_leaf (so_bipush dX2_readClause_33 (by decide))) (so_leaf (so_cne dX2_readClause_35 (by decide))))) (so_node (so_node (so_leaf (so_iconst dX2_readClause_38 (by decide))) (so_leaf (so_goto dX2_readClause_39 (by decide)))) (so_node (so_leaf (so_iconst dX2_readClause_42 (by decide))) (so_leaf (so_istore_n dX2_readClause_43 rfl (by decide)))))) (so_node (so_node (so_node (so_leaf (so_iconst dX2_readClause_44 (by decide))) (so_leaf (so_istore_n dX2_readClause_45 rfl (by decide)))) (so_node (so_leaf (so_iload_n dX2_readClause_46 rfl)) (so_leaf (so_zne dX2_readClause_47 (by decide))))) (so_node (so_node (so_leaf (so_aload_n dX2_readClause_50 rfl)) (so_leaf (so_iconst dX2_readClause_51 (by decide)))) (so_node (so_leaf (so_inv CX2_readSum (by decide) rfl wm_RX2_60 win_X2_readSum wse_X2_readSum wn_2 wc_X2_readSum (by decide +kernel) (by decide) (by decide) dX2_readClause_52)) (so_leaf (so_aload_n dX2_readClause_55 rfl))))))) (so_node (so_node (so_node (so_node (so_leaf (so_gR (by decide) (by decide) wC2 wf_RX2_15 (fun _ _ _ => rfl) dX2_readClause_56)) (so_node (so_leaf (so_inv CX9_peek (by decide) rfl wm_RX2_56 win_X9_peek wse_X9_peek wn_9 wc_X9_peek (by decide +kernel) (by decide) (by decide) dX2_readClause_59)) (so_leaf (so_ist CX2_comparison rfl wm_RX2_63 wst_X2_comparison wny_X2_comparison wc_X2_comparison (by decide +kernel) (by decide) (by decide) dX2_readClause_62)))) (so_node (so_node (so_leaf (so_iconst dX2_readClause_65 (by decide))) (so_leaf (so_ceq dX2_readClause_66 (by decide)))) (so_node (so_leaf (so_iconst dX2_readClause_69 (by decide))) (so_leaf (so_goto dX2_readClause_70 (by decide)))))) (so_node (so_node (so_node (so_leaf (so_iconst dX2_readClause_73 (by decide))) (so_leaf (so_istore_n dX2_readClause_74 rfl (by decide)))) (so_node (so_leaf (so_iconst dX2_readClause_75 (by decide))) (so_leaf (so_istore_n dX2_readClause_76 rfl (by decide))))) (so_node (so_node (so_leaf (so_iload_n dX2_readClause_77 rfl)) (so_leaf (so_zeq dX2_readClause_78 (by decide)))) (so_node (so_leaf (so_aload_n dX2_readClause_81 rfl)) (so_leaf (so_iconst dX2_readClause_82 (by decide))))))) (so_node (so_node (so_node (so_node (so_leaf (so_iload_n dX2_readClause_83 rfl)) (so_leaf (so_inv CX2_readCondition (by decide) rfl wm_RX2_67 win_X2_readCondition wse_X2_readCondition wn_2 wc_X2_readCondition (by decide +kernel) (by decide) (by decide) dX2_readClause_84))) (so_node (so_leaf (so_aload_n dX2_readClause_87 rfl)) (so_leaf (so_gR (by decide) (by decide) wC2 wf_RX2_15 (fun _ _ _ => rfl) dX2_readClause_88)))) (so_node (so_node (so_leaf (so_bipush dX2_readClause_91 (by decide))) (so_leaf (so_inv CX9_demand (by decide) rfl wm_RX2_52 win_X9_demand wse_X9_demand wn_9 wc_X9_demand (by decide +kernel) (by decide) (by decide) dX2_readClause_93))) (so_node (so_leaf (so_aload_n dX2_readClause_96 rfl)) (so_leaf (so_bipush dX2_readClause_97 (by decide)))))) (so_node (so_node (so_node (so_leaf (so_inv CX2_emit (by decide) rfl wm_RX2_71 win_X2_emit wse_X2_emit wn_2 wc_X2_emit (by decide +kernel) (by decide) (by decide) dX2_readClause_99)) (so_leaf (so_aload_n dX2_readClause_102 rfl))) (so_node (so_leaf (so_iconst dX2_readClause_103 (by decide))) (so_leaf (so_inv CX2_readSum (by decide) rfl wm_RX2_60 win_X2_readSum wse_X2_readSum wn_2 wc_X2_readSum (by decide +kernel) (by decide) (by decide) dX2_readClause_104)))) (so_node (so_node (so_leaf (so_aload_n dX2_readClause_107 rfl)) (so_leaf (so_bipush dX2_readClause_108 (by decide)))) (so_node (so_leaf (so_inv CX2_emit (by decide) rfl wm_RX2_71 win_X2_emit wse_X2_emit wn_2 wc_X2_emit (by decide +kernel) (by decide) (by decide) dX2_readClause_110)) (so_leaf (so_vret dX2_readClause_113 rfl))))))))
theorem pX2_readClause : ∀ pc, Pr (kX2_readClause pc) := (pr_node (pr_node (pr_node (pr_node (pr_node (pr_leaf (pr_al _ _)) (pr_node (pr_leaf (pr_gR _ _ _)) (pr_leaf (pr_ic _ _)))) (pr_node (pr_node (pr_leaf (pr_inv _ _ _ GX9_demand _)) (pr_leaf (pr_al _ _))) (pr_node (pr_leaf (pr_gR _ _ _)) (pr_leaf (pr_ic _ _))))) (pr_node (pr_node (pr_node (pr_leaf (pr_inv _ _ _ GX9_demand _)) (pr_leaf (pr_al _ _))) (pr_node (pr_leaf (pr_gR _ _ _)) (pr_leaf (pr_inv _ _ _ GX9_peek _)))) (pr_node (pr_node (pr_leaf (pr_is _ _)) (pr_leaf (pr_il _ _))) (pr_node (pr_leaf (pr_ic _ _)) (pr_leaf (pr_ceq _ _)))))) (pr_node (pr_node (pr_node (pr_leaf (pr_il _ _)) (pr_node (pr_leaf (pr_ic _ _)) (pr_leaf (pr_cne _ _)))) (pr_node (pr_node (pr_leaf (pr_ic _ _)) (pr_leaf (pr_goto _))) (pr_node (pr_leaf (pr_ic _ _)) (pr_leaf (pr_is _ _))))) (pr_node (pr_node (pr_node (pr_leaf (pr_ic _ _)) (pr_leaf (pr_is _ _))) (pr_node (pr_leaf (pr_il _ _)) (pr_leaf (pr_zne _ _)))) (pr_node (pr_node (pr_leaf (pr_al _ _)) (pr_leaf (pr_ic _ _))) (pr_node (pr_leaf (pr_inv _ _ _ GX2_readSum _)) (pr_leaf (pr_al _ _))))))) (pr_node (pr_node (pr_node (pr_node (pr_leaf (pr_gR _ _ _)) (pr_node (pr_leaf (pr_inv _ _ _ GX9_peek _)) (pr_leaf (pr_ist _ _ GX2_comparison _)))) (pr_node (pr_node (pr_leaf (pr_ic _ _)) (pr_leaf (pr_ceq _ _))) (pr_node (pr_leaf (pr_ic _ _)) (pr_leaf (pr_goto _))))) (pr_node (pr_node (pr_node (pr_leaf (pr_ic _ _)) (pr_leaf (pr_is _ _))) (pr_node (pr_leaf (pr_ic _ _)) (pr_leaf (pr_is _ _)))) (pr_node (pr_node (pr_leaf (pr_il _ _)) (pr_leaf (pr_zeq _ _))) (pr_node (pr_leaf (pr_al _ _)) (pr_leaf (pr_ic _ _)))))) (pr_node (pr_node (pr_node (pr_node (pr_leaf (pr_il _ _)) (pr_leaf (pr_inv _ _ _ GX2_readCondition _))) (pr_node (pr_leaf (pr_al _ _)) (pr_leaf (pr_gR _ _ _)))) (pr_node (pr_node (pr_leaf (pr_ic _ _)) (pr_leaf (pr_inv _ _ _ GX9_demand _))) (pr_node (pr_leaf (pr_al _ _)) (pr_leaf (pr_ic _ _))))) (pr_node (pr_node (pr_node (pr_leaf (pr_inv _ _ _ GX2_emit _)) (pr_leaf (pr_al _ _))) (pr_node (pr_leaf (pr_ic _ _)) (pr_leaf (pr_inv _ _ _ GX2_readSum _)))) (pr_node (pr_node (pr_leaf (pr_al _ _)) (pr_leaf (pr_ic _ _))) (pr_node (pr_leaf (pr_inv _ _ _ GX2_emit _)) (pr_leaf (pr_vret))))))))
noncomputable def FX2_readClause : List EV → Hp → Option (RV × Hp) := Fm kX2_readClause 4
theorem CX2_readClause : Con yX2_readClause cX2_readClause 4 none 63 1508 FX2_readClause := con_of (own := RX2) rfl (by decide +kernel) sX2_readClause pX2_readClause (fun z => by cases z)
theorem GX2_readClause : Gr FX2_readClause := Gr_Fm pX2_readClause 4
theorem dX2_readLaw_0 : decode cX2_readLaw 0 = .ok (.aload_n 0, 1) := by decide +kernel
theorem dX2_readLaw_1 : decode cX2_readLaw 1 = .ok (.getfield 15, 3) := by decide +kernel
theorem dX2_readLaw_4 : decode cX2_readLaw 4 = .ok (.invokevirtual 34, 3) := by decide +kernel
theorem dX2_readLaw_7 : decode cX2_readLaw 7 = .ok (.aload_n 0, 1) := by decide +kernel
theorem dX2_readLaw_8 : decode cX2_readLaw 8 = .ok (.iconst 0, 1) := by decide +kernel
theorem dX2_readLaw_9 : decode cX2_readLaw 9 = .ok (.putfield 21, 3) := by decide +kernel
theorem dX2_readLaw_12 : decode cX2_readLaw 12 = .ok (.iconst 1, 1) := by decide +kernel
theorem dX2_readLaw_13 : decode cX2_readLaw 13 = .ok (.istore_n 1, 1) := by decide +kernel
theorem dX2_readLaw_14 : decode cX2_readLaw 14 = .ok (.iconst 0, 1) := by decide +kernel
theorem dX2_readLaw_15 : decode cX2_readLaw 15 = .ok (.istore_n 2, 1) := by decide +kernel
theorem dX2_readLaw_16 : decode cX2_readLaw 16 = .ok (.iload_n 2, 1) := by decide +kernel
theorem dX2_readLaw_17 : decode cX2_readLaw 17 = .ok (.sipush 240, 3) := by decide +kernel
theorem dX2_readLaw_20 : decode cX2_readLaw 20 = .ok (.if_icmp .ge 27, 3) := by decide +kernel
theorem dX2_readLaw_23 : decode cX2_readLaw 23 = .ok (.iload_n 1, 1) := by decide +kernel
theorem dX2_readLaw_24 : decode cX2_readLaw 24 = .ok (.ifCond .eq 23, 3) := by decide +kernel
theorem dX2_readLaw_27 : decode cX2_readLaw 27 = .ok (.aload_n 0, 1) := by decide +kernel
theorem dX2_readLaw_28 : decode cX2_readLaw 28 = .ok (.invokevirtual 39, 3) := by decide +kernel
theorem dX2_readLaw_31 : decode cX2_readLaw 31 = .ok (.aload_n 0, 1) := by decide +kernel
theorem dX2_readLaw_32 : decode cX2_readLaw 32 = .ok (.getfield 15, 3) := by decide +kernel
theorem dX2_readLaw_35 : decode cX2_readLaw 35 = .ok (.bipush 59, 2) := by decide +kernel
theorem dX2_readLaw_37 : decode cX2_readLaw 37 = .ok (.invokevirtual 42, 3) := by decide +kernel
theorem dX2_readLaw_40 : decode cX2_readLaw 40 = .ok (.istore_n 1, 1) := by decide +kernel
theorem dX2_readLaw_41 : decode cX2_readLaw 41 = .ok (.iinc 2 1, 3) := by decide +kernel
theorem dX2_readLaw_44 : decode cX2_readLaw 44 = .ok (.goto (-28), 3) := by decide +kernel
theorem dX2_readLaw_47 : decode cX2_readLaw 47 = .ok (.aload_n 0, 1) := by decide +kernel
theorem dX2_readLaw_48 : decode cX2_readLaw 48 = .ok (.getfield 15, 3) := by decide +kernel
theorem dX2_readLaw_51 : decode cX2_readLaw 51 = .ok (.invokevirtual 46, 3) := by decide +kernel
theorem dX2_readLaw_54 : decode cX2_readLaw 54 = .ok (.aload_n 0, 1) := by decide +kernel
theorem dX2_readLaw_55 : decode cX2_readLaw 55 = .ok (.getfield 15, 3) := by decide +kernel
theorem dX2_readLaw_58 : decode cX2_readLaw 58 = .ok (.getfield 49, 3) := by decide +kernel
theorem dX2_readLaw_61 : decode cX2_readLaw 61 = .ok (.ireturn, 1) := by decide +kernel
noncomputable def kX2_readLaw : Nat → Op := (nodeC 24 (nodeC 12 (nodeC 4 (nodeC 0 (leafC 0 (o_al 0 1)) (nodeC 1 (leafC 1 (o_gR 2 0 4)) (leafC 4 (o_inv 0 9 0 FX9_rewind 7)))) (nodeC 8 (nodeC 7 (leafC 7 (o_al 0 8)) (leafC 8 (o_ic (0) 9))) (nodeC 9 (leafC 9 (o_pI 2 2 12)) (leafC 12 (o_ic (1) 13))))) (nodeC 16 (nodeC 14 (nodeC 13 (leafC 13 (o_is 1 14)) (leafC 14 (o_ic (0) 15))) (nodeC 15 (leafC 15 (o_is 2 16)) (leafC 16 (o_il 2 17)))) (nodeC 20 (nodeC 17 (leafC 17 (o_ic (240) 20)) (leafC 20 (o_cge 47 23))) (nodeC 23 (leafC 23 (o_il 1 24)) (leafC 24 (o_zeq 47 27)))))) (nodeC 41 (nodeC 32 (nodeC 28 (nodeC 27 (leafC 27 (o_al 0 28)) (leafC 28 (o_inv 0 2 0 FX2_readClause 31))) (nodeC 31 (leafC 31 (o_al 0 32)) (leafC 32 (o_gR 2 0 35)))) (nodeC 37 (nodeC 35 (leafC 35 (o_ic (59) 37)) (leafC 37 (o_inv 1 9 1 FX9_accept 40))) (nodeC 40 (leafC 40 (o_is 1 41)) (leafC 41 (o_inc 2 (1) 44))))) (nodeC 51 (nodeC 47 (nodeC 44 (leafC 44 (o_goto 16)) (leafC 47 (o_al 0 48))) (nodeC 48 (leafC 48 (o_gR 2 0 51)) (leafC 51 (o_inv 0 9 0 FX9_demandEnd 54)))) (nodeC 55 (nodeC 54 (leafC 54 (o_al 0 55)) (leafC 55 (o_gR 2 0 58))) (nodeC 58 (leafC 58 (o_gI 9 3 61)) (leafC 61 (o_iret)))))))
theorem sX2_readLaw : ∀ pc, SoundOp cX2_readLaw RX2 3 (some .int) false 64 1531 pc (kX2_readLaw pc) := (so_node (so_node (so_node (so_node (so_leaf (so_aload_n dX2_readLaw_0 rfl)) (so_node (so_leaf (so_gR (by decide) (by decide) wC2 wf_RX2_15 (fun _ _ _ => rfl) dX2_readLaw_1)) (so_leaf (so_inv CX9_rewind (by decide) rfl wm_RX2_34 win_X9_rewind wse_X9_rewind wn_9 wc_X9_rewind (by decide +kernel) (by decide) (by decide) dX2_readLaw_4)))) (so_node (so_node (so_leaf (so_aload_n dX2_readLaw_7 rfl)) (so_leaf (so_iconst dX2_readLaw_8 (by decide)))) (so_node (so_leaf (so_pI (by decide) (by decide) wC2 wf_RX2_21 (Or.inl rfl) rfl dX2_readLaw_9)) (so_leaf (so_iconst dX2_readLaw_12 (by decide)))))) (so_node (so_node (so_node (so_leaf (so_istore_n dX2_readLaw_13 rfl (by decide))) (so_leaf (so_iconst dX2_readLaw_14 (by decide)))) (so_node (so_leaf (so_istore_n dX2_readLaw_15 rfl (by decide))) (so_leaf (so_iload_n dX2_readLaw_16 rfl)))) (so_node (so_node (so_leaf (so_sipush dX2_readLaw_17 (by decide))) (so_leaf (so_cge dX2_readLaw_20 (by decide)))) (so_node (so_leaf (so_iload_n dX2_readLaw_23 rfl)) (so_leaf (so_zeq dX2_readLaw_24 (by decide))))))) (so_node (so_node (so_node (so_node (so_leaf (so_aload_n dX2_readLaw_27 rfl)) (so_leaf (so_inv CX2_readClause (by decide) rfl wm_RX2_39 win_X2_readClause wse_X2_readClause wn_2 wc_X2_readClause (by decide +kernel) (by decide) (by decide) dX2_readLaw_28))) (so_node (so_leaf (so_aload_n dX2_readLaw_31 rfl)) (so_leaf (so_gR (by decide) (by decide) wC2 wf_RX2_15 (fun _ _ _ => rfl) dX2_readLaw_32)))) (so_node (so_node (so_leaf (so_bipush dX2_readLaw_35 (by decide))) (so_leaf (so_inv CX9_accept (by decide) rfl wm_RX2_42 win_X9_accept wse_X9_accept wn_9 wc_X9_accept (by decide +kernel) (by decide) (by decide) dX2_readLaw_37))) (so_node (so_leaf (so_istore_n dX2_readLaw_40 rfl (by decide))) (so_leaf (so_iinc dX2_readLaw_41 (by decide) (by decide)))))) (so_node (so_node (so_node (so_leaf (so_goto dX2_readLaw_44 (by decide))) (so_leaf (so_aload_n dX2_readLaw_47 rfl))) (so_node (so_leaf (so_gR (by decide) (by decide) wC2 wf_RX2_15 (fun _ _ _ => rfl) dX2_readLaw_48)) (so_leaf (so_inv CX9_demandEnd (by decide) rfl wm_RX2_46 win_X9_demandEnd wse_X9_demandEnd wn_9 wc_X9_demandEnd (by decide +kernel) (by decide) (by decide) dX2_readLaw_51)))) (so_node (so_node (so_leaf (so_aload_n dX2_readLaw_54 rfl)) (so_leaf (so_gR (by decide) (by decide) wC2 wf_RX2_15 (fun _ _ _ => rfl) dX2_readLaw_55))) (so_node (so_leaf (so_gI (by decide) (by decide) wC9 wf_RX2_49 (fun _ _ _ => rfl) dX2_readLaw_58)) (so_leaf (so_iret dX2_readLaw_61 rfl)))))))
theorem pX2_readLaw : ∀ pc, Pr (kX2_readLaw pc) := (pr_node (pr_node (pr_node (pr_node (pr_leaf (pr_al _ _)) (pr_node (pr_leaf (pr_gR _ _ _)) (pr_leaf (pr_inv _ _ _ GX9_rewind _)))) (pr_node (pr_node (pr_leaf (pr_al _ _)) (pr_leaf (pr_ic _ _))) (pr_node (pr_leaf (pr_pI _ _ _)) (pr_leaf (pr_ic _ _))))) (pr_node (pr_node (pr_node (pr_leaf (pr_is _ _)) (pr_leaf (pr_ic _ _))) (pr_node (pr_leaf (pr_is _ _)) (pr_leaf (pr_il _ _)))) (pr_node (pr_node (pr_leaf (pr_ic _ _)) (pr_leaf (pr_cge _ _))) (pr_node (pr_leaf (pr_il _ _)) (pr_leaf (pr_zeq _ _)))))) (pr_node (pr_node (pr_node (pr_node (pr_leaf (pr_al _ _)) (pr_leaf (pr_inv _ _ _ GX2_readClause _))) (pr_node (pr_leaf (pr_al _ _)) (pr_leaf (pr_gR _ _ _)))) (pr_node (pr_node (pr_leaf (pr_ic _ _)) (pr_leaf (pr_inv _ _ _ GX9_accept _))) (pr_node (pr_leaf (pr_is _ _)) (pr_leaf (pr_inc _ _ _))))) (pr_node (pr_node (pr_node (pr_leaf (pr_goto _)) (pr_leaf (pr_al _ _))) (pr_node (pr_leaf (pr_gR _ _ _)) (pr_leaf (pr_inv _ _ _ GX9_demandEnd _)))) (pr_node (pr_node (pr_leaf (pr_al _ _)) (pr_leaf (pr_gR _ _ _))) (pr_node (pr_leaf (pr_gI _ _ _)) (pr_leaf (pr_iret)))))))
noncomputable def FX2_readLaw : List EV → Hp → Option (RV × Hp) := Fm kX2_readLaw 3
theorem CX2_readLaw : Con yX2_readLaw cX2_readLaw 3 (some .int) 64 1531 FX2_readLaw := con_of (own := RX2) rfl (by decide +kernel) sX2_readLaw pX2_readLaw (fun z => by cases z)
theorem GX2_readLaw : Gr FX2_readLaw := Gr_Fm pX2_readLaw 3
