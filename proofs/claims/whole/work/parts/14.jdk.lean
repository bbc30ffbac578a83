/-! ===== JDK: fill, copyOf, floorMod ===== -/
theorem wm_RJ7_304 : Cond.methodLink RJ7 304 Lib.Math.min.name ∈ bigW := big_mem 694 (by decide +kernel) (by decide +kernel)
theorem wms_min : Cond.static Lib.Math.min.name ∈ bigW := big_mem 695 (by decide +kernel) (by decide +kernel)
theorem wmi : Cond.initialized "java/lang/Math" ∈ bigW := big_mem 114 (by decide +kernel) (by decide +kernel)
theorem wmc_min : Cond.code Lib.Math.min.name Lib.Math.min.code 2 (some .int) ∈ bigW := big_mem 696 (by decide +kernel) (by decide +kernel)
theorem wm_RJ7_150 : Cond.methodLink RJ7 150 arraycopyName ∈ bigW := big_mem 697 (by decide +kernel) (by decide +kernel)
theorem wac1 : Cond.native arraycopyName ∈ bigW := big_mem 699 (by decide +kernel) (by decide +kernel)
theorem wac2 : Cond.static arraycopyName ∈ bigW := big_mem 698 (by decide +kernel) (by decide +kernel)
theorem wac3 : Cond.initialized "java/lang/System" ∈ bigW := big_mem 116 (by decide +kernel) (by decide +kernel)
theorem dJ9_floorMod_7cf53_0 : decode cJ9_floorMod_7cf53 0 = .ok (.iload_n 0, 1) := by decide +kernel
theorem dJ9_floorMod_7cf53_1 : decode cJ9_floorMod_7cf53 1 = .ok (.iload_n 1, 1) := by decide +kernel
theorem dJ9_floorMod_7cf53_2 : decode cJ9_floorMod_7cf53 2 = .ok (.irem, 1) := by decide +kernel
theorem dJ9_floorMod_7cf53_3 : decode cJ9_floorMod_7cf53 3 = .ok (.istore_n 2, 1) := by decide +kernel
theorem dJ9_floorMod_7cf53_4 : decode cJ9_floorMod_7cf53 4 = .ok (.iload_n 0, 1) := by decide +kernel
theorem dJ9_floorMod_7cf53_5 : decode cJ9_floorMod_7cf53 5 = .ok (.iload_n 1, 1) := by decide +kernel
theorem dJ9_floorMod_7cf53_6 : decode cJ9_floorMod_7cf53 6 = .ok (.ixor, 1) := by decide +kernel
theorem dJ9_floorMod_7cf53_7 : decode cJ9_floorMod_7cf53 7 = .ok (.ifCond .ge 11, 3) := by decide +kernel
theorem dJ9_floorMod_7cf53_10 : decode cJ9_floorMod_7cf53 10 = .ok (.iload_n 2, 1) := by decide +kernel
theorem dJ9_floorMod_7cf53_11 : decode cJ9_floorMod_7cf53 11 = .ok (.ifCond .eq 7, 3) := by decide +kernel
theorem dJ9_floorMod_7cf53_14 : decode cJ9_floorMod_7cf53 14 = .ok (.iload_n 2, 1) := by decide +kernel
theorem dJ9_floorMod_7cf53_15 : decode cJ9_floorMod_7cf53 15 = .ok (.iload_n 1, 1) := by decide +kernel
theorem dJ9_floorMod_7cf53_16 : decode cJ9_floorMod_7cf53 16 = .ok (.iadd, 1) := by decide +kernel
theorem dJ9_floorMod_7cf53_17 : decode cJ9_floorMod_7cf53 17 = .ok (.ireturn, 1) := by decide +kernel
theorem dJ9_floorMod_7cf53_18 : decode cJ9_floorMod_7cf53 18 = .ok (.iload_n 2, 1) := by decide +kernel
theorem dJ9_floorMod_7cf53_19 : decode cJ9_floorMod_7cf53 19 = .ok (.ireturn, 1) := by decide +kernel
noncomputable def kJ9_floorMod_7cf53 : Nat → Op := (nodeC 7 (nodeC 3 (nodeC 1 (nodeC 0 (leafC 0 (o_il 0 1)) (leafC 1 (o_il 1 2))) (nodeC 2 (leafC 2 (o_irem 3)) (leafC 3 (o_is 2 4)))) (nodeC 5 (nodeC 4 (leafC 4 (o_il 0 5)) (leafC 5 (o_il 1 6))) (nodeC 6 (leafC 6 (o_ixor 7)) (leafC 7 (o_zge 18 10))))) (nodeC 15 (nodeC 11 (nodeC 10 (leafC 10 (o_il 2 11)) (leafC 11 (o_zeq 18 14))) (nodeC 14 (leafC 14 (o_il 2 15)) (leafC 15 (o_il 1 16)))) (nodeC 17 (nodeC 16 (leafC 16 (o_iadd 17)) (leafC 17 (o_iret))) (nodeC 18 (leafC 18 (o_il 2 19)) (leafC 19 (o_iret))))))
theorem sJ9_floorMod_7cf53 : ∀ pc, SoundOp cJ9_floorMod_7cf53 RJ9 3 (some .int) false 0 0 pc (kJ9_floorMod_7cf53 pc) := (so_node (so_node (so_node (so_node (so_leaf (so_iload_n dJ9_floorMod_7cf53_0 rfl)) (so_leaf (so_iload_n dJ9_floorMod_7cf53_1 rfl))) (so_node (so_leaf (so_irem dJ9_floorMod_7cf53_2)) (so_leaf (so_istore_n dJ9_floorMod_7cf53_3 rfl (by decide))))) (so_node (so_node (so_leaf (so_iload_n dJ9_floorMod_7cf53_4 rfl)) (so_leaf (so_iload_n dJ9_floorMod_7cf53_5 rfl))) (so_node (so_leaf (so_ixor dJ9_floorMod_7cf53_6)) (so_leaf (so_zge dJ9_floorMod_7cf53_7 (by decide)))))) (so_node (so_node (so_node (so_leaf (so_iload_n dJ9_floorMod_7cf53_10 rfl)) (so_leaf (so_zeq dJ9_floorMod_7cf53_11 (by decide)))) (so_node (so_leaf (so_iload_n dJ9_floorMod_7cf53_14 rfl)) (so_leaf (so_iload_n dJ9_floorMod_7cf53_15 rfl)))) (so_node (so_node (so_leaf (so_iadd dJ9_floorMod_7cf53_16)) (so_leaf (so_iret dJ9_floorMod_7cf53_17 rfl))) (so_node (so_leaf (so_iload_n dJ9_floorMod_7cf53_18 rfl)) (so_leaf (so_iret dJ9_floorMod_7cf53_19 rfl))))))
theorem pJ9_floorMod_7cf53 : ∀ pc, Pr (kJ9_floorMod_7cf53 pc) := (pr_node (pr_node (pr_node (pr_node (pr_leaf (pr_il _ _)) (pr_leaf (pr_il _ _))) (pr_node (pr_leaf (pr_irem _)) (pr_leaf (pr_is _ _)))) (pr_node (pr_node (pr_leaf (pr_il _ _)) (pr_leaf (pr_il _ _))) (pr_node (pr_leaf (pr_ixor _)) (pr_leaf (pr_zge _ _))))) (pr_node (pr_node (pr_node (pr_leaf (pr_il _ _)) (pr_leaf (pr_zeq _ _))) (pr_node (pr_leaf (pr_il _ _)) (pr_leaf (pr_il _ _)))) (pr_node (pr_node (pr_leaf (pr_iadd _)) (pr_leaf (pr_iret))) (pr_node (pr_leaf (pr_il _ _)) (pr_leaf (pr_iret))))))
noncomputable def FJ9_floorMod_7cf53 : List EV → Hp → Option (RV × Hp) := Fm kJ9_floorMod_7cf53 3
theorem CJ9_floorMod_7cf53 : Con yJ9_floorMod_7cf53 cJ9_floorMod_7cf53 3 (some .int) 0 0 FJ9_floorMod_7cf53 := con_ofF (own := RJ9) rfl (by decide +kernel) sJ9_floorMod_7cf53 pJ9_floorMod_7cf53 (fun z => by cases z)
theorem GJ9_floorMod_7cf53 : Gr FJ9_floorMod_7cf53 := Gr_Fm pJ9_floorMod_7cf53 3
theorem dJ7_fill_d0a16_0 : decode cJ7_fill_d0a16 0 = .ok (.iconst 0, 1) := by decide +kernel
theorem dJ7_fill_d0a16_1 : decode cJ7_fill_d0a16 1 = .ok (.istore_n 3, 1) := by decide +kernel
theorem dJ7_fill_d0a16_2 : decode cJ7_fill_d0a16 2 = .ok (.aload_n 0, 1) := by decide +kernel
theorem dJ7_fill_d0a16_3 : decode cJ7_fill_d0a16 3 = .ok (.arraylength, 1) := by decide +kernel
theorem dJ7_fill_d0a16_4 : decode cJ7_fill_d0a16 4 = .ok (.istore 4, 2) := by decide +kernel
theorem dJ7_fill_d0a16_6 : decode cJ7_fill_d0a16 6 = .ok (.iload_n 3, 1) := by decide +kernel
theorem dJ7_fill_d0a16_7 : decode cJ7_fill_d0a16 7 = .ok (.iload 4, 2) := by decide +kernel
theorem dJ7_fill_d0a16_9 : decode cJ7_fill_d0a16 9 = .ok (.if_icmp .ge 13, 3) := by decide +kernel
theorem dJ7_fill_d0a16_12 : decode cJ7_fill_d0a16 12 = .ok (.aload_n 0, 1) := by decide +kernel
theorem dJ7_fill_d0a16_13 : decode cJ7_fill_d0a16 13 = .ok (.iload_n 3, 1) := by decide +kernel
theorem dJ7_fill_d0a16_14 : decode cJ7_fill_d0a16 14 = .ok (.lload_n 1, 1) := by decide +kernel
theorem dJ7_fill_d0a16_15 : decode cJ7_fill_d0a16 15 = .ok (.lastore, 1) := by decide +kernel
theorem dJ7_fill_d0a16_16 : decode cJ7_fill_d0a16 16 = .ok (.iinc 3 1, 3) := by decide +kernel
theorem dJ7_fill_d0a16_19 : decode cJ7_fill_d0a16 19 = .ok (.goto (-13), 3) := by decide +kernel
theorem dJ7_fill_d0a16_22 : decode cJ7_fill_d0a16 22 = .ok (.return_, 1) := by decide +kernel
noncomputable def kJ7_fill_d0a16 : Nat → Op := (nodeC 7 (nodeC 2 (nodeC 0 (leafC 0 (o_ic (0) 1)) (nodeC 1 (leafC 1 (o_is 3 2)) (leafC 2 (o_al 0 3)))) (nodeC 4 (nodeC 3 (leafC 3 (o_alen 4)) (leafC 4 (o_is 4 6))) (nodeC 6 (leafC 6 (o_il 3 7)) (leafC 7 (o_il 4 9))))) (nodeC 14 (nodeC 12 (nodeC 9 (leafC 9 (o_cge 22 12)) (leafC 12 (o_al 0 13))) (nodeC 13 (leafC 13 (o_il 3 14)) (leafC 14 (o_ll 1 15)))) (nodeC 16 (nodeC 15 (leafC 15 (o_last 16)) (leafC 16 (o_inc 3 (1) 19))) (nodeC 19 (leafC 19 (o_goto 6)) (leafC 22 (o_vret))))))
theorem sJ7_fill_d0a16 : ∀ pc, SoundOp cJ7_fill_d0a16 RJ7 5 none false 0 0 pc (kJ7_fill_d0a16 pc) := (so_node (so_node (so_node (so_leaf (so_iconst dJ7_fill_d0a16_0 (by decide))) (so_node (so_leaf (so_istore_n dJ7_fill_d0a16_1 rfl (by decide))) (so_leaf (so_aload_n dJ7_fill_d0a16_2 rfl)))) (so_node (so_node (so_leaf (so_alen dJ7_fill_d0a16_3)) (so_leaf (so_istore dJ7_fill_d0a16_4 (by decide)))) (so_node (so_leaf (so_iload_n dJ7_fill_d0a16_6 rfl)) (so_leaf (so_iload dJ7_fill_d0a16_7))))) (so_node (so_node (so_node (so_leaf (so_cge dJ7_fill_d0a16_9 (by decide))) (so_leaf (so_aload_n dJ7_fill_d0a16_12 rfl))) (so_node (so_leaf (so_iload_n dJ7_fill_d0a16_13 rfl)) (so_leaf (so_lload_n dJ7_fill_d0a16_14 rfl)))) (so_node (so_node (so_leaf (so_last dJ7_fill_d0a16_15)) (so_leaf (so_iinc dJ7_fill_d0a16_16 (by decide) (by decide)))) (so_node (so_leaf (so_goto dJ7_fill_d0a16_19 (by decide))) (so_leaf (so_vret dJ7_fill_d0a16_22 rfl))))))
theorem pJ7_fill_d0a16 : ∀ pc, Pr (kJ7_fill_d0a16 pc) := (pr_node (pr_node (pr_node (pr_leaf (pr_ic _ _)) (pr_node (pr_leaf (pr_is _ _)) (pr_leaf (pr_al _ _)))) (pr_node (pr_node (pr_leaf (pr_alen _)) (pr_leaf (pr_is _ _))) (pr_node (pr_leaf (pr_il _ _)) (pr_leaf (pr_il _ _))))) (pr_node (pr_node (pr_node (pr_leaf (pr_cge _ _)) (pr_leaf (pr_al _ _))) (pr_node (pr_leaf (pr_il _ _)) (pr_leaf (pr_ll _ _)))) (pr_node (pr_node (pr_leaf (pr_last _)) (pr_leaf (pr_inc _ _ _))) (pr_node (pr_leaf (pr_goto _)) (pr_leaf (pr_vret))))))
noncomputable def FJ7_fill_d0a16 : List EV → Hp → Option (RV × Hp) := Fm kJ7_fill_d0a16 5
theorem CJ7_fill_d0a16 : Con yJ7_fill_d0a16 cJ7_fill_d0a16 5 none 0 0 FJ7_fill_d0a16 := con_ofF (own := RJ7) rfl (by decide +kernel) sJ7_fill_d0a16 pJ7_fill_d0a16 (fun z => by cases z)
theorem GJ7_fill_d0a16 : Gr FJ7_fill_d0a16 := Gr_Fm pJ7_fill_d0a16 5
theorem dJ7_fill_53178_0 : decode cJ7_fill_53178 0 = .ok (.iconst 0, 1) := by decide +kernel
theorem dJ7_fill_53178_1 : decode cJ7_fill_53178 1 = .ok (.istore_n 2, 1) := by decide +kernel
theorem dJ7_fill_53178_2 : decode cJ7_fill_53178 2 = .ok (.aload_n 0, 1) := by decide +kernel
theorem dJ7_fill_53178_3 : decode cJ7_fill_53178 3 = .ok (.arraylength, 1) := by decide +kernel
theorem dJ7_fill_53178_4 : decode cJ7_fill_53178 4 = .ok (.istore_n 3, 1) := by decide +kernel
theorem dJ7_fill_53178_5 : decode cJ7_fill_53178 5 = .ok (.iload_n 2, 1) := by decide +kernel
theorem dJ7_fill_53178_6 : decode cJ7_fill_53178 6 = .ok (.iload_n 3, 1) := by decide +kernel
theorem dJ7_fill_53178_7 : decode cJ7_fill_53178 7 = .ok (.if_icmp .ge 13, 3) := by decide +kernel
theorem dJ7_fill_53178_10 : decode cJ7_fill_53178 10 = .ok (.aload_n 0, 1) := by decide +kernel
theorem dJ7_fill_53178_11 : decode cJ7_fill_53178 11 = .ok (.iload_n 2, 1) := by decide +kernel
theorem dJ7_fill_53178_12 : decode cJ7_fill_53178 12 = .ok (.iload_n 1, 1) := by decide +kernel
theorem dJ7_fill_53178_13 : decode cJ7_fill_53178 13 = .ok (.iastore, 1) := by decide +kernel
theorem dJ7_fill_53178_14 : decode cJ7_fill_53178 14 = .ok (.iinc 2 1, 3) := by decide +kernel
theorem dJ7_fill_53178_17 : decode cJ7_fill_53178 17 = .ok (.goto (-12), 3) := by decide +kernel
theorem dJ7_fill_53178_20 : decode cJ7_fill_53178 20 = .ok (.return_, 1) := by decide +kernel
noncomputable def kJ7_fill_53178 : Nat → Op := (nodeC 6 (nodeC 2 (nodeC 0 (leafC 0 (o_ic (0) 1)) (nodeC 1 (leafC 1 (o_is 2 2)) (leafC 2 (o_al 0 3)))) (nodeC 4 (nodeC 3 (leafC 3 (o_alen 4)) (leafC 4 (o_is 3 5))) (nodeC 5 (leafC 5 (o_il 2 6)) (leafC 6 (o_il 3 7))))) (nodeC 12 (nodeC 10 (nodeC 7 (leafC 7 (o_cge 20 10)) (leafC 10 (o_al 0 11))) (nodeC 11 (leafC 11 (o_il 2 12)) (leafC 12 (o_il 1 13)))) (nodeC 14 (nodeC 13 (leafC 13 (o_iast 14)) (leafC 14 (o_inc 2 (1) 17))) (nodeC 17 (leafC 17 (o_goto 5)) (leafC 20 (o_vret))))))
theorem sJ7_fill_53178 : ∀ pc, SoundOp cJ7_fill_53178 RJ7 4 none false 0 0 pc (kJ7_fill_53178 pc) := (so_node (so_node (so_node (so_leaf (so_iconst dJ7_fill_53178_0 (by decide))) (so_node (so_leaf (so_istore_n dJ7_fill_53178_1 rfl (by decide))) (so_leaf (so_aload_n dJ7_fill_53178_2 rfl)))) (so_node (so_node (so_leaf (so_alen dJ7_fill_53178_3)) (so_leaf (so_istore_n dJ7_fill_53178_4 rfl (by decide)))) (so_node (so_leaf (so_iload_n dJ7_fill_53178_5 rfl)) (so_leaf (so_iload_n dJ7_fill_53178_6 rfl))))) (so_node (so_node (so_node (so_leaf (so_cge dJ7_fill_53178_7 (by decide))) (so_leaf (so_aload_n dJ7_fill_53178_10 rfl))) (so_node (so_leaf (so_iload_n dJ7_fill_53178_11 rfl)) (so_leaf (so_iload_n dJ7_fill_53178_12 rfl)))) (so_node (so_node (so_leaf (so_iast dJ7_fill_53178_13)) (so_leaf (so_iinc dJ7_fill_53178_14 (by decide) (by decide)))) (so_node (so_leaf (so_goto dJ7_fill_53178_17 (by decide))) (so_leaf (so_vret dJ7_fill_53178_20 rfl))))))
theorem pJ7_fill_53178 : ∀ pc, Pr (kJ7_fill_53178 pc) := (pr_node (pr_node (pr_node (pr_leaf (pr_ic _ _)) (pr_node (pr_leaf (pr_is _ _)) (pr_leaf (pr_al _ _)))) (pr_node (pr_node (pr_leaf (pr_alen _)) (pr_leaf (pr_is _ _))) (pr_node (pr_leaf (pr_il _ _)) (pr_leaf (pr_il _ _))))) (pr_node (pr_node (pr_node (pr_leaf (pr_cge _ _)) (pr_leaf (pr_al _ _))) (pr_node (pr_leaf (pr_il _ _)) (pr_leaf (pr_il _ _)))) (pr_node (pr_node (pr_leaf (pr_iast _)) (pr_leaf (pr_inc _ _ _))) (pr_node (pr_leaf (pr_goto _)) (pr_leaf (pr_vret))))))
noncomputable def FJ7_fill_53178 : List EV → Hp → Option (RV × Hp) := Fm kJ7_fill_53178 4
theorem CJ7_fill_53178 : Con yJ7_fill_53178 cJ7_fill_53178 4 none 0 0 FJ7_fill_53178 := con_ofF (own := RJ7) rfl (by decide +kernel) sJ7_fill_53178 pJ7_fill_53178 (fun z => by cases z)
theorem GJ7_fill_53178 : Gr FJ7_fill_53178 := Gr_Fm pJ7_fill_53178 4
theorem dJ7_copyOf_59c91_0 : decode cJ7_copyOf_59c91 0 = .ok (.iload_n 1, 1) := by decide +kernel
theorem dJ7_copyOf_59c91_1 : decode cJ7_copyOf_59c91 1 = .ok (.aload_n 0, 1) := by decide +kernel
theorem dJ7_copyOf_59c91_2 : decode cJ7_copyOf_59c91 2 = .ok (.arraylength, 1) := by decide +kernel
theorem dJ7_copyOf_59c91_3 : decode cJ7_copyOf_59c91 3 = .ok (.if_icmp .ne 11, 3) := by decide +kernel
theorem dJ7_copyOf_59c91_6 : decode cJ7_copyOf_59c91 6 = .ok (.aload_n 0, 1) := by decide +kernel
theorem dJ7_copyOf_59c91_7 : decode cJ7_copyOf_59c91 7 = .ok (.invokevirtual 316, 3) := by decide +kernel
theorem dJ7_copyOf_59c91_10 : decode cJ7_copyOf_59c91 10 = .ok (.checkcast 317, 3) := by decide +kernel
theorem dJ7_copyOf_59c91_13 : decode cJ7_copyOf_59c91 13 = .ok (.areturn, 1) := by decide +kernel
theorem dJ7_copyOf_59c91_14 : decode cJ7_copyOf_59c91 14 = .ok (.iload_n 1, 1) := by decide +kernel
theorem dJ7_copyOf_59c91_15 : decode cJ7_copyOf_59c91 15 = .ok (.newarray .int, 2) := by decide +kernel
theorem dJ7_copyOf_59c91_17 : decode cJ7_copyOf_59c91 17 = .ok (.astore_n 2, 1) := by decide +kernel
theorem dJ7_copyOf_59c91_18 : decode cJ7_copyOf_59c91 18 = .ok (.aload_n 0, 1) := by decide +kernel
theorem dJ7_copyOf_59c91_19 : decode cJ7_copyOf_59c91 19 = .ok (.iconst 0, 1) := by decide +kernel
theorem dJ7_copyOf_59c91_20 : decode cJ7_copyOf_59c91 20 = .ok (.aload_n 2, 1) := by decide +kernel
theorem dJ7_copyOf_59c91_21 : decode cJ7_copyOf_59c91 21 = .ok (.iconst 0, 1) := by decide +kernel
theorem dJ7_copyOf_59c91_22 : decode cJ7_copyOf_59c91 22 = .ok (.aload_n 0, 1) := by decide +kernel
theorem dJ7_copyOf_59c91_23 : decode cJ7_copyOf_59c91 23 = .ok (.arraylength, 1) := by decide +kernel
theorem dJ7_copyOf_59c91_24 : decode cJ7_copyOf_59c91 24 = .ok (.iload_n 1, 1) := by decide +kernel
theorem dJ7_copyOf_59c91_25 : decode cJ7_copyOf_59c91 25 = .ok (.invokestatic 304, 3) := by decide +kernel
theorem dJ7_copyOf_59c91_28 : decode cJ7_copyOf_59c91 28 = .ok (.invokestatic 150, 3) := by decide +kernel
theorem dJ7_copyOf_59c91_31 : decode cJ7_copyOf_59c91 31 = .ok (.aload_n 2, 1) := by decide +kernel
theorem dJ7_copyOf_59c91_32 : decode cJ7_copyOf_59c91 32 = .ok (.areturn, 1) := by decide +kernel
noncomputable def kJ7_copyOf_59c91 : Nat → Op := (nodeC 17 (nodeC 6 (nodeC 1 (nodeC 0 (leafC 0 (o_il 1 1)) (leafC 1 (o_al 0 2))) (nodeC 2 (leafC 2 (o_alen 3)) (nodeC 3 (leafC 3 (o_cne 14 6)) (leafC 6 (o_al 0 7))))) (nodeC 13 (nodeC 7 (leafC 7 (failO)) (nodeC 10 (leafC 10 (failO)) (leafC 13 (o_aret)))) (nodeC 14 (leafC 14 (o_il 1 15)) (nodeC 15 (leafC 15 (o_newa 20 17)) (leafC 17 (o_as 2 18)))))) (nodeC 22 (nodeC 19 (nodeC 18 (leafC 18 (o_al 0 19)) (leafC 19 (o_ic (0) 20))) (nodeC 20 (leafC 20 (o_al 2 21)) (nodeC 21 (leafC 21 (o_ic (0) 22)) (leafC 22 (o_al 0 23))))) (nodeC 25 (nodeC 23 (leafC 23 (o_alen 24)) (nodeC 24 (leafC 24 (o_il 1 25)) (leafC 25 (o_min 28)))) (nodeC 28 (leafC 28 (o_acopy 31)) (nodeC 31 (leafC 31 (o_al 2 32)) (leafC 32 (o_aret)))))))
theorem sJ7_copyOf_59c91 : ∀ pc, SoundOp cJ7_copyOf_59c91 RJ7 3 (some (.array .int)) false 1 60 pc (kJ7_copyOf_59c91 pc) := (so_node (so_node (so_node (so_node (so_leaf (so_iload_n dJ7_copyOf_59c91_0 rfl)) (so_leaf (so_aload_n dJ7_copyOf_59c91_1 rfl))) (so_node (so_leaf (so_alen dJ7_copyOf_59c91_2)) (so_node (so_leaf (so_cne dJ7_copyOf_59c91_3 (by decide))) (so_leaf (so_aload_n dJ7_copyOf_59c91_6 rfl))))) (so_node (so_node (so_leaf (so_fail _)) (so_node (so_leaf (so_fail _)) (so_leaf (so_aretA dJ7_copyOf_59c91_13 rfl)))) (so_node (so_leaf (so_iload_n dJ7_copyOf_59c91_14 rfl)) (so_node (so_leaf (so_newa (at' := .int) (t0 := 0) (Or.inl rfl) (fun _ => rfl) (fun _ _ z => z) rfl (by decide) wa_int dJ7_copyOf_59c91_15)) (so_leaf (so_astore_n dJ7_copyOf_59c91_17 rfl (by decide))))))) (so_node (so_node (so_node (so_leaf (so_aload_n dJ7_copyOf_59c91_18 rfl)) (so_leaf (so_iconst dJ7_copyOf_59c91_19 (by decide)))) (so_node (so_leaf (so_aload_n dJ7_copyOf_59c91_20 rfl)) (so_node (so_leaf (so_iconst dJ7_copyOf_59c91_21 (by decide))) (so_leaf (so_aload_n dJ7_copyOf_59c91_22 rfl))))) (so_node (so_node (so_leaf (so_alen dJ7_copyOf_59c91_23)) (so_node (so_leaf (so_iload_n dJ7_copyOf_59c91_24 rfl)) (so_leaf (so_min wm_RJ7_304 wms_min wmi wmc_min (by decide) (by decide) dJ7_copyOf_59c91_25)))) (so_node (so_leaf (so_acopy wm_RJ7_150 wac1 wac2 wac3 (by decide) (by decide) dJ7_copyOf_59c91_28)) (so_node (so_leaf (so_aload_n dJ7_copyOf_59c91_31 rfl)) (so_leaf (so_aretA dJ7_copyOf_59c91_32 rfl)))))))
theorem pJ7_copyOf_59c91 : ∀ pc, Pr (kJ7_copyOf_59c91 pc) := (pr_node (pr_node (pr_node (pr_node (pr_leaf (pr_il _ _)) (pr_leaf (pr_al _ _))) (pr_node (pr_leaf (pr_alen _)) (pr_node (pr_leaf (pr_cne _ _)) (pr_leaf (pr_al _ _))))) (pr_node (pr_node (pr_leaf (pr_fail)) (pr_node (pr_leaf (pr_fail)) (pr_leaf (pr_aret)))) (pr_node (pr_leaf (pr_il _ _)) (pr_node (pr_leaf (pr_newa _ _)) (pr_leaf (pr_as _ _)))))) (pr_node (pr_node (pr_node (pr_leaf (pr_al _ _)) (pr_leaf (pr_ic _ _))) (pr_node (pr_leaf (pr_al _ _)) (pr_node (pr_leaf (pr_ic _ _)) (pr_leaf (pr_al _ _))))) (pr_node (pr_node (pr_leaf (pr_alen _)) (pr_node (pr_leaf (pr_il _ _)) (pr_leaf (pr_min _)))) (pr_node (pr_leaf (pr_acopy _)) (pr_node (pr_leaf (pr_al _ _)) (pr_leaf (pr_aret)))))))
noncomputable def FJ7_copyOf_59c91 : List EV → Hp → Option (RV × Hp) := Fm kJ7_copyOf_59c91 3
theorem CJ7_copyOf_59c91 : Con yJ7_copyOf_59c91 cJ7_copyOf_59c91 3 (some (.array .int)) 1 60 FJ7_copyOf_59c91 := con_ofF (own := RJ7) rfl (by decide +kernel) sJ7_copyOf_59c91 pJ7_copyOf_59c91 (fun z => by cases z)
theorem GJ7_copyOf_59c91 : Gr FJ7_copyOf_59c91 := Gr_Fm pJ7_copyOf_59c91 3
