/-! ===== JDK: fill, copyOf, floorMod, String ===== -/
theorem ws_RJ0_38 : Cond.fieldLink RJ0 38 "java/lang/String" "COMPACT_STRINGS" "Z" ∈ bigW := big_mem 1481 (by decide +kernel) (by decide +kernel)
theorem wf_RJ0_15 : Cond.fieldLink RJ0 15 "java/lang/String" "coder" "B" ∈ bigW := big_mem 1975 (by decide +kernel) (by decide +kernel)
theorem wf_RJ0_9 : Cond.fieldLink RJ0 9 "java/lang/String" "value" "[B" ∈ bigW := big_mem 1974 (by decide +kernel) (by decide +kernel)
theorem wm_RJ0_335 : Cond.methodLink RJ0 335 yJ0_coder_7d493 ∈ bigW := big_mem 1477 (by decide +kernel) (by decide +kernel)
theorem wc_J0_coder_7d493 : Cond.code yJ0_coder_7d493 cJ0_coder_7d493 1 (some .byte) ∈ bigW := big_mem 1480 (by decide +kernel) (by decide +kernel)
theorem win_J0_coder_7d493 : Cond.instanceMethod yJ0_coder_7d493 ∈ bigW := big_mem 1478 (by decide +kernel) (by decide +kernel)
theorem wse_J0_coder_7d493 : Cond.selects "java/lang/String" yJ0_coder_7d493 yJ0_coder_7d493 ∈ bigW := big_mem 1479 (by decide +kernel) (by decide +kernel)
theorem wn_str : Cond.initialized "java/lang/String" ∈ bigW := big_mem 110 (by decide +kernel) (by decide +kernel)
theorem ws_RJ0_1053 : Cond.fieldLink RJ0 1053 "jdk/internal/util/Preconditions" "SIOOBE_FORMATTER" "Ljava/util/function/BiFunction;" ∈ bigW := big_mem 1500 (by decide +kernel) (by decide +kernel)
theorem wm_RJ0_1059 : Cond.methodLink RJ0 1059 yJ3_checkIndex_8e157 ∈ bigW := big_mem 1502 (by decide +kernel) (by decide +kernel)
theorem wc_J3_checkIndex_8e157 : Cond.code yJ3_checkIndex_8e157 cJ3_checkIndex_8e157 3 (some .int) ∈ bigW := big_mem 1504 (by decide +kernel) (by decide +kernel)
theorem wst_J3_checkIndex_8e157 : Cond.static yJ3_checkIndex_8e157 ∈ bigW := big_mem 1503 (by decide +kernel) (by decide +kernel)
theorem wny_J3_checkIndex_8e157 : Cond.initialized yJ3_checkIndex_8e157.cls ∈ bigW := big_mem 112 (by decide +kernel) (by decide +kernel)
theorem wm_RJ1_9 : Cond.methodLink RJ1 9 yJ0_checkIndex_df160 ∈ bigW := big_mem 1497 (by decide +kernel) (by decide +kernel)
theorem wc_J0_checkIndex_df160 : Cond.code yJ0_checkIndex_df160 cJ0_checkIndex_df160 2 none ∈ bigW := big_mem 1499 (by decide +kernel) (by decide +kernel)
theorem wst_J0_checkIndex_df160 : Cond.static yJ0_checkIndex_df160 ∈ bigW := big_mem 1498 (by decide +kernel) (by decide +kernel)
theorem wny_J0_checkIndex_df160 : Cond.initialized yJ0_checkIndex_df160.cls ∈ bigW := big_mem 110 (by decide +kernel) (by decide +kernel)
theorem wm_RJ0_492 : Cond.methodLink RJ0 492 yJ0_isLatin1_aae02 ∈ bigW := big_mem 1490 (by decide +kernel) (by decide +kernel)
theorem wc_J0_isLatin1_aae02 : Cond.code yJ0_isLatin1_aae02 cJ0_isLatin1_aae02 1 (some .boolean) ∈ bigW := big_mem 1493 (by decide +kernel) (by decide +kernel)
theorem win_J0_isLatin1_aae02 : Cond.instanceMethod yJ0_isLatin1_aae02 ∈ bigW := big_mem 1491 (by decide +kernel) (by decide +kernel)
theorem wse_J0_isLatin1_aae02 : Cond.selects "java/lang/String" yJ0_isLatin1_aae02 yJ0_isLatin1_aae02 ∈ bigW := big_mem 1492 (by decide +kernel) (by decide +kernel)
theorem wm_RJ0_495 : Cond.methodLink RJ0 495 yJ1_charAt_3b067 ∈ bigW := big_mem 1494 (by decide +kernel) (by decide +kernel)
theorem wc_J1_charAt_3b067 : Cond.code yJ1_charAt_3b067 cJ1_charAt_3b067 2 (some .char) ∈ bigW := big_mem 1496 (by decide +kernel) (by decide +kernel)
theorem wst_J1_charAt_3b067 : Cond.static yJ1_charAt_3b067 ∈ bigW := big_mem 1495 (by decide +kernel) (by decide +kernel)
theorem wny_J1_charAt_3b067 : Cond.initialized yJ1_charAt_3b067.cls ∈ bigW := big_mem 111 (by decide +kernel) (by decide +kernel)
theorem wm_RJ7_304 : Cond.methodLink RJ7 304 Lib.Math.min.name ∈ bigW := big_mem 694 (by decide +kernel) (by decide +kernel)
theorem wms_min : Cond.static Lib.Math.min.name ∈ bigW := big_mem 695 (by decide +kernel) (by decide +kernel)
theorem wmi : Cond.initialized "java/lang/Math" ∈ bigW := big_mem 114 (by decide +kernel) (by decide +kernel)
theorem wmc_min : Cond.code Lib.Math.min.name Lib.Math.min.code 2 (some .int) ∈ bigW := big_mem 696 (by decide +kernel) (by decide +kernel)
theorem wm_RJ7_150 : Cond.methodLink RJ7 150 arraycopyName ∈ bigW := big_mem 697 (by decide +kernel) (by decide +kernel)
theorem wac1 : Cond.native arraycopyName ∈ bigW := big_mem 699 (by decide +kernel) (by decide +kernel)
theorem wac2 : Cond.static arraycopyName ∈ bigW := big_mem 698 (by decide +kernel) (by decide +kernel)
theorem wac3 : Cond.initialized "java/lang/System" ∈ bigW := big_mem 116 (by decide +kernel) (by decide +kernel)
theorem dJ9_floorMod_7cf53_0 : decode cJ9_floorMod_7cf53 0 = .ok (.iload_n 0, 1) := by decide +kernel
theorem dJ9_floorMod_7cf53_1 : decode cJ9_floorMod_7cf53 1 = .ok (.iload_n 1, 1) := by decide +kernel
theorem dJ9_floorMod_7cf53_2 : decode cJ9_floorMod_7cf53 2 = .ok (.irem, 1) := by decide +kernel
theorem dJ9_floorMod_7cf53_3 : decode cJ9_floorMod_7cf53 3 = .ok (.istore_n 2, 1) := by decide +kernel
theorem dJ9_floorMod_7cf53_4 : decode cJ9_floorMod_7cf53 4 = .ok (.iload_n 0, 1) := by decide +kernel
theorem dJ9_floorMod_7cf53_5 : decode cJ9_floorMod_7cf53 5 = .ok (.iload_n 1, 1) := by decide +kernel
theorem dJ9_floorMod_7cf53_6 : decode cJ9_floorMod_7cf53 6 = .ok (.ixor, 1) := by decide +kernel
theorem dJ9_floorMod_7cf53_7 : decode cJ9_floorMod_7cf53 7 = .ok (.ifCond .ge 11, 3) := by decide +kernel
theorem dJ9_floorMod_7cf53_10 : decode cJ9_floorMod_7cf53 10 = .ok (.iload_n 2, 1) := by decide +kernel
theorem dJ9_floorMod_7cf53_11 : decode cJ9_floorMod_7cf53 11 = .ok (.ifCond .eq 7, 3) := by decide +kernel
theorem dJ9_floorMod_7cf53_14 : decode cJ9_floorMod_7cf53 14 = .ok (.iload_n 2, 1) := by decide +kernel
theorem dJ9_floorMod_7cf53_15 : decode cJ9_floorMod_7cf53 15 = .ok (.iload_n 1, 1) := by decide +kernel
theorem dJ9_floorMod_7cf53_16 : decode cJ9_floorMod_7cf53 16 = .ok (.iadd, 1) := by decide +kernel
theorem dJ9_floorMod_7cf53_17 : decode cJ9_floorMod_7cf53 17 = .ok (.ireturn, 1) := by decide +kernel
theorem dJ9_floorMod_7cf53_18 : decode cJ9_floorMod_7cf53 18 = .ok (.iload_n 2, 1) := by decide +kernel
theorem dJ9_floorMod_7cf53_19 : decode cJ9_floorMod_7cf53 19 = .ok (.ireturn, 1) := by decide +kernel
noncomputable def kJ9_floorMod_7cf53 : Nat → Op := (nodeC 7 (nodeC 3 (nodeC 1 (nodeC 0 (leafC 0 (o_il 0 1)) (leafC 1 (o_il 1 2))) (nodeC 2 (leafC 2 (o_irem 3)) (leafC 3 (o_is 2 4)))) (nodeC 5 (nodeC 4 (leafC 4 (o_il 0 5)) (leafC 5 (o_il 1 6))) (nodeC 6 (leafC 6 (o_ixor 7)) (leafC 7 (o_zge 18 10))))) (nodeC 15 (nodeC 11 (nodeC 10 (leafC 10 (o_il 2 11)) (leafC 11 (o_zeq 18 14))) (nodeC 14 (leafC 14 (o_il 2 15)) (leafC 15 (o_il 1 16)))) (nodeC 17 (nodeC 16 (leafC 16 (o_iadd 17)) (leafC 17 (o_iret))) (nodeC 18 (leafC 18 (o_il 2 19)) (leafC 19 (o_iret))))))
theorem sJ9_floorMod_7cf53 : ∀ pc, SoundOp cJ9_floorMod_7cf53 RJ9 3 (some .int) false 0 0 pc (kJ9_floorMod_7cf53 pc) := (so_node (so_node (so_node (so_node (so_leaf (so_iload_n dJ9_floorMod_7cf53_0 rfl)) (so_leaf (so_iload_n dJ9_floorMod_7cf53_1 rfl))) (so_node (so_leaf (so_irem dJ9_floorMod_7cf53_2)) (so_leaf (so_istore_n dJ9_floorMod_7cf53_3 rfl (by decide))))) (so_node (so_node (so_leaf (so_iload_n dJ9_floorMod_7cf53_4 rfl)) (so_leaf (so_iload_n dJ9_floorMod_7cf53_5 rfl))) (so_node (so_leaf (so_ixor dJ9_floorMod_7cf53_6)) (so_leaf (so_zge dJ9_floorMod_7cf53_7 (by decide)))))) (so_node (so_node (so_node (so_leaf (so_iload_n dJ9_floorMod_7cf53_10 rfl)) (so_leaf (so_zeq dJ9_floorMod_7cf53_11 (by decide)))) (so_node (so_leaf (so_iload_n dJ9_floorMod_7cf53_14 rfl)) (so_leaf (so_iload_n dJ9_floorMod_7cf53_15 rfl)))) (so_node (so_node (so_leaf (so_iadd dJ9_floorMod_7cf53_16)) (so_leaf (so_iret dJ9_floorMod_7cf53_17 rfl))) (so_node (so_leaf (so_iload_n dJ9_floorMod_7cf53_18 rfl)) (so_leaf (so_iret dJ9_floorMod_7cf53_19 rfl))))))
theorem pJ9_floorMod_7cf53 : ∀ pc, Pr (kJ9_floorMod_7cf53 pc) := (pr_node (pr_node (pr_node (pr_node (pr_leaf (pr_il _ _)) (pr_leaf (pr_il _ _))) (pr_node (pr_leaf (pr_irem _)) (pr_leaf (pr_is _ _)))) (pr_node (pr_node (pr_leaf (pr_il _ _)) (pr_leaf (pr_il _ _))) (pr_node (pr_leaf (pr_ixor _)) (pr_leaf (pr_zge _ _))))) (pr_node (pr_node (pr_node (pr_leaf (pr_il _ _)) (pr_leaf (pr_zeq _ _))) (pr_node (pr_leaf (pr_il _ _)) (pr_leaf (pr_il _ _)))) (pr_node (pr_node (pr_leaf (pr_iadd _)) (pr_leaf (pr_iret))) (pr_node (pr_leaf (pr_il _ _)) (pr_leaf (pr_iret))))))
noncomputable def FJ9_floorMod_7cf53 : List EV → Hp → Option (RV × Hp) := Fm kJ9_floorMod_7cf53 3
theorem CJ9_floorMod_7cf53 : Con yJ9_floorMod_7cf53 cJ9_floorMod_7cf53 3 (some .int) 0 0 FJ9_floorMod_7cf53 := con_ofF (own := RJ9) rfl (by decide +kernel) sJ9_floorMod_7cf53 pJ9_floorMod_7cf53 (fun z => by cases z)
theorem GJ9_floorMod_7cf53 : Gr FJ9_floorMod_7cf53 := Gr_Fm pJ9_floorMod_7cf53 3
theorem dJ0_coder_7d493_0 : decode cJ0_coder_7d493 0 = .ok (.getstatic 38, 3) := by decide +kernel
theorem dJ0_coder_7d493_3 : decode cJ0_coder_7d493 3 = .ok (.ifCond .eq 10, 3) := by decide +kernel
theorem dJ0_coder_7d493_6 : decode cJ0_coder_7d493 6 = .ok (.aload_n 0, 1) := by decide +kernel
theorem dJ0_coder_7d493_7 : decode cJ0_coder_7d493 7 = .ok (.getfield 15, 3) := by decide +kernel
theorem dJ0_coder_7d493_10 : decode cJ0_coder_7d493 10 = .ok (.goto 4, 3) := by decide +kernel
theorem dJ0_coder_7d493_13 : decode cJ0_coder_7d493 13 = .ok (.iconst 1, 1) := by decide +kernel
theorem dJ0_coder_7d493_14 : decode cJ0_coder_7d493 14 = .ok (.ireturn, 1) := by decide +kernel
noncomputable def kJ0_coder_7d493 : Nat → Op := (nodeC 6 (nodeC 0 (leafC 0 (o_ic 1 3)) (nodeC 3 (leafC 3 (o_zeq 13 6)) (leafC 6 (o_al 0 7)))) (nodeC 10 (nodeC 7 (leafC 7 (o_scod 10)) (leafC 10 (o_goto 14))) (nodeC 13 (leafC 13 (o_ic (1) 14)) (leafC 14 (o_nret .byte)))))
theorem sJ0_coder_7d493 : ∀ pc, SoundOp cJ0_coder_7d493 RJ0 1 (some .byte) false 0 0 pc (kJ0_coder_7d493 pc) := (so_node (so_node (so_leaf (so_gcomp ws_RJ0_38 dJ0_coder_7d493_0)) (so_node (so_leaf (so_zeq dJ0_coder_7d493_3 (by decide))) (so_leaf (so_aload_n dJ0_coder_7d493_6 rfl)))) (so_node (so_node (so_leaf (so_scod wf_RJ0_15 dJ0_coder_7d493_7)) (so_leaf (so_goto dJ0_coder_7d493_10 (by decide)))) (so_node (so_leaf (so_iconst dJ0_coder_7d493_13 (by decide))) (so_leaf (so_nret (Or.inr rfl) dJ0_coder_7d493_14 rfl)))))
theorem pJ0_coder_7d493 : ∀ pc, Pr (kJ0_coder_7d493 pc) := (pr_node (pr_node (pr_leaf (pr_ic _ _)) (pr_node (pr_leaf (pr_zeq _ _)) (pr_leaf (pr_al _ _)))) (pr_node (pr_node (pr_leaf (pr_scod _)) (pr_leaf (pr_goto _))) (pr_node (pr_leaf (pr_ic _ _)) (pr_leaf (pr_nret _)))))
noncomputable def FJ0_coder_7d493 : List EV → Hp → Option (RV × Hp) := Fm kJ0_coder_7d493 1
theorem CJ0_coder_7d493 : Con yJ0_coder_7d493 cJ0_coder_7d493 1 (some .byte) 0 0 FJ0_coder_7d493 := con_ofF (own := RJ0) rfl (by decide +kernel) sJ0_coder_7d493 pJ0_coder_7d493 (fun z => by cases z)
theorem GJ0_coder_7d493 : Gr FJ0_coder_7d493 := Gr_Fm pJ0_coder_7d493 1
theorem dJ0_length_8abf5_0 : decode cJ0_length_8abf5 0 = .ok (.aload_n 0, 1) := by decide +kernel
theorem dJ0_length_8abf5_1 : decode cJ0_length_8abf5 1 = .ok (.getfield 9, 3) := by decide +kernel
theorem dJ0_length_8abf5_4 : decode cJ0_length_8abf5 4 = .ok (.arraylength, 1) := by decide +kernel
theorem dJ0_length_8abf5_5 : decode cJ0_length_8abf5 5 = .ok (.aload_n 0, 1) := by decide +kernel
theorem dJ0_length_8abf5_6 : decode cJ0_length_8abf5 6 = .ok (.invokevirtual 335, 3) := by decide +kernel
theorem dJ0_length_8abf5_9 : decode cJ0_length_8abf5 9 = .ok (.ishr, 1) := by decide +kernel
theorem dJ0_length_8abf5_10 : decode cJ0_length_8abf5 10 = .ok (.ireturn, 1) := by decide +kernel
noncomputable def kJ0_length_8abf5 : Nat → Op := (nodeC 4 (nodeC 0 (leafC 0 (o_al 0 1)) (nodeC 1 (leafC 1 (o_sval 4)) (leafC 4 (o_alenP 5)))) (nodeC 6 (nodeC 5 (leafC 5 (o_al 0 6)) (leafC 6 (o_inv 0 40 1 FJ0_coder_7d493 9))) (nodeC 9 (leafC 9 (o_ishr 10)) (leafC 10 (o_iret)))))
theorem sJ0_length_8abf5 : ∀ pc, SoundOp cJ0_length_8abf5 RJ0 1 (some .int) false 1 20 pc (kJ0_length_8abf5 pc) := (so_node (so_node (so_leaf (so_aload_n dJ0_length_8abf5_0 rfl)) (so_node (so_leaf (so_sval wf_RJ0_9 dJ0_length_8abf5_1)) (so_leaf (so_alenP dJ0_length_8abf5_4)))) (so_node (so_node (so_leaf (so_aload_n dJ0_length_8abf5_5 rfl)) (so_leaf (so_invS CJ0_coder_7d493 rfl wm_RJ0_335 win_J0_coder_7d493 wse_J0_coder_7d493 wn_str wc_J0_coder_7d493 (by decide +kernel) (by decide) (by decide) dJ0_length_8abf5_6))) (so_node (so_leaf (so_ishr dJ0_length_8abf5_9)) (so_leaf (so_iret dJ0_length_8abf5_10 rfl)))))
theorem pJ0_length_8abf5 : ∀ pc, Pr (kJ0_length_8abf5 pc) := (pr_node (pr_node (pr_leaf (pr_al _ _)) (pr_node (pr_leaf (pr_sval _)) (pr_leaf (pr_alenP _)))) (pr_node (pr_node (pr_leaf (pr_al _ _)) (pr_leaf (pr_inv _ _ _ GJ0_coder_7d493 _))) (pr_node (pr_leaf (pr_ishr _)) (pr_leaf (pr_iret)))))
noncomputable def FJ0_length_8abf5 : List EV → Hp → Option (RV × Hp) := Fm kJ0_length_8abf5 1
theorem CJ0_length_8abf5 : Con yJ0_length_8abf5 cJ0_length_8abf5 1 (some .int) 1 20 FJ0_length_8abf5 := con_ofF (own := RJ0) rfl (by decide +kernel) sJ0_length_8abf5 pJ0_length_8abf5 (fun z => by cases z)
theorem GJ0_length_8abf5 : Gr FJ0_length_8abf5 := Gr_Fm pJ0_length_8abf5 1
theorem dJ0_isLatin1_aae02_0 : decode cJ0_isLatin1_aae02 0 = .ok (.getstatic 38, 3) := by decide +kernel
theorem dJ0_isLatin1_aae02_3 : decode cJ0_isLatin1_aae02 3 = .ok (.ifCond .eq 14, 3) := by decide +kernel
theorem dJ0_isLatin1_aae02_6 : decode cJ0_isLatin1_aae02 6 = .ok (.aload_n 0, 1) := by decide +kernel
theorem dJ0_isLatin1_aae02_7 : decode cJ0_isLatin1_aae02 7 = .ok (.getfield 15, 3) := by decide +kernel
theorem dJ0_isLatin1_aae02_10 : decode cJ0_isLatin1_aae02 10 = .ok (.ifCond .ne 7, 3) := by decide +kernel
theorem dJ0_isLatin1_aae02_13 : decode cJ0_isLatin1_aae02 13 = .ok (.iconst 1, 1) := by decide +kernel
theorem dJ0_isLatin1_aae02_14 : decode cJ0_isLatin1_aae02 14 = .ok (.goto 4, 3) := by decide +kernel
theorem dJ0_isLatin1_aae02_17 : decode cJ0_isLatin1_aae02 17 = .ok (.iconst 0, 1) := by decide +kernel
theorem dJ0_isLatin1_aae02_18 : decode cJ0_isLatin1_aae02 18 = .ok (.ireturn, 1) := by decide +kernel
noncomputable def kJ0_isLatin1_aae02 : Nat → Op := (nodeC 7 (nodeC 3 (nodeC 0 (leafC 0 (o_ic 1 3)) (leafC 3 (o_zeq 17 6))) (nodeC 6 (leafC 6 (o_al 0 7)) (leafC 7 (o_scod 10)))) (nodeC 13 (nodeC 10 (leafC 10 (o_zne 17 13)) (leafC 13 (o_ic (1) 14))) (nodeC 14 (leafC 14 (o_goto 18)) (nodeC 17 (leafC 17 (o_ic (0) 18)) (leafC 18 (o_zret))))))
theorem sJ0_isLatin1_aae02 : ∀ pc, SoundOp cJ0_isLatin1_aae02 RJ0 1 (some .boolean) false 0 0 pc (kJ0_isLatin1_aae02 pc) := (so_node (so_node (so_node (so_leaf (so_gcomp ws_RJ0_38 dJ0_isLatin1_aae02_0)) (so_leaf (so_zeq dJ0_isLatin1_aae02_3 (by decide)))) (so_node (so_leaf (so_aload_n dJ0_isLatin1_aae02_6 rfl)) (so_leaf (so_scod wf_RJ0_15 dJ0_isLatin1_aae02_7)))) (so_node (so_node (so_leaf (so_zne dJ0_isLatin1_aae02_10 (by decide))) (so_leaf (so_iconst dJ0_isLatin1_aae02_13 (by decide)))) (so_node (so_leaf (so_goto dJ0_isLatin1_aae02_14 (by decide))) (so_node (so_leaf (so_iconst dJ0_isLatin1_aae02_17 (by decide))) (so_leaf (so_zret dJ0_isLatin1_aae02_18 rfl))))))
theorem pJ0_isLatin1_aae02 : ∀ pc, Pr (kJ0_isLatin1_aae02 pc) := (pr_node (pr_node (pr_node (pr_leaf (pr_ic _ _)) (pr_leaf (pr_zeq _ _))) (pr_node (pr_leaf (pr_al _ _)) (pr_leaf (pr_scod _)))) (pr_node (pr_node (pr_leaf (pr_zne _ _)) (pr_leaf (pr_ic _ _))) (pr_node (pr_leaf (pr_goto _)) (pr_node (pr_leaf (pr_ic _ _)) (pr_leaf (pr_zret))))))
noncomputable def FJ0_isLatin1_aae02 : List EV → Hp → Option (RV × Hp) := Fm kJ0_isLatin1_aae02 1
theorem CJ0_isLatin1_aae02 : Con yJ0_isLatin1_aae02 cJ0_isLatin1_aae02 1 (some .boolean) 0 0 FJ0_isLatin1_aae02 := con_ofF (own := RJ0) rfl (by decide +kernel) sJ0_isLatin1_aae02 pJ0_isLatin1_aae02 (fun z => by cases z)
theorem GJ0_isLatin1_aae02 : Gr FJ0_isLatin1_aae02 := Gr_Fm pJ0_isLatin1_aae02 1
theorem dJ3_checkIndex_8e157_0 : decode cJ3_checkIndex_8e157 0 = .ok (.iload_n 0, 1) := by decide +kernel
theorem dJ3_checkIndex_8e157_1 : decode cJ3_checkIndex_8e157 1 = .ok (.ifCond .lt 8, 3) := by decide +kernel
theorem dJ3_checkIndex_8e157_4 : decode cJ3_checkIndex_8e157 4 = .ok (.iload_n 0, 1) := by decide +kernel
theorem dJ3_checkIndex_8e157_5 : decode cJ3_checkIndex_8e157 5 = .ok (.iload_n 1, 1) := by decide +kernel
theorem dJ3_checkIndex_8e157_6 : decode cJ3_checkIndex_8e157 6 = .ok (.if_icmp .lt 10, 3) := by decide +kernel
theorem dJ3_checkIndex_8e157_9 : decode cJ3_checkIndex_8e157 9 = .ok (.aload_n 2, 1) := by decide +kernel
theorem dJ3_checkIndex_8e157_10 : decode cJ3_checkIndex_8e157 10 = .ok (.iload_n 0, 1) := by decide +kernel
theorem dJ3_checkIndex_8e157_11 : decode cJ3_checkIndex_8e157 11 = .ok (.iload_n 1, 1) := by decide +kernel
theorem dJ3_checkIndex_8e157_12 : decode cJ3_checkIndex_8e157 12 = .ok (.invokestatic 95, 3) := by decide +kernel
theorem dJ3_checkIndex_8e157_15 : decode cJ3_checkIndex_8e157 15 = .ok (.athrow, 1) := by decide +kernel
theorem dJ3_checkIndex_8e157_16 : decode cJ3_checkIndex_8e157 16 = .ok (.iload_n 0, 1) := by decide +kernel
theorem dJ3_checkIndex_8e157_17 : decode cJ3_checkIndex_8e157 17 = .ok (.ireturn, 1) := by decide +kernel
noncomputable def kJ3_checkIndex_8e157 : Nat → Op := (nodeC 9 (nodeC 4 (nodeC 0 (leafC 0 (o_il 0 1)) (nodeC 1 (leafC 1 (o_zlt 9 4)) (leafC 4 (o_il 0 5)))) (nodeC 5 (leafC 5 (o_il 1 6)) (nodeC 6 (leafC 6 (o_clt 16 9)) (leafC 9 (failO))))) (nodeC 12 (nodeC 10 (leafC 10 (failO)) (nodeC 11 (leafC 11 (failO)) (leafC 12 (failO)))) (nodeC 15 (leafC 15 (failO)) (nodeC 16 (leafC 16 (o_il 0 17)) (leafC 17 (o_iret))))))
theorem sJ3_checkIndex_8e157 : ∀ pc, SoundOp cJ3_checkIndex_8e157 RJ3 3 (some .int) false 0 0 pc (kJ3_checkIndex_8e157 pc) := (so_node (so_node (so_node (so_leaf (so_iload_n dJ3_checkIndex_8e157_0 rfl)) (so_node (so_leaf (so_zlt dJ3_checkIndex_8e157_1 (by decide))) (so_leaf (so_iload_n dJ3_checkIndex_8e157_4 rfl)))) (so_node (so_leaf (so_iload_n dJ3_checkIndex_8e157_5 rfl)) (so_node (so_leaf (so_clt dJ3_checkIndex_8e157_6 (by decide))) (so_leaf (so_fail _))))) (so_node (so_node (so_leaf (so_fail _)) (so_node (so_leaf (so_fail _)) (so_leaf (so_fail _)))) (so_node (so_leaf (so_fail _)) (so_node (so_leaf (so_iload_n dJ3_checkIndex_8e157_16 rfl)) (so_leaf (so_iret dJ3_checkIndex_8e157_17 rfl))))))
theorem pJ3_checkIndex_8e157 : ∀ pc, Pr (kJ3_checkIndex_8e157 pc) := (pr_node (pr_node (pr_node (pr_leaf (pr_il _ _)) (pr_node (pr_leaf (pr_zlt _ _)) (pr_leaf (pr_il _ _)))) (pr_node (pr_leaf (pr_il _ _)) (pr_node (pr_leaf (pr_clt _ _)) (pr_leaf (pr_fail))))) (pr_node (pr_node (pr_leaf (pr_fail)) (pr_node (pr_leaf (pr_fail)) (pr_leaf (pr_fail)))) (pr_node (pr_leaf (pr_fail)) (pr_node (pr_leaf (pr_il _ _)) (pr_leaf (pr_iret))))))
noncomputable def FJ3_checkIndex_8e157 : List EV → Hp → Option (RV × Hp) := Fm kJ3_checkIndex_8e157 3
theorem CJ3_checkIndex_8e157 : Con yJ3_checkIndex_8e157 cJ3_checkIndex_8e157 3 (some .int) 0 0 FJ3_checkIndex_8e157 := con_ofF (own := RJ3) rfl (by decide +kernel) sJ3_checkIndex_8e157 pJ3_checkIndex_8e157 (fun z => by cases z)
theorem GJ3_checkIndex_8e157 : Gr FJ3_checkIndex_8e157 := Gr_Fm pJ3_checkIndex_8e157 3
theorem dJ0_checkIndex_df160_0 : decode cJ0_checkIndex_df160 0 = .ok (.iload_n 0, 1) := by decide +kernel
theorem dJ0_checkIndex_df160_1 : decode cJ0_checkIndex_df160 1 = .ok (.iload_n 1, 1) := by decide +kernel
theorem dJ0_checkIndex_df160_2 : decode cJ0_checkIndex_df160 2 = .ok (.getstatic 1053, 3) := by decide +kernel
theorem dJ0_checkIndex_df160_5 : decode cJ0_checkIndex_df160 5 = .ok (.invokestatic 1059, 3) := by decide +kernel
theorem dJ0_checkIndex_df160_8 : decode cJ0_checkIndex_df160 8 = .ok (.pop, 1) := by decide +kernel
theorem dJ0_checkIndex_df160_9 : decode cJ0_checkIndex_df160 9 = .ok (.return_, 1) := by decide +kernel
noncomputable def kJ0_checkIndex_df160 : Nat → Op := (nodeC 2 (nodeC 0 (leafC 0 (o_il 0 1)) (nodeC 1 (leafC 1 (o_il 1 2)) (leafC 2 (o_fmt 5)))) (nodeC 5 (leafC 5 (o_ist 3 1 FJ3_checkIndex_8e157 8)) (nodeC 8 (leafC 8 (o_popI 9)) (leafC 9 (o_vret)))))
theorem sJ0_checkIndex_df160 : ∀ pc, SoundOp cJ0_checkIndex_df160 RJ0 2 none false 1 22 pc (kJ0_checkIndex_df160 pc) := (so_node (so_node (so_leaf (so_iload_n dJ0_checkIndex_df160_0 rfl)) (so_node (so_leaf (so_iload_n dJ0_checkIndex_df160_1 rfl)) (so_leaf (so_fmt ws_RJ0_1053 dJ0_checkIndex_df160_2)))) (so_node (so_leaf (so_ist CJ3_checkIndex_8e157 rfl wm_RJ0_1059 wst_J3_checkIndex_8e157 wny_J3_checkIndex_8e157 wc_J3_checkIndex_8e157 (by decide +kernel) (by decide) (by decide) dJ0_checkIndex_df160_5)) (so_node (so_leaf (so_popI dJ0_checkIndex_df160_8)) (so_leaf (so_vret dJ0_checkIndex_df160_9 rfl)))))
theorem pJ0_checkIndex_df160 : ∀ pc, Pr (kJ0_checkIndex_df160 pc) := (pr_node (pr_node (pr_leaf (pr_il _ _)) (pr_node (pr_leaf (pr_il _ _)) (pr_leaf (pr_fmt _)))) (pr_node (pr_leaf (pr_ist _ _ GJ3_checkIndex_8e157 _)) (pr_node (pr_leaf (pr_popI _)) (pr_leaf (pr_vret)))))
noncomputable def FJ0_checkIndex_df160 : List EV → Hp → Option (RV × Hp) := Fm kJ0_checkIndex_df160 2
theorem CJ0_checkIndex_df160 : Con yJ0_checkIndex_df160 cJ0_checkIndex_df160 2 none 1 22 FJ0_checkIndex_df160 := con_ofF (own := RJ0) rfl (by decide +kernel) sJ0_checkIndex_df160 pJ0_checkIndex_df160 (fun z => by cases z)
theorem GJ0_checkIndex_df160 : Gr FJ0_checkIndex_df160 := Gr_Fm pJ0_checkIndex_df160 2
theorem dJ1_charAt_3b067_0 : decode cJ1_charAt_3b067 0 = .ok (.iload_n 1, 1) := by decide +kernel
theorem dJ1_charAt_3b067_1 : decode cJ1_charAt_3b067 1 = .ok (.aload_n 0, 1) := by decide +kernel
theorem dJ1_charAt_3b067_2 : decode cJ1_charAt_3b067 2 = .ok (.arraylength, 1) := by decide +kernel
theorem dJ1_charAt_3b067_3 : decode cJ1_charAt_3b067 3 = .ok (.invokestatic 9, 3) := by decide +kernel
theorem dJ1_charAt_3b067_6 : decode cJ1_charAt_3b067 6 = .ok (.aload_n 0, 1) := by decide +kernel
theorem dJ1_charAt_3b067_7 : decode cJ1_charAt_3b067 7 = .ok (.iload_n 1, 1) := by decide +kernel
theorem dJ1_charAt_3b067_8 : decode cJ1_charAt_3b067 8 = .ok (.baload, 1) := by decide +kernel
theorem dJ1_charAt_3b067_9 : decode cJ1_charAt_3b067 9 = .ok (.sipush 255, 3) := by decide +kernel
theorem dJ1_charAt_3b067_12 : decode cJ1_charAt_3b067 12 = .ok (.iand, 1) := by decide +kernel
theorem dJ1_charAt_3b067_13 : decode cJ1_charAt_3b067 13 = .ok (.i2c, 1) := by decide +kernel
theorem dJ1_charAt_3b067_14 : decode cJ1_charAt_3b067 14 = .ok (.ireturn, 1) := by decide +kernel
noncomputable def kJ1_charAt_3b067 : Nat → Op := (nodeC 6 (nodeC 1 (nodeC 0 (leafC 0 (o_il 1 1)) (leafC 1 (o_al 0 2))) (nodeC 2 (leafC 2 (o_alenP 3)) (nodeC 3 (leafC 3 (o_ist 2 0 FJ0_checkIndex_df160 6)) (leafC 6 (o_al 0 7))))) (nodeC 9 (nodeC 7 (leafC 7 (o_il 1 8)) (nodeC 8 (leafC 8 (o_baldP 9)) (leafC 9 (o_ic (255) 12)))) (nodeC 12 (leafC 12 (o_iand 13)) (nodeC 13 (leafC 13 (o_i2c 14)) (leafC 14 (o_nret .char))))))
theorem sJ1_charAt_3b067 : ∀ pc, SoundOp cJ1_charAt_3b067 RJ1 2 (some .char) false 2 43 pc (kJ1_charAt_3b067 pc) := (so_node (so_node (so_node (so_leaf (so_iload_n dJ1_charAt_3b067_0 rfl)) (so_leaf (so_aload_n dJ1_charAt_3b067_1 rfl))) (so_node (so_leaf (so_alenP dJ1_charAt_3b067_2)) (so_node (so_leaf (so_ist CJ0_checkIndex_df160 rfl wm_RJ1_9 wst_J0_checkIndex_df160 wny_J0_checkIndex_df160 wc_J0_checkIndex_df160 (by decide +kernel) (by decide) (by decide) dJ1_charAt_3b067_3)) (so_leaf (so_aload_n dJ1_charAt_3b067_6 rfl))))) (so_node (so_node (so_leaf (so_iload_n dJ1_charAt_3b067_7 rfl)) (so_node (so_leaf (so_baldP dJ1_charAt_3b067_8)) (so_leaf (so_sipush dJ1_charAt_3b067_9 (by decide))))) (so_node (so_leaf (so_iand dJ1_charAt_3b067_12)) (so_node (so_leaf (so_i2c dJ1_charAt_3b067_13)) (so_leaf (so_nret (Or.inl rfl) dJ1_charAt_3b067_14 rfl))))))
theorem pJ1_charAt_3b067 : ∀ pc, Pr (kJ1_charAt_3b067 pc) := (pr_node (pr_node (pr_node (pr_leaf (pr_il _ _)) (pr_leaf (pr_al _ _))) (pr_node (pr_leaf (pr_alenP _)) (pr_node (pr_leaf (pr_ist _ _ GJ0_checkIndex_df160 _)) (pr_leaf (pr_al _ _))))) (pr_node (pr_node (pr_leaf (pr_il _ _)) (pr_node (pr_leaf (pr_baldP _)) (pr_leaf (pr_ic _ _)))) (pr_node (pr_leaf (pr_iand _)) (pr_node (pr_leaf (pr_i2c _)) (pr_leaf (pr_nret _))))))
noncomputable def FJ1_charAt_3b067 : List EV → Hp → Option (RV × Hp) := Fm kJ1_charAt_3b067 2
theorem CJ1_charAt_3b067 : Con yJ1_charAt_3b067 cJ1_charAt_3b067 2 (some .char) 2 43 FJ1_charAt_3b067 := con_ofF (own := RJ1) rfl (by decide +kernel) sJ1_charAt_3b067 pJ1_charAt_3b067 (fun z => by cases z)
theorem GJ1_charAt_3b067 : Gr FJ1_charAt_3b067 := Gr_Fm pJ1_charAt_3b067 2
theorem dJ0_charAt_5068e_0 : decode cJ0_charAt_5068e 0 = .ok (.aload_n 0, 1) := by decide +kernel
theorem dJ0_charAt_5068e_1 : decode cJ0_charAt_5068e 1 = .ok (.invokevirtual 492, 3) := by decide +kernel
theorem dJ0_charAt_5068e_4 : decode cJ0_charAt_5068e 4 = .ok (.ifCond .eq 12, 3) := by decide +kernel
theorem dJ0_charAt_5068e_7 : decode cJ0_charAt_5068e 7 = .ok (.aload_n 0, 1) := by decide +kernel
theorem dJ0_charAt_5068e_8 : decode cJ0_charAt_5068e 8 = .ok (.getfield 9, 3) := by decide +kernel
theorem dJ0_charAt_5068e_11 : decode cJ0_charAt_5068e 11 = .ok (.iload_n 1, 1) := by decide +kernel
theorem dJ0_charAt_5068e_12 : decode cJ0_charAt_5068e 12 = .ok (.invokestatic 495, 3) := by decide +kernel
theorem dJ0_charAt_5068e_15 : decode cJ0_charAt_5068e 15 = .ok (.ireturn, 1) := by decide +kernel
theorem dJ0_charAt_5068e_16 : decode cJ0_charAt_5068e 16 = .ok (.aload_n 0, 1) := by decide +kernel
theorem dJ0_charAt_5068e_17 : decode cJ0_charAt_5068e 17 = .ok (.getfield 9, 3) := by decide +kernel
theorem dJ0_charAt_5068e_20 : decode cJ0_charAt_5068e 20 = .ok (.iload_n 1, 1) := by decide +kernel
theorem dJ0_charAt_5068e_21 : decode cJ0_charAt_5068e 21 = .ok (.invokestatic 498, 3) := by decide +kernel
theorem dJ0_charAt_5068e_24 : decode cJ0_charAt_5068e 24 = .ok (.ireturn, 1) := by decide +kernel
noncomputable def kJ0_charAt_5068e : Nat → Op := (nodeC 11 (nodeC 4 (nodeC 0 (leafC 0 (o_al 0 1)) (nodeC 1 (leafC 1 (o_inv 0 40 1 FJ0_isLatin1_aae02 4)) (leafC 4 (o_zeq 16 7)))) (nodeC 7 (leafC 7 (o_al 0 8)) (nodeC 8 (leafC 8 (o_sval 11)) (leafC 11 (o_il 1 12))))) (nodeC 16 (nodeC 12 (leafC 12 (o_ist 2 1 FJ1_charAt_3b067 15)) (nodeC 15 (leafC 15 (o_nret .char)) (leafC 16 (failO)))) (nodeC 20 (nodeC 17 (leafC 17 (failO)) (leafC 20 (failO))) (nodeC 21 (leafC 21 (failO)) (leafC 24 (failO))))))
theorem sJ0_charAt_5068e : ∀ pc, SoundOp cJ0_charAt_5068e RJ0 2 (some .char) false 3 64 pc (kJ0_charAt_5068e pc) := (so_node (so_node (so_node (so_leaf (so_aload_n dJ0_charAt_5068e_0 rfl)) (so_node (so_leaf (so_invS CJ0_isLatin1_aae02 rfl wm_RJ0_492 win_J0_isLatin1_aae02 wse_J0_isLatin1_aae02 wn_str wc_J0_isLatin1_aae02 (by decide +kernel) (by decide) (by decide) dJ0_charAt_5068e_1)) (so_leaf (so_zeq dJ0_charAt_5068e_4 (by decide))))) (so_node (so_leaf (so_aload_n dJ0_charAt_5068e_7 rfl)) (so_node (so_leaf (so_sval wf_RJ0_9 dJ0_charAt_5068e_8)) (so_leaf (so_iload_n dJ0_charAt_5068e_11 rfl))))) (so_node (so_node (so_leaf (so_ist CJ1_charAt_3b067 rfl wm_RJ0_495 wst_J1_charAt_3b067 wny_J1_charAt_3b067 wc_J1_charAt_3b067 (by decide +kernel) (by decide) (by decide) dJ0_charAt_5068e_12)) (so_node (so_leaf (so_nret (Or.inl rfl) dJ0_charAt_5068e_15 rfl)) (so_leaf (so_fail _)))) (so_node (so_node (so_leaf (so_fail _)) (so_leaf (so_fail _))) (so_node (so_leaf (so_fail _)) (so_leaf (so_fail _))))))
theorem pJ0_charAt_5068e : ∀ pc, Pr (kJ0_charAt_5068e pc) := (pr_node (pr_node (pr_node (pr_leaf (pr_al _ _)) (pr_node (pr_leaf (pr_inv _ _ _ GJ0_isLatin1_aae02 _)) (pr_leaf (pr_zeq _ _)))) (pr_node (pr_leaf (pr_al _ _)) (pr_node (pr_leaf (pr_sval _)) (pr_leaf (pr_il _ _))))) (pr_node (pr_node (pr_leaf (pr_ist _ _ GJ1_charAt_3b067 _)) (pr_node (pr_leaf (pr_nret _)) (pr_leaf (pr_fail)))) (pr_node (pr_node (pr_leaf (pr_fail)) (pr_leaf (pr_fail))) (pr_node (pr_leaf (pr_fail)) (pr_leaf (pr_fail))))))
noncomputable def FJ0_charAt_5068e : List EV → Hp → Option (RV × Hp) := Fm kJ0_charAt_5068e 2
theorem CJ0_charAt_5068e : Con yJ0_charAt_5068e cJ0_charAt_5068e 2 (some .char) 3 64 FJ0_charAt_5068e := con_ofF (own := RJ0) rfl (by decide +kernel) sJ0_charAt_5068e pJ0_charAt_5068e (fun z => by cases z)
theorem GJ0_charAt_5068e : Gr FJ0_charAt_5068e := Gr_Fm pJ0_charAt_5068e 2
theorem dJ7_fill_d0a16_0 : decode cJ7_fill_d0a16 0 = .ok (.iconst 0, 1) := by decide +kernel
theorem dJ7_fill_d0a16_1 : decode cJ7_fill_d0a16 1 = .ok (.istore_n 3, 1) := by decide +kernel
theorem dJ7_fill_d0a16_2 : decode cJ7_fill_d0a16 2 = .ok (.aload_n 0, 1) := by decide +kernel
theorem dJ7_fill_d0a16_3 : decode cJ7_fill_d0a16 3 = .ok (.arraylength, 1) := by decide +kernel
theorem dJ7_fill_d0a16_4 : decode cJ7_fill_d0a16 4 = .ok (.istore 4, 2) := by decide +kernel
theorem dJ7_fill_d0a16_6 : decode cJ7_fill_d0a16 6 = .ok (.iload_n 3, 1) := by decide +kernel
theorem dJ7_fill_d0a16_7 : decode cJ7_fill_d0a16 7 = .ok (.iload 4, 2) := by decide +kernel
theorem dJ7_fill_d0a16_9 : decode cJ7_fill_d0a16 9 = .ok (.if_icmp .ge 13, 3) := by decide +kernel
theorem dJ7_fill_d0a16_12 : decode cJ7_fill_d0a16 12 = .ok (.aload_n 0, 1) := by decide +kernel
theorem dJ7_fill_d0a16_13 : decode cJ7_fill_d0a16 13 = .ok (.iload_n 3, 1) := by decide +kernel
theorem dJ7_fill_d0a16_14 : decode cJ7_fill_d0a16 14 = .ok (.lload_n 1, 1) := by decide +kernel
theorem dJ7_fill_d0a16_15 : decode cJ7_fill_d0a16 15 = .ok (.lastore, 1) := by decide +kernel
theorem dJ7_fill_d0a16_16 : decode cJ7_fill_d0a16 16 = .ok (.iinc 3 1, 3) := by decide +kernel
theorem dJ7_fill_d0a16_19 : decode cJ7_fill_d0a16 19 = .ok (.goto (-13), 3) := by decide +kernel
theorem dJ7_fill_d0a16_22 : decode cJ7_fill_d0a16 22 = .ok (.return_, 1) := by decide +kernel
noncomputable def kJ7_fill_d0a16 : Nat → Op := (nodeC 7 (nodeC 2 (nodeC 0 (leafC 0 (o_ic (0) 1)) (nodeC 1 (leafC 1 (o_is 3 2)) (leafC 2 (o_al 0 3)))) (nodeC 4 (nodeC 3 (leafC 3 (o_alen 4)) (leafC 4 (o_is 4 6))) (nodeC 6 (leafC 6 (o_mask [2] (o_il 3 7))) (leafC 7 (o_il 4 9))))) (nodeC 14 (nodeC 12 (nodeC 9 (leafC 9 (o_cge 22 12)) (leafC 12 (o_al 0 13))) (nodeC 13 (leafC 13 (o_il 3 14)) (leafC 14 (o_ll 1 15)))) (nodeC 16 (nodeC 15 (leafC 15 (o_last 16)) (leafC 16 (o_inc 3 (1) 19))) (nodeC 19 (leafC 19 (o_goto 6)) (leafC 22 (o_vret))))))
theorem sJ7_fill_d0a16 : ∀ pc, SoundOp cJ7_fill_d0a16 RJ7 5 none false 0 0 pc (kJ7_fill_d0a16 pc) := (so_node (so_node (so_node (so_leaf (so_iconst dJ7_fill_d0a16_0 (by decide))) (so_node (so_leaf (so_istore_n dJ7_fill_d0a16_1 rfl (by decide))) (so_leaf (so_aload_n dJ7_fill_d0a16_2 rfl)))) (so_node (so_node (so_leaf (so_alen dJ7_fill_d0a16_3)) (so_leaf (so_istore dJ7_fill_d0a16_4 (by decide)))) (so_node (so_leaf (so_mask (so_iload_n dJ7_fill_d0a16_6 rfl))) (so_leaf (so_iload dJ7_fill_d0a16_7))))) (so_node (so_node (so_node (so_leaf (so_cge dJ7_fill_d0a16_9 (by decide))) (so_leaf (so_aload_n dJ7_fill_d0a16_12 rfl))) (so_node (so_leaf (so_iload_n dJ7_fill_d0a16_13 rfl)) (so_leaf (so_lload_n dJ7_fill_d0a16_14 rfl)))) (so_node (so_node (so_leaf (so_last dJ7_fill_d0a16_15)) (so_leaf (so_iinc dJ7_fill_d0a16_16 (by decide) (by decide)))) (so_node (so_leaf (so_goto dJ7_fill_d0a16_19 (by decide))) (so_leaf (so_vret dJ7_fill_d0a16_22 rfl))))))
theorem pJ7_fill_d0a16 : ∀ pc, Pr (kJ7_fill_d0a16 pc) := (pr_node (pr_node (pr_node (pr_leaf (pr_ic _ _)) (pr_node (pr_leaf (pr_is _ _)) (pr_leaf (pr_al _ _)))) (pr_node (pr_node (pr_leaf (pr_alen _)) (pr_leaf (pr_is _ _))) (pr_node (pr_leaf (pr_mask (pr_il _ _))) (pr_leaf (pr_il _ _))))) (pr_node (pr_node (pr_node (pr_leaf (pr_cge _ _)) (pr_leaf (pr_al _ _))) (pr_node (pr_leaf (pr_il _ _)) (pr_leaf (pr_ll _ _)))) (pr_node (pr_node (pr_leaf (pr_last _)) (pr_leaf (pr_inc _ _ _))) (pr_node (pr_leaf (pr_goto _)) (pr_leaf (pr_vret))))))
noncomputable def FJ7_fill_d0a16 : List EV → Hp → Option (RV × Hp) := Fm kJ7_fill_d0a16 5
theorem CJ7_fill_d0a16 : Con yJ7_fill_d0a16 cJ7_fill_d0a16 5 none 0 0 FJ7_fill_d0a16 := con_ofF (own := RJ7) rfl (by decide +kernel) sJ7_fill_d0a16 pJ7_fill_d0a16 (fun z => by cases z)
theorem GJ7_fill_d0a16 : Gr FJ7_fill_d0a16 := Gr_Fm pJ7_fill_d0a16 5
theorem dJ7_fill_53178_0 : decode cJ7_fill_53178 0 = .ok (.iconst 0, 1) := by decide +kernel
theorem dJ7_fill_53178_1 : decode cJ7_fill_53178 1 = .ok (.istore_n 2, 1) := by decide +kernel
theorem dJ7_fill_53178_2 : decode cJ7_fill_53178 2 = .ok (.aload_n 0, 1) := by decide +kernel
theorem dJ7_fill_53178_3 : decode cJ7_fill_53178 3 = .ok (.arraylength, 1) := by decide +kernel
theorem dJ7_fill_53178_4 : decode cJ7_fill_53178 4 = .ok (.istore_n 3, 1) := by decide +kernel
theorem dJ7_fill_53178_5 : decode cJ7_fill_53178 5 = .ok (.iload_n 2, 1) := by decide +kernel
theorem dJ7_fill_53178_6 : decode cJ7_fill_53178 6 = .ok (.iload_n 3, 1) := by decide +kernel
theorem dJ7_fill_53178_7 : decode cJ7_fill_53178 7 = .ok (.if_icmp .ge 13, 3) := by decide +kernel
theorem dJ7_fill_53178_10 : decode cJ7_fill_53178 10 = .ok (.aload_n 0, 1) := by decide +kernel
theorem dJ7_fill_53178_11 : decode cJ7_fill_53178 11 = .ok (.iload_n 2, 1) := by decide +kernel
theorem dJ7_fill_53178_12 : decode cJ7_fill_53178 12 = .ok (.iload_n 1, 1) := by decide +kernel
theorem dJ7_fill_53178_13 : decode cJ7_fill_53178 13 = .ok (.iastore, 1) := by decide +kernel
theorem dJ7_fill_53178_14 : decode cJ7_fill_53178 14 = .ok (.iinc 2 1, 3) := by decide +kernel
theorem dJ7_fill_53178_17 : decode cJ7_fill_53178 17 = .ok (.goto (-12), 3) := by decide +kernel
theorem dJ7_fill_53178_20 : decode cJ7_fill_53178 20 = .ok (.return_, 1) := by decide +kernel
noncomputable def kJ7_fill_53178 : Nat → Op := (nodeC 6 (nodeC 2 (nodeC 0 (leafC 0 (o_ic (0) 1)) (nodeC 1 (leafC 1 (o_is 2 2)) (leafC 2 (o_al 0 3)))) (nodeC 4 (nodeC 3 (leafC 3 (o_alen 4)) (leafC 4 (o_is 3 5))) (nodeC 5 (leafC 5 (o_il 2 6)) (leafC 6 (o_il 3 7))))) (nodeC 12 (nodeC 10 (nodeC 7 (leafC 7 (o_cge 20 10)) (leafC 10 (o_al 0 11))) (nodeC 11 (leafC 11 (o_il 2 12)) (leafC 12 (o_il 1 13)))) (nodeC 14 (nodeC 13 (leafC 13 (o_iast 14)) (leafC 14 (o_inc 2 (1) 17))) (nodeC 17 (leafC 17 (o_goto 5)) (leafC 20 (o_vret))))))
theorem sJ7_fill_53178 : ∀ pc, SoundOp cJ7_fill_53178 RJ7 4 none false 0 0 pc (kJ7_fill_53178 pc) := (so_node (so_node (so_node (so_leaf (so_iconst dJ7_fill_53178_0 (by decide))) (so_node (so_leaf (so_istore_n dJ7_fill_53178_1 rfl (by decide))) (so_leaf (so_aload_n dJ7_fill_53178_2 rfl)))) (so_node (so_node (so_leaf (so_alen dJ7_fill_53178_3)) (so_leaf (so_istore_n dJ7_fill_53178_4 rfl (by decide)))) (so_node (so_leaf (so_iload_n dJ7_fill_53178_5 rfl)) (so_leaf (so_iload_n dJ7_fill_53178_6 rfl))))) (so_node (so_node (so_node (so_leaf (so_cge dJ7_fill_53178_7 (by decide))) (so_leaf (so_aload_n dJ7_fill_53178_10 rfl))) (so_node (so_leaf (so_iload_n dJ7_fill_53178_11 rfl)) (so_leaf (so_iload_n dJ7_fill_53178_12 rfl)))) (so_node (so_node (so_leaf (so_iast dJ7_fill_53178_13)) (so_leaf (so_iinc dJ7_fill_53178_14 (by decide) (by decide)))) (so_node (so_leaf (so_goto dJ7_fill_53178_17 (by decide))) (so_leaf (so_vret dJ7_fill_53178_20 rfl))))))
theorem pJ7_fill_53178 : ∀ pc, Pr (kJ7_fill_53178 pc) := (pr_node (pr_node (pr_node (pr_leaf (pr_ic _ _)) (pr_node (pr_leaf (pr_is _ _)) (pr_leaf (pr_al _ _)))) (pr_node (pr_node (pr_leaf (pr_alen _)) (pr_leaf (pr_is _ _))) (pr_node (pr_leaf (pr_il _ _)) (pr_leaf (pr_il _ _))))) (pr_node (pr_node (pr_node (pr_leaf (pr_cge _ _)) (pr_leaf (pr_al _ _))) (pr_node (pr_leaf (pr_il _ _)) (pr_leaf (pr_il _ _)))) (pr_node (pr_node (pr_leaf (pr_iast _)) (pr_leaf (pr_inc _ _ _))) (pr_node (pr_leaf (pr_goto _)) (pr_leaf (pr_vret))))))
noncomputable def FJ7_fill_53178 : List EV → Hp → Option (RV × Hp) := Fm kJ7_fill_53178 4
theorem CJ7_fill_53178 : Con yJ7_fill_53178 cJ7_fill_53178 4 none 0 0 FJ7_fill_53178 := con_ofF (own := RJ7) rfl (by decide +kernel) sJ7_fill_53178 pJ7_fill_53178 (fun z => by cases z)
theorem GJ7_fill_53178 : Gr FJ7_fill_53178 := Gr_Fm pJ7_fill_53178 4
theorem dJ7_copyOf_59c91_0 : decode cJ7_copyOf_59c91 0 = .ok (.iload_n 1, 1) := by decide +kernel
theorem dJ7_copyOf_59c91_1 : decode cJ7_copyOf_59c91 1 = .ok (.aload_n 0, 1) := by decide +kernel
theorem dJ7_copyOf_59c91_2 : decode cJ7_copyOf_59c91 2 = .ok (.arraylength, 1) := by decide +kernel
theorem dJ7_copyOf_59c91_3 : decode cJ7_copyOf_59c91 3 = .ok (.if_icmp .ne 11, 3) := by decide +kernel
theorem dJ7_copyOf_59c91_6 : decode cJ7_copyOf_59c91 6 = .ok (.aload_n 0, 1) := by decide +kernel
theorem dJ7_copyOf_59c91_7 : decode cJ7_copyOf_59c91 7 = .ok (.invokevirtual 316, 3) := by decide +kernel
theorem dJ7_copyOf_59c91_10 : decode cJ7_copyOf_59c91 10 = .ok (.checkcast 317, 3) := by decide +kernel
theorem dJ7_copyOf_59c91_13 : decode cJ7_copyOf_59c91 13 = .ok (.areturn, 1) := by decide +kernel
theorem dJ7_copyOf_59c91_14 : decode cJ7_copyOf_59c91 14 = .ok (.iload_n 1, 1) := by decide +kernel
theorem dJ7_copyOf_59c91_15 : decode cJ7_copyOf_59c91 15 = .ok (.newarray .int, 2) := by decide +kernel
theorem dJ7_copyOf_59c91_17 : decode cJ7_copyOf_59c91 17 = .ok (.astore_n 2, 1) := by decide +kernel
theorem dJ7_copyOf_59c91_18 : decode cJ7_copyOf_59c91 18 = .ok (.aload_n 0, 1) := by decide +kernel
theorem dJ7_copyOf_59c91_19 : decode cJ7_copyOf_59c91 19 = .ok (.iconst 0, 1) := by decide +kernel
theorem dJ7_copyOf_59c91_20 : decode cJ7_copyOf_59c91 20 = .ok (.aload_n 2, 1) := by decide +kernel
theorem dJ7_copyOf_59c91_21 : decode cJ7_copyOf_59c91 21 = .ok (.iconst 0, 1) := by decide +kernel
theorem dJ7_copyOf_59c91_22 : decode cJ7_copyOf_59c91 22 = .ok (.aload_n 0, 1) := by decide +kernel
theorem dJ7_copyOf_59c91_23 : decode cJ7_copyOf_59c91 23 = .ok (.arraylength, 1) := by decide +kernel
theorem dJ7_copyOf_59c91_24 : decode cJ7_copyOf_59c91 24 = .ok (.iload_n 1, 1) := by decide +kernel
theorem dJ7_copyOf_59c91_25 : decode cJ7_copyOf_59c91 25 = .ok (.invokestatic 304, 3) := by decide +kernel
theorem dJ7_copyOf_59c91_28 : decode cJ7_copyOf_59c91 28 = .ok (.invokestatic 150, 3) := by decide +kernel
theorem dJ7_copyOf_59c91_31 : decode cJ7_copyOf_59c91 31 = .ok (.aload_n 2, 1) := by decide +kernel
theorem dJ7_copyOf_59c91_32 : decode cJ7_copyOf_59c91 32 = .ok (.areturn, 1) := by decide +kernel
noncomputable def kJ7_copyOf_59c91 : Nat → Op := (nodeC 17 (nodeC 6 (nodeC 1 (nodeC 0 (leafC 0 (o_il 1 1)) (leafC 1 (o_al 0 2))) (nodeC 2 (leafC 2 (o_alen 3)) (nodeC 3 (leafC 3 (o_cne 14 6)) (leafC 6 (o_al 0 7))))) (nodeC 13 (nodeC 7 (leafC 7 (failO)) (nodeC 10 (leafC 10 (failO)) (leafC 13 (o_aret)))) (nodeC 14 (leafC 14 (o_il 1 15)) (nodeC 15 (leafC 15 (o_newa 20 17)) (leafC 17 (o_as 2 18)))))) (nodeC 22 (nodeC 19 (nodeC 18 (leafC 18 (o_al 0 19)) (leafC 19 (o_ic (0) 20))) (nodeC 20 (leafC 20 (o_al 2 21)) (nodeC 21 (leafC 21 (o_ic (0) 22)) (leafC 22 (o_al 0 23))))) (nodeC 25 (nodeC 23 (leafC 23 (o_alen 24)) (nodeC 24 (leafC 24 (o_il 1 25)) (leafC 25 (o_min 28)))) (nodeC 28 (leafC 28 (o_acopy 31)) (nodeC 31 (leafC 31 (o_al 2 32)) (leafC 32 (o_aret)))))))
theorem sJ7_copyOf_59c91 : ∀ pc, SoundOp cJ7_copyOf_59c91 RJ7 3 (some (.array .int)) false 1 60 pc (kJ7_copyOf_59c91 pc) := (so_node (so_node (so_node (so_node (so_leaf (so_iload_n dJ7_copyOf_59c91_0 rfl)) (so_leaf (so_aload_n dJ7_copyOf_59c91_1 rfl))) (so_node (so_leaf (so_alen dJ7_copyOf_59c91_2)) (so_node (so_leaf (so_cne dJ7_copyOf_59c91_3 (by decide))) (so_leaf (so_aload_n dJ7_copyOf_59c91_6 rfl))))) (so_node (so_node (so_leaf (so_fail _)) (so_node (so_leaf (so_fail _)) (so_leaf (so_aretA dJ7_copyOf_59c91_13 rfl)))) (so_node (so_leaf (so_iload_n dJ7_copyOf_59c91_14 rfl)) (so_node (so_leaf (so_newa (at' := .int) (t0 := 0) (Or.inl rfl) (fun _ => rfl) (fun _ _ z => z) rfl (by decide) wa_int dJ7_copyOf_59c91_15)) (so_leaf (so_astore_n dJ7_copyOf_59c91_17 rfl (by decide))))))) (so_node (so_node (so_node (so_leaf (so_aload_n dJ7_copyOf_59c91_18 rfl)) (so_leaf (so_iconst dJ7_copyOf_59c91_19 (by decide)))) (so_node (so_leaf (so_aload_n dJ7_copyOf_59c91_20 rfl)) (so_node (so_leaf (so_iconst dJ7_copyOf_59c91_21 (by decide))) (so_leaf (so_aload_n dJ7_copyOf_59c91_22 rfl))))) (so_node (so_node (so_leaf (so_alen dJ7_copyOf_59c91_23)) (so_node (so_leaf (so_iload_n dJ7_copyOf_59c91_24 rfl)) (so_leaf (so_min wm_RJ7_304 wms_min wmi wmc_min (by decide) (by decide) dJ7_copyOf_59c91_25)))) (so_node (so_leaf (so_acopy wm_RJ7_150 wac1 wac2 wac3 (by decide) (by decide) dJ7_copyOf_59c91_28)) (so_node (so_leaf (so_aload_n dJ7_copyOf_59c91_31 rfl)) (so_leaf (so_aretA dJ7_copyOf_59c91_32 rfl)))))))
theorem pJ7_copyOf_59c91 : ∀ pc, Pr (kJ7_copyOf_59c91 pc) := (pr_node (pr_node (pr_node (pr_node (pr_leaf (pr_il _ _)) (pr_leaf (pr_al _ _))) (pr_node (pr_leaf (pr_alen _)) (pr_node (pr_leaf (pr_cne _ _)) (pr_leaf (pr_al _ _))))) (pr_node (pr_node (pr_leaf (pr_fail)) (pr_node (pr_leaf (pr_fail)) (pr_leaf (pr_aret)))) (pr_node (pr_leaf (pr_il _ _)) (pr_node (pr_leaf (pr_newa _ _)) (pr_leaf (pr_as _ _)))))) (pr_node (pr_node (pr_node (pr_leaf (pr_al _ _)) (pr_leaf (pr_ic _ _))) (pr_node (pr_leaf (pr_al _ _)) (pr_node (pr_leaf (pr_ic _ _)) (pr_leaf (pr_al _ _))))) (pr_node (pr_node (pr_leaf (pr_alen _)) (pr_node (pr_leaf (pr_il _ _)) (pr_leaf (pr_min _)))) (pr_node (pr_leaf (pr_acopy _)) (pr_node (pr_leaf (pr_al _ _)) (pr_leaf (pr_aret)))))))
noncomputable def FJ7_copyOf_59c91 : List EV → Hp → Option (RV × Hp) := Fm kJ7_copyOf_59c91 3
theorem CJ7_copyOf_59c91 : Con yJ7_copyOf_59c91 cJ7_copyOf_59c91 3 (some (.array .int)) 1 60 FJ7_copyOf_59c91 := con_ofF (own := RJ7) rfl (by decide +kernel) sJ7_copyOf_59c91 pJ7_copyOf_59c91 (fun z => by cases z)
theorem GJ7_copyOf_59c91 : Gr FJ7_copyOf_59c91 := Gr_Fm pJ7_copyOf_59c91 3
