/-! ===== buyer: where it returns ===== -/
theorem wm_RX11_209 : Cond.methodLink RX11 209 yX11_hasBuyer ∈ bigW := big_mem 1175 (by decide +kernel) (by decide +kernel)
theorem wc_X11_hasBuyer : Cond.code yX11_hasBuyer cX11_hasBuyer 2 (some .boolean) ∈ bigW := big_mem 1178 (by decide +kernel) (by decide +kernel)
theorem win_X11_hasBuyer : Cond.instanceMethod yX11_hasBuyer ∈ bigW := big_mem 1177 (by decide +kernel) (by decide +kernel)
theorem wse_X11_hasBuyer : Cond.selects (clR 11) yX11_hasBuyer yX11_hasBuyer ∈ bigW := big_mem 36 (by decide +kernel) (by decide +kernel)
theorem wm_RX11_219 : Cond.methodLink RX11 219 yX10_wants ∈ bigW := big_mem 1245 (by decide +kernel) (by decide +kernel)
theorem wf_RX11_223 : Cond.fieldLink RX11 223 (clT 4 8).1 (clT 4 8).2.1 (clT 4 8).2.2.1 ∈ bigW := big_mem 255 (by decide +kernel) (by decide +kernel)
theorem dX11_buyer_0 : decode cX11_buyer 0 = .ok (.aload_n 0, 1) := by decide +kernel
theorem dX11_buyer_1 : decode cX11_buyer 1 = .ok (.iload_n 1, 1) := by decide +kernel
theorem dX11_buyer_2 : decode cX11_buyer 2 = .ok (.invokevirtual 209, 3) := by decide +kernel
theorem dX11_buyer_5 : decode cX11_buyer 5 = .ok (.ifCond .eq 12, 3) := by decide +kernel
theorem dX11_buyer_8 : decode cX11_buyer 8 = .ok (.iload_n 2, 1) := by decide +kernel
theorem dX11_buyer_9 : decode cX11_buyer 9 = .ok (.iconst 0, 1) := by decide +kernel
theorem dX11_buyer_10 : decode cX11_buyer 10 = .ok (.iconst 3, 1) := by decide +kernel
theorem dX11_buyer_11 : decode cX11_buyer 11 = .ok (.invokestatic 171, 3) := by decide +kernel
theorem dX11_buyer_14 : decode cX11_buyer 14 = .ok (.ifCond .ne 13, 3) := by decide +kernel
theorem dX11_buyer_17 : decode cX11_buyer 17 = .ok (.new 212, 3) := by decide +kernel
theorem dX11_buyer_20 : decode cX11_buyer 20 = .ok (.dup, 1) := by decide +kernel
theorem dX11_buyer_21 : decode cX11_buyer 21 = .ok (.ldc 214, 2) := by decide +kernel
theorem dX11_buyer_23 : decode cX11_buyer 23 = .ok (.invokespecial 216, 3) := by decide +kernel
theorem dX11_buyer_26 : decode cX11_buyer 26 = .ok (.athrow, 1) := by decide +kernel
theorem dX11_buyer_27 : decode cX11_buyer 27 = .ok (.iload_n 2, 1) := by decide +kernel
theorem dX11_buyer_28 : decode cX11_buyer 28 = .ok (.lookupswitch 51 #[(2, 28), (3, 41)], 28) := by decide +kernel
theorem dX11_buyer_56 : decode cX11_buyer 56 = .ok (.aload_n 0, 1) := by decide +kernel
theorem dX11_buyer_57 : decode cX11_buyer 57 = .ok (.getfield 19, 3) := by decide +kernel
theorem dX11_buyer_60 : decode cX11_buyer 60 = .ok (.aload_n 0, 1) := by decide +kernel
theorem dX11_buyer_61 : decode cX11_buyer 61 = .ok (.getfield 26, 3) := by decide +kernel
theorem dX11_buyer_64 : decode cX11_buyer 64 = .ok (.iload_n 1, 1) := by decide +kernel
theorem dX11_buyer_65 : decode cX11_buyer 65 = .ok (.invokevirtual 219, 3) := by decide +kernel
theorem dX11_buyer_68 : decode cX11_buyer 68 = .ok (.ireturn, 1) := by decide +kernel
theorem dX11_buyer_69 : decode cX11_buyer 69 = .ok (.aload_n 0, 1) := by decide +kernel
theorem dX11_buyer_70 : decode cX11_buyer 70 = .ok (.getfield 26, 3) := by decide +kernel
theorem dX11_buyer_73 : decode cX11_buyer 73 = .ok (.getfield 223, 3) := by decide +kernel
theorem dX11_buyer_76 : decode cX11_buyer 76 = .ok (.iload_n 1, 1) := by decide +kernel
theorem dX11_buyer_77 : decode cX11_buyer 77 = .ok (.iaload, 1) := by decide +kernel
theorem dX11_buyer_78 : decode cX11_buyer 78 = .ok (.ireturn, 1) := by decide +kernel
theorem dX11_buyer_79 : decode cX11_buyer 79 = .ok (.aload_n 0, 1) := by decide +kernel
theorem dX11_buyer_80 : decode cX11_buyer 80 = .ok (.getfield 19, 3) := by decide +kernel
theorem dX11_buyer_83 : decode cX11_buyer 83 = .ok (.getfield 136, 3) := by decide +kernel
theorem dX11_buyer_86 : decode cX11_buyer 86 = .ok (.getfield 226, 3) := by decide +kernel
theorem dX11_buyer_89 : decode cX11_buyer 89 = .ok (.iconst 3, 1) := by decide +kernel
theorem dX11_buyer_90 : decode cX11_buyer 90 = .ok (.iload_n 1, 1) := by decide +kernel
theorem dX11_buyer_91 : decode cX11_buyer 91 = .ok (.imul, 1) := by decide +kernel
theorem dX11_buyer_92 : decode cX11_buyer 92 = .ok (.iload_n 2, 1) := by decide +kernel
theorem dX11_buyer_93 : decode cX11_buyer 93 = .ok (.iadd, 1) := by decide +kernel
theorem dX11_buyer_94 : decode cX11_buyer 94 = .ok (.iaload, 1) := by decide +kernel
theorem dX11_buyer_95 : decode cX11_buyer 95 = .ok (.ireturn, 1) := by decide +kernel
noncomputable def kX11_buyer : Nat → Op := (nodeC 61 (nodeC 17 (nodeC 8 (nodeC 1 (nodeC 0 (leafC 0 (o_al 0 1)) (leafC 1 (o_il 1 2))) (nodeC 2 (leafC 2 (o_inv 1 11 1 FX11_hasBuyer 5)) (nodeC 5 (leafC 5 (o_zeq 17 8)) (leafC 8 (o_il 2 9))))) (nodeC 10 (nodeC 9 (leafC 9 (o_ic (0) 10)) (leafC 10 (o_ic (3) 11))) (nodeC 11 (leafC 11 (o_ist 3 1 FX11_within 14)) (nodeC 14 (leafC 14 (o_zne 27 17)) (leafC 17 (failO)))))) (nodeC 27 (nodeC 21 (nodeC 20 (leafC 20 (failO)) (leafC 21 (failO))) (nodeC 23 (leafC 23 (failO)) (nodeC 26 (leafC 26 (failO)) (leafC 27 (o_il 2 28))))) (nodeC 56 (nodeC 28 (leafC 28 (o_sw [(2, 56), (3, 69)] 79)) (leafC 56 (o_al 0 57))) (nodeC 57 (leafC 57 (o_gR 11 1 60)) (nodeC 60 (leafC 60 (o_al 0 61)) (leafC 61 (o_gR 11 2 64))))))) (nodeC 79 (nodeC 70 (nodeC 65 (nodeC 64 (leafC 64 (o_il 1 65)) (leafC 65 (o_inv 2 10 1 FX10_wants 68))) (nodeC 68 (leafC 68 (o_iret)) (nodeC 69 (leafC 69 (o_al 0 70)) (leafC 70 (o_gR 11 2 73))))) (nodeC 76 (nodeC 73 (leafC 73 (o_gR 4 8 76)) (leafC 76 (o_il 1 77))) (nodeC 77 (leafC 77 (o_iald 78)) (nodeC 78 (leafC 78 (o_iret)) (leafC 79 (o_al 0 80)))))) (nodeC 90 (nodeC 83 (nodeC 80 (leafC 80 (o_gR 11 1 83)) (leafC 83 (o_gR 10 0 86))) (nodeC 86 (leafC 86 (o_gR 0 4 89)) (nodeC 89 (leafC 89 (o_ic (3) 90)) (leafC 90 (o_il 1 91))))) (nodeC 92 (nodeC 91 (leafC 91 (o_imul 92)) (leafC 92 (o_il 2 93))) (nodeC 93 (leafC 93 (o_iadd 94)) (nodeC 94 (leafC 94 (o_iald 95)) (leafC 95 (o_iret))))))))
theorem sX11_buyer : ∀ pc, SoundOp cX11_buyer RX11 3 (some .int) false 2 43 pc (kX11_buyer pc) := (so_node (so_node (so_node (so_node (so_node (so_leaf (so_aload_n dX11_buyer_0 rfl)) (so_leaf (so_iload_n dX11_buyer_1 rfl))) (so_node (so_leaf (so_inv CX11_hasBuyer (by decide) rfl wm_RX11_209 win_X11_hasBuyer wse_X11_hasBuyer wn_11 wc_X11_hasBuyer (by decide +kernel) (by decide) (by decide) dX11_buyer_2)) (so_node (so_leaf (so_zeq dX11_buyer_5 (by decide))) (so_leaf (so_iload_n dX11_buyer_8 rfl))))) (so_node (so_node (so_leaf (so_iconst dX11_buyer_9 (by decide))) (so_leaf (so_iconst dX11_buyer_10 (by decide)))) (so_node (so_leaf (so_ist CX11_within rfl wm_RX11_171 wst_X11_within wny_X11_within wc_X11_within (by decide +kernel) (by decide) (by decide) dX11_buyer_11)) (so_node (so_leaf (so_zne dX11_buyer_14 (by decide))) (so_leaf (so_fail _)))))) (so_node (so_node (so_node (so_leaf (so_fail _)) (so_leaf (so_fail _))) (so_node (so_leaf (so_fail _)) (so_node (so_leaf (so_fail _)) (so_leaf (so_iload_n dX11_buyer_27 rfl))))) (so_node (so_node (so_leaf (so_lookup dX11_buyer_28 (by decide) (by decide) (by decide) (by decide))) (so_leaf (so_aload_n dX11_buyer_56 rfl))) (so_node (so_leaf (so_gR (by decide) (by decide) wC11 wf_RX11_19 (fun _ _ _ => rfl) dX11_buyer_57)) (so_node (so_leaf (so_aload_n dX11_buyer_60 rfl)) (so_leaf (so_gR (by decide) (by decide) wC11 wf_RX11_26 (fun _ _ _ => rfl) dX11_buyer_61))))))) (so_node (so_node (so_node (so_node (so_leaf (so_iload_n dX11_buyer_64 rfl)) (so_leaf (so_inv CX10_wants (by decide) rfl wm_RX11_219 win_X10_wants wse_X10_wants wn_10 wc_X10_wants (by decide +kernel) (by decide) (by decide) dX11_buyer_65))) (so_node (so_leaf (so_iret dX11_buyer_68 rfl)) (so_node (so_leaf (so_aload_n dX11_buyer_69 rfl)) (so_leaf (so_gR (by decide) (by decide) wC11 wf_RX11_26 (fun _ _ _ => rfl) dX11_buyer_70))))) (so_node (so_node (so_leaf (so_gR (by decide) (by decide) wC4 wf_RX11_223 (fun _ _ _ => rfl) dX11_buyer_73)) (so_leaf (so_iload_n dX11_buyer_76 rfl))) (so_node (so_leaf (so_iald dX11_buyer_77)) (so_node (so_leaf (so_iret dX11_buyer_78 rfl)) (so_leaf (so_aload_n dX11_buyer_79 rfl)))))) (so_node (so_node (so_node (so_leaf (so_gR (by decide) (by decide) wC11 wf_RX11_19 (fun _ _ _ => rfl) dX11_buyer_80)) (so_leaf (so_gR (by decide) (by decide) wC10 wf_RX11_136 (fun _ _ _ => rfl) dX11_buyer_83))) (so_node (so_leaf (so_gR (by decide) (by decide) wC0 wf_RX11_226 (fun _ _ _ => rfl) dX11_buyer_86)) (so_node (so_leaf (so_iconst dX11_buyer_89 (by decide))) (so_leaf (so_iload_n dX11_buyer_90 rfl))))) (so_node (so_node (so_leaf (so_imul dX11_buyer_91)) (so_leaf (so_iload_n dX11_buyer_92 rfl))) (so_node (so_leaf (so_iadd dX11_buyer_93)) (so_node (so_leaf (so_iald dX11_buyer_94)) (so_leaf (so_iret dX11_buyer_95 rfl))))))))
theorem pX11_buyer : ∀ pc, Pr (kX11_buyer pc) := (pr_node (pr_node (pr_node (pr_node (pr_node (pr_leaf (pr_al _ _)) (pr_leaf (pr_il _ _))) (pr_node (pr_leaf (pr_inv _ _ _ GX11_hasBuyer _)) (pr_node (pr_leaf (pr_zeq _ _)) (pr_leaf (pr_il _ _))))) (pr_node (pr_node (pr_leaf (pr_ic _ _)) (pr_leaf (pr_ic _ _))) (pr_node (pr_leaf (pr_ist _ _ GX11_within _)) (pr_node (pr_leaf (pr_zne _ _)) (pr_leaf (pr_fail)))))) (pr_node (pr_node (pr_node (pr_leaf (pr_fail)) (pr_leaf (pr_fail))) (pr_node (pr_leaf (pr_fail)) (pr_node (pr_leaf (pr_fail)) (pr_leaf (pr_il _ _))))) (pr_node (pr_node (pr_leaf (pr_sw _ _)) (pr_leaf (pr_al _ _))) (pr_node (pr_leaf (pr_gR _ _ _)) (pr_node (pr_leaf (pr_al _ _)) (pr_leaf (pr_gR _ _ _))))))) (pr_node (pr_node (pr_node (pr_node (pr_leaf (pr_il _ _)) (pr_leaf (pr_inv _ _ _ GX10_wants _))) (pr_node (pr_leaf (pr_iret)) (pr_node (pr_leaf (pr_al _ _)) (pr_leaf (pr_gR _ _ _))))) (pr_node (pr_node (pr_leaf (pr_gR _ _ _)) (pr_leaf (pr_il _ _))) (pr_node (pr_leaf (pr_iald _)) (pr_node (pr_leaf (pr_iret)) (pr_leaf (pr_al _ _)))))) (pr_node (pr_node (pr_node (pr_leaf (pr_gR _ _ _)) (pr_leaf (pr_gR _ _ _))) (pr_node (pr_leaf (pr_gR _ _ _)) (pr_node (pr_leaf (pr_ic _ _)) (pr_leaf (pr_il _ _))))) (pr_node (pr_node (pr_leaf (pr_imul _)) (pr_leaf (pr_il _ _))) (pr_node (pr_leaf (pr_iadd _)) (pr_node (pr_leaf (pr_iald _)) (pr_leaf (pr_iret))))))))
noncomputable def FX11_buyer : List EV → Hp → Option (RV × Hp) := Fm kX11_buyer 3
theorem CX11_buyer : Con yX11_buyer cX11_buyer 3 (some .int) 2 43 FX11_buyer := con_of (own := RX11) rfl (by decide +kernel) sX11_buyer pX11_buyer (fun z => by cases z)
theorem GX11_buyer : Gr FX11_buyer := Gr_Fm pX11_buyer 3
