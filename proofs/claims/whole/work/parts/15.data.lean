/-! ===== House, Plan, Life, Ledger, Proofs, Past ===== -/
theorem wm_RX0_3 : Cond.methodLink RX0 3 Lib.objectInit ∈ bigW := big_mem 164 (by decide +kernel) (by decide +kernel)
theorem wf_RX0_9 : Cond.fieldLink RX0 9 (clT 0 2).1 (clT 0 2).2.1 (clT 0 2).2.2.1 ∈ bigW := big_mem 168 (by decide +kernel) (by decide +kernel)
set_option maxRecDepth 20000 in
theorem wC0 : ∀ w ∈ u_ws (clR 0) (clT 0) (nF 0), w ∈ bigW := big_at [187, 189, 191, 193, 195, 197, 199] (by decide +kernel) (by decide +kernel)
theorem wf_RX0_15 : Cond.fieldLink RX0 15 (clT 0 3).1 (clT 0 3).2.1 (clT 0 3).2.2.1 ∈ bigW := big_mem 173 (by decide +kernel) (by decide +kernel)
theorem wf_RX0_18 : Cond.fieldLink RX0 18 (clT 0 4).1 (clT 0 4).2.1 (clT 0 4).2.2.1 ∈ bigW := big_mem 176 (by decide +kernel) (by decide +kernel)
theorem wm_RX0_43 : Cond.methodLink RX0 43 yX0_fillUsual ∈ bigW := big_mem 524 (by decide +kernel) (by decide +kernel)
theorem wc_X0_fillUsual : Cond.code yX0_fillUsual cX0_fillUsual 4 none ∈ bigW := big_mem 526 (by decide +kernel) (by decide +kernel)
theorem wst_X0_fillUsual : Cond.static yX0_fillUsual ∈ bigW := big_mem 525 (by decide +kernel) (by decide +kernel)
theorem wny_X0_fillUsual : Cond.initialized yX0_fillUsual.cls ∈ bigW := big_mem 100 (by decide +kernel) (by decide +kernel)
theorem wm_RX0_64 : Cond.methodLink RX0 64 yX9_peek ∈ bigW := big_mem 531 (by decide +kernel) (by decide +kernel)
theorem wm_RX0_82 : Cond.methodLink RX0 82 yX0_itemOf ∈ bigW := big_mem 542 (by decide +kernel) (by decide +kernel)
theorem wc_X0_itemOf : Cond.code yX0_itemOf cX0_itemOf 3 (some .int) ∈ bigW := big_mem 544 (by decide +kernel) (by decide +kernel)
theorem wst_X0_itemOf : Cond.static yX0_itemOf ∈ bigW := big_mem 543 (by decide +kernel) (by decide +kernel)
theorem wny_X0_itemOf : Cond.initialized yX0_itemOf.cls ∈ bigW := big_mem 100 (by decide +kernel) (by decide +kernel)
theorem wm_RX0_68 : Cond.methodLink RX0 68 yX9_skip ∈ bigW := big_mem 535 (by decide +kernel) (by decide +kernel)
theorem wc_X9_skip : Cond.code yX9_skip cX9_skip 1 (some .boolean) ∈ bigW := big_mem 538 (by decide +kernel) (by decide +kernel)
theorem win_X9_skip : Cond.instanceMethod yX9_skip ∈ bigW := big_mem 536 (by decide +kernel) (by decide +kernel)
theorem wse_X9_skip : Cond.selects (clR 9) yX9_skip yX9_skip ∈ bigW := big_mem 537 (by decide +kernel) (by decide +kernel)
theorem wm_RX0_86 : Cond.methodLink RX0 86 yX9_number ∈ bigW := big_mem 545 (by decide +kernel) (by decide +kernel)
theorem wc_X9_number : Cond.code yX9_number cX9_number 6 (some .int) ∈ bigW := big_mem 548 (by decide +kernel) (by decide +kernel)
theorem win_X9_number : Cond.instanceMethod yX9_number ∈ bigW := big_mem 546 (by decide +kernel) (by decide +kernel)
theorem wse_X9_number : Cond.selects (clR 9) yX9_number yX9_number ∈ bigW := big_mem 547 (by decide +kernel) (by decide +kernel)
theorem wf_RX0_30 : Cond.fieldLink RX0 30 (clT 0 1).1 (clT 0 1).2.1 (clT 0 1).2.2.1 ∈ bigW := big_mem 167 (by decide +kernel) (by decide +kernel)
theorem ws_RX0_40 : Cond.fieldLink RX0 40 (stC 1) (stN 1) "[I" ∈ bigW := big_mem 522 (by decide +kernel) (by decide +kernel)
theorem wm_RX0_72 : Cond.methodLink RX0 72 yX0_readItems ∈ bigW := big_mem 539 (by decide +kernel) (by decide +kernel)
theorem wc_X0_readItems : Cond.code yX0_readItems cX0_readItems 7 none ∈ bigW := big_mem 541 (by decide +kernel) (by decide +kernel)
theorem wst_X0_readItems : Cond.static yX0_readItems ∈ bigW := big_mem 540 (by decide +kernel) (by decide +kernel)
theorem wny_X0_readItems : Cond.initialized yX0_readItems.cls ∈ bigW := big_mem 100 (by decide +kernel) (by decide +kernel)
theorem wf_RX0_33 : Cond.fieldLink RX0 33 (clT 0 5).1 (clT 0 5).2.1 (clT 0 5).2.2.1 ∈ bigW := big_mem 180 (by decide +kernel) (by decide +kernel)
theorem ws_RX0_76 : Cond.fieldLink RX0 76 (stC 2) (stN 2) "[I" ∈ bigW := big_mem 561 (by decide +kernel) (by decide +kernel)
theorem wf_RX0_37 : Cond.fieldLink RX0 37 (clT 0 6).1 (clT 0 6).2.1 (clT 0 6).2.2.1 ∈ bigW := big_mem 183 (by decide +kernel) (by decide +kernel)
theorem ws_RX0_79 : Cond.fieldLink RX0 79 (stC 3) (stN 3) "[I" ∈ bigW := big_mem 563 (by decide +kernel) (by decide +kernel)
theorem wm_RX0_58 : Cond.methodLink RX0 58 yX9_refuse ∈ bigW := big_mem 565 (by decide +kernel) (by decide +kernel)
theorem wm_RX0_21 : Cond.methodLink RX0 21 yX9_rewind ∈ bigW := big_mem 518 (by decide +kernel) (by decide +kernel)
theorem wc_X9_rewind : Cond.code yX9_rewind cX9_rewind 1 none ∈ bigW := big_mem 521 (by decide +kernel) (by decide +kernel)
theorem win_X9_rewind : Cond.instanceMethod yX9_rewind ∈ bigW := big_mem 519 (by decide +kernel) (by decide +kernel)
theorem wse_X9_rewind : Cond.selects (clR 9) yX9_rewind yX9_rewind ∈ bigW := big_mem 520 (by decide +kernel) (by decide +kernel)
theorem wf_RX0_26 : Cond.fieldLink RX0 26 (clT 0 0).1 (clT 0 0).2.1 (clT 0 0).2.2.1 ∈ bigW := big_mem 165 (by decide +kernel) (by decide +kernel)
theorem wm_RX0_47 : Cond.methodLink RX0 47 yX0_readClause ∈ bigW := big_mem 527 (by decide +kernel) (by decide +kernel)
theorem wc_X0_readClause : Cond.code yX0_readClause cX0_readClause 3 none ∈ bigW := big_mem 530 (by decide +kernel) (by decide +kernel)
theorem win_X0_readClause : Cond.instanceMethod yX0_readClause ∈ bigW := big_mem 529 (by decide +kernel) (by decide +kernel)
theorem wse_X0_readClause : Cond.selects (clR 0) yX0_readClause yX0_readClause ∈ bigW := big_mem 0 (by decide +kernel) (by decide +kernel)
theorem wn_0 : Cond.initialized (clR 0) ∈ bigW := big_mem 100 (by decide +kernel) (by decide +kernel)
theorem wm_RX0_51 : Cond.methodLink RX0 51 yX9_accept ∈ bigW := big_mem 566 (by decide +kernel) (by decide +kernel)
theorem wc_X9_accept : Cond.code yX9_accept cX9_accept 2 (some .boolean) ∈ bigW := big_mem 569 (by decide +kernel) (by decide +kernel)
theorem win_X9_accept : Cond.instanceMethod yX9_accept ∈ bigW := big_mem 567 (by decide +kernel) (by decide +kernel)
theorem wse_X9_accept : Cond.selects (clR 9) yX9_accept yX9_accept ∈ bigW := big_mem 568 (by decide +kernel) (by decide +kernel)
theorem wm_RX0_55 : Cond.methodLink RX0 55 yX9_demandEnd ∈ bigW := big_mem 570 (by decide +kernel) (by decide +kernel)
theorem wc_X9_demandEnd : Cond.code yX9_demandEnd cX9_demandEnd 1 none ∈ bigW := big_mem 573 (by decide +kernel) (by decide +kernel)
theorem win_X9_demandEnd : Cond.instanceMethod yX9_demandEnd ∈ bigW := big_mem 571 (by decide +kernel) (by decide +kernel)
theorem wse_X9_demandEnd : Cond.selects (clR 9) yX9_demandEnd yX9_demandEnd ∈ bigW := big_mem 572 (by decide +kernel) (by decide +kernel)
theorem wf_RX0_61 : Cond.fieldLink RX0 61 (clT 9 3).1 (clT 9 3).2.1 (clT 9 3).2.2.1 ∈ bigW := big_mem 140 (by decide +kernel) (by decide +kernel)
theorem wm_RX3_3 : Cond.methodLink RX3 3 Lib.objectInit ∈ bigW := big_mem 320 (by decide +kernel) (by decide +kernel)
theorem wf_RX3_11 : Cond.fieldLink RX3 11 (clT 3 0).1 (clT 3 0).2.1 (clT 3 0).2.2.1 ∈ bigW := big_mem 321 (by decide +kernel) (by decide +kernel)
set_option maxRecDepth 20000 in
theorem wC3 : ∀ w ∈ u_ws (clR 3) (clT 3) (nF 3), w ∈ bigW := big_at [323, 325] (by decide +kernel) (by decide +kernel)
theorem wf_RX3_15 : Cond.fieldLink RX3 15 (clT 3 1).1 (clT 3 1).2.1 (clT 3 1).2.2.1 ∈ bigW := big_mem 322 (by decide +kernel) (by decide +kernel)
theorem wm_RX3_18 : Cond.methodLink RX3 18 yJ9_floorMod_7cf53 ∈ bigW := big_mem 811 (by decide +kernel) (by decide +kernel)
theorem wc_J9_floorMod_7cf53 : Cond.code yJ9_floorMod_7cf53 cJ9_floorMod_7cf53 3 (some .int) ∈ bigW := big_mem 813 (by decide +kernel) (by decide +kernel)
theorem wst_J9_floorMod_7cf53 : Cond.static yJ9_floorMod_7cf53 ∈ bigW := big_mem 812 (by decide +kernel) (by decide +kernel)
theorem wny_J9_floorMod_7cf53 : Cond.initialized yJ9_floorMod_7cf53.cls ∈ bigW := big_mem 114 (by decide +kernel) (by decide +kernel)
theorem wm_RX3_24 : Cond.methodLink RX3 24 arraycopyName ∈ bigW := big_mem 889 (by decide +kernel) (by decide +kernel)
theorem wm_RX4_3 : Cond.methodLink RX4 3 Lib.objectInit ∈ bigW := big_mem 224 (by decide +kernel) (by decide +kernel)
theorem wf_RX4_9 : Cond.fieldLink RX4 9 (clT 4 8).1 (clT 4 8).2.1 (clT 4 8).2.2.1 ∈ bigW := big_mem 253 (by decide +kernel) (by decide +kernel)
set_option maxRecDepth 20000 in
theorem wC4 : ∀ w ∈ u_ws (clR 4) (clT 4) (nF 4), w ∈ bigW := big_at [268, 270, 272, 274, 276, 278, 280, 282, 284, 286, 288, 290, 292] (by decide +kernel) (by decide +kernel)
theorem wf_RX4_15 : Cond.fieldLink RX4 15 (clT 0 2).1 (clT 0 2).2.1 (clT 0 2).2.2.1 ∈ bigW := big_mem 169 (by decide +kernel) (by decide +kernel)
theorem wf_RX4_20 : Cond.fieldLink RX4 20 (clT 4 0).1 (clT 4 0).2.1 (clT 4 0).2.2.1 ∈ bigW := big_mem 225 (by decide +kernel) (by decide +kernel)
theorem wf_RX4_24 : Cond.fieldLink RX4 24 (clT 4 1).1 (clT 4 1).2.1 (clT 4 1).2.2.1 ∈ bigW := big_mem 229 (by decide +kernel) (by decide +kernel)
theorem wf_RX4_28 : Cond.fieldLink RX4 28 (clT 4 2).1 (clT 4 2).2.1 (clT 4 2).2.2.1 ∈ bigW := big_mem 233 (by decide +kernel) (by decide +kernel)
theorem wf_RX4_31 : Cond.fieldLink RX4 31 (clT 4 3).1 (clT 4 3).2.1 (clT 4 3).2.2.1 ∈ bigW := big_mem 237 (by decide +kernel) (by decide +kernel)
theorem wf_RX4_34 : Cond.fieldLink RX4 34 (clT 4 4).1 (clT 4 4).2.1 (clT 4 4).2.2.1 ∈ bigW := big_mem 239 (by decide +kernel) (by decide +kernel)
theorem wf_RX4_37 : Cond.fieldLink RX4 37 (clT 4 5).1 (clT 4 5).2.1 (clT 4 5).2.2.1 ∈ bigW := big_mem 243 (by decide +kernel) (by decide +kernel)
theorem wf_RX4_40 : Cond.fieldLink RX4 40 (clT 4 6).1 (clT 4 6).2.1 (clT 4 6).2.2.1 ∈ bigW := big_mem 247 (by decide +kernel) (by decide +kernel)
theorem wf_RX4_43 : Cond.fieldLink RX4 43 (clT 4 7).1 (clT 4 7).2.1 (clT 4 7).2.2.1 ∈ bigW := big_mem 251 (by decide +kernel) (by decide +kernel)
theorem wm_RX4_46 : Cond.methodLink RX4 46 yJ7_fill_53178 ∈ bigW := big_mem 663 (by decide +kernel) (by decide +kernel)
theorem wc_J7_fill_53178 : Cond.code yJ7_fill_53178 cJ7_fill_53178 4 none ∈ bigW := big_mem 665 (by decide +kernel) (by decide +kernel)
theorem wst_J7_fill_53178 : Cond.static yJ7_fill_53178 ∈ bigW := big_mem 664 (by decide +kernel) (by decide +kernel)
theorem wny_J7_fill_53178 : Cond.initialized yJ7_fill_53178.cls ∈ bigW := big_mem 115 (by decide +kernel) (by decide +kernel)
theorem wf_RX4_52 : Cond.fieldLink RX4 52 (clT 4 9).1 (clT 4 9).2.1 (clT 4 9).2.2.1 ∈ bigW := big_mem 256 (by decide +kernel) (by decide +kernel)
theorem wf_RX4_55 : Cond.fieldLink RX4 55 (clT 4 10).1 (clT 4 10).2.1 (clT 4 10).2.2.1 ∈ bigW := big_mem 261 (by decide +kernel) (by decide +kernel)
theorem wf_RX4_58 : Cond.fieldLink RX4 58 (clT 4 11).1 (clT 4 11).2.1 (clT 4 11).2.2.1 ∈ bigW := big_mem 264 (by decide +kernel) (by decide +kernel)
theorem wf_RX4_61 : Cond.fieldLink RX4 61 (clT 4 12).1 (clT 4 12).2.1 (clT 4 12).2.2.1 ∈ bigW := big_mem 266 (by decide +kernel) (by decide +kernel)
theorem wm_RX4_64 : Cond.methodLink RX4 64 arraycopyName ∈ bigW := big_mem 786 (by decide +kernel) (by decide +kernel)
theorem wm_RX5_3 : Cond.methodLink RX5 3 Lib.objectInit ∈ bigW := big_mem 300 (by decide +kernel) (by decide +kernel)
theorem wl_RX5_11 : Cond.classLink RX5 11 (clR 4) ∈ bigW := big_mem 301 (by decide +kernel) (by decide +kernel)
theorem wf_RX5_13 : Cond.fieldLink RX5 13 (clT 5 0).1 (clT 5 0).2.1 (clT 5 0).2.2.1 ∈ bigW := big_mem 304 (by decide +kernel) (by decide +kernel)
set_option maxRecDepth 20000 in
theorem wC5 : ∀ w ∈ u_ws (clR 5) (clT 5) (nF 5), w ∈ bigW := big_at [308, 310, 312] (by decide +kernel) (by decide +kernel)
theorem wi_4 : Cond.instantiable (clR 4) (nF 4) ∈ bigW := big_mem 220 (by decide +kernel) (by decide +kernel)
theorem wn_4 : Cond.initialized (clR 4) ∈ bigW := big_mem 101 (by decide +kernel) (by decide +kernel)
theorem wc_X4_init : Cond.code yX4_init cX4_init 1 none ∈ bigW := big_mem 223 (by decide +kernel) (by decide +kernel)
theorem win_X4_init : Cond.instanceMethod yX4_init ∈ bigW := big_mem 222 (by decide +kernel) (by decide +kernel)
theorem wny_X4_init : Cond.initialized yX4_init.cls ∈ bigW := big_mem 101 (by decide +kernel) (by decide +kernel)
theorem wf_RX5_18 : Cond.fieldLink RX5 18 (clT 5 2).1 (clT 5 2).2.1 (clT 5 2).2.2.1 ∈ bigW := big_mem 306 (by decide +kernel) (by decide +kernel)
theorem wf_RX5_22 : Cond.fieldLink RX5 22 (clT 5 1).1 (clT 5 1).2.1 (clT 5 1).2.2.1 ∈ bigW := big_mem 305 (by decide +kernel) (by decide +kernel)
theorem wm_RX5_25 : Cond.methodLink RX5 25 yX4_copyFrom ∈ bigW := big_mem 782 (by decide +kernel) (by decide +kernel)
theorem wc_X4_copyFrom : Cond.code yX4_copyFrom cX4_copyFrom 2 none ∈ bigW := big_mem 785 (by decide +kernel) (by decide +kernel)
theorem win_X4_copyFrom : Cond.instanceMethod yX4_copyFrom ∈ bigW := big_mem 783 (by decide +kernel) (by decide +kernel)
theorem wse_X4_copyFrom : Cond.selects (clR 4) yX4_copyFrom yX4_copyFrom ∈ bigW := big_mem 784 (by decide +kernel) (by decide +kernel)
theorem wm_RX5_29 : Cond.methodLink RX5 29 Lib.Math.min.name ∈ bigW := big_mem 818 (by decide +kernel) (by decide +kernel)
theorem wm_RX6_3 : Cond.methodLink RX6 3 Lib.objectInit ∈ bigW := big_mem 425 (by decide +kernel) (by decide +kernel)
theorem wf_RX6_11 : Cond.fieldLink RX6 11 (clT 6 0).1 (clT 6 0).2.1 (clT 6 0).2.2.1 ∈ bigW := big_mem 426 (by decide +kernel) (by decide +kernel)
set_option maxRecDepth 20000 in
theorem wC6 : ∀ w ∈ u_ws (clR 6) (clT 6) (nF 6), w ∈ bigW := big_at [429, 431] (by decide +kernel) (by decide +kernel)
theorem wm_RX6_24 : Cond.methodLink RX6 24 yX9_accept ∈ bigW := big_mem 640 (by decide +kernel) (by decide +kernel)
theorem wm_RX6_38 : Cond.methodLink RX6 38 yX9_digit ∈ bigW := big_mem 641 (by decide +kernel) (by decide +kernel)
theorem wc_X9_digit : Cond.code yX9_digit cX9_digit 3 (some .int) ∈ bigW := big_mem 644 (by decide +kernel) (by decide +kernel)
theorem win_X9_digit : Cond.instanceMethod yX9_digit ∈ bigW := big_mem 642 (by decide +kernel) (by decide +kernel)
theorem wse_X9_digit : Cond.selects (clR 9) yX9_digit yX9_digit ∈ bigW := big_mem 643 (by decide +kernel) (by decide +kernel)
theorem wm_RX6_42 : Cond.methodLink RX6 42 yX9_demand ∈ bigW := big_mem 645 (by decide +kernel) (by decide +kernel)
theorem wc_X9_demand : Cond.code yX9_demand cX9_demand 2 none ∈ bigW := big_mem 586 (by decide +kernel) (by decide +kernel)
theorem win_X9_demand : Cond.instanceMethod yX9_demand ∈ bigW := big_mem 584 (by decide +kernel) (by decide +kernel)
theorem wse_X9_demand : Cond.selects (clR 9) yX9_demand yX9_demand ∈ bigW := big_mem 585 (by decide +kernel) (by decide +kernel)
theorem wm_RX6_46 : Cond.methodLink RX6 46 yX6_put ∈ bigW := big_mem 646 (by decide +kernel) (by decide +kernel)
theorem wc_X6_put : Cond.code yX6_put cX6_put 5 none ∈ bigW := big_mem 649 (by decide +kernel) (by decide +kernel)
theorem win_X6_put : Cond.instanceMethod yX6_put ∈ bigW := big_mem 648 (by decide +kernel) (by decide +kernel)
theorem wse_X6_put : Cond.selects (clR 6) yX6_put yX6_put ∈ bigW := big_mem 11 (by decide +kernel) (by decide +kernel)
theorem wn_6 : Cond.initialized (clR 6) ∈ bigW := big_mem 107 (by decide +kernel) (by decide +kernel)
theorem wm_RX6_15 : Cond.methodLink RX6 15 yX9_rewind ∈ bigW := big_mem 636 (by decide +kernel) (by decide +kernel)
theorem wm_RX6_20 : Cond.methodLink RX6 20 yX6_readStep ∈ bigW := big_mem 637 (by decide +kernel) (by decide +kernel)
theorem wc_X6_readStep : Cond.code yX6_readStep cX6_readStep 6 none ∈ bigW := big_mem 639 (by decide +kernel) (by decide +kernel)
theorem wst_X6_readStep : Cond.static yX6_readStep ∈ bigW := big_mem 638 (by decide +kernel) (by decide +kernel)
theorem wny_X6_readStep : Cond.initialized yX6_readStep.cls ∈ bigW := big_mem 107 (by decide +kernel) (by decide +kernel)
theorem wm_RX6_28 : Cond.methodLink RX6 28 yX9_demandEnd ∈ bigW := big_mem 650 (by decide +kernel) (by decide +kernel)
theorem wf_RX6_31 : Cond.fieldLink RX6 31 (clT 6 1).1 (clT 6 1).2.1 (clT 6 1).2.2.1 ∈ bigW := big_mem 427 (by decide +kernel) (by decide +kernel)
theorem wf_RX6_35 : Cond.fieldLink RX6 35 (clT 9 3).1 (clT 9 3).2.1 (clT 9 3).2.2.1 ∈ bigW := big_mem 139 (by decide +kernel) (by decide +kernel)
theorem wm_RX7_3 : Cond.methodLink RX7 3 Lib.objectInit ∈ bigW := big_mem 333 (by decide +kernel) (by decide +kernel)
theorem wf_RX7_9 : Cond.fieldLink RX7 9 (clT 7 1).1 (clT 7 1).2.1 (clT 7 1).2.2.1 ∈ bigW := big_mem 336 (by decide +kernel) (by decide +kernel)
set_option maxRecDepth 20000 in
theorem wC7 : ∀ w ∈ u_ws (clR 7) (clT 7) (nF 7), w ∈ bigW := big_at [341, 343, 345, 347, 349] (by decide +kernel) (by decide +kernel)
theorem wf_RX7_15 : Cond.fieldLink RX7 15 (clT 7 2).1 (clT 7 2).2.1 (clT 7 2).2.2.1 ∈ bigW := big_mem 337 (by decide +kernel) (by decide +kernel)
theorem wf_RX7_18 : Cond.fieldLink RX7 18 (clT 7 4).1 (clT 7 4).2.1 (clT 7 4).2.2.1 ∈ bigW := big_mem 340 (by decide +kernel) (by decide +kernel)
theorem wf_RX7_22 : Cond.fieldLink RX7 22 (clT 7 0).1 (clT 7 0).2.1 (clT 7 0).2.2.1 ∈ bigW := big_mem 334 (by decide +kernel) (by decide +kernel)
theorem wf_RX7_26 : Cond.fieldLink RX7 26 (clT 7 3).1 (clT 7 3).2.1 (clT 7 3).2.2.1 ∈ bigW := big_mem 338 (by decide +kernel) (by decide +kernel)
theorem ws_RX7_29 : Cond.fieldLink RX7 29 (stC 4) (stN 4) "[I" ∈ bigW := big_mem 1121 (by decide +kernel) (by decide +kernel)
theorem ws_RX7_32 : Cond.fieldLink RX7 32 (stC 5) (stN 5) "[I" ∈ bigW := big_mem 1123 (by decide +kernel) (by decide +kernel)
theorem wk_RX7_35 : Cond.constantLong RX7 35 (1000000) ∈ bigW := big_mem 1133 (by decide +kernel) (by decide +kernel)
theorem wm_RX7_37 : Cond.methodLink RX7 37 yX3_bound ∈ bigW := big_mem 1154 (by decide +kernel) (by decide +kernel)
theorem wc_X3_bound : Cond.code yX3_bound cX3_bound 3 (some .int) ∈ bigW := big_mem 909 (by decide +kernel) (by decide +kernel)
theorem win_X3_bound : Cond.instanceMethod yX3_bound ∈ bigW := big_mem 907 (by decide +kernel) (by decide +kernel)
theorem wse_X3_bound : Cond.selects (clR 3) yX3_bound yX3_bound ∈ bigW := big_mem 908 (by decide +kernel) (by decide +kernel)
theorem wn_3 : Cond.initialized (clR 3) ∈ bigW := big_mem 103 (by decide +kernel) (by decide +kernel)
theorem wm_RX7_43 : Cond.methodLink RX7 43 yX7_fits ∈ bigW := big_mem 1150 (by decide +kernel) (by decide +kernel)
theorem wc_X7_fits : Cond.code yX7_fits cX7_fits 5 (some .boolean) ∈ bigW := big_mem 1153 (by decide +kernel) (by decide +kernel)
theorem win_X7_fits : Cond.instanceMethod yX7_fits ∈ bigW := big_mem 1152 (by decide +kernel) (by decide +kernel)
theorem wse_X7_fits : Cond.selects (clR 7) yX7_fits yX7_fits ∈ bigW := big_mem 35 (by decide +kernel) (by decide +kernel)
theorem wn_7 : Cond.initialized (clR 7) ∈ bigW := big_mem 104 (by decide +kernel) (by decide +kernel)
theorem wm_RX7_47 : Cond.methodLink RX7 47 yX7_fitting ∈ bigW := big_mem 1163 (by decide +kernel) (by decide +kernel)
theorem wc_X7_fitting : Cond.code yX7_fitting cX7_fitting 6 (some .long) ∈ bigW := big_mem 1149 (by decide +kernel) (by decide +kernel)
theorem win_X7_fitting : Cond.instanceMethod yX7_fitting ∈ bigW := big_mem 1147 (by decide +kernel) (by decide +kernel)
theorem wse_X7_fitting : Cond.selects (clR 7) yX7_fitting yX7_fitting ∈ bigW := big_mem 1148 (by decide +kernel) (by decide +kernel)
theorem wm_RX7_51 : Cond.methodLink RX7 51 Lib.Math.abs.name ∈ bigW := big_mem 1164 (by decide +kernel) (by decide +kernel)
theorem wms_abs : Cond.static Lib.Math.abs.name ∈ bigW := big_mem 1165 (by decide +kernel) (by decide +kernel)
theorem wmc_abs : Cond.code Lib.Math.abs.name Lib.Math.abs.code 1 (some .int) ∈ bigW := big_mem 1166 (by decide +kernel) (by decide +kernel)
theorem dX0_init_0 : decode cX0_init 0 = .ok (.aload_n 0, 1) := by decide +kernel
theorem dX0_init_1 : decode cX0_init 1 = .ok (.invokespecial 3, 3) := by decide +kernel
theorem dX0_init_4 : decode cX0_init 4 = .ok (.aload_n 0, 1) := by decide +kernel
theorem dX0_init_5 : decode cX0_init 5 = .ok (.bipush 7, 2) := by decide +kernel
theorem dX0_init_7 : decode cX0_init 7 = .ok (.newarray .int, 2) := by decide +kernel
theorem dX0_init_9 : decode cX0_init 9 = .ok (.putfield 9, 3) := by decide +kernel
theorem dX0_init_12 : decode cX0_init 12 = .ok (.aload_n 0, 1) := by decide +kernel
theorem dX0_init_13 : decode cX0_init 13 = .ok (.bipush 18, 2) := by decide +kernel
theorem dX0_init_15 : decode cX0_init 15 = .ok (.newarray .int, 2) := by decide +kernel
theorem dX0_init_17 : decode cX0_init 17 = .ok (.putfield 15, 3) := by decide +kernel
theorem dX0_init_20 : decode cX0_init 20 = .ok (.aload_n 0, 1) := by decide +kernel
theorem dX0_init_21 : decode cX0_init 21 = .ok (.bipush 15, 2) := by decide +kernel
theorem dX0_init_23 : decode cX0_init 23 = .ok (.newarray .int, 2) := by decide +kernel
theorem dX0_init_25 : decode cX0_init 25 = .ok (.putfield 18, 3) := by decide +kernel
theorem dX0_init_28 : decode cX0_init 28 = .ok (.return_, 1) := by decide +kernel
noncomputable def kX0_init : Nat → Op := (nodeC 12 (nodeC 4 (nodeC 0 (leafC 0 (o_al 0 1)) (nodeC 1 (leafC 1 (o_oini 4)) (leafC 4 (o_al 0 5)))) (nodeC 7 (nodeC 5 (leafC 5 (o_ic (7) 7)) (leafC 7 (o_newa 20 9))) (nodeC 9 (leafC 9 (o_pR 0 2 12)) (leafC 12 (o_al 0 13))))) (nodeC 20 (nodeC 15 (nodeC 13 (leafC 13 (o_ic (18) 15)) (leafC 15 (o_newa 20 17))) (nodeC 17 (leafC 17 (o_pR 0 3 20)) (leafC 20 (o_al 0 21)))) (nodeC 23 (nodeC 21 (leafC 21 (o_ic (15) 23)) (leafC 23 (o_newa 20 25))) (nodeC 25 (leafC 25 (o_pR 0 4 28)) (leafC 28 (o_vret))))))
theorem sX0_init : ∀ pc, SoundOp cX0_init RX0 1 none true 1 20 pc (kX0_init pc) := (so_node (so_node (so_node (so_leaf (so_aload_n dX0_init_0 rfl)) (so_node (so_leaf (so_oini wm_RX0_3 wob1 wob2 (by decide) (by decide) dX0_init_1)) (so_leaf (so_aload_n dX0_init_4 rfl)))) (so_node (so_node (so_leaf (so_bipush dX0_init_5 (by decide))) (so_leaf (so_newa (at' := .int) (t0 := 0) (Or.inl rfl) (fun _ => rfl) (fun _ _ z => z) rfl (by decide) wa_int dX0_init_7))) (so_node (so_leaf (so_pR (by decide) (by decide) wC0 wf_RX0_9 (Or.inr ⟨rfl, rfl, rfl⟩) (Or.inr ⟨_, rfl⟩) dX0_init_9)) (so_leaf (so_aload_n dX0_init_12 rfl))))) (so_node (so_node (so_node (so_leaf (so_bipush dX0_init_13 (by decide))) (so_leaf (so_newa (at' := .int) (t0 := 0) (Or.inl rfl) (fun _ => rfl) (fun _ _ z => z) rfl (by decide) wa_int dX0_init_15))) (so_node (so_leaf (so_pR (by decide) (by decide) wC0 wf_RX0_15 (Or.inr ⟨rfl, rfl, rfl⟩) (Or.inr ⟨_, rfl⟩) dX0_init_17)) (so_leaf (so_aload_n dX0_init_20 rfl)))) (so_node (so_node (so_leaf (so_bipush dX0_init_21 (by decide))) (so_leaf (so_newa (at' := .int) (t0 := 0) (Or.inl rfl) (fun _ => rfl) (fun _ _ z => z) rfl (by decide) wa_int dX0_init_23))) (so_node (so_leaf (so_pR (by decide) (by decide) wC0 wf_RX0_18 (Or.inr ⟨rfl, rfl, rfl⟩) (Or.inr ⟨_, rfl⟩) dX0_init_25)) (so_leaf (so_vret dX0_init_28 rfl))))))
theorem pX0_init : ∀ pc, Pr (kX0_init pc) := (pr_node (pr_node (pr_node (pr_leaf (pr_al _ _)) (pr_node (pr_leaf (pr_oini _)) (pr_leaf (pr_al _ _)))) (pr_node (pr_node (pr_leaf (pr_ic _ _)) (pr_leaf (pr_newa _ _))) (pr_node (pr_leaf (pr_pR _ _ _)) (pr_leaf (pr_al _ _))))) (pr_node (pr_node (pr_node (pr_leaf (pr_ic _ _)) (pr_leaf (pr_newa _ _))) (pr_node (pr_leaf (pr_pR _ _ _)) (pr_leaf (pr_al _ _)))) (pr_node (pr_node (pr_leaf (pr_ic _ _)) (pr_leaf (pr_newa _ _))) (pr_node (pr_leaf (pr_pR _ _ _)) (pr_leaf (pr_vret))))))
noncomputable def FX0_init : List EV → Hp → Option (RV × Hp) := Fm kX0_init 1
theorem CX0_init : Con yX0_init cX0_init 1 none 1 20 FX0_init := con_of (own := RX0) rfl (by decide +kernel) sX0_init pX0_init (fun _ => rfl)
theorem GX0_init : Gr FX0_init := Gr_Fm pX0_init 1
theorem dX0_fillUsual_0 : decode cX0_fillUsual 0 = .ok (.iconst 0, 1) := by decide +kernel
theorem dX0_fillUsual_1 : decode cX0_fillUsual 1 = .ok (.istore_n 3, 1) := by decide +kernel
theorem dX0_fillUsual_2 : decode cX0_fillUsual 2 = .ok (.iconst 4, 1) := by decide +kernel
theorem dX0_fillUsual_3 : decode cX0_fillUsual 3 = .ok (.iload_n 3, 1) := by decide +kernel
theorem dX0_fillUsual_4 : decode cX0_fillUsual 4 = .ok (.imul, 1) := by decide +kernel
theorem dX0_fillUsual_5 : decode cX0_fillUsual 5 = .ok (.iconst 3, 1) := by decide +kernel
theorem dX0_fillUsual_6 : decode cX0_fillUsual 6 = .ok (.iadd, 1) := by decide +kernel
theorem dX0_fillUsual_7 : decode cX0_fillUsual 7 = .ok (.aload_n 2, 1) := by decide +kernel
theorem dX0_fillUsual_8 : decode cX0_fillUsual 8 = .ok (.arraylength, 1) := by decide +kernel
theorem dX0_fillUsual_9 : decode cX0_fillUsual 9 = .ok (.if_icmp .ge 29, 3) := by decide +kernel
theorem dX0_fillUsual_12 : decode cX0_fillUsual 12 = .ok (.iload_n 1, 1) := by decide +kernel
theorem dX0_fillUsual_13 : decode cX0_fillUsual 13 = .ok (.iload_n 3, 1) := by decide +kernel
theorem dX0_fillUsual_14 : decode cX0_fillUsual 14 = .ok (.iadd, 1) := by decide +kernel
theorem dX0_fillUsual_15 : decode cX0_fillUsual 15 = .ok (.aload_n 0, 1) := by decide +kernel
theorem dX0_fillUsual_16 : decode cX0_fillUsual 16 = .ok (.arraylength, 1) := by decide +kernel
theorem dX0_fillUsual_17 : decode cX0_fillUsual 17 = .ok (.if_icmp .ge 21, 3) := by decide +kernel
theorem dX0_fillUsual_20 : decode cX0_fillUsual 20 = .ok (.aload_n 0, 1) := by decide +kernel
theorem dX0_fillUsual_21 : decode cX0_fillUsual 21 = .ok (.iload_n 1, 1) := by decide +kernel
theorem dX0_fillUsual_22 : decode cX0_fillUsual 22 = .ok (.iload_n 3, 1) := by decide +kernel
theorem dX0_fillUsual_23 : decode cX0_fillUsual 23 = .ok (.iadd, 1) := by decide +kernel
theorem dX0_fillUsual_24 : decode cX0_fillUsual 24 = .ok (.aload_n 2, 1) := by decide +kernel
theorem dX0_fillUsual_25 : decode cX0_fillUsual 25 = .ok (.iconst 4, 1) := by decide +kernel
theorem dX0_fillUsual_26 : decode cX0_fillUsual 26 = .ok (.iload_n 3, 1) := by decide +kernel
theorem dX0_fillUsual_27 : decode cX0_fillUsual 27 = .ok (.imul, 1) := by decide +kernel
theorem dX0_fillUsual_28 : decode cX0_fillUsual 28 = .ok (.iconst 3, 1) := by decide +kernel
theorem dX0_fillUsual_29 : decode cX0_fillUsual 29 = .ok (.iadd, 1) := by decide +kernel
theorem dX0_fillUsual_30 : decode cX0_fillUsual 30 = .ok (.iaload, 1) := by decide +kernel
theorem dX0_fillUsual_31 : decode cX0_fillUsual 31 = .ok (.iastore, 1) := by decide +kernel
theorem dX0_fillUsual_32 : decode cX0_fillUsual 32 = .ok (.iinc 3 1, 3) := by decide +kernel
theorem dX0_fillUsual_35 : decode cX0_fillUsual 35 = .ok (.goto (-33), 3) := by decide +kernel
theorem dX0_fillUsual_38 : decode cX0_fillUsual 38 = .ok (.return_, 1) := by decide +kernel
noncomputable def kX0_fillUsual : Nat → Op := (nodeC 16 (nodeC 6 (nodeC 2 (nodeC 0 (leafC 0 (o_ic (0) 1)) (nodeC 1 (leafC 1 (o_is 3 2)) (leafC 2 (o_ic (4) 3)))) (nodeC 4 (nodeC 3 (leafC 3 (o_il 3 4)) (leafC 4 (o_imul 5))) (nodeC 5 (leafC 5 (o_ic (3) 6)) (leafC 6 (o_iadd 7))))) (nodeC 12 (nodeC 8 (nodeC 7 (leafC 7 (o_al 2 8)) (leafC 8 (o_alen 9))) (nodeC 9 (leafC 9 (o_cge 38 12)) (leafC 12 (o_il 1 13)))) (nodeC 14 (nodeC 13 (leafC 13 (o_il 3 14)) (leafC 14 (o_iadd 15))) (nodeC 15 (leafC 15 (o_al 0 16)) (leafC 16 (o_alen 17)))))) (nodeC 26 (nodeC 22 (nodeC 20 (nodeC 17 (leafC 17 (o_cge 38 20)) (leafC 20 (o_al 0 21))) (nodeC 21 (leafC 21 (o_il 1 22)) (leafC 22 (o_il 3 23)))) (nodeC 24 (nodeC 23 (leafC 23 (o_iadd 24)) (leafC 24 (o_al 2 25))) (nodeC 25 (leafC 25 (o_ic (4) 26)) (leafC 26 (o_il 3 27))))) (nodeC 30 (nodeC 28 (nodeC 27 (leafC 27 (o_imul 28)) (leafC 28 (o_ic (3) 29))) (nodeC 29 (leafC 29 (o_iadd 30)) (leafC 30 (o_iald 31)))) (nodeC 32 (nodeC 31 (leafC 31 (o_iast 32)) (leafC 32 (o_inc 3 (1) 35))) (nodeC 35 (leafC 35 (o_goto 2)) (leafC 38 (o_vret)))))))
theorem sX0_fillUsual : ∀ pc, SoundOp cX0_fillUsual RX0 4 none false 0 0 pc (kX0_fillUsual pc) := (so_node (so_node (so_node (so_node (so_leaf (so_iconst dX0_fillUsual_0 (by decide))) (so_node (so_leaf (so_istore_n dX0_fillUsual_1 rfl (by decide))) (so_leaf (so_iconst dX0_fillUsual_2 (by decide))))) (so_node (so_node (so_leaf (so_iload_n dX0_fillUsual_3 rfl)) (so_leaf (so_imul dX0_fillUsual_4))) (so_node (so_leaf (so_iconst dX0_fillUsual_5 (by decide))) (so_leaf (so_iadd dX0_fillUsual_6))))) (so_node (so_node (so_node (so_leaf (so_aload_n dX0_fillUsual_7 rfl)) (so_leaf (so_alen dX0_fillUsual_8))) (so_node (so_leaf (so_cge dX0_fillUsual_9 (by decide))) (so_leaf (so_iload_n dX0_fillUsual_12 rfl)))) (so_node (so_node (so_leaf (so_iload_n dX0_fillUsual_13 rfl)) (so_leaf (so_iadd dX0_fillUsual_14))) (so_node (so_leaf (so_aload_n dX0_fillUsual_15 rfl)) (so_leaf (so_alen dX0_fillUsual_16)))))) (so_node (so_node (so_node (so_node (so_leaf (so_cge dX0_fillUsual_17 (by decide))) (so_leaf (so_aload_n dX0_fillUsual_20 rfl))) (so_node (so_leaf (so_iload_n dX0_fillUsual_21 rfl)) (so_leaf (so_iload_n dX0_fillUsual_22 rfl)))) (so_node (so_node (so_leaf (so_iadd dX0_fillUsual_23)) (so_leaf (so_aload_n dX0_fillUsual_24 rfl))) (so_node (so_leaf (so_iconst dX0_fillUsual_25 (by decide))) (so_leaf (so_iload_n dX0_fillUsual_26 rfl))))) (so_node (so_node (so_node (so_leaf (so_imul dX0_fillUsual_27)) (so_leaf (so_iconst dX0_fillUsual_28 (by decide)))) (so_node (so_leaf (so_iadd dX0_fillUsual_29)) (so_leaf (so_iald dX0_fillUsual_30)))) (so_node (so_node (so_leaf (so_iast dX0_fillUsual_31)) (so_leaf (so_iinc dX0_fillUsual_32 (by decide) (by decide)))) (so_node (so_leaf (so_goto dX0_fillUsual_35 (by decide))) (so_leaf (so_vret dX0_fillUsual_38 rfl)))))))
theorem pX0_fillUsual : ∀ pc, Pr (kX0_fillUsual pc) := (pr_node (pr_node (pr_node (pr_node (pr_leaf (pr_ic _ _)) (pr_node (pr_leaf (pr_is _ _)) (pr_leaf (pr_ic _ _)))) (pr_node (pr_node (pr_leaf (pr_il _ _)) (pr_leaf (pr_imul _))) (pr_node (pr_leaf (pr_ic _ _)) (pr_leaf (pr_iadd _))))) (pr_node (pr_node (pr_node (pr_leaf (pr_al _ _)) (pr_leaf (pr_alen _))) (pr_node (pr_leaf (pr_cge _ _)) (pr_leaf (pr_il _ _)))) (pr_node (pr_node (pr_leaf (pr_il _ _)) (pr_leaf (pr_iadd _))) (pr_node (pr_leaf (pr_al _ _)) (pr_leaf (pr_alen _)))))) (pr_node (pr_node (pr_node (pr_node (pr_leaf (pr_cge _ _)) (pr_leaf (pr_al _ _))) (pr_node (pr_leaf (pr_il _ _)) (pr_leaf (pr_il _ _)))) (pr_node (pr_node (pr_leaf (pr_iadd _)) (pr_leaf (pr_al _ _))) (pr_node (pr_leaf (pr_ic _ _)) (pr_leaf (pr_il _ _))))) (pr_node (pr_node (pr_node (pr_leaf (pr_imul _)) (pr_leaf (pr_ic _ _))) (pr_node (pr_leaf (pr_iadd _)) (pr_leaf (pr_iald _)))) (pr_node (pr_node (pr_leaf (pr_iast _)) (pr_leaf (pr_inc _ _ _))) (pr_node (pr_leaf (pr_goto _)) (pr_leaf (pr_vret)))))))
noncomputable def FX0_fillUsual : List EV → Hp → Option (RV × Hp) := Fm kX0_fillUsual 4
theorem CX0_fillUsual : Con yX0_fillUsual cX0_fillUsual 4 none 0 0 FX0_fillUsual := con_of (own := RX0) rfl (by decide +kernel) sX0_fillUsual pX0_fillUsual (fun z => by cases z)
theorem GX0_fillUsual : Gr FX0_fillUsual := Gr_Fm pX0_fillUsual 4
theorem dX0_itemOf_0 : decode cX0_itemOf 0 = .ok (.iconst 0, 1) := by decide +kernel
theorem dX0_itemOf_1 : decode cX0_itemOf 1 = .ok (.istore_n 2, 1) := by decide +kernel
theorem dX0_itemOf_2 : decode cX0_itemOf 2 = .ok (.iconst 4, 1) := by decide +kernel
theorem dX0_itemOf_3 : decode cX0_itemOf 3 = .ok (.iload_n 2, 1) := by decide +kernel
theorem dX0_itemOf_4 : decode cX0_itemOf 4 = .ok (.imul, 1) := by decide +kernel
theorem dX0_itemOf_5 : decode cX0_itemOf 5 = .ok (.iconst 3, 1) := by decide +kernel
theorem dX0_itemOf_6 : decode cX0_itemOf 6 = .ok (.iadd, 1) := by decide +kernel
theorem dX0_itemOf_7 : decode cX0_itemOf 7 = .ok (.aload_n 0, 1) := by decide +kernel
theorem dX0_itemOf_8 : decode cX0_itemOf 8 = .ok (.arraylength, 1) := by decide +kernel
theorem dX0_itemOf_9 : decode cX0_itemOf 9 = .ok (.if_icmp .ge 20, 3) := by decide +kernel
theorem dX0_itemOf_12 : decode cX0_itemOf 12 = .ok (.aload_n 0, 1) := by decide +kernel
theorem dX0_itemOf_13 : decode cX0_itemOf 13 = .ok (.iconst 4, 1) := by decide +kernel
theorem dX0_itemOf_14 : decode cX0_itemOf 14 = .ok (.iload_n 2, 1) := by decide +kernel
theorem dX0_itemOf_15 : decode cX0_itemOf 15 = .ok (.imul, 1) := by decide +kernel
theorem dX0_itemOf_16 : decode cX0_itemOf 16 = .ok (.iaload, 1) := by decide +kernel
theorem dX0_itemOf_17 : decode cX0_itemOf 17 = .ok (.iload_n 1, 1) := by decide +kernel
theorem dX0_itemOf_18 : decode cX0_itemOf 18 = .ok (.if_icmp .ne 5, 3) := by decide +kernel
theorem dX0_itemOf_21 : decode cX0_itemOf 21 = .ok (.iload_n 2, 1) := by decide +kernel
theorem dX0_itemOf_22 : decode cX0_itemOf 22 = .ok (.ireturn, 1) := by decide +kernel
theorem dX0_itemOf_23 : decode cX0_itemOf 23 = .ok (.iinc 2 1, 3) := by decide +kernel
theorem dX0_itemOf_26 : decode cX0_itemOf 26 = .ok (.goto (-24), 3) := by decide +kernel
theorem dX0_itemOf_29 : decode cX0_itemOf 29 = .ok (.iconst (-1), 1) := by decide +kernel
theorem dX0_itemOf_30 : decode cX0_itemOf 30 = .ok (.ireturn, 1) := by decide +kernel
noncomputable def kX0_itemOf : Nat → Op := (nodeC 12 (nodeC 4 (nodeC 1 (nodeC 0 (leafC 0 (o_ic (0) 1)) (leafC 1 (o_is 2 2))) (nodeC 2 (leafC 2 (o_ic (4) 3)) (nodeC 3 (leafC 3 (o_il 2 4)) (leafC 4 (o_imul 5))))) (nodeC 7 (nodeC 5 (leafC 5 (o_ic (3) 6)) (nodeC 6 (leafC 6 (o_iadd 7)) (leafC 7 (o_al 0 8)))) (nodeC 8 (leafC 8 (o_alen 9)) (nodeC 9 (leafC 9 (o_cge 29 12)) (leafC 12 (o_al 0 13)))))) (nodeC 18 (nodeC 15 (nodeC 13 (leafC 13 (o_ic (4) 14)) (nodeC 14 (leafC 14 (o_il 2 15)) (leafC 15 (o_imul 16)))) (nodeC 16 (leafC 16 (o_iald 17)) (nodeC 17 (leafC 17 (o_il 1 18)) (leafC 18 (o_cne 23 21))))) (nodeC 23 (nodeC 21 (leafC 21 (o_il 2 22)) (nodeC 22 (leafC 22 (o_iret)) (leafC 23 (o_inc 2 (1) 26)))) (nodeC 26 (leafC 26 (o_goto 2)) (nodeC 29 (leafC 29 (o_ic (-1) 30)) (leafC 30 (o_iret)))))))
theorem sX0_itemOf : ∀ pc, SoundOp cX0_itemOf RX0 3 (some .int) false 0 0 pc (kX0_itemOf pc) := (so_node (so_node (so_node (so_node (so_leaf (so_iconst dX0_itemOf_0 (by decide))) (so_leaf (so_istore_n dX0_itemOf_1 rfl (by decide)))) (so_node (so_leaf (so_iconst dX0_itemOf_2 (by decide))) (so_node (so_leaf (so_iload_n dX0_itemOf_3 rfl)) (so_leaf (so_imul dX0_itemOf_4))))) (so_node (so_node (so_leaf (so_iconst dX0_itemOf_5 (by decide))) (so_node (so_leaf (so_iadd dX0_itemOf_6)) (so_leaf (so_aload_n dX0_itemOf_7 rfl)))) (so_node (so_leaf (so_alen dX0_itemOf_8)) (so_node (so_leaf (so_cge dX0_itemOf_9 (by decide))) (so_leaf (so_aload_n dX0_itemOf_12 rfl)))))) (so_node (so_node (so_node (so_leaf (so_iconst dX0_itemOf_13 (by decide))) (so_node (so_leaf (so_iload_n dX0_itemOf_14 rfl)) (so_leaf (so_imul dX0_itemOf_15)))) (so_node (so_leaf (so_iald dX0_itemOf_16)) (so_node (so_leaf (so_iload_n dX0_itemOf_17 rfl)) (so_leaf (so_cne dX0_itemOf_18 (by decide)))))) (so_node (so_node (so_leaf (so_iload_n dX0_itemOf_21 rfl)) (so_node (so_leaf (so_iret dX0_itemOf_22 rfl)) (so_leaf (so_iinc dX0_itemOf_23 (by decide) (by decide))))) (so_node (so_leaf (so_goto dX0_itemOf_26 (by decide))) (so_node (so_leaf (so_iconst dX0_itemOf_29 (by decide))) (so_leaf (so_iret dX0_itemOf_30 rfl)))))))
theorem pX0_itemOf : ∀ pc, Pr (kX0_itemOf pc) := (pr_node (pr_node (pr_node (pr_node (pr_leaf (pr_ic _ _)) (pr_leaf (pr_is _ _))) (pr_node (pr_leaf (pr_ic _ _)) (pr_node (pr_leaf (pr_il _ _)) (pr_leaf (pr_imul _))))) (pr_node (pr_node (pr_leaf (pr_ic _ _)) (pr_node (pr_leaf (pr_iadd _)) (pr_leaf (pr_al _ _)))) (pr_node (pr_leaf (pr_alen _)) (pr_node (pr_leaf (pr_cge _ _)) (pr_leaf (pr_al _ _)))))) (pr_node (pr_node (pr_node (pr_leaf (pr_ic _ _)) (pr_node (pr_leaf (pr_il _ _)) (pr_leaf (pr_imul _)))) (pr_node (pr_leaf (pr_iald _)) (pr_node (pr_leaf (pr_il _ _)) (pr_leaf (pr_cne _ _))))) (pr_node (pr_node (pr_leaf (pr_il _ _)) (pr_node (pr_leaf (pr_iret)) (pr_leaf (pr_inc _ _ _)))) (pr_node (pr_leaf (pr_goto _)) (pr_node (pr_leaf (pr_ic _ _)) (pr_leaf (pr_iret)))))))
noncomputable def FX0_itemOf : List EV → Hp → Option (RV × Hp) := Fm kX0_itemOf 3
theorem CX0_itemOf : Con yX0_itemOf cX0_itemOf 3 (some .int) 0 0 FX0_itemOf := con_of (own := RX0) rfl (by decide +kernel) sX0_itemOf pX0_itemOf (fun z => by cases z)
theorem GX0_itemOf : Gr FX0_itemOf := Gr_Fm pX0_itemOf 3
theorem dX0_readItems_0 : decode cX0_readItems 0 = .ok (.aload_n 1, 1) := by decide +kernel
theorem dX0_readItems_1 : decode cX0_readItems 1 = .ok (.iload_n 2, 1) := by decide +kernel
theorem dX0_readItems_2 : decode cX0_readItems 2 = .ok (.aload_n 3, 1) := by decide +kernel
theorem dX0_readItems_3 : decode cX0_readItems 3 = .ok (.invokestatic 43, 3) := by decide +kernel
theorem dX0_readItems_6 : decode cX0_readItems 6 = .ok (.iconst 0, 1) := by decide +kernel
theorem dX0_readItems_7 : decode cX0_readItems 7 = .ok (.istore 4, 2) := by decide +kernel
theorem dX0_readItems_9 : decode cX0_readItems 9 = .ok (.iconst 0, 1) := by decide +kernel
theorem dX0_readItems_10 : decode cX0_readItems 10 = .ok (.istore 5, 2) := by decide +kernel
theorem dX0_readItems_12 : decode cX0_readItems 12 = .ok (.iload 5, 2) := by decide +kernel
theorem dX0_readItems_14 : decode cX0_readItems 14 = .ok (.aload_n 3, 1) := by decide +kernel
theorem dX0_readItems_15 : decode cX0_readItems 15 = .ok (.arraylength, 1) := by decide +kernel
theorem dX0_readItems_16 : decode cX0_readItems 16 = .ok (.iconst 4, 1) := by decide +kernel
theorem dX0_readItems_17 : decode cX0_readItems 17 = .ok (.idiv, 1) := by decide +kernel
theorem dX0_readItems_18 : decode cX0_readItems 18 = .ok (.if_icmp .ge 86, 3) := by decide +kernel
theorem dX0_readItems_21 : decode cX0_readItems 21 = .ok (.aload_n 3, 1) := by decide +kernel
theorem dX0_readItems_22 : decode cX0_readItems 22 = .ok (.aload_n 0, 1) := by decide +kernel
theorem dX0_readItems_23 : decode cX0_readItems 23 = .ok (.invokevirtual 64, 3) := by decide +kernel
theorem dX0_readItems_26 : decode cX0_readItems 26 = .ok (.invokestatic 82, 3) := by decide +kernel
theorem dX0_readItems_29 : decode cX0_readItems 29 = .ok (.istore 6, 2) := by decide +kernel
theorem dX0_readItems_31 : decode cX0_readItems 31 = .ok (.iload 6, 2) := by decide +kernel
theorem dX0_readItems_33 : decode cX0_readItems 33 = .ok (.iconst (-1), 1) := by decide +kernel
theorem dX0_readItems_34 : decode cX0_readItems 34 = .ok (.if_icmp .eq 22, 3) := by decide +kernel
theorem dX0_readItems_37 : decode cX0_readItems 37 = .ok (.iload 4, 2) := by decide +kernel
theorem dX0_readItems_39 : decode cX0_readItems 39 = .ok (.iload 6, 2) := by decide +kernel
theorem dX0_readItems_41 : decode cX0_readItems 41 = .ok (.ishr, 1) := by decide +kernel
theorem dX0_readItems_42 : decode cX0_readItems 42 = .ok (.iconst 1, 1) := by decide +kernel
theorem dX0_readItems_43 : decode cX0_readItems 43 = .ok (.iand, 1) := by decide +kernel
theorem dX0_readItems_44 : decode cX0_readItems 44 = .ok (.ifCond .ne 12, 3) := by decide +kernel
theorem dX0_readItems_47 : decode cX0_readItems 47 = .ok (.iload_n 2, 1) := by decide +kernel
theorem dX0_readItems_48 : decode cX0_readItems 48 = .ok (.iload 6, 2) := by decide +kernel
theorem dX0_readItems_50 : decode cX0_readItems 50 = .ok (.iadd, 1) := by decide +kernel
theorem dX0_readItems_51 : decode cX0_readItems 51 = .ok (.aload_n 1, 1) := by decide +kernel
theorem dX0_readItems_52 : decode cX0_readItems 52 = .ok (.arraylength, 1) := by decide +kernel
theorem dX0_readItems_53 : decode cX0_readItems 53 = .ok (.if_icmp .lt 4, 3) := by decide +kernel
theorem dX0_readItems_56 : decode cX0_readItems 56 = .ok (.return_, 1) := by decide +kernel
theorem dX0_readItems_57 : decode cX0_readItems 57 = .ok (.iload 4, 2) := by decide +kernel
theorem dX0_readItems_59 : decode cX0_readItems 59 = .ok (.iconst 1, 1) := by decide +kernel
theorem dX0_readItems_60 : decode cX0_readItems 60 = .ok (.iload 6, 2) := by decide +kernel
theorem dX0_readItems_62 : decode cX0_readItems 62 = .ok (.ishl, 1) := by decide +kernel
theorem dX0_readItems_63 : decode cX0_readItems 63 = .ok (.ior, 1) := by decide +kernel
theorem dX0_readItems_64 : decode cX0_readItems 64 = .ok (.istore 4, 2) := by decide +kernel
theorem dX0_readItems_66 : decode cX0_readItems 66 = .ok (.aload_n 0, 1) := by decide +kernel
theorem dX0_readItems_67 : decode cX0_readItems 67 = .ok (.invokevirtual 68, 3) := by decide +kernel
theorem dX0_readItems_70 : decode cX0_readItems 70 = .ok (.pop, 1) := by decide +kernel
theorem dX0_readItems_71 : decode cX0_readItems 71 = .ok (.aload_n 1, 1) := by decide +kernel
theorem dX0_readItems_72 : decode cX0_readItems 72 = .ok (.iload_n 2, 1) := by decide +kernel
theorem dX0_readItems_73 : decode cX0_readItems 73 = .ok (.iload 6, 2) := by decide +kernel
theorem dX0_readItems_75 : decode cX0_readItems 75 = .ok (.iadd, 1) := by decide +kernel
theorem dX0_readItems_76 : decode cX0_readItems 76 = .ok (.aload_n 0, 1) := by decide +kernel
theorem dX0_readItems_77 : decode cX0_readItems 77 = .ok (.iconst 2, 1) := by decide +kernel
theorem dX0_readItems_78 : decode cX0_readItems 78 = .ok (.aload_n 3, 1) := by decide +kernel
theorem dX0_readItems_79 : decode cX0_readItems 79 = .ok (.iconst 4, 1) := by decide +kernel
theorem dX0_readItems_80 : decode cX0_readItems 80 = .ok (.iload 6, 2) := by decide +kernel
theorem dX0_readItems_82 : decode cX0_readItems 82 = .ok (.imul, 1) := by decide +kernel
theorem dX0_readItems_83 : decode cX0_readItems 83 = .ok (.iconst 1, 1) := by decide +kernel
theorem dX0_readItems_84 : decode cX0_readItems 84 = .ok (.iadd, 1) := by decide +kernel
theorem dX0_readItems_85 : decode cX0_readItems 85 = .ok (.iaload, 1) := by decide +kernel
theorem dX0_readItems_86 : decode cX0_readItems 86 = .ok (.aload_n 3, 1) := by decide +kernel
theorem dX0_readItems_87 : decode cX0_readItems 87 = .ok (.iconst 4, 1) := by decide +kernel
theorem dX0_readItems_88 : decode cX0_readItems 88 = .ok (.iload 6, 2) := by decide +kernel
theorem dX0_readItems_90 : decode cX0_readItems 90 = .ok (.imul, 1) := by decide +kernel
theorem dX0_readItems_91 : decode cX0_readItems 91 = .ok (.iconst 2, 1) := by decide +kernel
theorem dX0_readItems_92 : decode cX0_readItems 92 = .ok (.iadd, 1) := by decide +kernel
theorem dX0_readItems_93 : decode cX0_readItems 93 = .ok (.iaload, 1) := by decide +kernel
theorem dX0_readItems_94 : decode cX0_readItems 94 = .ok (.invokevirtual 86, 3) := by decide +kernel
theorem dX0_readItems_97 : decode cX0_readItems 97 = .ok (.iastore, 1) := by decide +kernel
theorem dX0_readItems_98 : decode cX0_readItems 98 = .ok (.iinc 5 1, 3) := by decide +kernel
theorem dX0_readItems_101 : decode cX0_readItems 101 = .ok (.goto (-89), 3) := by decide +kernel
theorem dX0_readItems_104 : decode cX0_readItems 104 = .ok (.return_, 1) := by decide +kernel
noncomputable def kX0_readItems : Nat → Op := (nodeC 53 (nodeC 23 (nodeC 10 (nodeC 3 (nodeC 1 (nodeC 0 (leafC 0 (o_al 1 1)) (leafC 1 (o_il 2 2))) (nodeC 2 (leafC 2 (o_al 3 3)) (leafC 3 (o_ist 3 0 FX0_fillUsual 6)))) (nodeC 7 (nodeC 6 (leafC 6 (o_ic (0) 7)) (leafC 7 (o_is 4 9))) (nodeC 9 (leafC 9 (o_ic (0) 10)) (leafC 10 (o_is 5 12))))) (nodeC 16 (nodeC 14 (nodeC 12 (leafC 12 (o_mask [6] (o_il 5 14))) (leafC 14 (o_al 3 15))) (nodeC 15 (leafC 15 (o_alen 16)) (leafC 16 (o_ic (4) 17)))) (nodeC 18 (nodeC 17 (leafC 17 (o_idiv 18)) (leafC 18 (o_cge 104 21))) (nodeC 21 (leafC 21 (o_al 3 22)) (nodeC 22 (leafC 22 (o_al 0 23)) (leafC 23 (o_inv 0 9 1 FX9_peek 26))))))) (nodeC 41 (nodeC 33 (nodeC 29 (nodeC 26 (leafC 26 (o_ist 2 1 FX0_itemOf 29)) (leafC 29 (o_is 6 31))) (nodeC 31 (leafC 31 (o_il 6 33)) (leafC 33 (o_ic (-1) 34)))) (nodeC 37 (nodeC 34 (leafC 34 (o_ceq 56 37)) (leafC 37 (o_il 4 39))) (nodeC 39 (leafC 39 (o_il 6 41)) (leafC 41 (o_ishr 42))))) (nodeC 47 (nodeC 43 (nodeC 42 (leafC 42 (o_ic (1) 43)) (leafC 43 (o_iand 44))) (nodeC 44 (leafC 44 (o_zne 56 47)) (leafC 47 (o_il 2 48)))) (nodeC 50 (nodeC 48 (leafC 48 (o_il 6 50)) (leafC 50 (o_iadd 51))) (nodeC 51 (leafC 51 (o_al 1 52)) (nodeC 52 (leafC 52 (o_alen 53)) (leafC 53 (o_clt 57 56)))))))) (nodeC 78 (nodeC 66 (nodeC 60 (nodeC 57 (nodeC 56 (leafC 56 (o_vret)) (leafC 57 (o_il 4 59))) (nodeC 59 (leafC 59 (o_ic (1) 60)) (leafC 60 (o_il 6 62)))) (nodeC 63 (nodeC 62 (leafC 62 (o_ishl 63)) (leafC 63 (o_ior 64))) (nodeC 64 (leafC 64 (o_is 4 66)) (leafC 66 (o_al 0 67))))) (nodeC 72 (nodeC 70 (nodeC 67 (leafC 67 (o_inv 0 9 1 FX9_skip 70)) (leafC 70 (o_popI 71))) (nodeC 71 (leafC 71 (o_al 1 72)) (leafC 72 (o_il 2 73)))) (nodeC 75 (nodeC 73 (leafC 73 (o_il 6 75)) (leafC 75 (o_iadd 76))) (nodeC 76 (leafC 76 (o_al 0 77)) (nodeC 77 (leafC 77 (o_ic (2) 78)) (leafC 78 (o_al 3 79))))))) (nodeC 88 (nodeC 83 (nodeC 80 (nodeC 79 (leafC 79 (o_ic (4) 80)) (leafC 80 (o_il 6 82))) (nodeC 82 (leafC 82 (o_imul 83)) (leafC 83 (o_ic (1) 84)))) (nodeC 85 (nodeC 84 (leafC 84 (o_iadd 85)) (leafC 85 (o_iald 86))) (nodeC 86 (leafC 86 (o_al 3 87)) (nodeC 87 (leafC 87 (o_ic (4) 88)) (leafC 88 (o_il 6 90)))))) (nodeC 93 (nodeC 91 (nodeC 90 (leafC 90 (o_imul 91)) (leafC 91 (o_ic (2) 92))) (nodeC 92 (leafC 92 (o_iadd 93)) (leafC 93 (o_iald 94)))) (nodeC 97 (nodeC 94 (leafC 94 (o_inv 3 9 1 FX9_number 97)) (leafC 97 (o_iast 98))) (nodeC 98 (leafC 98 (o_inc 5 (1) 101)) (nodeC 101 (leafC 101 (o_goto 12)) (leafC 104 (o_vret)))))))))
theorem sX0_readItems : ∀ pc, SoundOp cX0_readItems RX0 7 none false 2 45 pc (kX0_readItems pc) := (so_node (so_node (so_node (so_node (so_node (so_node (so_leaf (so_aload_n dX0_readItems_0 rfl)) (so_leaf (so_iload_n dX0_readItems_1 rfl))) (so_node (so_leaf (so_aload_n dX0_readItems_2 rfl)) (so_leaf (so_ist CX0_fillUsual rfl wm_RX0_43 wst_X0_fillUsual wny_X0_fillUsual wc_X0_fillUsual (by decide +kernel) (by decide) (by decide) dX0_readItems_3)))) (so_node (so_node (so_leaf (so_iconst dX0_readItems_6 (by decide))) (so_leaf (so_istore dX0_readItems_7 (by decide)))) (so_node (so_leaf (so_iconst dX0_readItems_9 (by decide))) (so_leaf (so_istore dX0_readItems_10 (by decide)))))) (so_node (so_node (so_node (so_leaf (so_mask (so_iload dX0_readItems_12))) (so_leaf (so_aload_n dX0_readItems_14 rfl))) (so_node (so_leaf (so_alen dX0_readItems_15)) (so_leaf (so_iconst dX0_readItems_16 (by decide))))) (so_node (so_node (so_leaf (so_idiv dX0_readItems_17)) (so_leaf (so_cge dX0_readItems_18 (by decide)))) (so_node (so_leaf (so_aload_n dX0_readItems_21 rfl)) (so_node (so_leaf (so_aload_n dX0_readItems_22 rfl)) (so_leaf (so_inv CX9_peek (by decide) rfl wm_RX0_64 win_X9_peek wse_X9_peek wn_9 wc_X9_peek (by decide +kernel) (by decide) (by decide) dX0_readItems_23))))))) (so_node (so_node (so_node (so_node (so_leaf (so_ist CX0_itemOf rfl wm_RX0_82 wst_X0_itemOf wny_X0_itemOf wc_X0_itemOf (by decide +kernel) (by decide) (by decide) dX0_readItems_26)) (so_leaf (so_istore dX0_readItems_29 (by decide)))) (so_node (so_leaf (so_iload dX0_readItems_31)) (so_leaf (so_iconst dX0_readItems_33 (by decide))))) (so_node (so_node (so_leaf (so_ceq dX0_readItems_34 (by decide))) (so_leaf (so_iload dX0_readItems_37))) (so_node (so_leaf (so_iload dX0_readItems_39)) (so_leaf (so_ishr dX0_readItems_41))))) (so_node (so_node (so_node (so_leaf (so_iconst dX0_readItems_42 (by decide))) (so_leaf (so_iand dX0_readItems_43))) (so_node (so_leaf (so_zne dX0_readItems_44 (by decide))) (so_leaf (so_iload_n dX0_readItems_47 rfl)))) (so_node (so_node (so_leaf (so_iload dX0_readItems_48)) (so_leaf (so_iadd dX0_readItems_50))) (so_node (so_leaf (so_aload_n dX0_readItems_51 rfl)) (so_node (so_leaf (so_alen dX0_readItems_52)) (so_leaf (so_clt dX0_readItems_53 (by decide))))))))) (so_node (so_node (so_node (so_node (so_node (so_leaf (so_vret dX0_readItems_56 rfl)) (so_leaf (so_iload dX0_readItems_57))) (so_node (so_leaf (so_iconst dX0_readItems_59 (by decide))) (so_leaf (so_iload dX0_readItems_60)))) (so_node (so_node (so_leaf (so_ishl dX0_readItems_62)) (so_leaf (so_ior dX0_readItems_63))) (so_node (so_leaf (so_istore dX0_readItems_64 (by decide))) (so_leaf (so_aload_n dX0_readItems_66 rfl))))) (so_node (so_node (so_node (so_leaf (so_inv CX9_skip (by decide) rfl wm_RX0_68 win_X9_skip wse_X9_skip wn_9 wc_X9_skip (by decide +kernel) (by decide) (by decide) dX0_readItems_67)) (so_leaf (so_popI dX0_readItems_70))) (so_node (so_leaf (so_aload_n dX0_readItems_71 rfl)) (so_leaf (so_iload_n dX0_readItems_72 rfl)))) (so_node (so_node (so_leaf (so_iload dX0_readItems_73)) (so_leaf (so_iadd dX0_readItems_75))) (so_node (so_leaf (so_aload_n dX0_readItems_76 rfl)) (so_node (so_leaf (so_iconst dX0_readItems_77 (by decide))) (so_leaf (so_aload_n dX0_readItems_78 rfl))))))) (so_node (so_node (so_node (so_node (so_leaf (so_iconst dX0_readItems_79 (by decide))) (so_leaf (so_iload dX0_readItems_80))) (so_node (so_leaf (so_imul dX0_readItems_82)) (so_leaf (so_iconst dX0_readItems_83 (by decide))))) (so_node (so_node (so_leaf (so_iadd dX0_readItems_84)) (so_leaf (so_iald dX0_readItems_85))) (so_node (so_leaf (so_aload_n dX0_readItems_86 rfl)) (so_node (so_leaf (so_iconst dX0_readItems_87 (by decide))) (so_leaf (so_iload dX0_readItems_88)))))) (so_node (so_node (so_node (so_leaf (so_imul dX0_readItems_90)) (so_leaf (so_iconst dX0_readItems_91 (by decide)))) (so_node (so_leaf (so_iadd dX0_readItems_92)) (so_leaf (so_iald dX0_readItems_93)))) (so_node (so_node (so_leaf (so_inv CX9_number (by decide) rfl wm_RX0_86 win_X9_number wse_X9_number wn_9 wc_X9_number (by decide +kernel) (by decide) (by decide) dX0_readItems_94)) (so_leaf (so_iast dX0_readItems_97))) (so_node (so_leaf (so_iinc dX0_readItems_98 (by decide) (by decide))) (so_node (so_leaf (so_goto dX0_readItems_101 (by decide))) (so_leaf (so_vret dX0_readItems_104 rfl)))))))))
theorem pX0_readItems : ∀ pc, Pr (kX0_readItems pc) := (pr_node (pr_node (pr_node (pr_node (pr_node (pr_node (pr_leaf (pr_al _ _)) (pr_leaf (pr_il _ _))) (pr_node (pr_leaf (pr_al _ _)) (pr_leaf (pr_ist _ _ GX0_fillUsual _)))) (pr_node (pr_node (pr_leaf (pr_ic _ _)) (pr_leaf (pr_is _ _))) (pr_node (pr_leaf (pr_ic _ _)) (pr_leaf (pr_is _ _))))) (pr_node (pr_node (pr_node (pr_leaf (pr_mask (pr_il _ _))) (pr_leaf (pr_al _ _))) (pr_node (pr_leaf (pr_alen _)) (pr_leaf (pr_ic _ _)))) (pr_node (pr_node (pr_leaf (pr_idiv _)) (pr_leaf (pr_cge _ _))) (pr_node (pr_leaf (pr_al _ _)) (pr_node (pr_leaf (pr_al _ _)) (pr_leaf (pr_inv _ _ _ GX9_peek _))))))) (pr_node (pr_node (pr_node (pr_node (pr_leaf (pr_ist _ _ GX0_itemOf _)) (pr_leaf (pr_is _ _))) (pr_node (pr_leaf (pr_il _ _)) (pr_leaf (pr_ic _ _)))) (pr_node (pr_node (pr_leaf (pr_ceq _ _)) (pr_leaf (pr_il _ _))) (pr_node (pr_leaf (pr_il _ _)) (pr_leaf (pr_ishr _))))) (pr_node (pr_node (pr_node (pr_leaf (pr_ic _ _)) (pr_leaf (pr_iand _))) (pr_node (pr_leaf (pr_zne _ _)) (pr_leaf (pr_il _ _)))) (pr_node (pr_node (pr_leaf (pr_il _ _)) (pr_leaf (pr_iadd _))) (pr_node (pr_leaf (pr_al _ _)) (pr_node (pr_leaf (pr_alen _)) (pr_leaf (pr_clt _ _)))))))) (pr_node (pr_node (pr_node (pr_node (pr_node (pr_leaf (pr_vret)) (pr_leaf (pr_il _ _))) (pr_node (pr_leaf (pr_ic _ _)) (pr_leaf (pr_il _ _)))) (pr_node (pr_node (pr_leaf (pr_ishl _)) (pr_leaf (pr_ior _))) (pr_node (pr_leaf (pr_is _ _)) (pr_leaf (pr_al _ _))))) (pr_node (pr_node (pr_node (pr_leaf (pr_inv _ _ _ GX9_skip _)) (pr_leaf (pr_popI _))) (pr_node (pr_leaf (pr_al _ _)) (pr_leaf (pr_il _ _)))) (pr_node (pr_node (pr_leaf (pr_il _ _)) (pr_leaf (pr_iadd _))) (pr_node (pr_leaf (pr_al _ _)) (pr_node (pr_leaf (pr_ic _ _)) (pr_leaf (pr_al _ _))))))) (pr_node (pr_node (pr_node (pr_node (pr_leaf (pr_ic _ _)) (pr_leaf (pr_il _ _))) (pr_node (pr_leaf (pr_imul _)) (pr_leaf (pr_ic _ _)))) (pr_node (pr_node (pr_leaf (pr_iadd _)) (pr_leaf (pr_iald _))) (pr_node (pr_leaf (pr_al _ _)) (pr_node (pr_leaf (pr_ic _ _)) (pr_leaf (pr_il _ _)))))) (pr_node (pr_node (pr_node (pr_leaf (pr_imul _)) (pr_leaf (pr_ic _ _))) (pr_node (pr_leaf (pr_iadd _)) (pr_leaf (pr_iald _)))) (pr_node (pr_node (pr_leaf (pr_inv _ _ _ GX9_number _)) (pr_leaf (pr_iast _))) (pr_node (pr_leaf (pr_inc _ _ _)) (pr_node (pr_leaf (pr_goto _)) (pr_leaf (pr_vret)))))))))
noncomputable def FX0_readItems : List EV → Hp → Option (RV × Hp) := Fm kX0_readItems 7
theorem CX0_readItems : Con yX0_readItems cX0_readItems 7 none 2 45 FX0_readItems := con_of (own := RX0) rfl (by decide +kernel) sX0_readItems pX0_readItems (fun z => by cases z)
theorem GX0_readItems : Gr FX0_readItems := Gr_Fm pX0_readItems 7
theorem dX0_readClause_0 : decode cX0_readClause 0 = .ok (.aload_n 1, 1) := by decide +kernel
theorem dX0_readClause_1 : decode cX0_readClause 1 = .ok (.invokevirtual 64, 3) := by decide +kernel
theorem dX0_readClause_4 : decode cX0_readClause 4 = .ok (.istore_n 2, 1) := by decide +kernel
theorem dX0_readClause_5 : decode cX0_readClause 5 = .ok (.iload_n 2, 1) := by decide +kernel
theorem dX0_readClause_6 : decode cX0_readClause 6 = .ok (.bipush 115, 2) := by decide +kernel
theorem dX0_readClause_8 : decode cX0_readClause 8 = .ok (.if_icmp .ne 35, 3) := by decide +kernel
theorem dX0_readClause_11 : decode cX0_readClause 11 = .ok (.aload_n 0, 1) := by decide +kernel
theorem dX0_readClause_12 : decode cX0_readClause 12 = .ok (.getfield 30, 3) := by decide +kernel
theorem dX0_readClause_15 : decode cX0_readClause 15 = .ok (.ifCond .ne 28, 3) := by decide +kernel
theorem dX0_readClause_18 : decode cX0_readClause 18 = .ok (.aload_n 1, 1) := by decide +kernel
theorem dX0_readClause_19 : decode cX0_readClause 19 = .ok (.invokevirtual 68, 3) := by decide +kernel
theorem dX0_readClause_22 : decode cX0_readClause 22 = .ok (.pop, 1) := by decide +kernel
theorem dX0_readClause_23 : decode cX0_readClause 23 = .ok (.aload_n 0, 1) := by decide +kernel
theorem dX0_readClause_24 : decode cX0_readClause 24 = .ok (.iconst 1, 1) := by decide +kernel
theorem dX0_readClause_25 : decode cX0_readClause 25 = .ok (.putfield 30, 3) := by decide +kernel
theorem dX0_readClause_28 : decode cX0_readClause 28 = .ok (.aload_n 1, 1) := by decide +kernel
theorem dX0_readClause_29 : decode cX0_readClause 29 = .ok (.aload_n 0, 1) := by decide +kernel
theorem dX0_readClause_30 : decode cX0_readClause 30 = .ok (.getfield 9, 3) := by decide +kernel
theorem dX0_readClause_33 : decode cX0_readClause 33 = .ok (.iconst 0, 1) := by decide +kernel
theorem dX0_readClause_34 : decode cX0_readClause 34 = .ok (.getstatic 40, 3) := by decide +kernel
theorem dX0_readClause_37 : decode cX0_readClause 37 = .ok (.invokestatic 72, 3) := by decide +kernel
theorem dX0_readClause_40 : decode cX0_readClause 40 = .ok (.goto 106, 3) := by decide +kernel
theorem dX0_readClause_43 : decode cX0_readClause 43 = .ok (.iload_n 2, 1) := by decide +kernel
theorem dX0_readClause_44 : decode cX0_readClause 44 = .ok (.bipush 100, 2) := by decide +kernel
theorem dX0_readClause_46 : decode cX0_readClause 46 = .ok (.if_icmp .ne 47, 3) := by decide +kernel
theorem dX0_readClause_49 : decode cX0_readClause 49 = .ok (.aload_n 0, 1) := by decide +kernel
theorem dX0_readClause_50 : decode cX0_readClause 50 = .ok (.getfield 33, 3) := by decide +kernel
theorem dX0_readClause_53 : decode cX0_readClause 53 = .ok (.bipush 6, 2) := by decide +kernel
theorem dX0_readClause_55 : decode cX0_readClause 55 = .ok (.if_icmp .ge 38, 3) := by decide +kernel
theorem dX0_readClause_58 : decode cX0_readClause 58 = .ok (.aload_n 1, 1) := by decide +kernel
theorem dX0_readClause_59 : decode cX0_readClause 59 = .ok (.invokevirtual 68, 3) := by decide +kernel
theorem dX0_readClause_62 : decode cX0_readClause 62 = .ok (.pop, 1) := by decide +kernel
theorem dX0_readClause_63 : decode cX0_readClause 63 = .ok (.aload_n 1, 1) := by decide +kernel
theorem dX0_readClause_64 : decode cX0_readClause 64 = .ok (.aload_n 0, 1) := by decide +kernel
theorem dX0_readClause_65 : decode cX0_readClause 65 = .ok (.getfield 15, 3) := by decide +kernel
theorem dX0_readClause_68 : decode cX0_readClause 68 = .ok (.iconst 3, 1) := by decide +kernel
theorem dX0_readClause_69 : decode cX0_readClause 69 = .ok (.aload_n 0, 1) := by decide +kernel
theorem dX0_readClause_70 : decode cX0_readClause 70 = .ok (.getfield 33, 3) := by decide +kernel
theorem dX0_readClause_73 : decode cX0_readClause 73 = .ok (.imul, 1) := by decide +kernel
theorem dX0_readClause_74 : decode cX0_readClause 74 = .ok (.getstatic 76, 3) := by decide +kernel
theorem dX0_readClause_77 : decode cX0_readClause 77 = .ok (.invokestatic 72, 3) := by decide +kernel
theorem dX0_readClause_80 : decode cX0_readClause 80 = .ok (.aload_n 0, 1) := by decide +kernel
theorem dX0_readClause_81 : decode cX0_readClause 81 = .ok (.dup, 1) := by decide +kernel
theorem dX0_readClause_82 : decode cX0_readClause 82 = .ok (.getfield 33, 3) := by decide +kernel
theorem dX0_readClause_85 : decode cX0_readClause 85 = .ok (.iconst 1, 1) := by decide +kernel
theorem dX0_readClause_86 : decode cX0_readClause 86 = .ok (.iadd, 1) := by decide +kernel
theorem dX0_readClause_87 : decode cX0_readClause 87 = .ok (.putfield 33, 3) := by decide +kernel
theorem dX0_readClause_90 : decode cX0_readClause 90 = .ok (.goto 56, 3) := by decide +kernel
theorem dX0_readClause_93 : decode cX0_readClause 93 = .ok (.iload_n 2, 1) := by decide +kernel
theorem dX0_readClause_94 : decode cX0_readClause 94 = .ok (.bipush 98, 2) := by decide +kernel
theorem dX0_readClause_96 : decode cX0_readClause 96 = .ok (.if_icmp .ne 46, 3) := by decide +kernel
theorem dX0_readClause_99 : decode cX0_readClause 99 = .ok (.aload_n 0, 1) := by decide +kernel
theorem dX0_readClause_100 : decode cX0_readClause 100 = .ok (.getfield 37, 3) := by decide +kernel
theorem dX0_readClause_103 : decode cX0_readClause 103 = .ok (.iconst 5, 1) := by decide +kernel
theorem dX0_readClause_104 : decode cX0_readClause 104 = .ok (.if_icmp .ge 38, 3) := by decide +kernel
theorem dX0_readClause_107 : decode cX0_readClause 107 = .ok (.aload_n 1, 1) := by decide +kernel
theorem dX0_readClause_108 : decode cX0_readClause 108 = .ok (.invokevirtual 68, 3) := by decide +kernel
theorem dX0_readClause_111 : decode cX0_readClause 111 = .ok (.pop, 1) := by decide +kernel
theorem dX0_readClause_112 : decode cX0_readClause 112 = .ok (.aload_n 1, 1) := by decide +kernel
theorem dX0_readClause_113 : decode cX0_readClause 113 = .ok (.aload_n 0, 1) := by decide +kernel
theorem dX0_readClause_114 : decode cX0_readClause 114 = .ok (.getfield 18, 3) := by decide +kernel
theorem dX0_readClause_117 : decode cX0_readClause 117 = .ok (.iconst 3, 1) := by decide +kernel
theorem dX0_readClause_118 : decode cX0_readClause 118 = .ok (.aload_n 0, 1) := by decide +kernel
theorem dX0_readClause_119 : decode cX0_readClause 119 = .ok (.getfield 37, 3) := by decide +kernel
theorem dX0_readClause_122 : decode cX0_readClause 122 = .ok (.imul, 1) := by decide +kernel
theorem dX0_readClause_123 : decode cX0_readClause 123 = .ok (.getstatic 79, 3) := by decide +kernel
theorem dX0_readClause_126 : decode cX0_readClause 126 = .ok (.invokestatic 72, 3) := by decide +kernel
theorem dX0_readClause_129 : decode cX0_readClause 129 = .ok (.aload_n 0, 1) := by decide +kernel
theorem dX0_readClause_130 : decode cX0_readClause 130 = .ok (.dup, 1) := by decide +kernel
theorem dX0_readClause_131 : decode cX0_readClause 131 = .ok (.getfield 37, 3) := by decide +kernel
theorem dX0_readClause_134 : decode cX0_readClause 134 = .ok (.iconst 1, 1) := by decide +kernel
theorem dX0_readClause_135 : decode cX0_readClause 135 = .ok (.iadd, 1) := by decide +kernel
theorem dX0_readClause_136 : decode cX0_readClause 136 = .ok (.putfield 37, 3) := by decide +kernel
theorem dX0_readClause_139 : decode cX0_readClause 139 = .ok (.goto 7, 3) := by decide +kernel
theorem dX0_readClause_142 : decode cX0_readClause 142 = .ok (.aload_n 1, 1) := by decide +kernel
theorem dX0_readClause_143 : decode cX0_readClause 143 = .ok (.invokevirtual 58, 3) := by decide +kernel
theorem dX0_readClause_146 : decode cX0_readClause 146 = .ok (.return_, 1) := by decide +kernel
noncomputable def kX0_readClause : Nat → Op := (nodeC 70 (nodeC 33 (nodeC 15 (nodeC 5 (nodeC 1 (nodeC 0 (leafC 0 (o_al 1 1)) (leafC 1 (o_inv 0 9 1 FX9_peek 4))) (nodeC 4 (leafC 4 (o_is 2 5)) (leafC 5 (o_il 2 6)))) (nodeC 8 (nodeC 6 (leafC 6 (o_ic (115) 8)) (leafC 8 (o_cne 43 11))) (nodeC 11 (leafC 11 (o_al 0 12)) (nodeC 12 (leafC 12 (o_gI 0 1 15)) (leafC 15 (o_zne 43 18)))))) (nodeC 24 (nodeC 19 (nodeC 18 (leafC 18 (o_al 1 19)) (leafC 19 (o_inv 0 9 1 FX9_skip 22))) (nodeC 22 (leafC 22 (o_popI 23)) (nodeC 23 (leafC 23 (o_al 0 24)) (leafC 24 (o_ic (1) 25))))) (nodeC 28 (nodeC 25 (leafC 25 (o_pZ 0 1 28)) (leafC 28 (o_al 1 29))) (nodeC 29 (leafC 29 (o_al 0 30)) (nodeC 30 (leafC 30 (o_gR 0 2 33)) (leafC 33 (o_ic (0) 34))))))) (nodeC 53 (nodeC 43 (nodeC 37 (nodeC 34 (leafC 34 (o_pre 1 37)) (leafC 37 (o_ist 4 0 FX0_readItems 40))) (nodeC 40 (leafC 40 (o_goto 146)) (leafC 43 (o_il 2 44)))) (nodeC 46 (nodeC 44 (leafC 44 (o_ic (100) 46)) (leafC 46 (o_cne 93 49))) (nodeC 49 (leafC 49 (o_al 0 50)) (nodeC 50 (leafC 50 (o_gI 0 5 53)) (leafC 53 (o_ic (6) 55)))))) (nodeC 63 (nodeC 58 (nodeC 55 (leafC 55 (o_cge 93 58)) (leafC 58 (o_al 1 59))) (nodeC 59 (leafC 59 (o_inv 0 9 1 FX9_skip 62)) (nodeC 62 (leafC 62 (o_popI 63)) (leafC 63 (o_al 1 64))))) (nodeC 65 (nodeC 64 (leafC 64 (o_al 0 65)) (leafC 65 (o_gR 0 3 68))) (nodeC 68 (leafC 68 (o_ic (3) 69)) (nodeC 69 (leafC 69 (o_al 0 70)) (leafC 70 (o_gI 0 5 73)))))))) (nodeC 108 (nodeC 87 (nodeC 80 (nodeC 74 (nodeC 73 (leafC 73 (o_imul 74)) (leafC 74 (o_pre 2 77))) (nodeC 77 (leafC 77 (o_ist 4 0 FX0_readItems 80)) (leafC 80 (o_al 0 81)))) (nodeC 82 (nodeC 81 (leafC 81 (o_dupR 82)) (leafC 82 (o_gI 0 5 85))) (nodeC 85 (leafC 85 (o_ic (1) 86)) (nodeC 86 (leafC 86 (o_iadd 87)) (leafC 87 (o_pI 0 5 90)))))) (nodeC 99 (nodeC 93 (nodeC 90 (leafC 90 (o_goto 146)) (leafC 93 (o_il 2 94))) (nodeC 94 (leafC 94 (o_ic (98) 96)) (nodeC 96 (leafC 96 (o_cne 142 99)) (leafC 99 (o_al 0 100))))) (nodeC 103 (nodeC 100 (leafC 100 (o_gI 0 6 103)) (leafC 103 (o_ic (5) 104))) (nodeC 104 (leafC 104 (o_cge 142 107)) (nodeC 107 (leafC 107 (o_al 1 108)) (leafC 108 (o_inv 0 9 1 FX9_skip 111))))))) (nodeC 126 (nodeC 117 (nodeC 112 (nodeC 111 (leafC 111 (o_popI 112)) (leafC 112 (o_al 1 113))) (nodeC 113 (leafC 113 (o_al 0 114)) (nodeC 114 (leafC 114 (o_gR 0 4 117)) (leafC 117 (o_ic (3) 118))))) (nodeC 119 (nodeC 118 (leafC 118 (o_al 0 119)) (leafC 119 (o_gI 0 6 122))) (nodeC 122 (leafC 122 (o_imul 123)) (nodeC 123 (leafC 123 (o_pre 3 126)) (leafC 126 (o_ist 4 0 FX0_readItems 129)))))) (nodeC 135 (nodeC 130 (nodeC 129 (leafC 129 (o_al 0 130)) (leafC 130 (o_dupR 131))) (nodeC 131 (leafC 131 (o_gI 0 6 134)) (nodeC 134 (leafC 134 (o_ic (1) 135)) (leafC 135 (o_iadd 136))))) (nodeC 139 (nodeC 136 (leafC 136 (o_pI 0 6 139)) (leafC 139 (o_goto 146))) (nodeC 142 (leafC 142 (o_al 1 143)) (nodeC 143 (leafC 143 (o_inv 0 9 0 FX9_refuse 146)) (leafC 146 (o_vret)))))))))
theorem sX0_readClause : ∀ pc, SoundOp cX0_readClause RX0 3 none false 3 71 pc (kX0_readClause pc) := (so_node (so_node (so_node (so_node (so_node (so_node (so_leaf (so_aload_n dX0_readClause_0 rfl)) (so_leaf (so_inv CX9_peek (by decide) rfl wm_RX0_64 win_X9_peek wse_X9_peek wn_9 wc_X9_peek (by decide +kernel) (by decide) (by decide) dX0_readClause_1))) (so_node (so_leaf (so_istore_n dX0_readClause_4 rfl (by decide))) (so_leaf (so_iload_n dX0_readClause_5 rfl)))) (so_node (so_node (so_leaf (so_bipush dX0_readClause_6 (by decide))) (so_leaf (so_cne dX0_readClause_8 (by decide)))) (so_node (so_leaf (so_aload_n dX0_readClause_11 rfl)) (so_node (so_leaf (so_gI (by decide) (by decide) wC0 wf_RX0_30 (fun _ _ _ => rfl) dX0_readClause_12)) (so_leaf (so_zne dX0_readClause_15 (by decide))))))) (so_node (so_node (so_node (so_leaf (so_aload_n dX0_readClause_18 rfl)) (so_leaf (so_inv CX9_skip (by decide) rfl wm_RX0_68 win_X9_skip wse_X9_skip wn_9 wc_X9_skip (by decide +kernel) (by decide) (by decide) dX0_readClause_19))) (so_node (so_leaf (so_popI dX0_readClause_22)) (so_node (so_leaf (so_aload_n dX0_readClause_23 rfl)) (so_leaf (so_iconst dX0_readClause_24 (by decide)))))) (so_node (so_node (so_leaf (so_pZ (by decide) (by decide) wC0 wf_RX0_30 (Or.inl rfl) rfl dX0_readClause_25)) (so_leaf (so_aload_n dX0_readClause_28 rfl))) (so_node (so_leaf (so_aload_n dX0_readClause_29 rfl)) (so_node (so_leaf (so_gR (by decide) (by decide) wC0 wf_RX0_9 (fun _ _ _ => rfl) dX0_readClause_30)) (so_leaf (so_iconst dX0_readClause_33 (by decide)))))))) (so_node (so_node (so_node (so_node (so_leaf (so_gets (by decide) ws_RX0_40 dX0_readClause_34)) (so_leaf (so_ist CX0_readItems rfl wm_RX0_72 wst_X0_readItems wny_X0_readItems wc_X0_readItems (by decide +kernel) (by decide) (by decide) dX0_readClause_37))) (so_node (so_leaf (so_goto dX0_readClause_40 (by decide))) (so_leaf (so_iload_n dX0_readClause_43 rfl)))) (so_node (so_node (so_leaf (so_bipush dX0_readClause_44 (by decide))) (so_leaf (so_cne dX0_readClause_46 (by decide)))) (so_node (so_leaf (so_aload_n dX0_readClause_49 rfl)) (so_node (so_leaf (so_gI (by decide) (by decide) wC0 wf_RX0_33 (fun _ _ _ => rfl) dX0_readClause_50)) (so_leaf (so_bipush dX0_readClause_53 (by decide))))))) (so_node (so_node (so_node (so_leaf (so_cge dX0_readClause_55 (by decide))) (so_leaf (so_aload_n dX0_readClause_58 rfl))) (so_node (so_leaf (so_inv CX9_skip (by decide) rfl wm_RX0_68 win_X9_skip wse_X9_skip wn_9 wc_X9_skip (by decide +kernel) (by decide) (by decide) dX0_readClause_59)) (so_node (so_leaf (so_popI dX0_readClause_62)) (so_leaf (so_aload_n dX0_readClause_63 rfl))))) (so_node (so_node (so_leaf (so_aload_n dX0_readClause_64 rfl)) (so_leaf (so_gR (by decide) (by decide) wC0 wf_RX0_15 (fun _ _ _ => rfl) dX0_readClause_65))) (so_node (so_leaf (so_iconst dX0_readClause_68 (by decide))) (so_node (so_leaf (so_aload_n dX0_readClause_69 rfl)) (so_leaf (so_gI (by decide) (by decide) wC0 wf_RX0_33 (fun _ _ _ => rfl) dX0_readClause_70)))))))) (so_node (so_node (so_node (so_node (so_node (so_leaf (so_imul dX0_readClause_73)) (so_leaf (so_gets (by decide) ws_RX0_76 dX0_readClause_74))) (so_node (so_leaf (so_ist CX0_readItems rfl wm_RX0_72 wst_X0_readItems wny_X0_readItems wc_X0_readItems (by decide +kernel) (by decide) (by decide) dX0_readClause_77)) (so_leaf (so_aload_n dX0_readClause_80 rfl)))) (so_node (so_node (so_leaf (so_dupR dX0_readClause_81)) (so_leaf (so_gI (by decide) (by decide) wC0 wf_RX0_33 (fun _ _ _ => rfl) dX0_readClause_82))) (so_node (so_leaf (so_iconst dX0_readClause_85 (by decide))) (so_node (so_leaf (so_iadd dX0_readClause_86)) (so_leaf (so_pI (by decide) (by decide) wC0 wf_RX0_33 (Or.inl rfl) rfl dX0_readClause_87)))))) (so_node (so_node (so_node (so_leaf (so_goto dX0_readClause_90 (by decide))) (so_leaf (so_iload_n dX0_readClause_93 rfl))) (so_node (so_leaf (so_bipush dX0_readClause_94 (by decide))) (so_node (so_leaf (so_cne dX0_readClause_96 (by decide))) (so_leaf (so_aload_n dX0_readClause_99 rfl))))) (so_node (so_node (so_leaf (so_gI (by decide) (by decide) wC0 wf_RX0_37 (fun _ _ _ => rfl) dX0_readClause_100)) (so_leaf (so_iconst dX0_readClause_103 (by decide)))) (so_node (so_leaf (so_cge dX0_readClause_104 (by decide))) (so_node (so_leaf (so_aload_n dX0_readClause_107 rfl)) (so_leaf (so_inv CX9_skip (by decide) rfl wm_RX0_68 win_X9_skip wse_X9_skip wn_9 wc_X9_skip (by decide +kernel) (by decide) (by decide) dX0_readClause_108))))))) (so_node (so_node (so_node (so_node (so_leaf (so_popI dX0_readClause_111)) (so_leaf (so_aload_n dX0_readClause_112 rfl))) (so_node (so_leaf (so_aload_n dX0_readClause_113 rfl)) (so_node (so_leaf (so_gR (by decide) (by decide) wC0 wf_RX0_18 (fun _ _ _ => rfl) dX0_readClause_114)) (so_leaf (so_iconst dX0_readClause_117 (by decide)))))) (so_node (so_node (so_leaf (so_aload_n dX0_readClause_118 rfl)) (so_leaf (so_gI (by decide) (by decide) wC0 wf_RX0_37 (fun _ _ _ => rfl) dX0_readClause_119))) (so_node (so_leaf (so_imul dX0_readClause_122)) (so_node (so_leaf (so_gets (by decide) ws_RX0_79 dX0_readClause_123)) (so_leaf (so_ist CX0_readItems rfl wm_RX0_72 wst_X0_readItems wny_X0_readItems wc_X0_readItems (by decide +kernel) (by decide) (by decide) dX0_readClause_126)))))) (so_node (so_node (so_node (so_leaf (so_aload_n dX0_readClause_129 rfl)) (so_leaf (so_dupR dX0_readClause_130))) (so_node (so_leaf (so_gI (by decide) (by decide) wC0 wf_RX0_37 (fun _ _ _ => rfl) dX0_readClause_131)) (so_node (so_leaf (so_iconst dX0_readClause_134 (by decide))) (so_leaf (so_iadd dX0_readClause_135))))) (so_node (so_node (so_leaf (so_pI (by decide) (by decide) wC0 wf_RX0_37 (Or.inl rfl) rfl dX0_readClause_136)) (so_leaf (so_goto dX0_readClause_139 (by decide)))) (so_node (so_leaf (so_aload_n dX0_readClause_142 rfl)) (so_node (so_leaf (so_inv CX9_refuse (by decide) rfl wm_RX0_58 win_X9_refuse wse_X9_refuse wn_9 wc_X9_refuse (by decide +kernel) (by decide) (by decide) dX0_readClause_143)) (so_leaf (so_vret dX0_readClause_146 rfl)))))))))
theorem pX0_readClause : ∀ pc, Pr (kX0_readClause pc) := (pr_node (pr_node (pr_node (pr_node (pr_node (pr_node (pr_leaf (pr_al _ _)) (pr_leaf (pr_inv _ _ _ GX9_peek _))) (pr_node (pr_leaf (pr_is _ _)) (pr_leaf (pr_il _ _)))) (pr_node (pr_node (pr_leaf (pr_ic _ _)) (pr_leaf (pr_cne _ _))) (pr_node (pr_leaf (pr_al _ _)) (pr_node (pr_leaf (pr_gI _ _ _)) (pr_leaf (pr_zne _ _)))))) (pr_node (pr_node (pr_node (pr_leaf (pr_al _ _)) (pr_leaf (pr_inv _ _ _ GX9_skip _))) (pr_node (pr_leaf (pr_popI _)) (pr_node (pr_leaf (pr_al _ _)) (pr_leaf (pr_ic _ _))))) (pr_node (pr_node (pr_leaf (pr_pZ _ _ _)) (pr_leaf (pr_al _ _))) (pr_node (pr_leaf (pr_al _ _)) (pr_node (pr_leaf (pr_gR _ _ _)) (pr_leaf (pr_ic _ _))))))) (pr_node (pr_node (pr_node (pr_node (pr_leaf (pr_pre _ _)) (pr_leaf (pr_ist _ _ GX0_readItems _))) (pr_node (pr_leaf (pr_goto _)) (pr_leaf (pr_il _ _)))) (pr_node (pr_node (pr_leaf (pr_ic _ _)) (pr_leaf (pr_cne _ _))) (pr_node (pr_leaf (pr_al _ _)) (pr_node (pr_leaf (pr_gI _ _ _)) (pr_leaf (pr_ic _ _)))))) (pr_node (pr_node (pr_node (pr_leaf (pr_cge _ _)) (pr_leaf (pr_al _ _))) (pr_node (pr_leaf (pr_inv _ _ _ GX9_skip _)) (pr_node (pr_leaf (pr_popI _)) (pr_leaf (pr_al _ _))))) (pr_node (pr_node (pr_leaf (pr_al _ _)) (pr_leaf (pr_gR _ _ _))) (pr_node (pr_leaf (pr_ic _ _)) (pr_node (pr_leaf (pr_al _ _)) (pr_leaf (pr_gI _ _ _)))))))) (pr_node (pr_node (pr_node (pr_node (pr_node (pr_leaf (pr_imul _)) (pr_leaf (pr_pre _ _))) (pr_node (pr_leaf (pr_ist _ _ GX0_readItems _)) (pr_leaf (pr_al _ _)))) (pr_node (pr_node (pr_leaf (pr_dupR _)) (pr_leaf (pr_gI _ _ _))) (pr_node (pr_leaf (pr_ic _ _)) (pr_node (pr_leaf (pr_iadd _)) (pr_leaf (pr_pI _ _ _)))))) (pr_node (pr_node (pr_node (pr_leaf (pr_goto _)) (pr_leaf (pr_il _ _))) (pr_node (pr_leaf (pr_ic _ _)) (pr_node (pr_leaf (pr_cne _ _)) (pr_leaf (pr_al _ _))))) (pr_node (pr_node (pr_leaf (pr_gI _ _ _)) (pr_leaf (pr_ic _ _))) (pr_node (pr_leaf (pr_cge _ _)) (pr_node (pr_leaf (pr_al _ _)) (pr_leaf (pr_inv _ _ _ GX9_skip _))))))) (pr_node (pr_node (pr_node (pr_node (pr_leaf (pr_popI _)) (pr_leaf (pr_al _ _))) (pr_node (pr_leaf (pr_al _ _)) (pr_node (pr_leaf (pr_gR _ _ _)) (pr_leaf (pr_ic _ _))))) (pr_node (pr_node (pr_leaf (pr_al _ _)) (pr_leaf (pr_gI _ _ _))) (pr_node (pr_leaf (pr_imul _)) (pr_node (pr_leaf (pr_pre _ _)) (pr_leaf (pr_ist _ _ GX0_readItems _)))))) (pr_node (pr_node (pr_node (pr_leaf (pr_al _ _)) (pr_leaf (pr_dupR _))) (pr_node (pr_leaf (pr_gI _ _ _)) (pr_node (pr_leaf (pr_ic _ _)) (pr_leaf (pr_iadd _))))) (pr_node (pr_node (pr_leaf (pr_pI _ _ _)) (pr_leaf (pr_goto _))) (pr_node (pr_leaf (pr_al _ _)) (pr_node (pr_leaf (pr_inv _ _ _ GX9_refuse _)) (pr_leaf (pr_vret)))))))))
noncomputable def FX0_readClause : List EV → Hp → Option (RV × Hp) := Fm kX0_readClause 3
theorem CX0_readClause : Con yX0_readClause cX0_readClause 3 none 3 71 FX0_readClause := con_of (own := RX0) rfl (by decide +kernel) sX0_readClause pX0_readClause (fun z => by cases z)
theorem GX0_readClause : Gr FX0_readClause := Gr_Fm pX0_readClause 3
theorem dX0_readFrom_0 : decode cX0_readFrom 0 = .ok (.aload_n 1, 1) := by decide +kernel
theorem dX0_readFrom_1 : decode cX0_readFrom 1 = .ok (.invokevirtual 21, 3) := by decide +kernel
theorem dX0_readFrom_4 : decode cX0_readFrom 4 = .ok (.aload_n 0, 1) := by decide +kernel
theorem dX0_readFrom_5 : decode cX0_readFrom 5 = .ok (.iconst 0, 1) := by decide +kernel
theorem dX0_readFrom_6 : decode cX0_readFrom 6 = .ok (.putfield 26, 3) := by decide +kernel
theorem dX0_readFrom_9 : decode cX0_readFrom 9 = .ok (.aload_n 0, 1) := by decide +kernel
theorem dX0_readFrom_10 : decode cX0_readFrom 10 = .ok (.iconst 0, 1) := by decide +kernel
theorem dX0_readFrom_11 : decode cX0_readFrom 11 = .ok (.putfield 30, 3) := by decide +kernel
theorem dX0_readFrom_14 : decode cX0_readFrom 14 = .ok (.aload_n 0, 1) := by decide +kernel
theorem dX0_readFrom_15 : decode cX0_readFrom 15 = .ok (.iconst 0, 1) := by decide +kernel
theorem dX0_readFrom_16 : decode cX0_readFrom 16 = .ok (.putfield 33, 3) := by decide +kernel
theorem dX0_readFrom_19 : decode cX0_readFrom 19 = .ok (.aload_n 0, 1) := by decide +kernel
theorem dX0_readFrom_20 : decode cX0_readFrom 20 = .ok (.iconst 0, 1) := by decide +kernel
theorem dX0_readFrom_21 : decode cX0_readFrom 21 = .ok (.putfield 37, 3) := by decide +kernel
theorem dX0_readFrom_24 : decode cX0_readFrom 24 = .ok (.aload_n 0, 1) := by decide +kernel
theorem dX0_readFrom_25 : decode cX0_readFrom 25 = .ok (.getfield 9, 3) := by decide +kernel
theorem dX0_readFrom_28 : decode cX0_readFrom 28 = .ok (.iconst 0, 1) := by decide +kernel
theorem dX0_readFrom_29 : decode cX0_readFrom 29 = .ok (.getstatic 40, 3) := by decide +kernel
theorem dX0_readFrom_32 : decode cX0_readFrom 32 = .ok (.invokestatic 43, 3) := by decide +kernel
theorem dX0_readFrom_35 : decode cX0_readFrom 35 = .ok (.iconst 1, 1) := by decide +kernel
theorem dX0_readFrom_36 : decode cX0_readFrom 36 = .ok (.istore_n 2, 1) := by decide +kernel
theorem dX0_readFrom_37 : decode cX0_readFrom 37 = .ok (.iconst 0, 1) := by decide +kernel
theorem dX0_readFrom_38 : decode cX0_readFrom 38 = .ok (.istore_n 3, 1) := by decide +kernel
theorem dX0_readFrom_39 : decode cX0_readFrom 39 = .ok (.iload_n 3, 1) := by decide +kernel
theorem dX0_readFrom_40 : decode cX0_readFrom 40 = .ok (.bipush 12, 2) := by decide +kernel
theorem dX0_readFrom_42 : decode cX0_readFrom 42 = .ok (.if_icmp .gt 25, 3) := by decide +kernel
theorem dX0_readFrom_45 : decode cX0_readFrom 45 = .ok (.iload_n 2, 1) := by decide +kernel
theorem dX0_readFrom_46 : decode cX0_readFrom 46 = .ok (.ifCond .eq 21, 3) := by decide +kernel
theorem dX0_readFrom_49 : decode cX0_readFrom 49 = .ok (.aload_n 0, 1) := by decide +kernel
theorem dX0_readFrom_50 : decode cX0_readFrom 50 = .ok (.aload_n 1, 1) := by decide +kernel
theorem dX0_readFrom_51 : decode cX0_readFrom 51 = .ok (.invokevirtual 47, 3) := by decide +kernel
theorem dX0_readFrom_54 : decode cX0_readFrom 54 = .ok (.aload_n 1, 1) := by decide +kernel
theorem dX0_readFrom_55 : decode cX0_readFrom 55 = .ok (.bipush 59, 2) := by decide +kernel
theorem dX0_readFrom_57 : decode cX0_readFrom 57 = .ok (.invokevirtual 51, 3) := by decide +kernel
theorem dX0_readFrom_60 : decode cX0_readFrom 60 = .ok (.istore_n 2, 1) := by decide +kernel
theorem dX0_readFrom_61 : decode cX0_readFrom 61 = .ok (.iinc 3 1, 3) := by decide +kernel
theorem dX0_readFrom_64 : decode cX0_readFrom 64 = .ok (.goto (-25), 3) := by decide +kernel
theorem dX0_readFrom_67 : decode cX0_readFrom 67 = .ok (.aload_n 1, 1) := by decide +kernel
theorem dX0_readFrom_68 : decode cX0_readFrom 68 = .ok (.invokevirtual 55, 3) := by decide +kernel
theorem dX0_readFrom_71 : decode cX0_readFrom 71 = .ok (.aload_n 0, 1) := by decide +kernel
theorem dX0_readFrom_72 : decode cX0_readFrom 72 = .ok (.getfield 37, 3) := by decide +kernel
theorem dX0_readFrom_75 : decode cX0_readFrom 75 = .ok (.ifCond .eq 18, 3) := by decide +kernel
theorem dX0_readFrom_78 : decode cX0_readFrom 78 = .ok (.aload_n 0, 1) := by decide +kernel
theorem dX0_readFrom_79 : decode cX0_readFrom 79 = .ok (.getfield 9, 3) := by decide +kernel
theorem dX0_readFrom_82 : decode cX0_readFrom 82 = .ok (.iconst 0, 1) := by decide +kernel
theorem dX0_readFrom_83 : decode cX0_readFrom 83 = .ok (.iaload, 1) := by decide +kernel
theorem dX0_readFrom_84 : decode cX0_readFrom 84 = .ok (.aload_n 0, 1) := by decide +kernel
theorem dX0_readFrom_85 : decode cX0_readFrom 85 = .ok (.getfield 9, 3) := by decide +kernel
theorem dX0_readFrom_88 : decode cX0_readFrom 88 = .ok (.iconst 1, 1) := by decide +kernel
theorem dX0_readFrom_89 : decode cX0_readFrom 89 = .ok (.iaload, 1) := by decide +kernel
theorem dX0_readFrom_90 : decode cX0_readFrom 90 = .ok (.if_icmp .le 7, 3) := by decide +kernel
theorem dX0_readFrom_93 : decode cX0_readFrom 93 = .ok (.aload_n 1, 1) := by decide +kernel
theorem dX0_readFrom_94 : decode cX0_readFrom 94 = .ok (.invokevirtual 58, 3) := by decide +kernel
theorem dX0_readFrom_97 : decode cX0_readFrom 97 = .ok (.aload_n 1, 1) := by decide +kernel
theorem dX0_readFrom_98 : decode cX0_readFrom 98 = .ok (.getfield 61, 3) := by decide +kernel
theorem dX0_readFrom_101 : decode cX0_readFrom 101 = .ok (.ireturn, 1) := by decide +kernel
noncomputable def kX0_readFrom : Nat → Op := (nodeC 46 (nodeC 21 (nodeC 10 (nodeC 4 (nodeC 0 (leafC 0 (o_al 1 1)) (nodeC 1 (leafC 1 (o_inv 0 9 0 FX9_rewind 4)) (leafC 4 (o_al 0 5)))) (nodeC 6 (nodeC 5 (leafC 5 (o_ic (0) 6)) (leafC 6 (o_pZ 0 0 9))) (nodeC 9 (leafC 9 (o_al 0 10)) (leafC 10 (o_ic (0) 11))))) (nodeC 15 (nodeC 11 (leafC 11 (o_pZ 0 1 14)) (nodeC 14 (leafC 14 (o_al 0 15)) (leafC 15 (o_ic (0) 16)))) (nodeC 19 (nodeC 16 (leafC 16 (o_pI 0 5 19)) (leafC 19 (o_al 0 20))) (nodeC 20 (leafC 20 (o_ic (0) 21)) (leafC 21 (o_pI 0 6 24)))))) (nodeC 36 (nodeC 28 (nodeC 24 (leafC 24 (o_al 0 25)) (nodeC 25 (leafC 25 (o_gR 0 2 28)) (leafC 28 (o_ic (0) 29)))) (nodeC 32 (nodeC 29 (leafC 29 (o_pre 1 32)) (leafC 32 (o_ist 3 0 FX0_fillUsual 35))) (nodeC 35 (leafC 35 (o_ic (1) 36)) (leafC 36 (o_is 2 37))))) (nodeC 39 (nodeC 37 (leafC 37 (o_ic (0) 38)) (nodeC 38 (leafC 38 (o_is 3 39)) (leafC 39 (o_il 3 40)))) (nodeC 42 (nodeC 40 (leafC 40 (o_ic (12) 42)) (leafC 42 (o_cgt 67 45))) (nodeC 45 (leafC 45 (o_il 2 46)) (leafC 46 (o_zeq 67 49))))))) (nodeC 75 (nodeC 60 (nodeC 51 (nodeC 49 (leafC 49 (o_al 0 50)) (nodeC 50 (leafC 50 (o_al 1 51)) (leafC 51 (o_inv 1 0 0 FX0_readClause 54)))) (nodeC 55 (nodeC 54 (leafC 54 (o_al 1 55)) (leafC 55 (o_ic (59) 57))) (nodeC 57 (leafC 57 (o_inv 1 9 1 FX9_accept 60)) (leafC 60 (o_is 2 61))))) (nodeC 67 (nodeC 61 (leafC 61 (o_inc 3 (1) 64)) (nodeC 64 (leafC 64 (o_goto 39)) (leafC 67 (o_al 1 68)))) (nodeC 71 (nodeC 68 (leafC 68 (o_inv 0 9 0 FX9_demandEnd 71)) (leafC 71 (o_al 0 72))) (nodeC 72 (leafC 72 (o_gI 0 6 75)) (leafC 75 (o_zeq 93 78)))))) (nodeC 88 (nodeC 82 (nodeC 78 (leafC 78 (o_al 0 79)) (nodeC 79 (leafC 79 (o_gR 0 2 82)) (leafC 82 (o_ic (0) 83)))) (nodeC 84 (nodeC 83 (leafC 83 (o_iald 84)) (leafC 84 (o_al 0 85))) (nodeC 85 (leafC 85 (o_gR 0 2 88)) (leafC 88 (o_ic (1) 89))))) (nodeC 93 (nodeC 89 (leafC 89 (o_iald 90)) (nodeC 90 (leafC 90 (o_cle 97 93)) (leafC 93 (o_al 1 94)))) (nodeC 97 (nodeC 94 (leafC 94 (o_inv 0 9 0 FX9_refuse 97)) (leafC 97 (o_al 1 98))) (nodeC 98 (leafC 98 (o_gI 9 3 101)) (leafC 101 (o_iret))))))))
theorem sX0_readFrom : ∀ pc, SoundOp cX0_readFrom RX0 4 (some .int) false 4 93 pc (kX0_readFrom pc) := (so_node (so_node (so_node (so_node (so_node (so_leaf (so_aload_n dX0_readFrom_0 rfl)) (so_node (so_leaf (so_inv CX9_rewind (by decide) rfl wm_RX0_21 win_X9_rewind wse_X9_rewind wn_9 wc_X9_rewind (by decide +kernel) (by decide) (by decide) dX0_readFrom_1)) (so_leaf (so_aload_n dX0_readFrom_4 rfl)))) (so_node (so_node (so_leaf (so_iconst dX0_readFrom_5 (by decide))) (so_leaf (so_pZ (by decide) (by decide) wC0 wf_RX0_26 (Or.inl rfl) rfl dX0_readFrom_6))) (so_node (so_leaf (so_aload_n dX0_readFrom_9 rfl)) (so_leaf (so_iconst dX0_readFrom_10 (by decide)))))) (so_node (so_node (so_leaf (so_pZ (by decide) (by decide) wC0 wf_RX0_30 (Or.inl rfl) rfl dX0_readFrom_11)) (so_node (so_leaf (so_aload_n dX0_readFrom_14 rfl)) (so_leaf (so_iconst dX0_readFrom_15 (by decide))))) (so_node (so_node (so_leaf (so_pI (by decide) (by decide) wC0 wf_RX0_33 (Or.inl rfl) rfl dX0_readFrom_16)) (so_leaf (so_aload_n dX0_readFrom_19 rfl))) (so_node (so_leaf (so_iconst dX0_readFrom_20 (by decide))) (so_leaf (so_pI (by decide) (by decide) wC0 wf_RX0_37 (Or.inl rfl) rfl dX0_readFrom_21)))))) (so_node (so_node (so_node (so_leaf (so_aload_n dX0_readFrom_24 rfl)) (so_node (so_leaf (so_gR (by decide) (by decide) wC0 wf_RX0_9 (fun _ _ _ => rfl) dX0_readFrom_25)) (so_leaf (so_iconst dX0_readFrom_28 (by decide))))) (so_node (so_node (so_leaf (so_gets (by decide) ws_RX0_40 dX0_readFrom_29)) (so_leaf (so_ist CX0_fillUsual rfl wm_RX0_43 wst_X0_fillUsual wny_X0_fillUsual wc_X0_fillUsual (by decide +kernel) (by decide) (by decide) dX0_readFrom_32))) (so_node (so_leaf (so_iconst dX0_readFrom_35 (by decide))) (so_leaf (so_istore_n dX0_readFrom_36 rfl (by decide)))))) (so_node (so_node (so_leaf (so_iconst dX0_readFrom_37 (by decide))) (so_node (so_leaf (so_istore_n dX0_readFrom_38 rfl (by decide))) (so_leaf (so_iload_n dX0_readFrom_39 rfl)))) (so_node (so_node (so_leaf (so_bipush dX0_readFrom_40 (by decide))) (so_leaf (so_cgt dX0_readFrom_42 (by decide)))) (so_node (so_leaf (so_iload_n dX0_readFrom_45 rfl)) (so_leaf (so_zeq dX0_readFrom_46 (by decide)))))))) (so_node (so_node (so_node (so_node (so_leaf (so_aload_n dX0_readFrom_49 rfl)) (so_node (so_leaf (so_aload_n dX0_readFrom_50 rfl)) (so_leaf (so_inv CX0_readClause (by decide) rfl wm_RX0_47 win_X0_readClause wse_X0_readClause wn_0 wc_X0_readClause (by decide +kernel) (by decide) (by decide) dX0_readFrom_51)))) (so_node (so_node (so_leaf (so_aload_n dX0_readFrom_54 rfl)) (so_leaf (so_bipush dX0_readFrom_55 (by decide)))) (so_node (so_leaf (so_inv CX9_accept (by decide) rfl wm_RX0_51 win_X9_accept wse_X9_accept wn_9 wc_X9_accept (by decide +kernel) (by decide) (by decide) dX0_readFrom_57)) (so_leaf (so_istore_n dX0_readFrom_60 rfl (by decide)))))) (so_node (so_node (so_leaf (so_iinc dX0_readFrom_61 (by decide) (by decide))) (so_node (so_leaf (so_goto dX0_readFrom_64 (by decide))) (so_leaf (so_aload_n dX0_readFrom_67 rfl)))) (so_node (so_node (so_leaf (so_inv CX9_demandEnd (by decide) rfl wm_RX0_55 win_X9_demandEnd wse_X9_demandEnd wn_9 wc_X9_demandEnd (by decide +kernel) (by decide) (by decide) dX0_readFrom_68)) (so_leaf (so_aload_n dX0_readFrom_71 rfl))) (so_node (so_leaf (so_gI (by decide) (by decide) wC0 wf_RX0_37 (fun _ _ _ => rfl) dX0_readFrom_72)) (so_leaf (so_zeq dX0_readFrom_75 (by decide))))))) (so_node (so_node (so_node (so_leaf (so_aload_n dX0_readFrom_78 rfl)) (so_node (so_leaf (so_gR (by decide) (by decide) wC0 wf_RX0_9 (fun _ _ _ => rfl) dX0_readFrom_79)) (so_leaf (so_iconst dX0_readFrom_82 (by decide))))) (so_node (so_node (so_leaf (so_iald dX0_readFrom_83)) (so_leaf (so_aload_n dX0_readFrom_84 rfl))) (so_node (so_leaf (so_gR (by decide) (by decide) wC0 wf_RX0_9 (fun _ _ _ => rfl) dX0_readFrom_85)) (so_leaf (so_iconst dX0_readFrom_88 (by decide)))))) (so_node (so_node (so_leaf (so_iald dX0_readFrom_89)) (so_node (so_leaf (so_cle dX0_readFrom_90 (by decide))) (so_leaf (so_aload_n dX0_readFrom_93 rfl)))) (so_node (so_node (so_leaf (so_inv CX9_refuse (by decide) rfl wm_RX0_58 win_X9_refuse wse_X9_refuse wn_9 wc_X9_refuse (by decide +kernel) (by decide) (by decide) dX0_readFrom_94)) (so_leaf (so_aload_n dX0_readFrom_97 rfl))) (so_node (so_leaf (so_gI (by decide) (by decide) wC9 wf_RX0_61 (fun _ _ _ => rfl) dX0_readFrom_98)) (so_leaf (so_iret dX0_readFrom_101 rfl))))))))
theorem pX0_readFrom : ∀ pc, Pr (kX0_readFrom pc) := (pr_node (pr_node (pr_node (pr_node (pr_node (pr_leaf (pr_al _ _)) (pr_node (pr_leaf (pr_inv _ _ _ GX9_rewind _)) (pr_leaf (pr_al _ _)))) (pr_node (pr_node (pr_leaf (pr_ic _ _)) (pr_leaf (pr_pZ _ _ _))) (pr_node (pr_leaf (pr_al _ _)) (pr_leaf (pr_ic _ _))))) (pr_node (pr_node (pr_leaf (pr_pZ _ _ _)) (pr_node (pr_leaf (pr_al _ _)) (pr_leaf (pr_ic _ _)))) (pr_node (pr_node (pr_leaf (pr_pI _ _ _)) (pr_leaf (pr_al _ _))) (pr_node (pr_leaf (pr_ic _ _)) (pr_leaf (pr_pI _ _ _)))))) (pr_node (pr_node (pr_node (pr_leaf (pr_al _ _)) (pr_node (pr_leaf (pr_gR _ _ _)) (pr_leaf (pr_ic _ _)))) (pr_node (pr_node (pr_leaf (pr_pre _ _)) (pr_leaf (pr_ist _ _ GX0_fillUsual _))) (pr_node (pr_leaf (pr_ic _ _)) (pr_leaf (pr_is _ _))))) (pr_node (pr_node (pr_leaf (pr_ic _ _)) (pr_node (pr_leaf (pr_is _ _)) (pr_leaf (pr_il _ _)))) (pr_node (pr_node (pr_leaf (pr_ic _ _)) (pr_leaf (pr_cgt _ _))) (pr_node (pr_leaf (pr_il _ _)) (pr_leaf (pr_zeq _ _))))))) (pr_node (pr_node (pr_node (pr_node (pr_leaf (pr_al _ _)) (pr_node (pr_leaf (pr_al _ _)) (pr_leaf (pr_inv _ _ _ GX0_readClause _)))) (pr_node (pr_node (pr_leaf (pr_al _ _)) (pr_leaf (pr_ic _ _))) (pr_node (pr_leaf (pr_inv _ _ _ GX9_accept _)) (pr_leaf (pr_is _ _))))) (pr_node (pr_node (pr_leaf (pr_inc _ _ _)) (pr_node (pr_leaf (pr_goto _)) (pr_leaf (pr_al _ _)))) (pr_node (pr_node (pr_leaf (pr_inv _ _ _ GX9_demandEnd _)) (pr_leaf (pr_al _ _))) (pr_node (pr_leaf (pr_gI _ _ _)) (pr_leaf (pr_zeq _ _)))))) (pr_node (pr_node (pr_node (pr_leaf (pr_al _ _)) (pr_node (pr_leaf (pr_gR _ _ _)) (pr_leaf (pr_ic _ _)))) (pr_node (pr_node (pr_leaf (pr_iald _)) (pr_leaf (pr_al _ _))) (pr_node (pr_leaf (pr_gR _ _ _)) (pr_leaf (pr_ic _ _))))) (pr_node (pr_node (pr_leaf (pr_iald _)) (pr_node (pr_leaf (pr_cle _ _)) (pr_leaf (pr_al _ _)))) (pr_node (pr_node (pr_leaf (pr_inv _ _ _ GX9_refuse _)) (pr_leaf (pr_al _ _))) (pr_node (pr_leaf (pr_gI _ _ _)) (pr_leaf (pr_iret))))))))
noncomputable def FX0_readFrom : List EV → Hp → Option (RV × Hp) := Fm kX0_readFrom 4
theorem CX0_readFrom : Con yX0_readFrom cX0_readFrom 4 (some .int) 4 93 FX0_readFrom := con_of (own := RX0) rfl (by decide +kernel) sX0_readFrom pX0_readFrom (fun z => by cases z)
theorem GX0_readFrom : Gr FX0_readFrom := Gr_Fm pX0_readFrom 4
theorem dX0_gainByCut_0 : decode cX0_gainByCut 0 = .ok (.iconst 3, 1) := by decide +kernel
theorem dX0_gainByCut_1 : decode cX0_gainByCut 1 = .ok (.aload_n 0, 1) := by decide +kernel
theorem dX0_gainByCut_2 : decode cX0_gainByCut 2 = .ok (.getfield 18, 3) := by decide +kernel
theorem dX0_gainByCut_5 : decode cX0_gainByCut 5 = .ok (.iconst 3, 1) := by decide +kernel
theorem dX0_gainByCut_6 : decode cX0_gainByCut 6 = .ok (.iload_n 1, 1) := by decide +kernel
theorem dX0_gainByCut_7 : decode cX0_gainByCut 7 = .ok (.imul, 1) := by decide +kernel
theorem dX0_gainByCut_8 : decode cX0_gainByCut 8 = .ok (.iconst 1, 1) := by decide +kernel
theorem dX0_gainByCut_9 : decode cX0_gainByCut 9 = .ok (.iadd, 1) := by decide +kernel
theorem dX0_gainByCut_10 : decode cX0_gainByCut 10 = .ok (.iaload, 1) := by decide +kernel
theorem dX0_gainByCut_11 : decode cX0_gainByCut 11 = .ok (.imul, 1) := by decide +kernel
theorem dX0_gainByCut_12 : decode cX0_gainByCut 12 = .ok (.aload_n 0, 1) := by decide +kernel
theorem dX0_gainByCut_13 : decode cX0_gainByCut 13 = .ok (.getfield 18, 3) := by decide +kernel
theorem dX0_gainByCut_16 : decode cX0_gainByCut 16 = .ok (.iconst 3, 1) := by decide +kernel
theorem dX0_gainByCut_17 : decode cX0_gainByCut 17 = .ok (.iload_n 1, 1) := by decide +kernel
theorem dX0_gainByCut_18 : decode cX0_gainByCut 18 = .ok (.imul, 1) := by decide +kernel
theorem dX0_gainByCut_19 : decode cX0_gainByCut 19 = .ok (.iconst 0, 1) := by decide +kernel
theorem dX0_gainByCut_20 : decode cX0_gainByCut 20 = .ok (.iadd, 1) := by decide +kernel
theorem dX0_gainByCut_21 : decode cX0_gainByCut 21 = .ok (.iaload, 1) := by decide +kernel
theorem dX0_gainByCut_22 : decode cX0_gainByCut 22 = .ok (.isub, 1) := by decide +kernel
theorem dX0_gainByCut_23 : decode cX0_gainByCut 23 = .ok (.ireturn, 1) := by decide +kernel
noncomputable def kX0_gainByCut : Nat → Op := (nodeC 11 (nodeC 6 (nodeC 1 (nodeC 0 (leafC 0 (o_ic (3) 1)) (leafC 1 (o_al 0 2))) (nodeC 2 (leafC 2 (o_gR 0 4 5)) (nodeC 5 (leafC 5 (o_ic (3) 6)) (leafC 6 (o_il 1 7))))) (nodeC 8 (nodeC 7 (leafC 7 (o_imul 8)) (leafC 8 (o_ic (1) 9))) (nodeC 9 (leafC 9 (o_iadd 10)) (nodeC 10 (leafC 10 (o_iald 11)) (leafC 11 (o_imul 12)))))) (nodeC 18 (nodeC 13 (nodeC 12 (leafC 12 (o_al 0 13)) (leafC 13 (o_gR 0 4 16))) (nodeC 16 (leafC 16 (o_ic (3) 17)) (nodeC 17 (leafC 17 (o_il 1 18)) (leafC 18 (o_imul 19))))) (nodeC 20 (nodeC 19 (leafC 19 (o_ic (0) 20)) (leafC 20 (o_iadd 21))) (nodeC 21 (leafC 21 (o_iald 22)) (nodeC 22 (leafC 22 (o_isub 23)) (leafC 23 (o_iret)))))))
theorem sX0_gainByCut : ∀ pc, SoundOp cX0_gainByCut RX0 2 (some .int) false 0 0 pc (kX0_gainByCut pc) := (so_node (so_node (so_node (so_node (so_leaf (so_iconst dX0_gainByCut_0 (by decide))) (so_leaf (so_aload_n dX0_gainByCut_1 rfl))) (so_node (so_leaf (so_gR (by decide) (by decide) wC0 wf_RX0_18 (fun _ _ _ => rfl) dX0_gainByCut_2)) (so_node (so_leaf (so_iconst dX0_gainByCut_5 (by decide))) (so_leaf (so_iload_n dX0_gainByCut_6 rfl))))) (so_node (so_node (so_leaf (so_imul dX0_gainByCut_7)) (so_leaf (so_iconst dX0_gainByCut_8 (by decide)))) (so_node (so_leaf (so_iadd dX0_gainByCut_9)) (so_node (so_leaf (so_iald dX0_gainByCut_10)) (so_leaf (so_imul dX0_gainByCut_11)))))) (so_node (so_node (so_node (so_leaf (so_aload_n dX0_gainByCut_12 rfl)) (so_leaf (so_gR (by decide) (by decide) wC0 wf_RX0_18 (fun _ _ _ => rfl) dX0_gainByCut_13))) (so_node (so_leaf (so_iconst dX0_gainByCut_16 (by decide))) (so_node (so_leaf (so_iload_n dX0_gainByCut_17 rfl)) (so_leaf (so_imul dX0_gainByCut_18))))) (so_node (so_node (so_leaf (so_iconst dX0_gainByCut_19 (by decide))) (so_leaf (so_iadd dX0_gainByCut_20))) (so_node (so_leaf (so_iald dX0_gainByCut_21)) (so_node (so_leaf (so_isub dX0_gainByCut_22)) (so_leaf (so_iret dX0_gainByCut_23 rfl)))))))
theorem pX0_gainByCut : ∀ pc, Pr (kX0_gainByCut pc) := (pr_node (pr_node (pr_node (pr_node (pr_leaf (pr_ic _ _)) (pr_leaf (pr_al _ _))) (pr_node (pr_leaf (pr_gR _ _ _)) (pr_node (pr_leaf (pr_ic _ _)) (pr_leaf (pr_il _ _))))) (pr_node (pr_node (pr_leaf (pr_imul _)) (pr_leaf (pr_ic _ _))) (pr_node (pr_leaf (pr_iadd _)) (pr_node (pr_leaf (pr_iald _)) (pr_leaf (pr_imul _)))))) (pr_node (pr_node (pr_node (pr_leaf (pr_al _ _)) (pr_leaf (pr_gR _ _ _))) (pr_node (pr_leaf (pr_ic _ _)) (pr_node (pr_leaf (pr_il _ _)) (pr_leaf (pr_imul _))))) (pr_node (pr_node (pr_leaf (pr_ic _ _)) (pr_leaf (pr_iadd _))) (pr_node (pr_leaf (pr_iald _)) (pr_node (pr_leaf (pr_isub _)) (pr_leaf (pr_iret)))))))
noncomputable def FX0_gainByCut : List EV → Hp → Option (RV × Hp) := Fm kX0_gainByCut 2
theorem CX0_gainByCut : Con yX0_gainByCut cX0_gainByCut 2 (some .int) 0 0 FX0_gainByCut := con_of (own := RX0) rfl (by decide +kernel) sX0_gainByCut pX0_gainByCut (fun z => by cases z)
theorem GX0_gainByCut : Gr FX0_gainByCut := Gr_Fm pX0_gainByCut 2
theorem dX3_init_0 : decode cX3_init 0 = .ok (.aload_n 0, 1) := by decide +kernel
theorem dX3_init_1 : decode cX3_init 1 = .ok (.invokespecial 3, 3) := by decide +kernel
theorem dX3_init_4 : decode cX3_init 4 = .ok (.aload_n 0, 1) := by decide +kernel
theorem dX3_init_5 : decode cX3_init 5 = .ok (.sipush 300, 3) := by decide +kernel
theorem dX3_init_8 : decode cX3_init 8 = .ok (.newarray .int, 2) := by decide +kernel
theorem dX3_init_10 : decode cX3_init 10 = .ok (.putfield 11, 3) := by decide +kernel
theorem dX3_init_13 : decode cX3_init 13 = .ok (.aload_n 0, 1) := by decide +kernel
theorem dX3_init_14 : decode cX3_init 14 = .ok (.sipush 180, 3) := by decide +kernel
theorem dX3_init_17 : decode cX3_init 17 = .ok (.newarray .int, 2) := by decide +kernel
theorem dX3_init_19 : decode cX3_init 19 = .ok (.putfield 15, 3) := by decide +kernel
theorem dX3_init_22 : decode cX3_init 22 = .ok (.return_, 1) := by decide +kernel
noncomputable def kX3_init : Nat → Op := (nodeC 8 (nodeC 1 (nodeC 0 (leafC 0 (o_al 0 1)) (leafC 1 (o_oini 4))) (nodeC 4 (leafC 4 (o_al 0 5)) (nodeC 5 (leafC 5 (o_ic (300) 8)) (leafC 8 (o_newa 20 10))))) (nodeC 14 (nodeC 10 (leafC 10 (o_pR 3 0 13)) (nodeC 13 (leafC 13 (o_al 0 14)) (leafC 14 (o_ic (180) 17)))) (nodeC 17 (leafC 17 (o_newa 20 19)) (nodeC 19 (leafC 19 (o_pR 3 1 22)) (leafC 22 (o_vret))))))
theorem sX3_init : ∀ pc, SoundOp cX3_init RX3 1 none true 1 20 pc (kX3_init pc) := (so_node (so_node (so_node (so_leaf (so_aload_n dX3_init_0 rfl)) (so_leaf (so_oini wm_RX3_3 wob1 wob2 (by decide) (by decide) dX3_init_1))) (so_node (so_leaf (so_aload_n dX3_init_4 rfl)) (so_node (so_leaf (so_sipush dX3_init_5 (by decide))) (so_leaf (so_newa (at' := .int) (t0 := 0) (Or.inl rfl) (fun _ => rfl) (fun _ _ z => z) rfl (by decide) wa_int dX3_init_8))))) (so_node (so_node (so_leaf (so_pR (by decide) (by decide) wC3 wf_RX3_11 (Or.inr ⟨rfl, rfl, rfl⟩) (Or.inr ⟨_, rfl⟩) dX3_init_10)) (so_node (so_leaf (so_aload_n dX3_init_13 rfl)) (so_leaf (so_sipush dX3_init_14 (by decide))))) (so_node (so_leaf (so_newa (at' := .int) (t0 := 0) (Or.inl rfl) (fun _ => rfl) (fun _ _ z => z) rfl (by decide) wa_int dX3_init_17)) (so_node (so_leaf (so_pR (by decide) (by decide) wC3 wf_RX3_15 (Or.inr ⟨rfl, rfl, rfl⟩) (Or.inr ⟨_, rfl⟩) dX3_init_19)) (so_leaf (so_vret dX3_init_22 rfl))))))
theorem pX3_init : ∀ pc, Pr (kX3_init pc) := (pr_node (pr_node (pr_node (pr_leaf (pr_al _ _)) (pr_leaf (pr_oini _))) (pr_node (pr_leaf (pr_al _ _)) (pr_node (pr_leaf (pr_ic _ _)) (pr_leaf (pr_newa _ _))))) (pr_node (pr_node (pr_leaf (pr_pR _ _ _)) (pr_node (pr_leaf (pr_al _ _)) (pr_leaf (pr_ic _ _)))) (pr_node (pr_leaf (pr_newa _ _)) (pr_node (pr_leaf (pr_pR _ _ _)) (pr_leaf (pr_vret))))))
noncomputable def FX3_init : List EV → Hp → Option (RV × Hp) := Fm kX3_init 1
theorem CX3_init : Con yX3_init cX3_init 1 none 1 20 FX3_init := con_of (own := RX3) rfl (by decide +kernel) sX3_init pX3_init (fun _ => rfl)
theorem GX3_init : Gr FX3_init := Gr_Fm pX3_init 1
theorem dX3_putWeek_0 : decode cX3_putWeek 0 = .ok (.iconst 3, 1) := by decide +kernel
theorem dX3_putWeek_1 : decode cX3_putWeek 1 = .ok (.iload_n 1, 1) := by decide +kernel
theorem dX3_putWeek_2 : decode cX3_putWeek 2 = .ok (.bipush 100, 2) := by decide +kernel
theorem dX3_putWeek_4 : decode cX3_putWeek 4 = .ok (.invokestatic 18, 3) := by decide +kernel
theorem dX3_putWeek_7 : decode cX3_putWeek 7 = .ok (.imul, 1) := by decide +kernel
theorem dX3_putWeek_8 : decode cX3_putWeek 8 = .ok (.istore 5, 2) := by decide +kernel
theorem dX3_putWeek_10 : decode cX3_putWeek 10 = .ok (.aload_n 0, 1) := by decide +kernel
theorem dX3_putWeek_11 : decode cX3_putWeek 11 = .ok (.getfield 11, 3) := by decide +kernel
theorem dX3_putWeek_14 : decode cX3_putWeek 14 = .ok (.iload 5, 2) := by decide +kernel
theorem dX3_putWeek_16 : decode cX3_putWeek 16 = .ok (.iload_n 2, 1) := by decide +kernel
theorem dX3_putWeek_17 : decode cX3_putWeek 17 = .ok (.iastore, 1) := by decide +kernel
theorem dX3_putWeek_18 : decode cX3_putWeek 18 = .ok (.aload_n 0, 1) := by decide +kernel
theorem dX3_putWeek_19 : decode cX3_putWeek 19 = .ok (.getfield 11, 3) := by decide +kernel
theorem dX3_putWeek_22 : decode cX3_putWeek 22 = .ok (.iload 5, 2) := by decide +kernel
theorem dX3_putWeek_24 : decode cX3_putWeek 24 = .ok (.iconst 1, 1) := by decide +kernel
theorem dX3_putWeek_25 : decode cX3_putWeek 25 = .ok (.iadd, 1) := by decide +kernel
theorem dX3_putWeek_26 : decode cX3_putWeek 26 = .ok (.iload_n 3, 1) := by decide +kernel
theorem dX3_putWeek_27 : decode cX3_putWeek 27 = .ok (.iastore, 1) := by decide +kernel
theorem dX3_putWeek_28 : decode cX3_putWeek 28 = .ok (.aload_n 0, 1) := by decide +kernel
theorem dX3_putWeek_29 : decode cX3_putWeek 29 = .ok (.getfield 11, 3) := by decide +kernel
theorem dX3_putWeek_32 : decode cX3_putWeek 32 = .ok (.iload 5, 2) := by decide +kernel
theorem dX3_putWeek_34 : decode cX3_putWeek 34 = .ok (.iconst 2, 1) := by decide +kernel
theorem dX3_putWeek_35 : decode cX3_putWeek 35 = .ok (.iadd, 1) := by decide +kernel
theorem dX3_putWeek_36 : decode cX3_putWeek 36 = .ok (.iload 4, 2) := by decide +kernel
theorem dX3_putWeek_38 : decode cX3_putWeek 38 = .ok (.iastore, 1) := by decide +kernel
theorem dX3_putWeek_39 : decode cX3_putWeek 39 = .ok (.return_, 1) := by decide +kernel
noncomputable def kX3_putWeek : Nat → Op := (nodeC 19 (nodeC 8 (nodeC 2 (nodeC 0 (leafC 0 (o_ic (3) 1)) (nodeC 1 (leafC 1 (o_il 1 2)) (leafC 2 (o_ic (100) 4)))) (nodeC 4 (leafC 4 (o_ist 2 1 FJ9_floorMod_7cf53 7)) (nodeC 7 (leafC 7 (o_imul 8)) (leafC 8 (o_is 5 10))))) (nodeC 14 (nodeC 10 (leafC 10 (o_al 0 11)) (nodeC 11 (leafC 11 (o_gR 3 0 14)) (leafC 14 (o_il 5 16)))) (nodeC 17 (nodeC 16 (leafC 16 (o_il 2 17)) (leafC 17 (o_iast 18))) (nodeC 18 (leafC 18 (o_al 0 19)) (leafC 19 (o_gR 3 0 22)))))) (nodeC 28 (nodeC 25 (nodeC 22 (leafC 22 (o_il 5 24)) (nodeC 24 (leafC 24 (o_ic (1) 25)) (leafC 25 (o_iadd 26)))) (nodeC 26 (leafC 26 (o_il 3 27)) (nodeC 27 (leafC 27 (o_iast 28)) (leafC 28 (o_al 0 29))))) (nodeC 34 (nodeC 29 (leafC 29 (o_gR 3 0 32)) (nodeC 32 (leafC 32 (o_il 5 34)) (leafC 34 (o_ic (2) 35)))) (nodeC 36 (nodeC 35 (leafC 35 (o_iadd 36)) (leafC 36 (o_il 4 38))) (nodeC 38 (leafC 38 (o_iast 39)) (leafC 39 (o_vret)))))))
theorem sX3_putWeek : ∀ pc, SoundOp cX3_putWeek RX3 6 none false 1 22 pc (kX3_putWeek pc) := (so_node (so_node (so_node (so_node (so_leaf (so_iconst dX3_putWeek_0 (by decide))) (so_node (so_leaf (so_iload_n dX3_putWeek_1 rfl)) (so_leaf (so_bipush dX3_putWeek_2 (by decide))))) (so_node (so_leaf (so_ist CJ9_floorMod_7cf53 rfl wm_RX3_18 wst_J9_floorMod_7cf53 wny_J9_floorMod_7cf53 wc_J9_floorMod_7cf53 (by decide +kernel) (by decide) (by decide) dX3_putWeek_4)) (so_node (so_leaf (so_imul dX3_putWeek_7)) (so_leaf (so_istore dX3_putWeek_8 (by decide)))))) (so_node (so_node (so_leaf (so_aload_n dX3_putWeek_10 rfl)) (so_node (so_leaf (so_gR (by decide) (by decide) wC3 wf_RX3_11 (fun _ _ _ => rfl) dX3_putWeek_11)) (so_leaf (so_iload dX3_putWeek_14)))) (so_node (so_node (so_leaf (so_iload_n dX3_putWeek_16 rfl)) (so_leaf (so_iast dX3_putWeek_17))) (so_node (so_leaf (so_aload_n dX3_putWeek_18 rfl)) (so_leaf (so_gR (by decide) (by decide) wC3 wf_RX3_11 (fun _ _ _ => rfl) dX3_putWeek_19)))))) (so_node (so_node (so_node (so_leaf (so_iload dX3_putWeek_22)) (so_node (so_leaf (so_iconst dX3_putWeek_24 (by decide))) (so_leaf (so_iadd dX3_putWeek_25)))) (so_node (so_leaf (so_iload_n dX3_putWeek_26 rfl)) (so_node (so_leaf (so_iast dX3_putWeek_27)) (so_leaf (so_aload_n dX3_putWeek_28 rfl))))) (so_node (so_node (so_leaf (so_gR (by decide) (by decide) wC3 wf_RX3_11 (fun _ _ _ => rfl) dX3_putWeek_29)) (so_node (so_leaf (so_iload dX3_putWeek_32)) (so_leaf (so_iconst dX3_putWeek_34 (by decide))))) (so_node (so_node (so_leaf (so_iadd dX3_putWeek_35)) (so_leaf (so_iload dX3_putWeek_36))) (so_node (so_leaf (so_iast dX3_putWeek_38)) (so_leaf (so_vret dX3_putWeek_39 rfl)))))))
theorem pX3_putWeek : ∀ pc, Pr (kX3_putWeek pc) := (pr_node (pr_node (pr_node (pr_node (pr_leaf (pr_ic _ _)) (pr_node (pr_leaf (pr_il _ _)) (pr_leaf (pr_ic _ _)))) (pr_node (pr_leaf (pr_ist _ _ GJ9_floorMod_7cf53 _)) (pr_node (pr_leaf (pr_imul _)) (pr_leaf (pr_is _ _))))) (pr_node (pr_node (pr_leaf (pr_al _ _)) (pr_node (pr_leaf (pr_gR _ _ _)) (pr_leaf (pr_il _ _)))) (pr_node (pr_node (pr_leaf (pr_il _ _)) (pr_leaf (pr_iast _))) (pr_node (pr_leaf (pr_al _ _)) (pr_leaf (pr_gR _ _ _)))))) (pr_node (pr_node (pr_node (pr_leaf (pr_il _ _)) (pr_node (pr_leaf (pr_ic _ _)) (pr_leaf (pr_iadd _)))) (pr_node (pr_leaf (pr_il _ _)) (pr_node (pr_leaf (pr_iast _)) (pr_leaf (pr_al _ _))))) (pr_node (pr_node (pr_leaf (pr_gR _ _ _)) (pr_node (pr_leaf (pr_il _ _)) (pr_leaf (pr_ic _ _)))) (pr_node (pr_node (pr_leaf (pr_iadd _)) (pr_leaf (pr_il _ _))) (pr_node (pr_leaf (pr_iast _)) (pr_leaf (pr_vret)))))))
noncomputable def FX3_putWeek : List EV → Hp → Option (RV × Hp) := Fm kX3_putWeek 6
theorem CX3_putWeek : Con yX3_putWeek cX3_putWeek 6 none 1 22 FX3_putWeek := con_of (own := RX3) rfl (by decide +kernel) sX3_putWeek pX3_putWeek (fun z => by cases z)
theorem GX3_putWeek : Gr FX3_putWeek := Gr_Fm pX3_putWeek 6
theorem dX3_putBolt_0 : decode cX3_putBolt 0 = .ok (.iload_n 1, 1) := by decide +kernel
theorem dX3_putBolt_1 : decode cX3_putBolt 1 = .ok (.ifCond .lt 9, 3) := by decide +kernel
theorem dX3_putBolt_4 : decode cX3_putBolt 4 = .ok (.iload_n 1, 1) := by decide +kernel
theorem dX3_putBolt_5 : decode cX3_putBolt 5 = .ok (.bipush 60, 2) := by decide +kernel
theorem dX3_putBolt_7 : decode cX3_putBolt 7 = .ok (.if_icmp .lt 4, 3) := by decide +kernel
theorem dX3_putBolt_10 : decode cX3_putBolt 10 = .ok (.return_, 1) := by decide +kernel
theorem dX3_putBolt_11 : decode cX3_putBolt 11 = .ok (.aload_n 0, 1) := by decide +kernel
theorem dX3_putBolt_12 : decode cX3_putBolt 12 = .ok (.getfield 15, 3) := by decide +kernel
theorem dX3_putBolt_15 : decode cX3_putBolt 15 = .ok (.iconst 3, 1) := by decide +kernel
theorem dX3_putBolt_16 : decode cX3_putBolt 16 = .ok (.iload_n 1, 1) := by decide +kernel
theorem dX3_putBolt_17 : decode cX3_putBolt 17 = .ok (.imul, 1) := by decide +kernel
theorem dX3_putBolt_18 : decode cX3_putBolt 18 = .ok (.iload_n 2, 1) := by decide +kernel
theorem dX3_putBolt_19 : decode cX3_putBolt 19 = .ok (.iastore, 1) := by decide +kernel
theorem dX3_putBolt_20 : decode cX3_putBolt 20 = .ok (.aload_n 0, 1) := by decide +kernel
theorem dX3_putBolt_21 : decode cX3_putBolt 21 = .ok (.getfield 15, 3) := by decide +kernel
theorem dX3_putBolt_24 : decode cX3_putBolt 24 = .ok (.iconst 3, 1) := by decide +kernel
theorem dX3_putBolt_25 : decode cX3_putBolt 25 = .ok (.iload_n 1, 1) := by decide +kernel
theorem dX3_putBolt_26 : decode cX3_putBolt 26 = .ok (.imul, 1) := by decide +kernel
theorem dX3_putBolt_27 : decode cX3_putBolt 27 = .ok (.iconst 1, 1) := by decide +kernel
theorem dX3_putBolt_28 : decode cX3_putBolt 28 = .ok (.iadd, 1) := by decide +kernel
theorem dX3_putBolt_29 : decode cX3_putBolt 29 = .ok (.iload_n 3, 1) := by decide +kernel
theorem dX3_putBolt_30 : decode cX3_putBolt 30 = .ok (.iastore, 1) := by decide +kernel
theorem dX3_putBolt_31 : decode cX3_putBolt 31 = .ok (.aload_n 0, 1) := by decide +kernel
theorem dX3_putBolt_32 : decode cX3_putBolt 32 = .ok (.getfield 15, 3) := by decide +kernel
theorem dX3_putBolt_35 : decode cX3_putBolt 35 = .ok (.iconst 3, 1) := by decide +kernel
theorem dX3_putBolt_36 : decode cX3_putBolt 36 = .ok (.iload_n 1, 1) := by decide +kernel
theorem dX3_putBolt_37 : decode cX3_putBolt 37 = .ok (.imul, 1) := by decide +kernel
theorem dX3_putBolt_38 : decode cX3_putBolt 38 = .ok (.iconst 2, 1) := by decide +kernel
theorem dX3_putBolt_39 : decode cX3_putBolt 39 = .ok (.iadd, 1) := by decide +kernel
theorem dX3_putBolt_40 : decode cX3_putBolt 40 = .ok (.iload 4, 2) := by decide +kernel
theorem dX3_putBolt_42 : decode cX3_putBolt 42 = .ok (.iastore, 1) := by decide +kernel
theorem dX3_putBolt_43 : decode cX3_putBolt 43 = .ok (.return_, 1) := by decide +kernel
noncomputable def kX3_putBolt : Nat → Op := (nodeC 24 (nodeC 12 (nodeC 5 (nodeC 1 (nodeC 0 (leafC 0 (o_il 1 1)) (leafC 1 (o_zlt 10 4))) (nodeC 4 (leafC 4 (o_il 1 5)) (leafC 5 (o_ic (60) 7)))) (nodeC 10 (nodeC 7 (leafC 7 (o_clt 11 10)) (leafC 10 (o_vret))) (nodeC 11 (leafC 11 (o_al 0 12)) (leafC 12 (o_gR 3 1 15))))) (nodeC 18 (nodeC 16 (nodeC 15 (leafC 15 (o_ic (3) 16)) (leafC 16 (o_il 1 17))) (nodeC 17 (leafC 17 (o_imul 18)) (leafC 18 (o_il 2 19)))) (nodeC 20 (nodeC 19 (leafC 19 (o_iast 20)) (leafC 20 (o_al 0 21))) (nodeC 21 (leafC 21 (o_gR 3 1 24)) (leafC 24 (o_ic (3) 25)))))) (nodeC 32 (nodeC 28 (nodeC 26 (nodeC 25 (leafC 25 (o_il 1 26)) (leafC 26 (o_imul 27))) (nodeC 27 (leafC 27 (o_ic (1) 28)) (leafC 28 (o_iadd 29)))) (nodeC 30 (nodeC 29 (leafC 29 (o_il 3 30)) (leafC 30 (o_iast 31))) (nodeC 31 (leafC 31 (o_al 0 32)) (leafC 32 (o_gR 3 1 35))))) (nodeC 38 (nodeC 36 (nodeC 35 (leafC 35 (o_ic (3) 36)) (leafC 36 (o_il 1 37))) (nodeC 37 (leafC 37 (o_imul 38)) (leafC 38 (o_ic (2) 39)))) (nodeC 40 (nodeC 39 (leafC 39 (o_iadd 40)) (leafC 40 (o_il 4 42))) (nodeC 42 (leafC 42 (o_iast 43)) (leafC 43 (o_vret)))))))
theorem sX3_putBolt : ∀ pc, SoundOp cX3_putBolt RX3 5 none false 0 0 pc (kX3_putBolt pc) := (so_node (so_node (so_node (so_node (so_node (so_leaf (so_iload_n dX3_putBolt_0 rfl)) (so_leaf (so_zlt dX3_putBolt_1 (by decide)))) (so_node (so_leaf (so_iload_n dX3_putBolt_4 rfl)) (so_leaf (so_bipush dX3_putBolt_5 (by decide))))) (so_node (so_node (so_leaf (so_clt dX3_putBolt_7 (by decide))) (so_leaf (so_vret dX3_putBolt_10 rfl))) (so_node (so_leaf (so_aload_n dX3_putBolt_11 rfl)) (so_leaf (so_gR (by decide) (by decide) wC3 wf_RX3_15 (fun _ _ _ => rfl) dX3_putBolt_12))))) (so_node (so_node (so_node (so_leaf (so_iconst dX3_putBolt_15 (by decide))) (so_leaf (so_iload_n dX3_putBolt_16 rfl))) (so_node (so_leaf (so_imul dX3_putBolt_17)) (so_leaf (so_iload_n dX3_putBolt_18 rfl)))) (so_node (so_node (so_leaf (so_iast dX3_putBolt_19)) (so_leaf (so_aload_n dX3_putBolt_20 rfl))) (so_node (so_leaf (so_gR (by decide) (by decide) wC3 wf_RX3_15 (fun _ _ _ => rfl) dX3_putBolt_21)) (so_leaf (so_iconst dX3_putBolt_24 (by decide))))))) (so_node (so_node (so_node (so_node (so_leaf (so_iload_n dX3_putBolt_25 rfl)) (so_leaf (so_imul dX3_putBolt_26))) (so_node (so_leaf (so_iconst dX3_putBolt_27 (by decide))) (so_leaf (so_iadd dX3_putBolt_28)))) (so_node (so_node (so_leaf (so_iload_n dX3_putBolt_29 rfl)) (so_leaf (so_iast dX3_putBolt_30))) (so_node (so_leaf (so_aload_n dX3_putBolt_31 rfl)) (so_leaf (so_gR (by decide) (by decide) wC3 wf_RX3_15 (fun _ _ _ => rfl) dX3_putBolt_32))))) (so_node (so_node (so_node (so_leaf (so_iconst dX3_putBolt_35 (by decide))) (so_leaf (so_iload_n dX3_putBolt_36 rfl))) (so_node (so_leaf (so_imul dX3_putBolt_37)) (so_leaf (so_iconst dX3_putBolt_38 (by decide))))) (so_node (so_node (so_leaf (so_iadd dX3_putBolt_39)) (so_leaf (so_iload dX3_putBolt_40))) (so_node (so_leaf (so_iast dX3_putBolt_42)) (so_leaf (so_vret dX3_putBolt_43 rfl)))))))
theorem pX3_putBolt : ∀ pc, Pr (kX3_putBolt pc) := (pr_node (pr_node (pr_node (pr_node (pr_node (pr_leaf (pr_il _ _)) (pr_leaf (pr_zlt _ _))) (pr_node (pr_leaf (pr_il _ _)) (pr_leaf (pr_ic _ _)))) (pr_node (pr_node (pr_leaf (pr_clt _ _)) (pr_leaf (pr_vret))) (pr_node (pr_leaf (pr_al _ _)) (pr_leaf (pr_gR _ _ _))))) (pr_node (pr_node (pr_node (pr_leaf (pr_ic _ _)) (pr_leaf (pr_il _ _))) (pr_node (pr_leaf (pr_imul _)) (pr_leaf (pr_il _ _)))) (pr_node (pr_node (pr_leaf (pr_iast _)) (pr_leaf (pr_al _ _))) (pr_node (pr_leaf (pr_gR _ _ _)) (pr_leaf (pr_ic _ _)))))) (pr_node (pr_node (pr_node (pr_node (pr_leaf (pr_il _ _)) (pr_leaf (pr_imul _))) (pr_node (pr_leaf (pr_ic _ _)) (pr_leaf (pr_iadd _)))) (pr_node (pr_node (pr_leaf (pr_il _ _)) (pr_leaf (pr_iast _))) (pr_node (pr_leaf (pr_al _ _)) (pr_leaf (pr_gR _ _ _))))) (pr_node (pr_node (pr_node (pr_leaf (pr_ic _ _)) (pr_leaf (pr_il _ _))) (pr_node (pr_leaf (pr_imul _)) (pr_leaf (pr_ic _ _)))) (pr_node (pr_node (pr_leaf (pr_iadd _)) (pr_leaf (pr_il _ _))) (pr_node (pr_leaf (pr_iast _)) (pr_leaf (pr_vret)))))))
noncomputable def FX3_putBolt : List EV → Hp → Option (RV × Hp) := Fm kX3_putBolt 5
theorem CX3_putBolt : Con yX3_putBolt cX3_putBolt 5 none 0 0 FX3_putBolt := con_of (own := RX3) rfl (by decide +kernel) sX3_putBolt pX3_putBolt (fun z => by cases z)
theorem GX3_putBolt : Gr FX3_putBolt := Gr_Fm pX3_putBolt 5
theorem dX3_logged_0 : decode cX3_logged 0 = .ok (.aload_n 0, 1) := by decide +kernel
theorem dX3_logged_1 : decode cX3_logged 1 = .ok (.getfield 11, 3) := by decide +kernel
theorem dX3_logged_4 : decode cX3_logged 4 = .ok (.iconst 3, 1) := by decide +kernel
theorem dX3_logged_5 : decode cX3_logged 5 = .ok (.iload_n 1, 1) := by decide +kernel
theorem dX3_logged_6 : decode cX3_logged 6 = .ok (.bipush 100, 2) := by decide +kernel
theorem dX3_logged_8 : decode cX3_logged 8 = .ok (.invokestatic 18, 3) := by decide +kernel
theorem dX3_logged_11 : decode cX3_logged 11 = .ok (.imul, 1) := by decide +kernel
theorem dX3_logged_12 : decode cX3_logged 12 = .ok (.iload_n 2, 1) := by decide +kernel
theorem dX3_logged_13 : decode cX3_logged 13 = .ok (.iadd, 1) := by decide +kernel
theorem dX3_logged_14 : decode cX3_logged 14 = .ok (.iaload, 1) := by decide +kernel
theorem dX3_logged_15 : decode cX3_logged 15 = .ok (.ireturn, 1) := by decide +kernel
noncomputable def kX3_logged : Nat → Op := (nodeC 6 (nodeC 1 (nodeC 0 (leafC 0 (o_al 0 1)) (leafC 1 (o_gR 3 0 4))) (nodeC 4 (leafC 4 (o_ic (3) 5)) (nodeC 5 (leafC 5 (o_il 1 6)) (leafC 6 (o_ic (100) 8))))) (nodeC 12 (nodeC 8 (leafC 8 (o_ist 2 1 FJ9_floorMod_7cf53 11)) (nodeC 11 (leafC 11 (o_imul 12)) (leafC 12 (o_il 2 13)))) (nodeC 13 (leafC 13 (o_iadd 14)) (nodeC 14 (leafC 14 (o_iald 15)) (leafC 15 (o_iret))))))
theorem sX3_logged : ∀ pc, SoundOp cX3_logged RX3 3 (some .int) false 1 22 pc (kX3_logged pc) := (so_node (so_node (so_node (so_leaf (so_aload_n dX3_logged_0 rfl)) (so_leaf (so_gR (by decide) (by decide) wC3 wf_RX3_11 (fun _ _ _ => rfl) dX3_logged_1))) (so_node (so_leaf (so_iconst dX3_logged_4 (by decide))) (so_node (so_leaf (so_iload_n dX3_logged_5 rfl)) (so_leaf (so_bipush dX3_logged_6 (by decide)))))) (so_node (so_node (so_leaf (so_ist CJ9_floorMod_7cf53 rfl wm_RX3_18 wst_J9_floorMod_7cf53 wny_J9_floorMod_7cf53 wc_J9_floorMod_7cf53 (by decide +kernel) (by decide) (by decide) dX3_logged_8)) (so_node (so_leaf (so_imul dX3_logged_11)) (so_leaf (so_iload_n dX3_logged_12 rfl)))) (so_node (so_leaf (so_iadd dX3_logged_13)) (so_node (so_leaf (so_iald dX3_logged_14)) (so_leaf (so_iret dX3_logged_15 rfl))))))
theorem pX3_logged : ∀ pc, Pr (kX3_logged pc) := (pr_node (pr_node (pr_node (pr_leaf (pr_al _ _)) (pr_leaf (pr_gR _ _ _))) (pr_node (pr_leaf (pr_ic _ _)) (pr_node (pr_leaf (pr_il _ _)) (pr_leaf (pr_ic _ _))))) (pr_node (pr_node (pr_leaf (pr_ist _ _ GJ9_floorMod_7cf53 _)) (pr_node (pr_leaf (pr_imul _)) (pr_leaf (pr_il _ _)))) (pr_node (pr_leaf (pr_iadd _)) (pr_node (pr_leaf (pr_iald _)) (pr_leaf (pr_iret))))))
noncomputable def FX3_logged : List EV → Hp → Option (RV × Hp) := Fm kX3_logged 3
theorem CX3_logged : Con yX3_logged cX3_logged 3 (some .int) 1 22 FX3_logged := con_of (own := RX3) rfl (by decide +kernel) sX3_logged pX3_logged (fun z => by cases z)
theorem GX3_logged : Gr FX3_logged := Gr_Fm pX3_logged 3
theorem dX3_bound_0 : decode cX3_bound 0 = .ok (.aload_n 0, 1) := by decide +kernel
theorem dX3_bound_1 : decode cX3_bound 1 = .ok (.getfield 15, 3) := by decide +kernel
theorem dX3_bound_4 : decode cX3_bound 4 = .ok (.iconst 3, 1) := by decide +kernel
theorem dX3_bound_5 : decode cX3_bound 5 = .ok (.iload_n 1, 1) := by decide +kernel
theorem dX3_bound_6 : decode cX3_bound 6 = .ok (.imul, 1) := by decide +kernel
theorem dX3_bound_7 : decode cX3_bound 7 = .ok (.iload_n 2, 1) := by decide +kernel
theorem dX3_bound_8 : decode cX3_bound 8 = .ok (.iadd, 1) := by decide +kernel
theorem dX3_bound_9 : decode cX3_bound 9 = .ok (.iaload, 1) := by decide +kernel
theorem dX3_bound_10 : decode cX3_bound 10 = .ok (.ireturn, 1) := by decide +kernel
noncomputable def kX3_bound : Nat → Op := (nodeC 5 (nodeC 1 (nodeC 0 (leafC 0 (o_al 0 1)) (leafC 1 (o_gR 3 1 4))) (nodeC 4 (leafC 4 (o_ic (3) 5)) (leafC 5 (o_il 1 6)))) (nodeC 7 (nodeC 6 (leafC 6 (o_imul 7)) (leafC 7 (o_il 2 8))) (nodeC 8 (leafC 8 (o_iadd 9)) (nodeC 9 (leafC 9 (o_iald 10)) (leafC 10 (o_iret))))))
theorem sX3_bound : ∀ pc, SoundOp cX3_bound RX3 3 (some .int) false 0 0 pc (kX3_bound pc) := (so_node (so_node (so_node (so_leaf (so_aload_n dX3_bound_0 rfl)) (so_leaf (so_gR (by decide) (by decide) wC3 wf_RX3_15 (fun _ _ _ => rfl) dX3_bound_1))) (so_node (so_leaf (so_iconst dX3_bound_4 (by decide))) (so_leaf (so_iload_n dX3_bound_5 rfl)))) (so_node (so_node (so_leaf (so_imul dX3_bound_6)) (so_leaf (so_iload_n dX3_bound_7 rfl))) (so_node (so_leaf (so_iadd dX3_bound_8)) (so_node (so_leaf (so_iald dX3_bound_9)) (so_leaf (so_iret dX3_bound_10 rfl))))))
theorem pX3_bound : ∀ pc, Pr (kX3_bound pc) := (pr_node (pr_node (pr_node (pr_leaf (pr_al _ _)) (pr_leaf (pr_gR _ _ _))) (pr_node (pr_leaf (pr_ic _ _)) (pr_leaf (pr_il _ _)))) (pr_node (pr_node (pr_leaf (pr_imul _)) (pr_leaf (pr_il _ _))) (pr_node (pr_leaf (pr_iadd _)) (pr_node (pr_leaf (pr_iald _)) (pr_leaf (pr_iret))))))
noncomputable def FX3_bound : List EV → Hp → Option (RV × Hp) := Fm kX3_bound 3
theorem CX3_bound : Con yX3_bound cX3_bound 3 (some .int) 0 0 FX3_bound := con_of (own := RX3) rfl (by decide +kernel) sX3_bound pX3_bound (fun z => by cases z)
theorem GX3_bound : Gr FX3_bound := Gr_Fm pX3_bound 3
theorem dX3_copyFrom_0 : decode cX3_copyFrom 0 = .ok (.aload_n 1, 1) := by decide +kernel
theorem dX3_copyFrom_1 : decode cX3_copyFrom 1 = .ok (.getfield 11, 3) := by decide +kernel
theorem dX3_copyFrom_4 : decode cX3_copyFrom 4 = .ok (.iconst 0, 1) := by decide +kernel
theorem dX3_copyFrom_5 : decode cX3_copyFrom 5 = .ok (.aload_n 0, 1) := by decide +kernel
theorem dX3_copyFrom_6 : decode cX3_copyFrom 6 = .ok (.getfield 11, 3) := by decide +kernel
theorem dX3_copyFrom_9 : decode cX3_copyFrom 9 = .ok (.iconst 0, 1) := by decide +kernel
theorem dX3_copyFrom_10 : decode cX3_copyFrom 10 = .ok (.aload_n 0, 1) := by decide +kernel
theorem dX3_copyFrom_11 : decode cX3_copyFrom 11 = .ok (.getfield 11, 3) := by decide +kernel
theorem dX3_copyFrom_14 : decode cX3_copyFrom 14 = .ok (.arraylength, 1) := by decide +kernel
theorem dX3_copyFrom_15 : decode cX3_copyFrom 15 = .ok (.invokestatic 24, 3) := by decide +kernel
theorem dX3_copyFrom_18 : decode cX3_copyFrom 18 = .ok (.aload_n 1, 1) := by decide +kernel
theorem dX3_copyFrom_19 : decode cX3_copyFrom 19 = .ok (.getfield 15, 3) := by decide +kernel
theorem dX3_copyFrom_22 : decode cX3_copyFrom 22 = .ok (.iconst 0, 1) := by decide +kernel
theorem dX3_copyFrom_23 : decode cX3_copyFrom 23 = .ok (.aload_n 0, 1) := by decide +kernel
theorem dX3_copyFrom_24 : decode cX3_copyFrom 24 = .ok (.getfield 15, 3) := by decide +kernel
theorem dX3_copyFrom_27 : decode cX3_copyFrom 27 = .ok (.iconst 0, 1) := by decide +kernel
theorem dX3_copyFrom_28 : decode cX3_copyFrom 28 = .ok (.aload_n 0, 1) := by decide +kernel
theorem dX3_copyFrom_29 : decode cX3_copyFrom 29 = .ok (.getfield 15, 3) := by decide +kernel
theorem dX3_copyFrom_32 : decode cX3_copyFrom 32 = .ok (.arraylength, 1) := by decide +kernel
theorem dX3_copyFrom_33 : decode cX3_copyFrom 33 = .ok (.invokestatic 24, 3) := by decide +kernel
theorem dX3_copyFrom_36 : decode cX3_copyFrom 36 = .ok (.return_, 1) := by decide +kernel
noncomputable def kX3_copyFrom : Nat → Op := (nodeC 15 (nodeC 6 (nodeC 1 (nodeC 0 (leafC 0 (o_al 1 1)) (leafC 1 (o_gR 3 0 4))) (nodeC 4 (leafC 4 (o_ic (0) 5)) (nodeC 5 (leafC 5 (o_al 0 6)) (leafC 6 (o_gR 3 0 9))))) (nodeC 10 (nodeC 9 (leafC 9 (o_ic (0) 10)) (leafC 10 (o_al 0 11))) (nodeC 11 (leafC 11 (o_gR 3 0 14)) (nodeC 14 (leafC 14 (o_alen 15)) (leafC 15 (o_acopy 18)))))) (nodeC 24 (nodeC 19 (nodeC 18 (leafC 18 (o_al 1 19)) (leafC 19 (o_gR 3 1 22))) (nodeC 22 (leafC 22 (o_ic (0) 23)) (nodeC 23 (leafC 23 (o_al 0 24)) (leafC 24 (o_gR 3 1 27))))) (nodeC 29 (nodeC 27 (leafC 27 (o_ic (0) 28)) (nodeC 28 (leafC 28 (o_al 0 29)) (leafC 29 (o_gR 3 1 32)))) (nodeC 32 (leafC 32 (o_alen 33)) (nodeC 33 (leafC 33 (o_acopy 36)) (leafC 36 (o_vret)))))))
theorem sX3_copyFrom : ∀ pc, SoundOp cX3_copyFrom RX3 2 none false 1 60 pc (kX3_copyFrom pc) := (so_node (so_node (so_node (so_node (so_leaf (so_aload_n dX3_copyFrom_0 rfl)) (so_leaf (so_gR (by decide) (by decide) wC3 wf_RX3_11 (fun _ _ _ => rfl) dX3_copyFrom_1))) (so_node (so_leaf (so_iconst dX3_copyFrom_4 (by decide))) (so_node (so_leaf (so_aload_n dX3_copyFrom_5 rfl)) (so_leaf (so_gR (by decide) (by decide) wC3 wf_RX3_11 (fun _ _ _ => rfl) dX3_copyFrom_6))))) (so_node (so_node (so_leaf (so_iconst dX3_copyFrom_9 (by decide))) (so_leaf (so_aload_n dX3_copyFrom_10 rfl))) (so_node (so_leaf (so_gR (by decide) (by decide) wC3 wf_RX3_11 (fun _ _ _ => rfl) dX3_copyFrom_11)) (so_node (so_leaf (so_alen dX3_copyFrom_14)) (so_leaf (so_acopy wm_RX3_24 wac1 wac2 wac3 (by decide) (by decide) dX3_copyFrom_15)))))) (so_node (so_node (so_node (so_leaf (so_aload_n dX3_copyFrom_18 rfl)) (so_leaf (so_gR (by decide) (by decide) wC3 wf_RX3_15 (fun _ _ _ => rfl) dX3_copyFrom_19))) (so_node (so_leaf (so_iconst dX3_copyFrom_22 (by decide))) (so_node (so_leaf (so_aload_n dX3_copyFrom_23 rfl)) (so_leaf (so_gR (by decide) (by decide) wC3 wf_RX3_15 (fun _ _ _ => rfl) dX3_copyFrom_24))))) (so_node (so_node (so_leaf (so_iconst dX3_copyFrom_27 (by decide))) (so_node (so_leaf (so_aload_n dX3_copyFrom_28 rfl)) (so_leaf (so_gR (by decide) (by decide) wC3 wf_RX3_15 (fun _ _ _ => rfl) dX3_copyFrom_29)))) (so_node (so_leaf (so_alen dX3_copyFrom_32)) (so_node (so_leaf (so_acopy wm_RX3_24 wac1 wac2 wac3 (by decide) (by decide) dX3_copyFrom_33)) (so_leaf (so_vret dX3_copyFrom_36 rfl)))))))
theorem pX3_copyFrom : ∀ pc, Pr (kX3_copyFrom pc) := (pr_node (pr_node (pr_node (pr_node (pr_leaf (pr_al _ _)) (pr_leaf (pr_gR _ _ _))) (pr_node (pr_leaf (pr_ic _ _)) (pr_node (pr_leaf (pr_al _ _)) (pr_leaf (pr_gR _ _ _))))) (pr_node (pr_node (pr_leaf (pr_ic _ _)) (pr_leaf (pr_al _ _))) (pr_node (pr_leaf (pr_gR _ _ _)) (pr_node (pr_leaf (pr_alen _)) (pr_leaf (pr_acopy _)))))) (pr_node (pr_node (pr_node (pr_leaf (pr_al _ _)) (pr_leaf (pr_gR _ _ _))) (pr_node (pr_leaf (pr_ic _ _)) (pr_node (pr_leaf (pr_al _ _)) (pr_leaf (pr_gR _ _ _))))) (pr_node (pr_node (pr_leaf (pr_ic _ _)) (pr_node (pr_leaf (pr_al _ _)) (pr_leaf (pr_gR _ _ _)))) (pr_node (pr_leaf (pr_alen _)) (pr_node (pr_leaf (pr_acopy _)) (pr_leaf (pr_vret)))))))
noncomputable def FX3_copyFrom : List EV → Hp → Option (RV × Hp) := Fm kX3_copyFrom 2
theorem CX3_copyFrom : Con yX3_copyFrom cX3_copyFrom 2 none 1 60 FX3_copyFrom := con_of (own := RX3) rfl (by decide +kernel) sX3_copyFrom pX3_copyFrom (fun z => by cases z)
theorem GX3_copyFrom : Gr FX3_copyFrom := Gr_Fm pX3_copyFrom 2
theorem dX4_init_0 : decode cX4_init 0 = .ok (.aload_n 0, 1) := by decide +kernel
theorem dX4_init_1 : decode cX4_init 1 = .ok (.invokespecial 3, 3) := by decide +kernel
theorem dX4_init_4 : decode cX4_init 4 = .ok (.aload_n 0, 1) := by decide +kernel
theorem dX4_init_5 : decode cX4_init 5 = .ok (.iconst 5, 1) := by decide +kernel
theorem dX4_init_6 : decode cX4_init 6 = .ok (.newarray .int, 2) := by decide +kernel
theorem dX4_init_8 : decode cX4_init 8 = .ok (.putfield 9, 3) := by decide +kernel
theorem dX4_init_11 : decode cX4_init 11 = .ok (.return_, 1) := by decide +kernel
noncomputable def kX4_init : Nat → Op := (nodeC 4 (nodeC 0 (leafC 0 (o_al 0 1)) (nodeC 1 (leafC 1 (o_oini 4)) (leafC 4 (o_al 0 5)))) (nodeC 6 (nodeC 5 (leafC 5 (o_ic (5) 6)) (leafC 6 (o_newa 20 8))) (nodeC 8 (leafC 8 (o_pR 4 8 11)) (leafC 11 (o_vret)))))
theorem sX4_init : ∀ pc, SoundOp cX4_init RX4 1 none true 1 20 pc (kX4_init pc) := (so_node (so_node (so_leaf (so_aload_n dX4_init_0 rfl)) (so_node (so_leaf (so_oini wm_RX4_3 wob1 wob2 (by decide) (by decide) dX4_init_1)) (so_leaf (so_aload_n dX4_init_4 rfl)))) (so_node (so_node (so_leaf (so_iconst dX4_init_5 (by decide))) (so_leaf (so_newa (at' := .int) (t0 := 0) (Or.inl rfl) (fun _ => rfl) (fun _ _ z => z) rfl (by decide) wa_int dX4_init_6))) (so_node (so_leaf (so_pR (by decide) (by decide) wC4 wf_RX4_9 (Or.inr ⟨rfl, rfl, rfl⟩) (Or.inr ⟨_, rfl⟩) dX4_init_8)) (so_leaf (so_vret dX4_init_11 rfl)))))
theorem pX4_init : ∀ pc, Pr (kX4_init pc) := (pr_node (pr_node (pr_leaf (pr_al _ _)) (pr_node (pr_leaf (pr_oini _)) (pr_leaf (pr_al _ _)))) (pr_node (pr_node (pr_leaf (pr_ic _ _)) (pr_leaf (pr_newa _ _))) (pr_node (pr_leaf (pr_pR _ _ _)) (pr_leaf (pr_vret)))))
noncomputable def FX4_init : List EV → Hp → Option (RV × Hp) := Fm kX4_init 1
theorem CX4_init : Con yX4_init cX4_init 1 none 1 20 FX4_init := con_of (own := RX4) rfl (by decide +kernel) sX4_init pX4_init (fun _ => rfl)
theorem GX4_init : Gr FX4_init := Gr_Fm pX4_init 1
theorem dX4_begin_0 : decode cX4_begin 0 = .ok (.aload_n 0, 1) := by decide +kernel
theorem dX4_begin_1 : decode cX4_begin 1 = .ok (.aload_n 1, 1) := by decide +kernel
theorem dX4_begin_2 : decode cX4_begin 2 = .ok (.getfield 15, 3) := by decide +kernel
theorem dX4_begin_5 : decode cX4_begin 5 = .ok (.iconst 0, 1) := by decide +kernel
theorem dX4_begin_6 : decode cX4_begin 6 = .ok (.iaload, 1) := by decide +kernel
theorem dX4_begin_7 : decode cX4_begin 7 = .ok (.putfield 20, 3) := by decide +kernel
theorem dX4_begin_10 : decode cX4_begin 10 = .ok (.aload_n 0, 1) := by decide +kernel
theorem dX4_begin_11 : decode cX4_begin 11 = .ok (.iconst 0, 1) := by decide +kernel
theorem dX4_begin_12 : decode cX4_begin 12 = .ok (.putfield 24, 3) := by decide +kernel
theorem dX4_begin_15 : decode cX4_begin 15 = .ok (.aload_n 0, 1) := by decide +kernel
theorem dX4_begin_16 : decode cX4_begin 16 = .ok (.aload_n 1, 1) := by decide +kernel
theorem dX4_begin_17 : decode cX4_begin 17 = .ok (.getfield 15, 3) := by decide +kernel
theorem dX4_begin_20 : decode cX4_begin 20 = .ok (.iconst 5, 1) := by decide +kernel
theorem dX4_begin_21 : decode cX4_begin 21 = .ok (.iaload, 1) := by decide +kernel
theorem dX4_begin_22 : decode cX4_begin 22 = .ok (.putfield 28, 3) := by decide +kernel
theorem dX4_begin_25 : decode cX4_begin 25 = .ok (.aload_n 0, 1) := by decide +kernel
theorem dX4_begin_26 : decode cX4_begin 26 = .ok (.iconst 0, 1) := by decide +kernel
theorem dX4_begin_27 : decode cX4_begin 27 = .ok (.putfield 31, 3) := by decide +kernel
theorem dX4_begin_30 : decode cX4_begin 30 = .ok (.aload_n 0, 1) := by decide +kernel
theorem dX4_begin_31 : decode cX4_begin 31 = .ok (.iconst 0, 1) := by decide +kernel
theorem dX4_begin_32 : decode cX4_begin 32 = .ok (.putfield 34, 3) := by decide +kernel
theorem dX4_begin_35 : decode cX4_begin 35 = .ok (.aload_n 0, 1) := by decide +kernel
theorem dX4_begin_36 : decode cX4_begin 36 = .ok (.iconst 0, 1) := by decide +kernel
theorem dX4_begin_37 : decode cX4_begin 37 = .ok (.putfield 37, 3) := by decide +kernel
theorem dX4_begin_40 : decode cX4_begin 40 = .ok (.aload_n 0, 1) := by decide +kernel
theorem dX4_begin_41 : decode cX4_begin 41 = .ok (.iconst 0, 1) := by decide +kernel
theorem dX4_begin_42 : decode cX4_begin 42 = .ok (.putfield 40, 3) := by decide +kernel
theorem dX4_begin_45 : decode cX4_begin 45 = .ok (.aload_n 0, 1) := by decide +kernel
theorem dX4_begin_46 : decode cX4_begin 46 = .ok (.iconst 0, 1) := by decide +kernel
theorem dX4_begin_47 : decode cX4_begin 47 = .ok (.putfield 43, 3) := by decide +kernel
theorem dX4_begin_50 : decode cX4_begin 50 = .ok (.aload_n 0, 1) := by decide +kernel
theorem dX4_begin_51 : decode cX4_begin 51 = .ok (.getfield 9, 3) := by decide +kernel
theorem dX4_begin_54 : decode cX4_begin 54 = .ok (.iconst 0, 1) := by decide +kernel
theorem dX4_begin_55 : decode cX4_begin 55 = .ok (.invokestatic 46, 3) := by decide +kernel
theorem dX4_begin_58 : decode cX4_begin 58 = .ok (.aload_n 0, 1) := by decide +kernel
theorem dX4_begin_59 : decode cX4_begin 59 = .ok (.iconst 0, 1) := by decide +kernel
theorem dX4_begin_60 : decode cX4_begin 60 = .ok (.putfield 52, 3) := by decide +kernel
theorem dX4_begin_63 : decode cX4_begin 63 = .ok (.aload_n 0, 1) := by decide +kernel
theorem dX4_begin_64 : decode cX4_begin 64 = .ok (.iconst 0, 1) := by decide +kernel
theorem dX4_begin_65 : decode cX4_begin 65 = .ok (.putfield 55, 3) := by decide +kernel
theorem dX4_begin_68 : decode cX4_begin 68 = .ok (.aload_n 0, 1) := by decide +kernel
theorem dX4_begin_69 : decode cX4_begin 69 = .ok (.iconst 0, 1) := by decide +kernel
theorem dX4_begin_70 : decode cX4_begin 70 = .ok (.putfield 58, 3) := by decide +kernel
theorem dX4_begin_73 : decode cX4_begin 73 = .ok (.aload_n 0, 1) := by decide +kernel
theorem dX4_begin_74 : decode cX4_begin 74 = .ok (.iconst 0, 1) := by decide +kernel
theorem dX4_begin_75 : decode cX4_begin 75 = .ok (.putfield 61, 3) := by decide +kernel
theorem dX4_begin_78 : decode cX4_begin 78 = .ok (.return_, 1) := by decide +kernel
noncomputable def kX4_begin : Nat → Op := (nodeC 36 (nodeC 16 (nodeC 6 (nodeC 1 (nodeC 0 (leafC 0 (o_al 0 1)) (leafC 1 (o_al 1 2))) (nodeC 2 (leafC 2 (o_gR 0 2 5)) (nodeC 5 (leafC 5 (o_ic (0) 6)) (leafC 6 (o_iald 7))))) (nodeC 11 (nodeC 7 (leafC 7 (o_pI 4 0 10)) (nodeC 10 (leafC 10 (o_al 0 11)) (leafC 11 (o_ic (0) 12)))) (nodeC 12 (leafC 12 (o_pZ 4 1 15)) (nodeC 15 (leafC 15 (o_al 0 16)) (leafC 16 (o_al 1 17)))))) (nodeC 26 (nodeC 21 (nodeC 17 (leafC 17 (o_gR 0 2 20)) (nodeC 20 (leafC 20 (o_ic (5) 21)) (leafC 21 (o_iald 22)))) (nodeC 22 (leafC 22 (o_pI 4 2 25)) (nodeC 25 (leafC 25 (o_al 0 26)) (leafC 26 (o_ic (0) 27))))) (nodeC 31 (nodeC 27 (leafC 27 (o_pZ 4 3 30)) (nodeC 30 (leafC 30 (o_al 0 31)) (leafC 31 (o_ic (0) 32)))) (nodeC 32 (leafC 32 (o_pI 4 4 35)) (nodeC 35 (leafC 35 (o_al 0 36)) (leafC 36 (o_ic (0) 37))))))) (nodeC 58 (nodeC 46 (nodeC 41 (nodeC 37 (leafC 37 (o_pI 4 5 40)) (nodeC 40 (leafC 40 (o_al 0 41)) (leafC 41 (o_ic (0) 42)))) (nodeC 42 (leafC 42 (o_pI 4 6 45)) (nodeC 45 (leafC 45 (o_al 0 46)) (leafC 46 (o_ic (0) 47))))) (nodeC 51 (nodeC 47 (leafC 47 (o_pI 4 7 50)) (nodeC 50 (leafC 50 (o_al 0 51)) (leafC 51 (o_gR 4 8 54)))) (nodeC 54 (leafC 54 (o_ic (0) 55)) (nodeC 55 (leafC 55 (o_ist 2 0 FJ7_fill_53178 58)) (leafC 58 (o_al 0 59)))))) (nodeC 68 (nodeC 63 (nodeC 59 (leafC 59 (o_ic (0) 60)) (nodeC 60 (leafC 60 (o_pI 4 9 63)) (leafC 63 (o_al 0 64)))) (nodeC 64 (leafC 64 (o_ic (0) 65)) (nodeC 65 (leafC 65 (o_pI 4 10 68)) (leafC 68 (o_al 0 69))))) (nodeC 73 (nodeC 69 (leafC 69 (o_ic (0) 70)) (nodeC 70 (leafC 70 (o_pI 4 11 73)) (leafC 73 (o_al 0 74)))) (nodeC 74 (leafC 74 (o_ic (0) 75)) (nodeC 75 (leafC 75 (o_pI 4 12 78)) (leafC 78 (o_vret))))))))
theorem sX4_begin : ∀ pc, SoundOp cX4_begin RX4 2 none false 1 23 pc (kX4_begin pc) := (so_node (so_node (so_node (so_node (so_node (so_leaf (so_aload_n dX4_begin_0 rfl)) (so_leaf (so_aload_n dX4_begin_1 rfl))) (so_node (so_leaf (so_gR (by decide) (by decide) wC0 wf_RX4_15 (fun _ _ _ => rfl) dX4_begin_2)) (so_node (so_leaf (so_iconst dX4_begin_5 (by decide))) (so_leaf (so_iald dX4_begin_6))))) (so_node (so_node (so_leaf (so_pI (by decide) (by decide) wC4 wf_RX4_20 (Or.inl rfl) rfl dX4_begin_7)) (so_node (so_leaf (so_aload_n dX4_begin_10 rfl)) (so_leaf (so_iconst dX4_begin_11 (by decide))))) (so_node (so_leaf (so_pZ (by decide) (by decide) wC4 wf_RX4_24 (Or.inl rfl) rfl dX4_begin_12)) (so_node (so_leaf (so_aload_n dX4_begin_15 rfl)) (so_leaf (so_aload_n dX4_begin_16 rfl)))))) (so_node (so_node (so_node (so_leaf (so_gR (by decide) (by decide) wC0 wf_RX4_15 (fun _ _ _ => rfl) dX4_begin_17)) (so_node (so_leaf (so_iconst dX4_begin_20 (by decide))) (so_leaf (so_iald dX4_begin_21)))) (so_node (so_leaf (so_pI (by decide) (by decide) wC4 wf_RX4_28 (Or.inl rfl) rfl dX4_begin_22)) (so_node (so_leaf (so_aload_n dX4_begin_25 rfl)) (so_leaf (so_iconst dX4_begin_26 (by decide)))))) (so_node (so_node (so_leaf (so_pZ (by decide) (by decide) wC4 wf_RX4_31 (Or.inl rfl) rfl dX4_begin_27)) (so_node (so_leaf (so_aload_n dX4_begin_30 rfl)) (so_leaf (so_iconst dX4_begin_31 (by decide))))) (so_node (so_leaf (so_pI (by decide) (by decide) wC4 wf_RX4_34 (Or.inl rfl) rfl dX4_begin_32)) (so_node (so_leaf (so_aload_n dX4_begin_35 rfl)) (so_leaf (so_iconst dX4_begin_36 (by decide)))))))) (so_node (so_node (so_node (so_node (so_leaf (so_pI (by decide) (by decide) wC4 wf_RX4_37 (Or.inl rfl) rfl dX4_begin_37)) (so_node (so_leaf (so_aload_n dX4_begin_40 rfl)) (so_leaf (so_iconst dX4_begin_41 (by decide))))) (so_node (so_leaf (so_pI (by decide) (by decide) wC4 wf_RX4_40 (Or.inl rfl) rfl dX4_begin_42)) (so_node (so_leaf (so_aload_n dX4_begin_45 rfl)) (so_leaf (so_iconst dX4_begin_46 (by decide)))))) (so_node (so_node (so_leaf (so_pI (by decide) (by decide) wC4 wf_RX4_43 (Or.inl rfl) rfl dX4_begin_47)) (so_node (so_leaf (so_aload_n dX4_begin_50 rfl)) (so_leaf (so_gR (by decide) (by decide) wC4 wf_RX4_9 (fun _ _ _ => rfl) dX4_begin_51)))) (so_node (so_leaf (so_iconst dX4_begin_54 (by decide))) (so_node (so_leaf (so_ist CJ7_fill_53178 rfl wm_RX4_46 wst_J7_fill_53178 wny_J7_fill_53178 wc_J7_fill_53178 (by decide +kernel) (by decide) (by decide) dX4_begin_55)) (so_leaf (so_aload_n dX4_begin_58 rfl)))))) (so_node (so_node (so_node (so_leaf (so_iconst dX4_begin_59 (by decide))) (so_node (so_leaf (so_pI (by decide) (by decide) wC4 wf_RX4_52 (Or.inl rfl) rfl dX4_begin_60)) (so_leaf (so_aload_n dX4_begin_63 rfl)))) (so_node (so_leaf (so_iconst dX4_begin_64 (by decide))) (so_node (so_leaf (so_pI (by decide) (by decide) wC4 wf_RX4_55 (Or.inl rfl) rfl dX4_begin_65)) (so_leaf (so_aload_n dX4_begin_68 rfl))))) (so_node (so_node (so_leaf (so_iconst dX4_begin_69 (by decide))) (so_node (so_leaf (so_pI (by decide) (by decide) wC4 wf_RX4_58 (Or.inl rfl) rfl dX4_begin_70)) (so_leaf (so_aload_n dX4_begin_73 rfl)))) (so_node (so_leaf (so_iconst dX4_begin_74 (by decide))) (so_node (so_leaf (so_pI (by decide) (by decide) wC4 wf_RX4_61 (Or.inl rfl) rfl dX4_begin_75)) (so_leaf (so_vret dX4_begin_78 rfl))))))))
theorem pX4_begin : ∀ pc, Pr (kX4_begin pc) := (pr_node (pr_node (pr_node (pr_node (pr_node (pr_leaf (pr_al _ _)) (pr_leaf (pr_al _ _))) (pr_node (pr_leaf (pr_gR _ _ _)) (pr_node (pr_leaf (pr_ic _ _)) (pr_leaf (pr_iald _))))) (pr_node (pr_node (pr_leaf (pr_pI _ _ _)) (pr_node (pr_leaf (pr_al _ _)) (pr_leaf (pr_ic _ _)))) (pr_node (pr_leaf (pr_pZ _ _ _)) (pr_node (pr_leaf (pr_al _ _)) (pr_leaf (pr_al _ _)))))) (pr_node (pr_node (pr_node (pr_leaf (pr_gR _ _ _)) (pr_node (pr_leaf (pr_ic _ _)) (pr_leaf (pr_iald _)))) (pr_node (pr_leaf (pr_pI _ _ _)) (pr_node (pr_leaf (pr_al _ _)) (pr_leaf (pr_ic _ _))))) (pr_node (pr_node (pr_leaf (pr_pZ _ _ _)) (pr_node (pr_leaf (pr_al _ _)) (pr_leaf (pr_ic _ _)))) (pr_node (pr_leaf (pr_pI _ _ _)) (pr_node (pr_leaf (pr_al _ _)) (pr_leaf (pr_ic _ _))))))) (pr_node (pr_node (pr_node (pr_node (pr_leaf (pr_pI _ _ _)) (pr_node (pr_leaf (pr_al _ _)) (pr_leaf (pr_ic _ _)))) (pr_node (pr_leaf (pr_pI _ _ _)) (pr_node (pr_leaf (pr_al _ _)) (pr_leaf (pr_ic _ _))))) (pr_node (pr_node (pr_leaf (pr_pI _ _ _)) (pr_node (pr_leaf (pr_al _ _)) (pr_leaf (pr_gR _ _ _)))) (pr_node (pr_leaf (pr_ic _ _)) (pr_node (pr_leaf (pr_ist _ _ GJ7_fill_53178 _)) (pr_leaf (pr_al _ _)))))) (pr_node (pr_node (pr_node (pr_leaf (pr_ic _ _)) (pr_node (pr_leaf (pr_pI _ _ _)) (pr_leaf (pr_al _ _)))) (pr_node (pr_leaf (pr_ic _ _)) (pr_node (pr_leaf (pr_pI _ _ _)) (pr_leaf (pr_al _ _))))) (pr_node (pr_node (pr_leaf (pr_ic _ _)) (pr_node (pr_leaf (pr_pI _ _ _)) (pr_leaf (pr_al _ _)))) (pr_node (pr_leaf (pr_ic _ _)) (pr_node (pr_leaf (pr_pI _ _ _)) (pr_leaf (pr_vret))))))))
noncomputable def FX4_begin : List EV → Hp → Option (RV × Hp) := Fm kX4_begin 2
theorem CX4_begin : Con yX4_begin cX4_begin 2 none 1 23 FX4_begin := con_of (own := RX4) rfl (by decide +kernel) sX4_begin pX4_begin (fun z => by cases z)
theorem GX4_begin : Gr FX4_begin := Gr_Fm pX4_begin 2
theorem dX4_copyFrom_0 : decode cX4_copyFrom 0 = .ok (.aload_n 0, 1) := by decide +kernel
theorem dX4_copyFrom_1 : decode cX4_copyFrom 1 = .ok (.aload_n 1, 1) := by decide +kernel
theorem dX4_copyFrom_2 : decode cX4_copyFrom 2 = .ok (.getfield 20, 3) := by decide +kernel
theorem dX4_copyFrom_5 : decode cX4_copyFrom 5 = .ok (.putfield 20, 3) := by decide +kernel
theorem dX4_copyFrom_8 : decode cX4_copyFrom 8 = .ok (.aload_n 0, 1) := by decide +kernel
theorem dX4_copyFrom_9 : decode cX4_copyFrom 9 = .ok (.aload_n 1, 1) := by decide +kernel
theorem dX4_copyFrom_10 : decode cX4_copyFrom 10 = .ok (.getfield 24, 3) := by decide +kernel
theorem dX4_copyFrom_13 : decode cX4_copyFrom 13 = .ok (.putfield 24, 3) := by decide +kernel
theorem dX4_copyFrom_16 : decode cX4_copyFrom 16 = .ok (.aload_n 0, 1) := by decide +kernel
theorem dX4_copyFrom_17 : decode cX4_copyFrom 17 = .ok (.aload_n 1, 1) := by decide +kernel
theorem dX4_copyFrom_18 : decode cX4_copyFrom 18 = .ok (.getfield 28, 3) := by decide +kernel
theorem dX4_copyFrom_21 : decode cX4_copyFrom 21 = .ok (.putfield 28, 3) := by decide +kernel
theorem dX4_copyFrom_24 : decode cX4_copyFrom 24 = .ok (.aload_n 0, 1) := by decide +kernel
theorem dX4_copyFrom_25 : decode cX4_copyFrom 25 = .ok (.aload_n 1, 1) := by decide +kernel
theorem dX4_copyFrom_26 : decode cX4_copyFrom 26 = .ok (.getfield 31, 3) := by decide +kernel
theorem dX4_copyFrom_29 : decode cX4_copyFrom 29 = .ok (.putfield 31, 3) := by decide +kernel
theorem dX4_copyFrom_32 : decode cX4_copyFrom 32 = .ok (.aload_n 0, 1) := by decide +kernel
theorem dX4_copyFrom_33 : decode cX4_copyFrom 33 = .ok (.aload_n 1, 1) := by decide +kernel
theorem dX4_copyFrom_34 : decode cX4_copyFrom 34 = .ok (.getfield 34, 3) := by decide +kernel
theorem dX4_copyFrom_37 : decode cX4_copyFrom 37 = .ok (.putfield 34, 3) := by decide +kernel
theorem dX4_copyFrom_40 : decode cX4_copyFrom 40 = .ok (.aload_n 0, 1) := by decide +kernel
theorem dX4_copyFrom_41 : decode cX4_copyFrom 41 = .ok (.aload_n 1, 1) := by decide +kernel
theorem dX4_copyFrom_42 : decode cX4_copyFrom 42 = .ok (.getfield 37, 3) := by decide +kernel
theorem dX4_copyFrom_45 : decode cX4_copyFrom 45 = .ok (.putfield 37, 3) := by decide +kernel
theorem dX4_copyFrom_48 : decode cX4_copyFrom 48 = .ok (.aload_n 0, 1) := by decide +kernel
theorem dX4_copyFrom_49 : decode cX4_copyFrom 49 = .ok (.aload_n 1, 1) := by decide +kernel
theorem dX4_copyFrom_50 : decode cX4_copyFrom 50 = .ok (.getfield 40, 3) := by decide +kernel
theorem dX4_copyFrom_53 : decode cX4_copyFrom 53 = .ok (.putfield 40, 3) := by decide +kernel
theorem dX4_copyFrom_56 : decode cX4_copyFrom 56 = .ok (.aload_n 0, 1) := by decide +kernel
theorem dX4_copyFrom_57 : decode cX4_copyFrom 57 = .ok (.aload_n 1, 1) := by decide +kernel
theorem dX4_copyFrom_58 : decode cX4_copyFrom 58 = .ok (.getfield 43, 3) := by decide +kernel
theorem dX4_copyFrom_61 : decode cX4_copyFrom 61 = .ok (.putfield 43, 3) := by decide +kernel
theorem dX4_copyFrom_64 : decode cX4_copyFrom 64 = .ok (.aload_n 1, 1) := by decide +kernel
theorem dX4_copyFrom_65 : decode cX4_copyFrom 65 = .ok (.getfield 9, 3) := by decide +kernel
theorem dX4_copyFrom_68 : decode cX4_copyFrom 68 = .ok (.iconst 0, 1) := by decide +kernel
theorem dX4_copyFrom_69 : decode cX4_copyFrom 69 = .ok (.aload_n 0, 1) := by decide +kernel
theorem dX4_copyFrom_70 : decode cX4_copyFrom 70 = .ok (.getfield 9, 3) := by decide +kernel
theorem dX4_copyFrom_73 : decode cX4_copyFrom 73 = .ok (.iconst 0, 1) := by decide +kernel
theorem dX4_copyFrom_74 : decode cX4_copyFrom 74 = .ok (.iconst 5, 1) := by decide +kernel
theorem dX4_copyFrom_75 : decode cX4_copyFrom 75 = .ok (.invokestatic 64, 3) := by decide +kernel
theorem dX4_copyFrom_78 : decode cX4_copyFrom 78 = .ok (.aload_n 0, 1) := by decide +kernel
theorem dX4_copyFrom_79 : decode cX4_copyFrom 79 = .ok (.aload_n 1, 1) := by decide +kernel
theorem dX4_copyFrom_80 : decode cX4_copyFrom 80 = .ok (.getfield 52, 3) := by decide +kernel
theorem dX4_copyFrom_83 : decode cX4_copyFrom 83 = .ok (.putfield 52, 3) := by decide +kernel
theorem dX4_copyFrom_86 : decode cX4_copyFrom 86 = .ok (.aload_n 0, 1) := by decide +kernel
theorem dX4_copyFrom_87 : decode cX4_copyFrom 87 = .ok (.aload_n 1, 1) := by decide +kernel
theorem dX4_copyFrom_88 : decode cX4_copyFrom 88 = .ok (.getfield 55, 3) := by decide +kernel
theorem dX4_copyFrom_91 : decode cX4_copyFrom 91 = .ok (.putfield 55, 3) := by decide +kernel
theorem dX4_copyFrom_94 : decode cX4_copyFrom 94 = .ok (.aload_n 0, 1) := by decide +kernel
theorem dX4_copyFrom_95 : decode cX4_copyFrom 95 = .ok (.aload_n 1, 1) := by decide +kernel
theorem dX4_copyFrom_96 : decode cX4_copyFrom 96 = .ok (.getfield 58, 3) := by decide +kernel
theorem dX4_copyFrom_99 : decode cX4_copyFrom 99 = .ok (.putfield 58, 3) := by decide +kernel
theorem dX4_copyFrom_102 : decode cX4_copyFrom 102 = .ok (.aload_n 0, 1) := by decide +kernel
theorem dX4_copyFrom_103 : decode cX4_copyFrom 103 = .ok (.aload_n 1, 1) := by decide +kernel
theorem dX4_copyFrom_104 : decode cX4_copyFrom 104 = .ok (.getfield 61, 3) := by decide +kernel
theorem dX4_copyFrom_107 : decode cX4_copyFrom 107 = .ok (.putfield 61, 3) := by decide +kernel
theorem dX4_copyFrom_110 : decode cX4_copyFrom 110 = .ok (.return_, 1) := by decide +kernel
noncomputable def kX4_copyFrom : Nat → Op := (nodeC 53 (nodeC 25 (nodeC 10 (nodeC 2 (nodeC 0 (leafC 0 (o_al 0 1)) (nodeC 1 (leafC 1 (o_al 1 2)) (leafC 2 (o_gI 4 0 5)))) (nodeC 8 (nodeC 5 (leafC 5 (o_pI 4 0 8)) (leafC 8 (o_al 0 9))) (nodeC 9 (leafC 9 (o_al 1 10)) (leafC 10 (o_gI 4 1 13))))) (nodeC 17 (nodeC 13 (leafC 13 (o_pZ 4 1 16)) (nodeC 16 (leafC 16 (o_al 0 17)) (leafC 17 (o_al 1 18)))) (nodeC 21 (nodeC 18 (leafC 18 (o_gI 4 2 21)) (leafC 21 (o_pI 4 2 24))) (nodeC 24 (leafC 24 (o_al 0 25)) (leafC 25 (o_al 1 26)))))) (nodeC 40 (nodeC 32 (nodeC 26 (leafC 26 (o_gI 4 3 29)) (nodeC 29 (leafC 29 (o_pZ 4 3 32)) (leafC 32 (o_al 0 33)))) (nodeC 34 (nodeC 33 (leafC 33 (o_al 1 34)) (leafC 34 (o_gI 4 4 37))) (nodeC 37 (leafC 37 (o_pI 4 4 40)) (leafC 40 (o_al 0 41))))) (nodeC 45 (nodeC 41 (leafC 41 (o_al 1 42)) (nodeC 42 (leafC 42 (o_gI 4 5 45)) (leafC 45 (o_pI 4 5 48)))) (nodeC 49 (nodeC 48 (leafC 48 (o_al 0 49)) (leafC 49 (o_al 1 50))) (nodeC 50 (leafC 50 (o_gI 4 6 53)) (leafC 53 (o_pI 4 6 56))))))) (nodeC 79 (nodeC 68 (nodeC 58 (nodeC 56 (leafC 56 (o_al 0 57)) (nodeC 57 (leafC 57 (o_al 1 58)) (leafC 58 (o_gI 4 7 61)))) (nodeC 64 (nodeC 61 (leafC 61 (o_pI 4 7 64)) (leafC 64 (o_al 1 65))) (nodeC 65 (leafC 65 (o_gR 4 8 68)) (leafC 68 (o_ic (0) 69))))) (nodeC 73 (nodeC 69 (leafC 69 (o_al 0 70)) (nodeC 70 (leafC 70 (o_gR 4 8 73)) (leafC 73 (o_ic (0) 74)))) (nodeC 75 (nodeC 74 (leafC 74 (o_ic (5) 75)) (leafC 75 (o_acopy 78))) (nodeC 78 (leafC 78 (o_al 0 79)) (leafC 79 (o_al 1 80)))))) (nodeC 94 (nodeC 86 (nodeC 80 (leafC 80 (o_gI 4 9 83)) (nodeC 83 (leafC 83 (o_pI 4 9 86)) (leafC 86 (o_al 0 87)))) (nodeC 88 (nodeC 87 (leafC 87 (o_al 1 88)) (leafC 88 (o_gI 4 10 91))) (nodeC 91 (leafC 91 (o_pI 4 10 94)) (leafC 94 (o_al 0 95))))) (nodeC 102 (nodeC 96 (nodeC 95 (leafC 95 (o_al 1 96)) (leafC 96 (o_gI 4 11 99))) (nodeC 99 (leafC 99 (o_pI 4 11 102)) (leafC 102 (o_al 0 103)))) (nodeC 104 (nodeC 103 (leafC 103 (o_al 1 104)) (leafC 104 (o_gI 4 12 107))) (nodeC 107 (leafC 107 (o_pI 4 12 110)) (leafC 110 (o_vret))))))))
theorem sX4_copyFrom : ∀ pc, SoundOp cX4_copyFrom RX4 2 none false 1 60 pc (kX4_copyFrom pc) := (so_node (so_node (so_node (so_node (so_node (so_leaf (so_aload_n dX4_copyFrom_0 rfl)) (so_node (so_leaf (so_aload_n dX4_copyFrom_1 rfl)) (so_leaf (so_gI (by decide) (by decide) wC4 wf_RX4_20 (fun _ _ _ => rfl) dX4_copyFrom_2)))) (so_node (so_node (so_leaf (so_pI (by decide) (by decide) wC4 wf_RX4_20 (Or.inl rfl) rfl dX4_copyFrom_5)) (so_leaf (so_aload_n dX4_copyFrom_8 rfl))) (so_node (so_leaf (so_aload_n dX4_copyFrom_9 rfl)) (so_leaf (so_gI (by decide) (by decide) wC4 wf_RX4_24 (fun _ _ _ => rfl) dX4_copyFrom_10))))) (so_node (so_node (so_leaf (so_pZ (by decide) (by decide) wC4 wf_RX4_24 (Or.inl rfl) rfl dX4_copyFrom_13)) (so_node (so_leaf (so_aload_n dX4_copyFrom_16 rfl)) (so_leaf (so_aload_n dX4_copyFrom_17 rfl)))) (so_node (so_node (so_leaf (so_gI (by decide) (by decide) wC4 wf_RX4_28 (fun _ _ _ => rfl) dX4_copyFrom_18)) (so_leaf (so_pI (by decide) (by decide) wC4 wf_RX4_28 (Or.inl rfl) rfl dX4_copyFrom_21))) (so_node (so_leaf (so_aload_n dX4_copyFrom_24 rfl)) (so_leaf (so_aload_n dX4_copyFrom_25 rfl)))))) (so_node (so_node (so_node (so_leaf (so_gI (by decide) (by decide) wC4 wf_RX4_31 (fun _ _ _ => rfl) dX4_copyFrom_26)) (so_node (so_leaf (so_pZ (by decide) (by decide) wC4 wf_RX4_31 (Or.inl rfl) rfl dX4_copyFrom_29)) (so_leaf (so_aload_n dX4_copyFrom_32 rfl)))) (so_node (so_node (so_leaf (so_aload_n dX4_copyFrom_33 rfl)) (so_leaf (so_gI (by decide) (by decide) wC4 wf_RX4_34 (fun _ _ _ => rfl) dX4_copyFrom_34))) (so_node (so_leaf (so_pI (by decide) (by decide) wC4 wf_RX4_34 (Or.inl rfl) rfl dX4_copyFrom_37)) (so_leaf (so_aload_n dX4_copyFrom_40 rfl))))) (so_node (so_node (so_leaf (so_aload_n dX4_copyFrom_41 rfl)) (so_node (so_leaf (so_gI (by decide) (by decide) wC4 wf_RX4_37 (fun _ _ _ => rfl) dX4_copyFrom_42)) (so_leaf (so_pI (by decide) (by decide) wC4 wf_RX4_37 (Or.inl rfl) rfl dX4_copyFrom_45)))) (so_node (so_node (so_leaf (so_aload_n dX4_copyFrom_48 rfl)) (so_leaf (so_aload_n dX4_copyFrom_49 rfl))) (so_node (so_leaf (so_gI (by decide) (by decide) wC4 wf_RX4_40 (fun _ _ _ => rfl) dX4_copyFrom_50)) (so_leaf (so_pI (by decide) (by decide) wC4 wf_RX4_40 (Or.inl rfl) rfl dX4_copyFrom_53))))))) (so_node (so_node (so_node (so_node (so_leaf (so_aload_n dX4_copyFrom_56 rfl)) (so_node (so_leaf (so_aload_n dX4_copyFrom_57 rfl)) (so_leaf (so_gI (by decide) (by decide) wC4 wf_RX4_43 (fun _ _ _ => rfl) dX4_copyFrom_58)))) (so_node (so_node (so_leaf (so_pI (by decide) (by decide) wC4 wf_RX4_43 (Or.inl rfl) rfl dX4_copyFrom_61)) (so_leaf (so_aload_n dX4_copyFrom_64 rfl))) (so_node (so_leaf (so_gR (by decide) (by decide) wC4 wf_RX4_9 (fun _ _ _ => rfl) dX4_copyFrom_65)) (so_leaf (so_iconst dX4_copyFrom_68 (by decide)))))) (so_node (so_node (so_leaf (so_aload_n dX4_copyFrom_69 rfl)) (so_node (so_leaf (so_gR (by decide) (by decide) wC4 wf_RX4_9 (fun _ _ _ => rfl) dX4_copyFrom_70)) (so_leaf (so_iconst dX4_copyFrom_73 (by decide))))) (so_node (so_node (so_leaf (so_iconst dX4_copyFrom_74 (by decide))) (so_leaf (so_acopy wm_RX4_64 wac1 wac2 wac3 (by decide) (by decide) dX4_copyFrom_75))) (so_node (so_leaf (so_aload_n dX4_copyFrom_78 rfl)) (so_leaf (so_aload_n dX4_copyFrom_79 rfl)))))) (so_node (so_node (so_node (so_leaf (so_gI (by decide) (by decide) wC4 wf_RX4_52 (fun _ _ _ => rfl) dX4_copyFrom_80)) (so_node (so_leaf (so_pI (by decide) (by decide) wC4 wf_RX4_52 (Or.inl rfl) rfl dX4_copyFrom_83)) (so_leaf (so_aload_n dX4_copyFrom_86 rfl)))) (so_node (so_node (so_leaf (so_aload_n dX4_copyFrom_87 rfl)) (so_leaf (so_gI (by decide) (by decide) wC4 wf_RX4_55 (fun _ _ _ => rfl) dX4_copyFrom_88))) (so_node (so_leaf (so_pI (by decide) (by decide) wC4 wf_RX4_55 (Or.inl rfl) rfl dX4_copyFrom_91)) (so_leaf (so_aload_n dX4_copyFrom_94 rfl))))) (so_node (so_node (so_node (so_leaf (so_aload_n dX4_copyFrom_95 rfl)) (so_leaf (so_gI (by decide) (by decide) wC4 wf_RX4_58 (fun _ _ _ => rfl) dX4_copyFrom_96))) (so_node (so_leaf (so_pI (by decide) (by decide) wC4 wf_RX4_58 (Or.inl rfl) rfl dX4_copyFrom_99)) (so_leaf (so_aload_n dX4_copyFrom_102 rfl)))) (so_node (so_node (so_leaf (so_aload_n dX4_copyFrom_103 rfl)) (so_leaf (so_gI (by decide) (by decide) wC4 wf_RX4_61 (fun _ _ _ => rfl) dX4_copyFrom_104))) (so_node (so_leaf (so_pI (by decide) (by decide) wC4 wf_RX4_61 (Or.inl rfl) rfl dX4_copyFrom_107)) (so_leaf (so_vret dX4_copyFrom_110 rfl))))))))
theorem pX4_copyFrom : ∀ pc, Pr (kX4_copyFrom pc) := (pr_node (pr_node (pr_node (pr_node (pr_node (pr_leaf (pr_al _ _)) (pr_node (pr_leaf (pr_al _ _)) (pr_leaf (pr_gI _ _ _)))) (pr_node (pr_node (pr_leaf (pr_pI _ _ _)) (pr_leaf (pr_al _ _))) (pr_node (pr_leaf (pr_al _ _)) (pr_leaf (pr_gI _ _ _))))) (pr_node (pr_node (pr_leaf (pr_pZ _ _ _)) (pr_node (pr_leaf (pr_al _ _)) (pr_leaf (pr_al _ _)))) (pr_node (pr_node (pr_leaf (pr_gI _ _ _)) (pr_leaf (pr_pI _ _ _))) (pr_node (pr_leaf (pr_al _ _)) (pr_leaf (pr_al _ _)))))) (pr_node (pr_node (pr_node (pr_leaf (pr_gI _ _ _)) (pr_node (pr_leaf (pr_pZ _ _ _)) (pr_leaf (pr_al _ _)))) (pr_node (pr_node (pr_leaf (pr_al _ _)) (pr_leaf (pr_gI _ _ _))) (pr_node (pr_leaf (pr_pI _ _ _)) (pr_leaf (pr_al _ _))))) (pr_node (pr_node (pr_leaf (pr_al _ _)) (pr_node (pr_leaf (pr_gI _ _ _)) (pr_leaf (pr_pI _ _ _)))) (pr_node (pr_node (pr_leaf (pr_al _ _)) (pr_leaf (pr_al _ _))) (pr_node (pr_leaf (pr_gI _ _ _)) (pr_leaf (pr_pI _ _ _))))))) (pr_node (pr_node (pr_node (pr_node (pr_leaf (pr_al _ _)) (pr_node (pr_leaf (pr_al _ _)) (pr_leaf (pr_gI _ _ _)))) (pr_node (pr_node (pr_leaf (pr_pI _ _ _)) (pr_leaf (pr_al _ _))) (pr_node (pr_leaf (pr_gR _ _ _)) (pr_leaf (pr_ic _ _))))) (pr_node (pr_node (pr_leaf (pr_al _ _)) (pr_node (pr_leaf (pr_gR _ _ _)) (pr_leaf (pr_ic _ _)))) (pr_node (pr_node (pr_leaf (pr_ic _ _)) (pr_leaf (pr_acopy _))) (pr_node (pr_leaf (pr_al _ _)) (pr_leaf (pr_al _ _)))))) (pr_node (pr_node (pr_node (pr_leaf (pr_gI _ _ _)) (pr_node (pr_leaf (pr_pI _ _ _)) (pr_leaf (pr_al _ _)))) (pr_node (pr_node (pr_leaf (pr_al _ _)) (pr_leaf (pr_gI _ _ _))) (pr_node (pr_leaf (pr_pI _ _ _)) (pr_leaf (pr_al _ _))))) (pr_node (pr_node (pr_node (pr_leaf (pr_al _ _)) (pr_leaf (pr_gI _ _ _))) (pr_node (pr_leaf (pr_pI _ _ _)) (pr_leaf (pr_al _ _)))) (pr_node (pr_node (pr_leaf (pr_al _ _)) (pr_leaf (pr_gI _ _ _))) (pr_node (pr_leaf (pr_pI _ _ _)) (pr_leaf (pr_vret))))))))
noncomputable def FX4_copyFrom : List EV → Hp → Option (RV × Hp) := Fm kX4_copyFrom 2
theorem CX4_copyFrom : Con yX4_copyFrom cX4_copyFrom 2 none 1 60 FX4_copyFrom := con_of (own := RX4) rfl (by decide +kernel) sX4_copyFrom pX4_copyFrom (fun z => by cases z)
theorem GX4_copyFrom : Gr FX4_copyFrom := Gr_Fm pX4_copyFrom 2
theorem dX4_addBolt_0 : decode cX4_addBolt 0 = .ok (.aload_n 0, 1) := by decide +kernel
theorem dX4_addBolt_1 : decode cX4_addBolt 1 = .ok (.iload_n 1, 1) := by decide +kernel
theorem dX4_addBolt_2 : decode cX4_addBolt 2 = .ok (.putfield 61, 3) := by decide +kernel
theorem dX4_addBolt_5 : decode cX4_addBolt 5 = .ok (.aload_n 0, 1) := by decide +kernel
theorem dX4_addBolt_6 : decode cX4_addBolt 6 = .ok (.dup, 1) := by decide +kernel
theorem dX4_addBolt_7 : decode cX4_addBolt 7 = .ok (.getfield 20, 3) := by decide +kernel
theorem dX4_addBolt_10 : decode cX4_addBolt 10 = .ok (.iload_n 1, 1) := by decide +kernel
theorem dX4_addBolt_11 : decode cX4_addBolt 11 = .ok (.isub, 1) := by decide +kernel
theorem dX4_addBolt_12 : decode cX4_addBolt 12 = .ok (.putfield 20, 3) := by decide +kernel
theorem dX4_addBolt_15 : decode cX4_addBolt 15 = .ok (.aload_n 0, 1) := by decide +kernel
theorem dX4_addBolt_16 : decode cX4_addBolt 16 = .ok (.dup, 1) := by decide +kernel
theorem dX4_addBolt_17 : decode cX4_addBolt 17 = .ok (.getfield 37, 3) := by decide +kernel
theorem dX4_addBolt_20 : decode cX4_addBolt 20 = .ok (.iconst 1, 1) := by decide +kernel
theorem dX4_addBolt_21 : decode cX4_addBolt 21 = .ok (.iadd, 1) := by decide +kernel
theorem dX4_addBolt_22 : decode cX4_addBolt 22 = .ok (.putfield 37, 3) := by decide +kernel
theorem dX4_addBolt_25 : decode cX4_addBolt 25 = .ok (.aload_n 0, 1) := by decide +kernel
theorem dX4_addBolt_26 : decode cX4_addBolt 26 = .ok (.dup, 1) := by decide +kernel
theorem dX4_addBolt_27 : decode cX4_addBolt 27 = .ok (.getfield 55, 3) := by decide +kernel
theorem dX4_addBolt_30 : decode cX4_addBolt 30 = .ok (.iconst 1, 1) := by decide +kernel
theorem dX4_addBolt_31 : decode cX4_addBolt 31 = .ok (.iadd, 1) := by decide +kernel
theorem dX4_addBolt_32 : decode cX4_addBolt 32 = .ok (.putfield 55, 3) := by decide +kernel
theorem dX4_addBolt_35 : decode cX4_addBolt 35 = .ok (.aload_n 0, 1) := by decide +kernel
theorem dX4_addBolt_36 : decode cX4_addBolt 36 = .ok (.getfield 31, 3) := by decide +kernel
theorem dX4_addBolt_39 : decode cX4_addBolt 39 = .ok (.ifCond .ne 13, 3) := by decide +kernel
theorem dX4_addBolt_42 : decode cX4_addBolt 42 = .ok (.aload_n 0, 1) := by decide +kernel
theorem dX4_addBolt_43 : decode cX4_addBolt 43 = .ok (.dup, 1) := by decide +kernel
theorem dX4_addBolt_44 : decode cX4_addBolt 44 = .ok (.getfield 28, 3) := by decide +kernel
theorem dX4_addBolt_47 : decode cX4_addBolt 47 = .ok (.iconst 1, 1) := by decide +kernel
theorem dX4_addBolt_48 : decode cX4_addBolt 48 = .ok (.iadd, 1) := by decide +kernel
theorem dX4_addBolt_49 : decode cX4_addBolt 49 = .ok (.putfield 28, 3) := by decide +kernel
theorem dX4_addBolt_52 : decode cX4_addBolt 52 = .ok (.return_, 1) := by decide +kernel
noncomputable def kX4_addBolt : Nat → Op := (nodeC 22 (nodeC 10 (nodeC 2 (nodeC 0 (leafC 0 (o_al 0 1)) (nodeC 1 (leafC 1 (o_il 1 2)) (leafC 2 (o_pI 4 12 5)))) (nodeC 6 (nodeC 5 (leafC 5 (o_al 0 6)) (leafC 6 (o_dupR 7))) (nodeC 7 (leafC 7 (o_gI 4 0 10)) (leafC 10 (o_il 1 11))))) (nodeC 16 (nodeC 12 (nodeC 11 (leafC 11 (o_isub 12)) (leafC 12 (o_pI 4 0 15))) (nodeC 15 (leafC 15 (o_al 0 16)) (leafC 16 (o_dupR 17)))) (nodeC 20 (nodeC 17 (leafC 17 (o_gI 4 5 20)) (leafC 20 (o_ic (1) 21))) (nodeC 21 (leafC 21 (o_iadd 22)) (leafC 22 (o_pI 4 5 25)))))) (nodeC 36 (nodeC 30 (nodeC 26 (nodeC 25 (leafC 25 (o_al 0 26)) (leafC 26 (o_dupR 27))) (nodeC 27 (leafC 27 (o_gI 4 10 30)) (leafC 30 (o_ic (1) 31)))) (nodeC 32 (nodeC 31 (leafC 31 (o_iadd 32)) (leafC 32 (o_pI 4 10 35))) (nodeC 35 (leafC 35 (o_al 0 36)) (leafC 36 (o_gI 4 3 39))))) (nodeC 44 (nodeC 42 (nodeC 39 (leafC 39 (o_zne 52 42)) (leafC 42 (o_al 0 43))) (nodeC 43 (leafC 43 (o_dupR 44)) (leafC 44 (o_gI 4 2 47)))) (nodeC 48 (nodeC 47 (leafC 47 (o_ic (1) 48)) (leafC 48 (o_iadd 49))) (nodeC 49 (leafC 49 (o_pI 4 2 52)) (leafC 52 (o_vret)))))))
theorem sX4_addBolt : ∀ pc, SoundOp cX4_addBolt RX4 2 none false 0 0 pc (kX4_addBolt pc) := (so_node (so_node (so_node (so_node (so_leaf (so_aload_n dX4_addBolt_0 rfl)) (so_node (so_leaf (so_iload_n dX4_addBolt_1 rfl)) (so_leaf (so_pI (by decide) (by decide) wC4 wf_RX4_61 (Or.inl rfl) rfl dX4_addBolt_2)))) (so_node (so_node (so_leaf (so_aload_n dX4_addBolt_5 rfl)) (so_leaf (so_dupR dX4_addBolt_6))) (so_node (so_leaf (so_gI (by decide) (by decide) wC4 wf_RX4_20 (fun _ _ _ => rfl) dX4_addBolt_7)) (so_leaf (so_iload_n dX4_addBolt_10 rfl))))) (so_node (so_node (so_node (so_leaf (so_isub dX4_addBolt_11)) (so_leaf (so_pI (by decide) (by decide) wC4 wf_RX4_20 (Or.inl rfl) rfl dX4_addBolt_12))) (so_node (so_leaf (so_aload_n dX4_addBolt_15 rfl)) (so_leaf (so_dupR dX4_addBolt_16)))) (so_node (so_node (so_leaf (so_gI (by decide) (by decide) wC4 wf_RX4_37 (fun _ _ _ => rfl) dX4_addBolt_17)) (so_leaf (so_iconst dX4_addBolt_20 (by decide)))) (so_node (so_leaf (so_iadd dX4_addBolt_21)) (so_leaf (so_pI (by decide) (by decide) wC4 wf_RX4_37 (Or.inl rfl) rfl dX4_addBolt_22)))))) (so_node (so_node (so_node (so_node (so_leaf (so_aload_n dX4_addBolt_25 rfl)) (so_leaf (so_dupR dX4_addBolt_26))) (so_node (so_leaf (so_gI (by decide) (by decide) wC4 wf_RX4_55 (fun _ _ _ => rfl) dX4_addBolt_27)) (so_leaf (so_iconst dX4_addBolt_30 (by decide))))) (so_node (so_node (so_leaf (so_iadd dX4_addBolt_31)) (so_leaf (so_pI (by decide) (by decide) wC4 wf_RX4_55 (Or.inl rfl) rfl dX4_addBolt_32))) (so_node (so_leaf (so_aload_n dX4_addBolt_35 rfl)) (so_leaf (so_gI (by decide) (by decide) wC4 wf_RX4_31 (fun _ _ _ => rfl) dX4_addBolt_36))))) (so_node (so_node (so_node (so_leaf (so_zne dX4_addBolt_39 (by decide))) (so_leaf (so_aload_n dX4_addBolt_42 rfl))) (so_node (so_leaf (so_dupR dX4_addBolt_43)) (so_leaf (so_gI (by decide) (by decide) wC4 wf_RX4_28 (fun _ _ _ => rfl) dX4_addBolt_44)))) (so_node (so_node (so_leaf (so_iconst dX4_addBolt_47 (by decide))) (so_leaf (so_iadd dX4_addBolt_48))) (so_node (so_leaf (so_pI (by decide) (by decide) wC4 wf_RX4_28 (Or.inl rfl) rfl dX4_addBolt_49)) (so_leaf (so_vret dX4_addBolt_52 rfl)))))))
theorem pX4_addBolt : ∀ pc, Pr (kX4_addBolt pc) := (pr_node (pr_node (pr_node (pr_node (pr_leaf (pr_al _ _)) (pr_node (pr_leaf (pr_il _ _)) (pr_leaf (pr_pI _ _ _)))) (pr_node (pr_node (pr_leaf (pr_al _ _)) (pr_leaf (pr_dupR _))) (pr_node (pr_leaf (pr_gI _ _ _)) (pr_leaf (pr_il _ _))))) (pr_node (pr_node (pr_node (pr_leaf (pr_isub _)) (pr_leaf (pr_pI _ _ _))) (pr_node (pr_leaf (pr_al _ _)) (pr_leaf (pr_dupR _)))) (pr_node (pr_node (pr_leaf (pr_gI _ _ _)) (pr_leaf (pr_ic _ _))) (pr_node (pr_leaf (pr_iadd _)) (pr_leaf (pr_pI _ _ _)))))) (pr_node (pr_node (pr_node (pr_node (pr_leaf (pr_al _ _)) (pr_leaf (pr_dupR _))) (pr_node (pr_leaf (pr_gI _ _ _)) (pr_leaf (pr_ic _ _)))) (pr_node (pr_node (pr_leaf (pr_iadd _)) (pr_leaf (pr_pI _ _ _))) (pr_node (pr_leaf (pr_al _ _)) (pr_leaf (pr_gI _ _ _))))) (pr_node (pr_node (pr_node (pr_leaf (pr_zne _ _)) (pr_leaf (pr_al _ _))) (pr_node (pr_leaf (pr_dupR _)) (pr_leaf (pr_gI _ _ _)))) (pr_node (pr_node (pr_leaf (pr_ic _ _)) (pr_leaf (pr_iadd _))) (pr_node (pr_leaf (pr_pI _ _ _)) (pr_leaf (pr_vret)))))))
noncomputable def FX4_addBolt : List EV → Hp → Option (RV × Hp) := Fm kX4_addBolt 2
theorem CX4_addBolt : Con yX4_addBolt cX4_addBolt 2 none 0 0 FX4_addBolt := con_of (own := RX4) rfl (by decide +kernel) sX4_addBolt pX4_addBolt (fun z => by cases z)
theorem GX4_addBolt : Gr FX4_addBolt := Gr_Fm pX4_addBolt 2
theorem dX4_hasPaid_0 : decode cX4_hasPaid 0 = .ok (.aload_n 0, 1) := by decide +kernel
theorem dX4_hasPaid_1 : decode cX4_hasPaid 1 = .ok (.getfield 43, 3) := by decide +kernel
theorem dX4_hasPaid_4 : decode cX4_hasPaid 4 = .ok (.iload_n 1, 1) := by decide +kernel
theorem dX4_hasPaid_5 : decode cX4_hasPaid 5 = .ok (.ishr, 1) := by decide +kernel
theorem dX4_hasPaid_6 : decode cX4_hasPaid 6 = .ok (.iconst 1, 1) := by decide +kernel
theorem dX4_hasPaid_7 : decode cX4_hasPaid 7 = .ok (.iand, 1) := by decide +kernel
theorem dX4_hasPaid_8 : decode cX4_hasPaid 8 = .ok (.ifCond .eq 7, 3) := by decide +kernel
theorem dX4_hasPaid_11 : decode cX4_hasPaid 11 = .ok (.iconst 1, 1) := by decide +kernel
theorem dX4_hasPaid_12 : decode cX4_hasPaid 12 = .ok (.goto 4, 3) := by decide +kernel
theorem dX4_hasPaid_15 : decode cX4_hasPaid 15 = .ok (.iconst 0, 1) := by decide +kernel
theorem dX4_hasPaid_16 : decode cX4_hasPaid 16 = .ok (.ireturn, 1) := by decide +kernel
noncomputable def kX4_hasPaid : Nat → Op := (nodeC 6 (nodeC 1 (nodeC 0 (leafC 0 (o_al 0 1)) (leafC 1 (o_gI 4 7 4))) (nodeC 4 (leafC 4 (o_il 1 5)) (nodeC 5 (leafC 5 (o_ishr 6)) (leafC 6 (o_ic (1) 7))))) (nodeC 11 (nodeC 7 (leafC 7 (o_iand 8)) (nodeC 8 (leafC 8 (o_zeq 15 11)) (leafC 11 (o_ic (1) 12)))) (nodeC 12 (leafC 12 (o_goto 16)) (nodeC 15 (leafC 15 (o_ic (0) 16)) (leafC 16 (o_zret))))))
theorem sX4_hasPaid : ∀ pc, SoundOp cX4_hasPaid RX4 2 (some .boolean) false 0 0 pc (kX4_hasPaid pc) := (so_node (so_node (so_node (so_leaf (so_aload_n dX4_hasPaid_0 rfl)) (so_leaf (so_gI (by decide) (by decide) wC4 wf_RX4_43 (fun _ _ _ => rfl) dX4_hasPaid_1))) (so_node (so_leaf (so_iload_n dX4_hasPaid_4 rfl)) (so_node (so_leaf (so_ishr dX4_hasPaid_5)) (so_leaf (so_iconst dX4_hasPaid_6 (by decide)))))) (so_node (so_node (so_leaf (so_iand dX4_hasPaid_7)) (so_node (so_leaf (so_zeq dX4_hasPaid_8 (by decide))) (so_leaf (so_iconst dX4_hasPaid_11 (by decide))))) (so_node (so_leaf (so_goto dX4_hasPaid_12 (by decide))) (so_node (so_leaf (so_iconst dX4_hasPaid_15 (by decide))) (so_leaf (so_zret dX4_hasPaid_16 rfl))))))
theorem pX4_hasPaid : ∀ pc, Pr (kX4_hasPaid pc) := (pr_node (pr_node (pr_node (pr_leaf (pr_al _ _)) (pr_leaf (pr_gI _ _ _))) (pr_node (pr_leaf (pr_il _ _)) (pr_node (pr_leaf (pr_ishr _)) (pr_leaf (pr_ic _ _))))) (pr_node (pr_node (pr_leaf (pr_iand _)) (pr_node (pr_leaf (pr_zeq _ _)) (pr_leaf (pr_ic _ _)))) (pr_node (pr_leaf (pr_goto _)) (pr_node (pr_leaf (pr_ic _ _)) (pr_leaf (pr_zret))))))
noncomputable def FX4_hasPaid : List EV → Hp → Option (RV × Hp) := Fm kX4_hasPaid 2
theorem CX4_hasPaid : Con yX4_hasPaid cX4_hasPaid 2 (some .boolean) 0 0 FX4_hasPaid := con_of (own := RX4) rfl (by decide +kernel) sX4_hasPaid pX4_hasPaid (fun z => by cases z)
theorem GX4_hasPaid : Gr FX4_hasPaid := Gr_Fm pX4_hasPaid 2
theorem dX5_init_0 : decode cX5_init 0 = .ok (.aload_n 0, 1) := by decide +kernel
theorem dX5_init_1 : decode cX5_init 1 = .ok (.invokespecial 3, 3) := by decide +kernel
theorem dX5_init_4 : decode cX5_init 4 = .ok (.aload_n 0, 1) := by decide +kernel
theorem dX5_init_5 : decode cX5_init 5 = .ok (.bipush 41, 2) := by decide +kernel
theorem dX5_init_7 : decode cX5_init 7 = .ok (.anewarray 11, 3) := by decide +kernel
theorem dX5_init_10 : decode cX5_init 10 = .ok (.putfield 13, 3) := by decide +kernel
theorem dX5_init_13 : decode cX5_init 13 = .ok (.iconst 0, 1) := by decide +kernel
theorem dX5_init_14 : decode cX5_init 14 = .ok (.istore_n 1, 1) := by decide +kernel
theorem dX5_init_15 : decode cX5_init 15 = .ok (.iload_n 1, 1) := by decide +kernel
theorem dX5_init_16 : decode cX5_init 16 = .ok (.bipush 41, 2) := by decide +kernel
theorem dX5_init_18 : decode cX5_init 18 = .ok (.if_icmp .ge 22, 3) := by decide +kernel
theorem dX5_init_21 : decode cX5_init 21 = .ok (.aload_n 0, 1) := by decide +kernel
theorem dX5_init_22 : decode cX5_init 22 = .ok (.getfield 13, 3) := by decide +kernel
theorem dX5_init_25 : decode cX5_init 25 = .ok (.iload_n 1, 1) := by decide +kernel
theorem dX5_init_26 : decode cX5_init 26 = .ok (.new 11, 3) := by decide +kernel
theorem dX5_init_29 : decode cX5_init 29 = .ok (.dup, 1) := by decide +kernel
theorem dX5_init_30 : decode cX5_init 30 = .ok (.invokespecial 17, 3) := by decide +kernel
theorem dX5_init_33 : decode cX5_init 33 = .ok (.aastore, 1) := by decide +kernel
theorem dX5_init_34 : decode cX5_init 34 = .ok (.iinc 1 1, 3) := by decide +kernel
theorem dX5_init_37 : decode cX5_init 37 = .ok (.goto (-22), 3) := by decide +kernel
theorem dX5_init_40 : decode cX5_init 40 = .ok (.return_, 1) := by decide +kernel
noncomputable def kX5_init : Nat → Op := (nodeC 16 (nodeC 7 (nodeC 1 (nodeC 0 (leafC 0 (o_al 0 1)) (leafC 1 (o_oini 4))) (nodeC 4 (leafC 4 (o_al 0 5)) (nodeC 5 (leafC 5 (o_ic (41) 7)) (leafC 7 (o_newa 34 10))))) (nodeC 13 (nodeC 10 (leafC 10 (o_pR 5 0 13)) (leafC 13 (o_ic (0) 14))) (nodeC 14 (leafC 14 (o_is 1 15)) (nodeC 15 (leafC 15 (o_il 1 16)) (leafC 16 (o_ic (41) 18)))))) (nodeC 26 (nodeC 21 (nodeC 18 (leafC 18 (o_cge 40 21)) (leafC 21 (o_al 0 22))) (nodeC 22 (leafC 22 (o_gR 5 0 25)) (nodeC 25 (leafC 25 (o_il 1 26)) (leafC 26 (o_new 4 29))))) (nodeC 33 (nodeC 29 (leafC 29 (o_dupR 30)) (nodeC 30 (leafC 30 (o_inv 0 4 0 FX4_init 33)) (leafC 33 (o_aast 34 4 34)))) (nodeC 34 (leafC 34 (o_inc 1 (1) 37)) (nodeC 37 (leafC 37 (o_goto 15)) (leafC 40 (o_vret)))))))
theorem sX5_init : ∀ pc, SoundOp cX5_init RX5 2 none true 2 40 pc (kX5_init pc) := (so_node (so_node (so_node (so_node (so_leaf (so_aload_n dX5_init_0 rfl)) (so_leaf (so_oini wm_RX5_3 wob1 wob2 (by decide) (by decide) dX5_init_1))) (so_node (so_leaf (so_aload_n dX5_init_4 rfl)) (so_node (so_leaf (so_bipush dX5_init_5 (by decide))) (so_leaf (so_anew (c := 4) (t0 := 5) (Or.inr (Or.inl rfl)) (fun _ => rfl) wl_RX5_11 (Or.inr (Or.inl rfl)) dX5_init_7))))) (so_node (so_node (so_leaf (so_pR (by decide) (by decide) wC5 wf_RX5_13 (Or.inr ⟨rfl, rfl, rfl⟩) (Or.inr ⟨_, rfl⟩) dX5_init_10)) (so_leaf (so_iconst dX5_init_13 (by decide)))) (so_node (so_leaf (so_istore_n dX5_init_14 rfl (by decide))) (so_node (so_leaf (so_iload_n dX5_init_15 rfl)) (so_leaf (so_bipush dX5_init_16 (by decide))))))) (so_node (so_node (so_node (so_leaf (so_cge dX5_init_18 (by decide))) (so_leaf (so_aload_n dX5_init_21 rfl))) (so_node (so_leaf (so_gR (by decide) (by decide) wC5 wf_RX5_13 (fun _ _ _ => rfl) dX5_init_22)) (so_node (so_leaf (so_iload_n dX5_init_25 rfl)) (so_leaf (so_new (by decide) fd4 wC4 wl_RX5_11 wi_4 wn_4 dX5_init_26))))) (so_node (so_node (so_leaf (so_dupR dX5_init_29)) (so_node (so_leaf (so_iniN CX4_init rfl (jn := 4) (by decide) rfl rfl rfl win_X4_init wny_X4_init wc_X4_init (by decide +kernel) (by decide) (by decide) dX5_init_30)) (so_leaf (so_aast (t0 := 5) (Or.inr (Or.inl rfl)) (by decide) (fun _ => rfl) dX5_init_33)))) (so_node (so_leaf (so_iinc dX5_init_34 (by decide) (by decide))) (so_node (so_leaf (so_goto dX5_init_37 (by decide))) (so_leaf (so_vret dX5_init_40 rfl)))))))
theorem pX5_init : ∀ pc, Pr (kX5_init pc) := (pr_node (pr_node (pr_node (pr_node (pr_leaf (pr_al _ _)) (pr_leaf (pr_oini _))) (pr_node (pr_leaf (pr_al _ _)) (pr_node (pr_leaf (pr_ic _ _)) (pr_leaf (pr_newa _ _))))) (pr_node (pr_node (pr_leaf (pr_pR _ _ _)) (pr_leaf (pr_ic _ _))) (pr_node (pr_leaf (pr_is _ _)) (pr_node (pr_leaf (pr_il _ _)) (pr_leaf (pr_ic _ _)))))) (pr_node (pr_node (pr_node (pr_leaf (pr_cge _ _)) (pr_leaf (pr_al _ _))) (pr_node (pr_leaf (pr_gR _ _ _)) (pr_node (pr_leaf (pr_il _ _)) (pr_leaf (pr_new _ _))))) (pr_node (pr_node (pr_leaf (pr_dupR _)) (pr_node (pr_leaf (pr_inv _ _ _ GX4_init _)) (pr_leaf (pr_aast _ _ _)))) (pr_node (pr_leaf (pr_inc _ _ _)) (pr_node (pr_leaf (pr_goto _)) (pr_leaf (pr_vret)))))))
noncomputable def FX5_init : List EV → Hp → Option (RV × Hp) := Fm kX5_init 2
theorem CX5_init : Con yX5_init cX5_init 2 none 2 40 FX5_init := con_of (own := RX5) rfl (by decide +kernel) sX5_init pX5_init (fun _ => rfl)
theorem GX5_init : Gr FX5_init := Gr_Fm pX5_init 2
theorem dX5_forget_0 : decode cX5_forget 0 = .ok (.aload_n 0, 1) := by decide +kernel
theorem dX5_forget_1 : decode cX5_forget 1 = .ok (.iconst 0, 1) := by decide +kernel
theorem dX5_forget_2 : decode cX5_forget 2 = .ok (.putfield 18, 3) := by decide +kernel
theorem dX5_forget_5 : decode cX5_forget 5 = .ok (.return_, 1) := by decide +kernel
noncomputable def kX5_forget : Nat → Op := (nodeC 1 (nodeC 0 (leafC 0 (o_al 0 1)) (leafC 1 (o_ic (0) 2))) (nodeC 2 (leafC 2 (o_pI 5 2 5)) (leafC 5 (o_vret))))
theorem sX5_forget : ∀ pc, SoundOp cX5_forget RX5 1 none false 0 0 pc (kX5_forget pc) := (so_node (so_node (so_leaf (so_aload_n dX5_forget_0 rfl)) (so_leaf (so_iconst dX5_forget_1 (by decide)))) (so_node (so_leaf (so_pI (by decide) (by decide) wC5 wf_RX5_18 (Or.inl rfl) rfl dX5_forget_2)) (so_leaf (so_vret dX5_forget_5 rfl))))
theorem pX5_forget : ∀ pc, Pr (kX5_forget pc) := (pr_node (pr_node (pr_leaf (pr_al _ _)) (pr_leaf (pr_ic _ _))) (pr_node (pr_leaf (pr_pI _ _ _)) (pr_leaf (pr_vret))))
noncomputable def FX5_forget : List EV → Hp → Option (RV × Hp) := Fm kX5_forget 1
theorem CX5_forget : Con yX5_forget cX5_forget 1 none 0 0 FX5_forget := con_of (own := RX5) rfl (by decide +kernel) sX5_forget pX5_forget (fun z => by cases z)
theorem GX5_forget : Gr FX5_forget := Gr_Fm pX5_forget 1
theorem dX5_mark_0 : decode cX5_mark 0 = .ok (.aload_n 0, 1) := by decide +kernel
theorem dX5_mark_1 : decode cX5_mark 1 = .ok (.getfield 13, 3) := by decide +kernel
theorem dX5_mark_4 : decode cX5_mark 4 = .ok (.aload_n 0, 1) := by decide +kernel
theorem dX5_mark_5 : decode cX5_mark 5 = .ok (.getfield 22, 3) := by decide +kernel
theorem dX5_mark_8 : decode cX5_mark 8 = .ok (.aaload, 1) := by decide +kernel
theorem dX5_mark_9 : decode cX5_mark 9 = .ok (.aload_n 1, 1) := by decide +kernel
theorem dX5_mark_10 : decode cX5_mark 10 = .ok (.invokevirtual 25, 3) := by decide +kernel
theorem dX5_mark_13 : decode cX5_mark 13 = .ok (.return_, 1) := by decide +kernel
noncomputable def kX5_mark : Nat → Op := (nodeC 5 (nodeC 1 (nodeC 0 (leafC 0 (o_al 0 1)) (leafC 1 (o_gR 5 0 4))) (nodeC 4 (leafC 4 (o_al 0 5)) (leafC 5 (o_gI 5 1 8)))) (nodeC 9 (nodeC 8 (leafC 8 (o_aald 34 9)) (leafC 9 (o_al 1 10))) (nodeC 10 (leafC 10 (o_inv 1 4 0 FX4_copyFrom 13)) (leafC 13 (o_vret)))))
theorem sX5_mark : ∀ pc, SoundOp cX5_mark RX5 2 none false 2 81 pc (kX5_mark pc) := (so_node (so_node (so_node (so_leaf (so_aload_n dX5_mark_0 rfl)) (so_leaf (so_gR (by decide) (by decide) wC5 wf_RX5_13 (fun _ _ _ => rfl) dX5_mark_1))) (so_node (so_leaf (so_aload_n dX5_mark_4 rfl)) (so_leaf (so_gI (by decide) (by decide) wC5 wf_RX5_22 (fun _ _ _ => rfl) dX5_mark_5)))) (so_node (so_node (so_leaf (so_aald (t0 := 5) (Or.inr (Or.inl rfl)) (fun _ => rfl) dX5_mark_8)) (so_leaf (so_aload_n dX5_mark_9 rfl))) (so_node (so_leaf (so_inv CX4_copyFrom (by decide) rfl wm_RX5_25 win_X4_copyFrom wse_X4_copyFrom wn_4 wc_X4_copyFrom (by decide +kernel) (by decide) (by decide) dX5_mark_10)) (so_leaf (so_vret dX5_mark_13 rfl)))))
theorem pX5_mark : ∀ pc, Pr (kX5_mark pc) := (pr_node (pr_node (pr_node (pr_leaf (pr_al _ _)) (pr_leaf (pr_gR _ _ _))) (pr_node (pr_leaf (pr_al _ _)) (pr_leaf (pr_gI _ _ _)))) (pr_node (pr_node (pr_leaf (pr_aald _ _)) (pr_leaf (pr_al _ _))) (pr_node (pr_leaf (pr_inv _ _ _ GX4_copyFrom _)) (pr_leaf (pr_vret)))))
noncomputable def FX5_mark : List EV → Hp → Option (RV × Hp) := Fm kX5_mark 2
theorem CX5_mark : Con yX5_mark cX5_mark 2 none 2 81 FX5_mark := con_of (own := RX5) rfl (by decide +kernel) sX5_mark pX5_mark (fun z => by cases z)
theorem GX5_mark : Gr FX5_mark := Gr_Fm pX5_mark 2
theorem dX5_commit_0 : decode cX5_commit 0 = .ok (.aload_n 0, 1) := by decide +kernel
theorem dX5_commit_1 : decode cX5_commit 1 = .ok (.aload_n 0, 1) := by decide +kernel
theorem dX5_commit_2 : decode cX5_commit 2 = .ok (.getfield 22, 3) := by decide +kernel
theorem dX5_commit_5 : decode cX5_commit 5 = .ok (.iconst 1, 1) := by decide +kernel
theorem dX5_commit_6 : decode cX5_commit 6 = .ok (.iadd, 1) := by decide +kernel
theorem dX5_commit_7 : decode cX5_commit 7 = .ok (.bipush 41, 2) := by decide +kernel
theorem dX5_commit_9 : decode cX5_commit 9 = .ok (.irem, 1) := by decide +kernel
theorem dX5_commit_10 : decode cX5_commit 10 = .ok (.putfield 22, 3) := by decide +kernel
theorem dX5_commit_13 : decode cX5_commit 13 = .ok (.aload_n 0, 1) := by decide +kernel
theorem dX5_commit_14 : decode cX5_commit 14 = .ok (.bipush 40, 2) := by decide +kernel
theorem dX5_commit_16 : decode cX5_commit 16 = .ok (.aload_n 0, 1) := by decide +kernel
theorem dX5_commit_17 : decode cX5_commit 17 = .ok (.getfield 18, 3) := by decide +kernel
theorem dX5_commit_20 : decode cX5_commit 20 = .ok (.iconst 1, 1) := by decide +kernel
theorem dX5_commit_21 : decode cX5_commit 21 = .ok (.iadd, 1) := by decide +kernel
theorem dX5_commit_22 : decode cX5_commit 22 = .ok (.invokestatic 29, 3) := by decide +kernel
theorem dX5_commit_25 : decode cX5_commit 25 = .ok (.putfield 18, 3) := by decide +kernel
theorem dX5_commit_28 : decode cX5_commit 28 = .ok (.return_, 1) := by decide +kernel
noncomputable def kX5_commit : Nat → Op := (nodeC 10 (nodeC 5 (nodeC 1 (nodeC 0 (leafC 0 (o_al 0 1)) (leafC 1 (o_al 0 2))) (nodeC 2 (leafC 2 (o_gI 5 1 5)) (leafC 5 (o_ic (1) 6)))) (nodeC 7 (nodeC 6 (leafC 6 (o_iadd 7)) (leafC 7 (o_ic (41) 9))) (nodeC 9 (leafC 9 (o_irem 10)) (leafC 10 (o_pI 5 1 13))))) (nodeC 17 (nodeC 14 (nodeC 13 (leafC 13 (o_al 0 14)) (leafC 14 (o_ic (40) 16))) (nodeC 16 (leafC 16 (o_al 0 17)) (leafC 17 (o_gI 5 2 20)))) (nodeC 21 (nodeC 20 (leafC 20 (o_ic (1) 21)) (leafC 21 (o_iadd 22))) (nodeC 22 (leafC 22 (o_min 25)) (nodeC 25 (leafC 25 (o_pI 5 2 28)) (leafC 28 (o_vret)))))))
theorem sX5_commit : ∀ pc, SoundOp cX5_commit RX5 1 none false 1 23 pc (kX5_commit pc) := (so_node (so_node (so_node (so_node (so_leaf (so_aload_n dX5_commit_0 rfl)) (so_leaf (so_aload_n dX5_commit_1 rfl))) (so_node (so_leaf (so_gI (by decide) (by decide) wC5 wf_RX5_22 (fun _ _ _ => rfl) dX5_commit_2)) (so_leaf (so_iconst dX5_commit_5 (by decide))))) (so_node (so_node (so_leaf (so_iadd dX5_commit_6)) (so_leaf (so_bipush dX5_commit_7 (by decide)))) (so_node (so_leaf (so_irem dX5_commit_9)) (so_leaf (so_pI (by decide) (by decide) wC5 wf_RX5_22 (Or.inl rfl) rfl dX5_commit_10))))) (so_node (so_node (so_node (so_leaf (so_aload_n dX5_commit_13 rfl)) (so_leaf (so_bipush dX5_commit_14 (by decide)))) (so_node (so_leaf (so_aload_n dX5_commit_16 rfl)) (so_leaf (so_gI (by decide) (by decide) wC5 wf_RX5_18 (fun _ _ _ => rfl) dX5_commit_17)))) (so_node (so_node (so_leaf (so_iconst dX5_commit_20 (by decide))) (so_leaf (so_iadd dX5_commit_21))) (so_node (so_leaf (so_min wm_RX5_29 wms_min wmi wmc_min (by decide) (by decide) dX5_commit_22)) (so_node (so_leaf (so_pI (by decide) (by decide) wC5 wf_RX5_18 (Or.inl rfl) rfl dX5_commit_25)) (so_leaf (so_vret dX5_commit_28 rfl)))))))
theorem pX5_commit : ∀ pc, Pr (kX5_commit pc) := (pr_node (pr_node (pr_node (pr_node (pr_leaf (pr_al _ _)) (pr_leaf (pr_al _ _))) (pr_node (pr_leaf (pr_gI _ _ _)) (pr_leaf (pr_ic _ _)))) (pr_node (pr_node (pr_leaf (pr_iadd _)) (pr_leaf (pr_ic _ _))) (pr_node (pr_leaf (pr_irem _)) (pr_leaf (pr_pI _ _ _))))) (pr_node (pr_node (pr_node (pr_leaf (pr_al _ _)) (pr_leaf (pr_ic _ _))) (pr_node (pr_leaf (pr_al _ _)) (pr_leaf (pr_gI _ _ _)))) (pr_node (pr_node (pr_leaf (pr_ic _ _)) (pr_leaf (pr_iadd _))) (pr_node (pr_leaf (pr_min _)) (pr_node (pr_leaf (pr_pI _ _ _)) (pr_leaf (pr_vret)))))))
noncomputable def FX5_commit : List EV → Hp → Option (RV × Hp) := Fm kX5_commit 1
theorem CX5_commit : Con yX5_commit cX5_commit 1 none 1 23 FX5_commit := con_of (own := RX5) rfl (by decide +kernel) sX5_commit pX5_commit (fun z => by cases z)
theorem GX5_commit : Gr FX5_commit := Gr_Fm pX5_commit 1
theorem dX5_takeBack_0 : decode cX5_takeBack 0 = .ok (.aload_n 0, 1) := by decide +kernel
theorem dX5_takeBack_1 : decode cX5_takeBack 1 = .ok (.getfield 18, 3) := by decide +kernel
theorem dX5_takeBack_4 : decode cX5_takeBack 4 = .ok (.ifCond .gt 5, 3) := by decide +kernel
theorem dX5_takeBack_7 : decode cX5_takeBack 7 = .ok (.iconst (-1), 1) := by decide +kernel
theorem dX5_takeBack_8 : decode cX5_takeBack 8 = .ok (.ireturn, 1) := by decide +kernel
theorem dX5_takeBack_9 : decode cX5_takeBack 9 = .ok (.aload_n 0, 1) := by decide +kernel
theorem dX5_takeBack_10 : decode cX5_takeBack 10 = .ok (.aload_n 0, 1) := by decide +kernel
theorem dX5_takeBack_11 : decode cX5_takeBack 11 = .ok (.getfield 22, 3) := by decide +kernel
theorem dX5_takeBack_14 : decode cX5_takeBack 14 = .ok (.bipush 41, 2) := by decide +kernel
theorem dX5_takeBack_16 : decode cX5_takeBack 16 = .ok (.iadd, 1) := by decide +kernel
theorem dX5_takeBack_17 : decode cX5_takeBack 17 = .ok (.iconst 1, 1) := by decide +kernel
theorem dX5_takeBack_18 : decode cX5_takeBack 18 = .ok (.isub, 1) := by decide +kernel
theorem dX5_takeBack_19 : decode cX5_takeBack 19 = .ok (.bipush 41, 2) := by decide +kernel
theorem dX5_takeBack_21 : decode cX5_takeBack 21 = .ok (.irem, 1) := by decide +kernel
theorem dX5_takeBack_22 : decode cX5_takeBack 22 = .ok (.putfield 22, 3) := by decide +kernel
theorem dX5_takeBack_25 : decode cX5_takeBack 25 = .ok (.aload_n 1, 1) := by decide +kernel
theorem dX5_takeBack_26 : decode cX5_takeBack 26 = .ok (.aload_n 0, 1) := by decide +kernel
theorem dX5_takeBack_27 : decode cX5_takeBack 27 = .ok (.getfield 13, 3) := by decide +kernel
theorem dX5_takeBack_30 : decode cX5_takeBack 30 = .ok (.aload_n 0, 1) := by decide +kernel
theorem dX5_takeBack_31 : decode cX5_takeBack 31 = .ok (.getfield 22, 3) := by decide +kernel
theorem dX5_takeBack_34 : decode cX5_takeBack 34 = .ok (.aaload, 1) := by decide +kernel
theorem dX5_takeBack_35 : decode cX5_takeBack 35 = .ok (.invokevirtual 25, 3) := by decide +kernel
theorem dX5_takeBack_38 : decode cX5_takeBack 38 = .ok (.aload_n 0, 1) := by decide +kernel
theorem dX5_takeBack_39 : decode cX5_takeBack 39 = .ok (.dup, 1) := by decide +kernel
theorem dX5_takeBack_40 : decode cX5_takeBack 40 = .ok (.getfield 18, 3) := by decide +kernel
theorem dX5_takeBack_43 : decode cX5_takeBack 43 = .ok (.iconst 1, 1) := by decide +kernel
theorem dX5_takeBack_44 : decode cX5_takeBack 44 = .ok (.isub, 1) := by decide +kernel
theorem dX5_takeBack_45 : decode cX5_takeBack 45 = .ok (.putfield 18, 3) := by decide +kernel
theorem dX5_takeBack_48 : decode cX5_takeBack 48 = .ok (.aload_n 0, 1) := by decide +kernel
theorem dX5_takeBack_49 : decode cX5_takeBack 49 = .ok (.getfield 18, 3) := by decide +kernel
theorem dX5_takeBack_52 : decode cX5_takeBack 52 = .ok (.ireturn, 1) := by decide +kernel
noncomputable def kX5_takeBack : Nat → Op := (nodeC 22 (nodeC 10 (nodeC 4 (nodeC 0 (leafC 0 (o_al 0 1)) (nodeC 1 (leafC 1 (o_gI 5 2 4)) (leafC 4 (o_zgt 9 7)))) (nodeC 8 (nodeC 7 (leafC 7 (o_ic (-1) 8)) (leafC 8 (o_iret))) (nodeC 9 (leafC 9 (o_al 0 10)) (leafC 10 (o_al 0 11))))) (nodeC 17 (nodeC 14 (nodeC 11 (leafC 11 (o_gI 5 1 14)) (leafC 14 (o_ic (41) 16))) (nodeC 16 (leafC 16 (o_iadd 17)) (leafC 17 (o_ic (1) 18)))) (nodeC 19 (nodeC 18 (leafC 18 (o_isub 19)) (leafC 19 (o_ic (41) 21))) (nodeC 21 (leafC 21 (o_irem 22)) (leafC 22 (o_pI 5 1 25)))))) (nodeC 38 (nodeC 30 (nodeC 26 (nodeC 25 (leafC 25 (o_al 1 26)) (leafC 26 (o_al 0 27))) (nodeC 27 (leafC 27 (o_gR 5 0 30)) (leafC 30 (o_al 0 31)))) (nodeC 34 (nodeC 31 (leafC 31 (o_gI 5 1 34)) (leafC 34 (o_aald 34 35))) (nodeC 35 (leafC 35 (o_inv 1 4 0 FX4_copyFrom 38)) (leafC 38 (o_al 0 39))))) (nodeC 44 (nodeC 40 (nodeC 39 (leafC 39 (o_dupR 40)) (leafC 40 (o_gI 5 2 43))) (nodeC 43 (leafC 43 (o_ic (1) 44)) (leafC 44 (o_isub 45)))) (nodeC 48 (nodeC 45 (leafC 45 (o_pI 5 2 48)) (leafC 48 (o_al 0 49))) (nodeC 49 (leafC 49 (o_gI 5 2 52)) (leafC 52 (o_iret)))))))
theorem sX5_takeBack : ∀ pc, SoundOp cX5_takeBack RX5 2 (some .int) false 2 81 pc (kX5_takeBack pc) := (so_node (so_node (so_node (so_node (so_leaf (so_aload_n dX5_takeBack_0 rfl)) (so_node (so_leaf (so_gI (by decide) (by decide) wC5 wf_RX5_18 (fun _ _ _ => rfl) dX5_takeBack_1)) (so_leaf (so_zgt dX5_takeBack_4 (by decide))))) (so_node (so_node (so_leaf (so_iconst dX5_takeBack_7 (by decide))) (so_leaf (so_iret dX5_takeBack_8 rfl))) (so_node (so_leaf (so_aload_n dX5_takeBack_9 rfl)) (so_leaf (so_aload_n dX5_takeBack_10 rfl))))) (so_node (so_node (so_node (so_leaf (so_gI (by decide) (by decide) wC5 wf_RX5_22 (fun _ _ _ => rfl) dX5_takeBack_11)) (so_leaf (so_bipush dX5_takeBack_14 (by decide)))) (so_node (so_leaf (so_iadd dX5_takeBack_16)) (so_leaf (so_iconst dX5_takeBack_17 (by decide))))) (so_node (so_node (so_leaf (so_isub dX5_takeBack_18)) (so_leaf (so_bipush dX5_takeBack_19 (by decide)))) (so_node (so_leaf (so_irem dX5_takeBack_21)) (so_leaf (so_pI (by decide) (by decide) wC5 wf_RX5_22 (Or.inl rfl) rfl dX5_takeBack_22)))))) (so_node (so_node (so_node (so_node (so_leaf (so_aload_n dX5_takeBack_25 rfl)) (so_leaf (so_aload_n dX5_takeBack_26 rfl))) (so_node (so_leaf (so_gR (by decide) (by decide) wC5 wf_RX5_13 (fun _ _ _ => rfl) dX5_takeBack_27)) (so_leaf (so_aload_n dX5_takeBack_30 rfl)))) (so_node (so_node (so_leaf (so_gI (by decide) (by decide) wC5 wf_RX5_22 (fun _ _ _ => rfl) dX5_takeBack_31)) (so_leaf (so_aald (t0 := 5) (Or.inr (Or.inl rfl)) (fun _ => rfl) dX5_takeBack_34))) (so_node (so_leaf (so_inv CX4_copyFrom (by decide) rfl wm_RX5_25 win_X4_copyFrom wse_X4_copyFrom wn_4 wc_X4_copyFrom (by decide +kernel) (by decide) (by decide) dX5_takeBack_35)) (so_leaf (so_aload_n dX5_takeBack_38 rfl))))) (so_node (so_node (so_node (so_leaf (so_dupR dX5_takeBack_39)) (so_leaf (so_gI (by decide) (by decide) wC5 wf_RX5_18 (fun _ _ _ => rfl) dX5_takeBack_40))) (so_node (so_leaf (so_iconst dX5_takeBack_43 (by decide))) (so_leaf (so_isub dX5_takeBack_44)))) (so_node (so_node (so_leaf (so_pI (by decide) (by decide) wC5 wf_RX5_18 (Or.inl rfl) rfl dX5_takeBack_45)) (so_leaf (so_aload_n dX5_takeBack_48 rfl))) (so_node (so_leaf (so_gI (by decide) (by decide) wC5 wf_RX5_18 (fun _ _ _ => rfl) dX5_takeBack_49)) (so_leaf (so_iret dX5_takeBack_52 rfl)))))))
theorem pX5_takeBack : ∀ pc, Pr (kX5_takeBack pc) := (pr_node (pr_node (pr_node (pr_node (pr_leaf (pr_al _ _)) (pr_node (pr_leaf (pr_gI _ _ _)) (pr_leaf (pr_zgt _ _)))) (pr_node (pr_node (pr_leaf (pr_ic _ _)) (pr_leaf (pr_iret))) (pr_node (pr_leaf (pr_al _ _)) (pr_leaf (pr_al _ _))))) (pr_node (pr_node (pr_node (pr_leaf (pr_gI _ _ _)) (pr_leaf (pr_ic _ _))) (pr_node (pr_leaf (pr_iadd _)) (pr_leaf (pr_ic _ _)))) (pr_node (pr_node (pr_leaf (pr_isub _)) (pr_leaf (pr_ic _ _))) (pr_node (pr_leaf (pr_irem _)) (pr_leaf (pr_pI _ _ _)))))) (pr_node (pr_node (pr_node (pr_node (pr_leaf (pr_al _ _)) (pr_leaf (pr_al _ _))) (pr_node (pr_leaf (pr_gR _ _ _)) (pr_leaf (pr_al _ _)))) (pr_node (pr_node (pr_leaf (pr_gI _ _ _)) (pr_leaf (pr_aald _ _))) (pr_node (pr_leaf (pr_inv _ _ _ GX4_copyFrom _)) (pr_leaf (pr_al _ _))))) (pr_node (pr_node (pr_node (pr_leaf (pr_dupR _)) (pr_leaf (pr_gI _ _ _))) (pr_node (pr_leaf (pr_ic _ _)) (pr_leaf (pr_isub _)))) (pr_node (pr_node (pr_leaf (pr_pI _ _ _)) (pr_leaf (pr_al _ _))) (pr_node (pr_leaf (pr_gI _ _ _)) (pr_leaf (pr_iret)))))))
noncomputable def FX5_takeBack : List EV → Hp → Option (RV × Hp) := Fm kX5_takeBack 2
theorem CX5_takeBack : Con yX5_takeBack cX5_takeBack 2 (some .int) 2 81 FX5_takeBack := con_of (own := RX5) rfl (by decide +kernel) sX5_takeBack pX5_takeBack (fun z => by cases z)
theorem GX5_takeBack : Gr FX5_takeBack := Gr_Fm pX5_takeBack 2
theorem dX6_init_0 : decode cX6_init 0 = .ok (.aload_n 0, 1) := by decide +kernel
theorem dX6_init_1 : decode cX6_init 1 = .ok (.invokespecial 3, 3) := by decide +kernel
theorem dX6_init_4 : decode cX6_init 4 = .ok (.aload_n 0, 1) := by decide +kernel
theorem dX6_init_5 : decode cX6_init 5 = .ok (.bipush 48, 2) := by decide +kernel
theorem dX6_init_7 : decode cX6_init 7 = .ok (.newarray .int, 2) := by decide +kernel
theorem dX6_init_9 : decode cX6_init 9 = .ok (.putfield 11, 3) := by decide +kernel
theorem dX6_init_12 : decode cX6_init 12 = .ok (.return_, 1) := by decide +kernel
noncomputable def kX6_init : Nat → Op := (nodeC 4 (nodeC 0 (leafC 0 (o_al 0 1)) (nodeC 1 (leafC 1 (o_oini 4)) (leafC 4 (o_al 0 5)))) (nodeC 7 (nodeC 5 (leafC 5 (o_ic (48) 7)) (leafC 7 (o_newa 20 9))) (nodeC 9 (leafC 9 (o_pR 6 0 12)) (leafC 12 (o_vret)))))
theorem sX6_init : ∀ pc, SoundOp cX6_init RX6 1 none true 1 20 pc (kX6_init pc) := (so_node (so_node (so_leaf (so_aload_n dX6_init_0 rfl)) (so_node (so_leaf (so_oini wm_RX6_3 wob1 wob2 (by decide) (by decide) dX6_init_1)) (so_leaf (so_aload_n dX6_init_4 rfl)))) (so_node (so_node (so_leaf (so_bipush dX6_init_5 (by decide))) (so_leaf (so_newa (at' := .int) (t0 := 0) (Or.inl rfl) (fun _ => rfl) (fun _ _ z => z) rfl (by decide) wa_int dX6_init_7))) (so_node (so_leaf (so_pR (by decide) (by decide) wC6 wf_RX6_11 (Or.inr ⟨rfl, rfl, rfl⟩) (Or.inr ⟨_, rfl⟩) dX6_init_9)) (so_leaf (so_vret dX6_init_12 rfl)))))
theorem pX6_init : ∀ pc, Pr (kX6_init pc) := (pr_node (pr_node (pr_leaf (pr_al _ _)) (pr_node (pr_leaf (pr_oini _)) (pr_leaf (pr_al _ _)))) (pr_node (pr_node (pr_leaf (pr_ic _ _)) (pr_leaf (pr_newa _ _))) (pr_node (pr_leaf (pr_pR _ _ _)) (pr_leaf (pr_vret)))))
noncomputable def FX6_init : List EV → Hp → Option (RV × Hp) := Fm kX6_init 1
theorem CX6_init : Con yX6_init cX6_init 1 none 1 20 FX6_init := con_of (own := RX6) rfl (by decide +kernel) sX6_init pX6_init (fun _ => rfl)
theorem GX6_init : Gr FX6_init := Gr_Fm pX6_init 1
theorem dX6_put_0 : decode cX6_put 0 = .ok (.iload_n 1, 1) := by decide +kernel
theorem dX6_put_1 : decode cX6_put 1 = .ok (.ifCond .lt 9, 3) := by decide +kernel
theorem dX6_put_4 : decode cX6_put 4 = .ok (.iload_n 1, 1) := by decide +kernel
theorem dX6_put_5 : decode cX6_put 5 = .ok (.bipush 16, 2) := by decide +kernel
theorem dX6_put_7 : decode cX6_put 7 = .ok (.if_icmp .lt 4, 3) := by decide +kernel
theorem dX6_put_10 : decode cX6_put 10 = .ok (.return_, 1) := by decide +kernel
theorem dX6_put_11 : decode cX6_put 11 = .ok (.aload_n 0, 1) := by decide +kernel
theorem dX6_put_12 : decode cX6_put 12 = .ok (.getfield 11, 3) := by decide +kernel
theorem dX6_put_15 : decode cX6_put 15 = .ok (.iconst 3, 1) := by decide +kernel
theorem dX6_put_16 : decode cX6_put 16 = .ok (.iload_n 1, 1) := by decide +kernel
theorem dX6_put_17 : decode cX6_put 17 = .ok (.imul, 1) := by decide +kernel
theorem dX6_put_18 : decode cX6_put 18 = .ok (.iload_n 2, 1) := by decide +kernel
theorem dX6_put_19 : decode cX6_put 19 = .ok (.iastore, 1) := by decide +kernel
theorem dX6_put_20 : decode cX6_put 20 = .ok (.aload_n 0, 1) := by decide +kernel
theorem dX6_put_21 : decode cX6_put 21 = .ok (.getfield 11, 3) := by decide +kernel
theorem dX6_put_24 : decode cX6_put 24 = .ok (.iconst 3, 1) := by decide +kernel
theorem dX6_put_25 : decode cX6_put 25 = .ok (.iload_n 1, 1) := by decide +kernel
theorem dX6_put_26 : decode cX6_put 26 = .ok (.imul, 1) := by decide +kernel
theorem dX6_put_27 : decode cX6_put 27 = .ok (.iconst 1, 1) := by decide +kernel
theorem dX6_put_28 : decode cX6_put 28 = .ok (.iadd, 1) := by decide +kernel
theorem dX6_put_29 : decode cX6_put 29 = .ok (.iload_n 3, 1) := by decide +kernel
theorem dX6_put_30 : decode cX6_put 30 = .ok (.iastore, 1) := by decide +kernel
theorem dX6_put_31 : decode cX6_put 31 = .ok (.aload_n 0, 1) := by decide +kernel
theorem dX6_put_32 : decode cX6_put 32 = .ok (.getfield 11, 3) := by decide +kernel
theorem dX6_put_35 : decode cX6_put 35 = .ok (.iconst 3, 1) := by decide +kernel
theorem dX6_put_36 : decode cX6_put 36 = .ok (.iload_n 1, 1) := by decide +kernel
theorem dX6_put_37 : decode cX6_put 37 = .ok (.imul, 1) := by decide +kernel
theorem dX6_put_38 : decode cX6_put 38 = .ok (.iconst 2, 1) := by decide +kernel
theorem dX6_put_39 : decode cX6_put 39 = .ok (.iadd, 1) := by decide +kernel
theorem dX6_put_40 : decode cX6_put 40 = .ok (.iload 4, 2) := by decide +kernel
theorem dX6_put_42 : decode cX6_put 42 = .ok (.iastore, 1) := by decide +kernel
theorem dX6_put_43 : decode cX6_put 43 = .ok (.return_, 1) := by decide +kernel
noncomputable def kX6_put : Nat → Op := (nodeC 24 (nodeC 12 (nodeC 5 (nodeC 1 (nodeC 0 (leafC 0 (o_il 1 1)) (leafC 1 (o_zlt 10 4))) (nodeC 4 (leafC 4 (o_il 1 5)) (leafC 5 (o_ic (16) 7)))) (nodeC 10 (nodeC 7 (leafC 7 (o_clt 11 10)) (leafC 10 (o_vret))) (nodeC 11 (leafC 11 (o_al 0 12)) (leafC 12 (o_gR 6 0 15))))) (nodeC 18 (nodeC 16 (nodeC 15 (leafC 15 (o_ic (3) 16)) (leafC 16 (o_il 1 17))) (nodeC 17 (leafC 17 (o_imul 18)) (leafC 18 (o_il 2 19)))) (nodeC 20 (nodeC 19 (leafC 19 (o_iast 20)) (leafC 20 (o_al 0 21))) (nodeC 21 (leafC 21 (o_gR 6 0 24)) (leafC 24 (o_ic (3) 25)))))) (nodeC 32 (nodeC 28 (nodeC 26 (nodeC 25 (leafC 25 (o_il 1 26)) (leafC 26 (o_imul 27))) (nodeC 27 (leafC 27 (o_ic (1) 28)) (leafC 28 (o_iadd 29)))) (nodeC 30 (nodeC 29 (leafC 29 (o_il 3 30)) (leafC 30 (o_iast 31))) (nodeC 31 (leafC 31 (o_al 0 32)) (leafC 32 (o_gR 6 0 35))))) (nodeC 38 (nodeC 36 (nodeC 35 (leafC 35 (o_ic (3) 36)) (leafC 36 (o_il 1 37))) (nodeC 37 (leafC 37 (o_imul 38)) (leafC 38 (o_ic (2) 39)))) (nodeC 40 (nodeC 39 (leafC 39 (o_iadd 40)) (leafC 40 (o_il 4 42))) (nodeC 42 (leafC 42 (o_iast 43)) (leafC 43 (o_vret)))))))
theorem sX6_put : ∀ pc, SoundOp cX6_put RX6 5 none false 0 0 pc (kX6_put pc) := (so_node (so_node (so_node (so_node (so_node (so_leaf (so_iload_n dX6_put_0 rfl)) (so_leaf (so_zlt dX6_put_1 (by decide)))) (so_node (so_leaf (so_iload_n dX6_put_4 rfl)) (so_leaf (so_bipush dX6_put_5 (by decide))))) (so_node (so_node (so_leaf (so_clt dX6_put_7 (by decide))) (so_leaf (so_vret dX6_put_10 rfl))) (so_node (so_leaf (so_aload_n dX6_put_11 rfl)) (so_leaf (so_gR (by decide) (by decide) wC6 wf_RX6_11 (fun _ _ _ => rfl) dX6_put_12))))) (so_node (so_node (so_node (so_leaf (so_iconst dX6_put_15 (by decide))) (so_leaf (so_iload_n dX6_put_16 rfl))) (so_node (so_leaf (so_imul dX6_put_17)) (so_leaf (so_iload_n dX6_put_18 rfl)))) (so_node (so_node (so_leaf (so_iast dX6_put_19)) (so_leaf (so_aload_n dX6_put_20 rfl))) (so_node (so_leaf (so_gR (by decide) (by decide) wC6 wf_RX6_11 (fun _ _ _ => rfl) dX6_put_21)) (so_leaf (so_iconst dX6_put_24 (by decide))))))) (so_node (so_node (so_node (so_node (so_leaf (so_iload_n dX6_put_25 rfl)) (so_leaf (so_imul dX6_put_26))) (so_node (so_leaf (so_iconst dX6_put_27 (by decide))) (so_leaf (so_iadd dX6_put_28)))) (so_node (so_node (so_leaf (so_iload_n dX6_put_29 rfl)) (so_leaf (so_iast dX6_put_30))) (so_node (so_leaf (so_aload_n dX6_put_31 rfl)) (so_leaf (so_gR (by decide) (by decide) wC6 wf_RX6_11 (fun _ _ _ => rfl) dX6_put_32))))) (so_node (so_node (so_node (so_leaf (so_iconst dX6_put_35 (by decide))) (so_leaf (so_iload_n dX6_put_36 rfl))) (so_node (so_leaf (so_imul dX6_put_37)) (so_leaf (so_iconst dX6_put_38 (by decide))))) (so_node (so_node (so_leaf (so_iadd dX6_put_39)) (so_leaf (so_iload dX6_put_40))) (so_node (so_leaf (so_iast dX6_put_42)) (so_leaf (so_vret dX6_put_43 rfl)))))))
theorem pX6_put : ∀ pc, Pr (kX6_put pc) := (pr_node (pr_node (pr_node (pr_node (pr_node (pr_leaf (pr_il _ _)) (pr_leaf (pr_zlt _ _))) (pr_node (pr_leaf (pr_il _ _)) (pr_leaf (pr_ic _ _)))) (pr_node (pr_node (pr_leaf (pr_clt _ _)) (pr_leaf (pr_vret))) (pr_node (pr_leaf (pr_al _ _)) (pr_leaf (pr_gR _ _ _))))) (pr_node (pr_node (pr_node (pr_leaf (pr_ic _ _)) (pr_leaf (pr_il _ _))) (pr_node (pr_leaf (pr_imul _)) (pr_leaf (pr_il _ _)))) (pr_node (pr_node (pr_leaf (pr_iast _)) (pr_leaf (pr_al _ _))) (pr_node (pr_leaf (pr_gR _ _ _)) (pr_leaf (pr_ic _ _)))))) (pr_node (pr_node (pr_node (pr_node (pr_leaf (pr_il _ _)) (pr_leaf (pr_imul _))) (pr_node (pr_leaf (pr_ic _ _)) (pr_leaf (pr_iadd _)))) (pr_node (pr_node (pr_leaf (pr_il _ _)) (pr_leaf (pr_iast _))) (pr_node (pr_leaf (pr_al _ _)) (pr_leaf (pr_gR _ _ _))))) (pr_node (pr_node (pr_node (pr_leaf (pr_ic _ _)) (pr_leaf (pr_il _ _))) (pr_node (pr_leaf (pr_imul _)) (pr_leaf (pr_ic _ _)))) (pr_node (pr_node (pr_leaf (pr_iadd _)) (pr_leaf (pr_il _ _))) (pr_node (pr_leaf (pr_iast _)) (pr_leaf (pr_vret)))))))
noncomputable def FX6_put : List EV → Hp → Option (RV × Hp) := Fm kX6_put 5
theorem CX6_put : Con yX6_put cX6_put 5 none 0 0 FX6_put := con_of (own := RX6) rfl (by decide +kernel) sX6_put pX6_put (fun z => by cases z)
theorem GX6_put : Gr FX6_put := Gr_Fm pX6_put 5
theorem dX6_readStep_0 : decode cX6_readStep 0 = .ok (.iconst 3, 1) := by decide +kernel
theorem dX6_readStep_1 : decode cX6_readStep 1 = .ok (.istore_n 3, 1) := by decide +kernel
theorem dX6_readStep_2 : decode cX6_readStep 2 = .ok (.iconst (-1), 1) := by decide +kernel
theorem dX6_readStep_3 : decode cX6_readStep 3 = .ok (.istore 4, 2) := by decide +kernel
theorem dX6_readStep_5 : decode cX6_readStep 5 = .ok (.iconst (-1), 1) := by decide +kernel
theorem dX6_readStep_6 : decode cX6_readStep 6 = .ok (.istore 5, 2) := by decide +kernel
theorem dX6_readStep_8 : decode cX6_readStep 8 = .ok (.aload_n 0, 1) := by decide +kernel
theorem dX6_readStep_9 : decode cX6_readStep 9 = .ok (.bipush 119, 2) := by decide +kernel
theorem dX6_readStep_11 : decode cX6_readStep 11 = .ok (.invokevirtual 24, 3) := by decide +kernel
theorem dX6_readStep_14 : decode cX6_readStep 14 = .ok (.ifCond .eq 15, 3) := by decide +kernel
theorem dX6_readStep_17 : decode cX6_readStep 17 = .ok (.iconst 0, 1) := by decide +kernel
theorem dX6_readStep_18 : decode cX6_readStep 18 = .ok (.istore_n 3, 1) := by decide +kernel
theorem dX6_readStep_19 : decode cX6_readStep 19 = .ok (.aload_n 0, 1) := by decide +kernel
theorem dX6_readStep_20 : decode cX6_readStep 20 = .ok (.iconst 3, 1) := by decide +kernel
theorem dX6_readStep_21 : decode cX6_readStep 21 = .ok (.invokevirtual 38, 3) := by decide +kernel
theorem dX6_readStep_24 : decode cX6_readStep 24 = .ok (.istore 4, 2) := by decide +kernel
theorem dX6_readStep_26 : decode cX6_readStep 26 = .ok (.goto 60, 3) := by decide +kernel
theorem dX6_readStep_29 : decode cX6_readStep 29 = .ok (.aload_n 0, 1) := by decide +kernel
theorem dX6_readStep_30 : decode cX6_readStep 30 = .ok (.bipush 99, 2) := by decide +kernel
theorem dX6_readStep_32 : decode cX6_readStep 32 = .ok (.invokevirtual 24, 3) := by decide +kernel
theorem dX6_readStep_35 : decode cX6_readStep 35 = .ok (.ifCond .eq 8, 3) := by decide +kernel
theorem dX6_readStep_38 : decode cX6_readStep 38 = .ok (.iconst 1, 1) := by decide +kernel
theorem dX6_readStep_39 : decode cX6_readStep 39 = .ok (.istore_n 3, 1) := by decide +kernel
theorem dX6_readStep_40 : decode cX6_readStep 40 = .ok (.goto 46, 3) := by decide +kernel
theorem dX6_readStep_43 : decode cX6_readStep 43 = .ok (.aload_n 0, 1) := by decide +kernel
theorem dX6_readStep_44 : decode cX6_readStep 44 = .ok (.bipush 115, 2) := by decide +kernel
theorem dX6_readStep_46 : decode cX6_readStep 46 = .ok (.invokevirtual 24, 3) := by decide +kernel
theorem dX6_readStep_49 : decode cX6_readStep 49 = .ok (.ifCond .eq 23, 3) := by decide +kernel
theorem dX6_readStep_52 : decode cX6_readStep 52 = .ok (.iconst 2, 1) := by decide +kernel
theorem dX6_readStep_53 : decode cX6_readStep 53 = .ok (.istore_n 3, 1) := by decide +kernel
theorem dX6_readStep_54 : decode cX6_readStep 54 = .ok (.aload_n 0, 1) := by decide +kernel
theorem dX6_readStep_55 : decode cX6_readStep 55 = .ok (.bipush 9, 2) := by decide +kernel
theorem dX6_readStep_57 : decode cX6_readStep 57 = .ok (.invokevirtual 38, 3) := by decide +kernel
theorem dX6_readStep_60 : decode cX6_readStep 60 = .ok (.istore 4, 2) := by decide +kernel
theorem dX6_readStep_62 : decode cX6_readStep 62 = .ok (.aload_n 0, 1) := by decide +kernel
theorem dX6_readStep_63 : decode cX6_readStep 63 = .ok (.iconst 1, 1) := by decide +kernel
theorem dX6_readStep_64 : decode cX6_readStep 64 = .ok (.invokevirtual 38, 3) := by decide +kernel
theorem dX6_readStep_67 : decode cX6_readStep 67 = .ok (.istore 5, 2) := by decide +kernel
theorem dX6_readStep_69 : decode cX6_readStep 69 = .ok (.goto 17, 3) := by decide +kernel
theorem dX6_readStep_72 : decode cX6_readStep 72 = .ok (.aload_n 0, 1) := by decide +kernel
theorem dX6_readStep_73 : decode cX6_readStep 73 = .ok (.bipush 112, 2) := by decide +kernel
theorem dX6_readStep_75 : decode cX6_readStep 75 = .ok (.invokevirtual 42, 3) := by decide +kernel
theorem dX6_readStep_78 : decode cX6_readStep 78 = .ok (.aload_n 0, 1) := by decide +kernel
theorem dX6_readStep_79 : decode cX6_readStep 79 = .ok (.bipush 9, 2) := by decide +kernel
theorem dX6_readStep_81 : decode cX6_readStep 81 = .ok (.invokevirtual 38, 3) := by decide +kernel
theorem dX6_readStep_84 : decode cX6_readStep 84 = .ok (.istore 4, 2) := by decide +kernel
theorem dX6_readStep_86 : decode cX6_readStep 86 = .ok (.aload_n 1, 1) := by decide +kernel
theorem dX6_readStep_87 : decode cX6_readStep 87 = .ok (.ifnull 13, 3) := by decide +kernel
theorem dX6_readStep_90 : decode cX6_readStep 90 = .ok (.aload_n 1, 1) := by decide +kernel
theorem dX6_readStep_91 : decode cX6_readStep 91 = .ok (.iload_n 2, 1) := by decide +kernel
theorem dX6_readStep_92 : decode cX6_readStep 92 = .ok (.iload_n 3, 1) := by decide +kernel
theorem dX6_readStep_93 : decode cX6_readStep 93 = .ok (.iload 4, 2) := by decide +kernel
theorem dX6_readStep_95 : decode cX6_readStep 95 = .ok (.iload 5, 2) := by decide +kernel
theorem dX6_readStep_97 : decode cX6_readStep 97 = .ok (.invokevirtual 46, 3) := by decide +kernel
theorem dX6_readStep_100 : decode cX6_readStep 100 = .ok (.return_, 1) := by decide +kernel
noncomputable def kX6_readStep : Nat → Op := (nodeC 46 (nodeC 19 (nodeC 6 (nodeC 2 (nodeC 0 (leafC 0 (o_ic (3) 1)) (nodeC 1 (leafC 1 (o_is 3 2)) (leafC 2 (o_ic (-1) 3)))) (nodeC 3 (leafC 3 (o_is 4 5)) (nodeC 5 (leafC 5 (o_ic (-1) 6)) (leafC 6 (o_is 5 8))))) (nodeC 11 (nodeC 8 (leafC 8 (o_al 0 9)) (nodeC 9 (leafC 9 (o_ic (119) 11)) (leafC 11 (o_inv 1 9 1 FX9_accept 14)))) (nodeC 17 (nodeC 14 (leafC 14 (o_zeq 29 17)) (leafC 17 (o_ic (0) 18))) (nodeC 18 (leafC 18 (o_is 3 19)) (leafC 19 (o_al 0 20)))))) (nodeC 32 (nodeC 24 (nodeC 20 (leafC 20 (o_ic (3) 21)) (nodeC 21 (leafC 21 (o_inv 1 9 1 FX9_digit 24)) (leafC 24 (o_is 4 26)))) (nodeC 29 (nodeC 26 (leafC 26 (o_goto 86)) (leafC 29 (o_al 0 30))) (nodeC 30 (leafC 30 (o_ic (99) 32)) (leafC 32 (o_inv 1 9 1 FX9_accept 35))))) (nodeC 39 (nodeC 35 (leafC 35 (o_zeq 43 38)) (nodeC 38 (leafC 38 (o_ic (1) 39)) (leafC 39 (o_is 3 40)))) (nodeC 43 (nodeC 40 (leafC 40 (o_goto 86)) (leafC 43 (o_al 0 44))) (nodeC 44 (leafC 44 (o_ic (115) 46)) (leafC 46 (o_inv 1 9 1 FX9_accept 49))))))) (nodeC 73 (nodeC 60 (nodeC 53 (nodeC 49 (leafC 49 (o_zeq 72 52)) (nodeC 52 (leafC 52 (o_ic (2) 53)) (leafC 53 (o_is 3 54)))) (nodeC 55 (nodeC 54 (leafC 54 (o_al 0 55)) (leafC 55 (o_ic (9) 57))) (nodeC 57 (leafC 57 (o_inv 1 9 1 FX9_digit 60)) (leafC 60 (o_is 4 62))))) (nodeC 64 (nodeC 62 (leafC 62 (o_al 0 63)) (nodeC 63 (leafC 63 (o_ic (1) 64)) (leafC 64 (o_inv 1 9 1 FX9_digit 67)))) (nodeC 69 (nodeC 67 (leafC 67 (o_is 5 69)) (leafC 69 (o_goto 86))) (nodeC 72 (leafC 72 (o_al 0 73)) (leafC 73 (o_ic (112) 75)))))) (nodeC 87 (nodeC 79 (nodeC 75 (leafC 75 (o_inv 1 9 0 FX9_demand 78)) (nodeC 78 (leafC 78 (o_al 0 79)) (leafC 79 (o_ic (9) 81)))) (nodeC 84 (nodeC 81 (leafC 81 (o_inv 1 9 1 FX9_digit 84)) (leafC 84 (o_is 4 86))) (nodeC 86 (leafC 86 (o_al 1 87)) (leafC 87 (o_ifnull 100 90))))) (nodeC 92 (nodeC 90 (leafC 90 (o_al 1 91)) (nodeC 91 (leafC 91 (o_il 2 92)) (leafC 92 (o_il 3 93)))) (nodeC 95 (nodeC 93 (leafC 93 (o_il 4 95)) (leafC 95 (o_il 5 97))) (nodeC 97 (leafC 97 (o_inv 4 6 0 FX6_put 100)) (leafC 100 (o_vret))))))))
theorem sX6_readStep : ∀ pc, SoundOp cX6_readStep RX6 6 none false 2 42 pc (kX6_readStep pc) := (so_node (so_node (so_node (so_node (so_node (so_leaf (so_iconst dX6_readStep_0 (by decide))) (so_node (so_leaf (so_istore_n dX6_readStep_1 rfl (by decide))) (so_leaf (so_iconst dX6_readStep_2 (by decide))))) (so_node (so_leaf (so_istore dX6_readStep_3 (by decide))) (so_node (so_leaf (so_iconst dX6_readStep_5 (by decide))) (so_leaf (so_istore dX6_readStep_6 (by decide)))))) (so_node (so_node (so_leaf (so_aload_n dX6_readStep_8 rfl)) (so_node (so_leaf (so_bipush dX6_readStep_9 (by decide))) (so_leaf (so_inv CX9_accept (by decide) rfl wm_RX6_24 win_X9_accept wse_X9_accept wn_9 wc_X9_accept (by decide +kernel) (by decide) (by decide) dX6_readStep_11)))) (so_node (so_node (so_leaf (so_zeq dX6_readStep_14 (by decide))) (so_leaf (so_iconst dX6_readStep_17 (by decide)))) (so_node (so_leaf (so_istore_n dX6_readStep_18 rfl (by decide))) (so_leaf (so_aload_n dX6_readStep_19 rfl)))))) (so_node (so_node (so_node (so_leaf (so_iconst dX6_readStep_20 (by decide))) (so_node (so_leaf (so_inv CX9_digit (by decide) rfl wm_RX6_38 win_X9_digit wse_X9_digit wn_9 wc_X9_digit (by decide +kernel) (by decide) (by decide) dX6_readStep_21)) (so_leaf (so_istore dX6_readStep_24 (by decide))))) (so_node (so_node (so_leaf (so_goto dX6_readStep_26 (by decide))) (so_leaf (so_aload_n dX6_readStep_29 rfl))) (so_node (so_leaf (so_bipush dX6_readStep_30 (by decide))) (so_leaf (so_inv CX9_accept (by decide) rfl wm_RX6_24 win_X9_accept wse_X9_accept wn_9 wc_X9_accept (by decide +kernel) (by decide) (by decide) dX6_readStep_32))))) (so_node (so_node (so_leaf (so_zeq dX6_readStep_35 (by decide))) (so_node (so_leaf (so_iconst dX6_readStep_38 (by decide))) (so_leaf (so_istore_n dX6_readStep_39 rfl (by decide))))) (so_node (so_node (so_leaf (so_goto dX6_readStep_40 (by decide))) (so_leaf (so_aload_n dX6_readStep_43 rfl))) (so_node (so_leaf (so_bipush dX6_readStep_44 (by decide))) (so_leaf (so_inv CX9_accept (by decide) rfl wm_RX6_24 win_X9_accept wse_X9_accept wn_9 wc_X9_accept (by decide +kernel) (by decide) (by decide) dX6_readStep_46))))))) (so_node (so_node (so_node (so_node (so_leaf (so_zeq dX6_readStep_49 (by decide))) (so_node (so_leaf (so_iconst dX6_readStep_52 (by decide))) (so_leaf (so_istore_n dX6_readStep_53 rfl (by decide))))) (so_node (so_node (so_leaf (so_aload_n dX6_readStep_54 rfl)) (so_leaf (so_bipush dX6_readStep_55 (by decide)))) (so_node (so_leaf (so_inv CX9_digit (by decide) rfl wm_RX6_38 win_X9_digit wse_X9_digit wn_9 wc_X9_digit (by decide +kernel) (by decide) (by decide) dX6_readStep_57)) (so_leaf (so_istore dX6_readStep_60 (by decide)))))) (so_node (so_node (so_leaf (so_aload_n dX6_readStep_62 rfl)) (so_node (so_leaf (so_iconst dX6_readStep_63 (by decide))) (so_leaf (so_inv CX9_digit (by decide) rfl wm_RX6_38 win_X9_digit wse_X9_digit wn_9 wc_X9_digit (by decide +kernel) (by decide) (by decide) dX6_readStep_64)))) (so_node (so_node (so_leaf (so_istore dX6_readStep_67 (by decide))) (so_leaf (so_goto dX6_readStep_69 (by decide)))) (so_node (so_leaf (so_aload_n dX6_readStep_72 rfl)) (so_leaf (so_bipush dX6_readStep_73 (by decide))))))) (so_node (so_node (so_node (so_leaf (so_inv CX9_demand (by decide) rfl wm_RX6_42 win_X9_demand wse_X9_demand wn_9 wc_X9_demand (by decide +kernel) (by decide) (by decide) dX6_readStep_75)) (so_node (so_leaf (so_aload_n dX6_readStep_78 rfl)) (so_leaf (so_bipush dX6_readStep_79 (by decide))))) (so_node (so_node (so_leaf (so_inv CX9_digit (by decide) rfl wm_RX6_38 win_X9_digit wse_X9_digit wn_9 wc_X9_digit (by decide +kernel) (by decide) (by decide) dX6_readStep_81)) (so_leaf (so_istore dX6_readStep_84 (by decide)))) (so_node (so_leaf (so_aload_n dX6_readStep_86 rfl)) (so_leaf (so_ifnull dX6_readStep_87 (by decide)))))) (so_node (so_node (so_leaf (so_aload_n dX6_readStep_90 rfl)) (so_node (so_leaf (so_iload_n dX6_readStep_91 rfl)) (so_leaf (so_iload_n dX6_readStep_92 rfl)))) (so_node (so_node (so_leaf (so_iload dX6_readStep_93)) (so_leaf (so_iload dX6_readStep_95))) (so_node (so_leaf (so_inv CX6_put (by decide) rfl wm_RX6_46 win_X6_put wse_X6_put wn_6 wc_X6_put (by decide +kernel) (by decide) (by decide) dX6_readStep_97)) (so_leaf (so_vret dX6_readStep_100 rfl))))))))
theorem pX6_readStep : ∀ pc, Pr (kX6_readStep pc) := (pr_node (pr_node (pr_node (pr_node (pr_node (pr_leaf (pr_ic _ _)) (pr_node (pr_leaf (pr_is _ _)) (pr_leaf (pr_ic _ _)))) (pr_node (pr_leaf (pr_is _ _)) (pr_node (pr_leaf (pr_ic _ _)) (pr_leaf (pr_is _ _))))) (pr_node (pr_node (pr_leaf (pr_al _ _)) (pr_node (pr_leaf (pr_ic _ _)) (pr_leaf (pr_inv _ _ _ GX9_accept _)))) (pr_node (pr_node (pr_leaf (pr_zeq _ _)) (pr_leaf (pr_ic _ _))) (pr_node (pr_leaf (pr_is _ _)) (pr_leaf (pr_al _ _)))))) (pr_node (pr_node (pr_node (pr_leaf (pr_ic _ _)) (pr_node (pr_leaf (pr_inv _ _ _ GX9_digit _)) (pr_leaf (pr_is _ _)))) (pr_node (pr_node (pr_leaf (pr_goto _)) (pr_leaf (pr_al _ _))) (pr_node (pr_leaf (pr_ic _ _)) (pr_leaf (pr_inv _ _ _ GX9_accept _))))) (pr_node (pr_node (pr_leaf (pr_zeq _ _)) (pr_node (pr_leaf (pr_ic _ _)) (pr_leaf (pr_is _ _)))) (pr_node (pr_node (pr_leaf (pr_goto _)) (pr_leaf (pr_al _ _))) (pr_node (pr_leaf (pr_ic _ _)) (pr_leaf (pr_inv _ _ _ GX9_accept _))))))) (pr_node (pr_node (pr_node (pr_node (pr_leaf (pr_zeq _ _)) (pr_node (pr_leaf (pr_ic _ _)) (pr_leaf (pr_is _ _)))) (pr_node (pr_node (pr_leaf (pr_al _ _)) (pr_leaf (pr_ic _ _))) (pr_node (pr_leaf (pr_inv _ _ _ GX9_digit _)) (pr_leaf (pr_is _ _))))) (pr_node (pr_node (pr_leaf (pr_al _ _)) (pr_node (pr_leaf (pr_ic _ _)) (pr_leaf (pr_inv _ _ _ GX9_digit _)))) (pr_node (pr_node (pr_leaf (pr_is _ _)) (pr_leaf (pr_goto _))) (pr_node (pr_leaf (pr_al _ _)) (pr_leaf (pr_ic _ _)))))) (pr_node (pr_node (pr_node (pr_leaf (pr_inv _ _ _ GX9_demand _)) (pr_node (pr_leaf (pr_al _ _)) (pr_leaf (pr_ic _ _)))) (pr_node (pr_node (pr_leaf (pr_inv _ _ _ GX9_digit _)) (pr_leaf (pr_is _ _))) (pr_node (pr_leaf (pr_al _ _)) (pr_leaf (pr_ifnull _ _))))) (pr_node (pr_node (pr_leaf (pr_al _ _)) (pr_node (pr_leaf (pr_il _ _)) (pr_leaf (pr_il _ _)))) (pr_node (pr_node (pr_leaf (pr_il _ _)) (pr_leaf (pr_il _ _))) (pr_node (pr_leaf (pr_inv _ _ _ GX6_put _)) (pr_leaf (pr_vret))))))))
noncomputable def FX6_readStep : List EV → Hp → Option (RV × Hp) := Fm kX6_readStep 6
theorem CX6_readStep : Con yX6_readStep cX6_readStep 6 none 2 42 FX6_readStep := con_of (own := RX6) rfl (by decide +kernel) sX6_readStep pX6_readStep (fun z => by cases z)
theorem GX6_readStep : Gr FX6_readStep := Gr_Fm pX6_readStep 6
theorem dX6_readFrom_0 : decode cX6_readFrom 0 = .ok (.aload_n 0, 1) := by decide +kernel
theorem dX6_readFrom_1 : decode cX6_readFrom 1 = .ok (.invokevirtual 15, 3) := by decide +kernel
theorem dX6_readFrom_4 : decode cX6_readFrom 4 = .ok (.iconst 1, 1) := by decide +kernel
theorem dX6_readFrom_5 : decode cX6_readFrom 5 = .ok (.istore_n 2, 1) := by decide +kernel
theorem dX6_readFrom_6 : decode cX6_readFrom 6 = .ok (.iconst 0, 1) := by decide +kernel
theorem dX6_readFrom_7 : decode cX6_readFrom 7 = .ok (.istore_n 3, 1) := by decide +kernel
theorem dX6_readFrom_8 : decode cX6_readFrom 8 = .ok (.iconst 0, 1) := by decide +kernel
theorem dX6_readFrom_9 : decode cX6_readFrom 9 = .ok (.istore 4, 2) := by decide +kernel
theorem dX6_readFrom_11 : decode cX6_readFrom 11 = .ok (.iload 4, 2) := by decide +kernel
theorem dX6_readFrom_13 : decode cX6_readFrom 13 = .ok (.bipush 16, 2) := by decide +kernel
theorem dX6_readFrom_15 : decode cX6_readFrom 15 = .ok (.if_icmp .ge 44, 3) := by decide +kernel
theorem dX6_readFrom_18 : decode cX6_readFrom 18 = .ok (.iload_n 2, 1) := by decide +kernel
theorem dX6_readFrom_19 : decode cX6_readFrom 19 = .ok (.ifCond .eq 40, 3) := by decide +kernel
theorem dX6_readFrom_22 : decode cX6_readFrom 22 = .ok (.aload_n 0, 1) := by decide +kernel
theorem dX6_readFrom_23 : decode cX6_readFrom 23 = .ok (.aload_n 1, 1) := by decide +kernel
theorem dX6_readFrom_24 : decode cX6_readFrom 24 = .ok (.iload 4, 2) := by decide +kernel
theorem dX6_readFrom_26 : decode cX6_readFrom 26 = .ok (.invokestatic 20, 3) := by decide +kernel
theorem dX6_readFrom_29 : decode cX6_readFrom 29 = .ok (.iinc 3 1, 3) := by decide +kernel
theorem dX6_readFrom_32 : decode cX6_readFrom 32 = .ok (.iload_n 3, 1) := by decide +kernel
theorem dX6_readFrom_33 : decode cX6_readFrom 33 = .ok (.bipush 16, 2) := by decide +kernel
theorem dX6_readFrom_35 : decode cX6_readFrom 35 = .ok (.if_icmp .ge 16, 3) := by decide +kernel
theorem dX6_readFrom_38 : decode cX6_readFrom 38 = .ok (.aload_n 0, 1) := by decide +kernel
theorem dX6_readFrom_39 : decode cX6_readFrom 39 = .ok (.bipush 59, 2) := by decide +kernel
theorem dX6_readFrom_41 : decode cX6_readFrom 41 = .ok (.invokevirtual 24, 3) := by decide +kernel
theorem dX6_readFrom_44 : decode cX6_readFrom 44 = .ok (.ifCond .eq 7, 3) := by decide +kernel
theorem dX6_readFrom_47 : decode cX6_readFrom 47 = .ok (.iconst 1, 1) := by decide +kernel
theorem dX6_readFrom_48 : decode cX6_readFrom 48 = .ok (.goto 4, 3) := by decide +kernel
theorem dX6_readFrom_51 : decode cX6_readFrom 51 = .ok (.iconst 0, 1) := by decide +kernel
theorem dX6_readFrom_52 : decode cX6_readFrom 52 = .ok (.istore_n 2, 1) := by decide +kernel
theorem dX6_readFrom_53 : decode cX6_readFrom 53 = .ok (.iinc 4 1, 3) := by decide +kernel
theorem dX6_readFrom_56 : decode cX6_readFrom 56 = .ok (.goto (-45), 3) := by decide +kernel
theorem dX6_readFrom_59 : decode cX6_readFrom 59 = .ok (.aload_n 0, 1) := by decide +kernel
theorem dX6_readFrom_60 : decode cX6_readFrom 60 = .ok (.invokevirtual 28, 3) := by decide +kernel
theorem dX6_readFrom_63 : decode cX6_readFrom 63 = .ok (.aload_n 1, 1) := by decide +kernel
theorem dX6_readFrom_64 : decode cX6_readFrom 64 = .ok (.ifnull 8, 3) := by decide +kernel
theorem dX6_readFrom_67 : decode cX6_readFrom 67 = .ok (.aload_n 1, 1) := by decide +kernel
theorem dX6_readFrom_68 : decode cX6_readFrom 68 = .ok (.iload_n 3, 1) := by decide +kernel
theorem dX6_readFrom_69 : decode cX6_readFrom 69 = .ok (.putfield 31, 3) := by decide +kernel
theorem dX6_readFrom_72 : decode cX6_readFrom 72 = .ok (.aload_n 0, 1) := by decide +kernel
theorem dX6_readFrom_73 : decode cX6_readFrom 73 = .ok (.getfield 35, 3) := by decide +kernel
theorem dX6_readFrom_76 : decode cX6_readFrom 76 = .ok (.ireturn, 1) := by decide +kernel
noncomputable def kX6_readFrom : Nat → Op := (nodeC 33 (nodeC 13 (nodeC 6 (nodeC 1 (nodeC 0 (leafC 0 (o_al 0 1)) (leafC 1 (o_inv 0 9 0 FX9_rewind 4))) (nodeC 4 (leafC 4 (o_ic (1) 5)) (nodeC 5 (leafC 5 (o_is 2 6)) (leafC 6 (o_ic (0) 7))))) (nodeC 8 (nodeC 7 (leafC 7 (o_is 3 8)) (leafC 8 (o_ic (0) 9))) (nodeC 9 (leafC 9 (o_is 4 11)) (nodeC 11 (leafC 11 (o_il 4 13)) (leafC 13 (o_ic (16) 15)))))) (nodeC 23 (nodeC 18 (nodeC 15 (leafC 15 (o_cge 59 18)) (leafC 18 (o_il 2 19))) (nodeC 19 (leafC 19 (o_zeq 59 22)) (nodeC 22 (leafC 22 (o_al 0 23)) (leafC 23 (o_al 1 24))))) (nodeC 26 (nodeC 24 (leafC 24 (o_il 4 26)) (leafC 26 (o_ist 3 0 FX6_readStep 29))) (nodeC 29 (leafC 29 (o_inc 3 (1) 32)) (nodeC 32 (leafC 32 (o_il 3 33)) (leafC 33 (o_ic (16) 35))))))) (nodeC 53 (nodeC 44 (nodeC 38 (nodeC 35 (leafC 35 (o_cge 51 38)) (leafC 38 (o_al 0 39))) (nodeC 39 (leafC 39 (o_ic (59) 41)) (nodeC 41 (leafC 41 (o_inv 1 9 1 FX9_accept 44)) (leafC 44 (o_zeq 51 47))))) (nodeC 48 (nodeC 47 (leafC 47 (o_ic (1) 48)) (leafC 48 (o_goto 52))) (nodeC 51 (leafC 51 (o_ic (0) 52)) (nodeC 52 (leafC 52 (o_is 2 53)) (leafC 53 (o_inc 4 (1) 56)))))) (nodeC 64 (nodeC 59 (nodeC 56 (leafC 56 (o_goto 11)) (leafC 59 (o_al 0 60))) (nodeC 60 (leafC 60 (o_inv 0 9 0 FX9_demandEnd 63)) (nodeC 63 (leafC 63 (o_al 1 64)) (leafC 64 (o_ifnull 72 67))))) (nodeC 69 (nodeC 67 (leafC 67 (o_al 1 68)) (nodeC 68 (leafC 68 (o_il 3 69)) (leafC 69 (o_pI 6 1 72)))) (nodeC 72 (leafC 72 (o_al 0 73)) (nodeC 73 (leafC 73 (o_gI 9 3 76)) (leafC 76 (o_iret))))))))
theorem sX6_readFrom : ∀ pc, SoundOp cX6_readFrom RX6 5 (some .int) false 3 67 pc (kX6_readFrom pc) := (so_node (so_node (so_node (so_node (so_node (so_leaf (so_aload_n dX6_readFrom_0 rfl)) (so_leaf (so_inv CX9_rewind (by decide) rfl wm_RX6_15 win_X9_rewind wse_X9_rewind wn_9 wc_X9_rewind (by decide +kernel) (by decide) (by decide) dX6_readFrom_1))) (so_node (so_leaf (so_iconst dX6_readFrom_4 (by decide))) (so_node (so_leaf (so_istore_n dX6_readFrom_5 rfl (by decide))) (so_leaf (so_iconst dX6_readFrom_6 (by decide)))))) (so_node (so_node (so_leaf (so_istore_n dX6_readFrom_7 rfl (by decide))) (so_leaf (so_iconst dX6_readFrom_8 (by decide)))) (so_node (so_leaf (so_istore dX6_readFrom_9 (by decide))) (so_node (so_leaf (so_iload dX6_readFrom_11)) (so_leaf (so_bipush dX6_readFrom_13 (by decide))))))) (so_node (so_node (so_node (so_leaf (so_cge dX6_readFrom_15 (by decide))) (so_leaf (so_iload_n dX6_readFrom_18 rfl))) (so_node (so_leaf (so_zeq dX6_readFrom_19 (by decide))) (so_node (so_leaf (so_aload_n dX6_readFrom_22 rfl)) (so_leaf (so_aload_n dX6_readFrom_23 rfl))))) (so_node (so_node (so_leaf (so_iload dX6_readFrom_24)) (so_leaf (so_ist CX6_readStep rfl wm_RX6_20 wst_X6_readStep wny_X6_readStep wc_X6_readStep (by decide +kernel) (by decide) (by decide) dX6_readFrom_26))) (so_node (so_leaf (so_iinc dX6_readFrom_29 (by decide) (by decide))) (so_node (so_leaf (so_iload_n dX6_readFrom_32 rfl)) (so_leaf (so_bipush dX6_readFrom_33 (by decide)))))))) (so_node (so_node (so_node (so_node (so_leaf (so_cge dX6_readFrom_35 (by decide))) (so_leaf (so_aload_n dX6_readFrom_38 rfl))) (so_node (so_leaf (so_bipush dX6_readFrom_39 (by decide))) (so_node (so_leaf (so_inv CX9_accept (by decide) rfl wm_RX6_24 win_X9_accept wse_X9_accept wn_9 wc_X9_accept (by decide +kernel) (by decide) (by decide) dX6_readFrom_41)) (so_leaf (so_zeq dX6_readFrom_44 (by decide)))))) (so_node (so_node (so_leaf (so_iconst dX6_readFrom_47 (by decide))) (so_leaf (so_goto dX6_readFrom_48 (by decide)))) (so_node (so_leaf (so_iconst dX6_readFrom_51 (by decide))) (so_node (so_leaf (so_istore_n dX6_readFrom_52 rfl (by decide))) (so_leaf (so_iinc dX6_readFrom_53 (by decide) (by decide))))))) (so_node (so_node (so_node (so_leaf (so_goto dX6_readFrom_56 (by decide))) (so_leaf (so_aload_n dX6_readFrom_59 rfl))) (so_node (so_leaf (so_inv CX9_demandEnd (by decide) rfl wm_RX6_28 win_X9_demandEnd wse_X9_demandEnd wn_9 wc_X9_demandEnd (by decide +kernel) (by decide) (by decide) dX6_readFrom_60)) (so_node (so_leaf (so_aload_n dX6_readFrom_63 rfl)) (so_leaf (so_ifnull dX6_readFrom_64 (by decide)))))) (so_node (so_node (so_leaf (so_aload_n dX6_readFrom_67 rfl)) (so_node (so_leaf (so_iload_n dX6_readFrom_68 rfl)) (so_leaf (so_pI (by decide) (by decide) wC6 wf_RX6_31 (Or.inl rfl) rfl dX6_readFrom_69)))) (so_node (so_leaf (so_aload_n dX6_readFrom_72 rfl)) (so_node (so_leaf (so_gI (by decide) (by decide) wC9 wf_RX6_35 (fun _ _ _ => rfl) dX6_readFrom_73)) (so_leaf (so_iret dX6_readFrom_76 rfl))))))))
theorem pX6_readFrom : ∀ pc, Pr (kX6_readFrom pc) := (pr_node (pr_node (pr_node (pr_node (pr_node (pr_leaf (pr_al _ _)) (pr_leaf (pr_inv _ _ _ GX9_rewind _))) (pr_node (pr_leaf (pr_ic _ _)) (pr_node (pr_leaf (pr_is _ _)) (pr_leaf (pr_ic _ _))))) (pr_node (pr_node (pr_leaf (pr_is _ _)) (pr_leaf (pr_ic _ _))) (pr_node (pr_leaf (pr_is _ _)) (pr_node (pr_leaf (pr_il _ _)) (pr_leaf (pr_ic _ _)))))) (pr_node (pr_node (pr_node (pr_leaf (pr_cge _ _)) (pr_leaf (pr_il _ _))) (pr_node (pr_leaf (pr_zeq _ _)) (pr_node (pr_leaf (pr_al _ _)) (pr_leaf (pr_al _ _))))) (pr_node (pr_node (pr_leaf (pr_il _ _)) (pr_leaf (pr_ist _ _ GX6_readStep _))) (pr_node (pr_leaf (pr_inc _ _ _)) (pr_node (pr_leaf (pr_il _ _)) (pr_leaf (pr_ic _ _))))))) (pr_node (pr_node (pr_node (pr_node (pr_leaf (pr_cge _ _)) (pr_leaf (pr_al _ _))) (pr_node (pr_leaf (pr_ic _ _)) (pr_node (pr_leaf (pr_inv _ _ _ GX9_accept _)) (pr_leaf (pr_zeq _ _))))) (pr_node (pr_node (pr_leaf (pr_ic _ _)) (pr_leaf (pr_goto _))) (pr_node (pr_leaf (pr_ic _ _)) (pr_node (pr_leaf (pr_is _ _)) (pr_leaf (pr_inc _ _ _)))))) (pr_node (pr_node (pr_node (pr_leaf (pr_goto _)) (pr_leaf (pr_al _ _))) (pr_node (pr_leaf (pr_inv _ _ _ GX9_demandEnd _)) (pr_node (pr_leaf (pr_al _ _)) (pr_leaf (pr_ifnull _ _))))) (pr_node (pr_node (pr_leaf (pr_al _ _)) (pr_node (pr_leaf (pr_il _ _)) (pr_leaf (pr_pI _ _ _)))) (pr_node (pr_leaf (pr_al _ _)) (pr_node (pr_leaf (pr_gI _ _ _)) (pr_leaf (pr_iret))))))))
noncomputable def FX6_readFrom : List EV → Hp → Option (RV × Hp) := Fm kX6_readFrom 5
theorem CX6_readFrom : Con yX6_readFrom cX6_readFrom 5 (some .int) 3 67 FX6_readFrom := con_of (own := RX6) rfl (by decide +kernel) sX6_readFrom pX6_readFrom (fun z => by cases z)
theorem GX6_readFrom : Gr FX6_readFrom := Gr_Fm pX6_readFrom 5
theorem dX6_part_0 : decode cX6_part 0 = .ok (.aload_n 0, 1) := by decide +kernel
theorem dX6_part_1 : decode cX6_part 1 = .ok (.getfield 11, 3) := by decide +kernel
theorem dX6_part_4 : decode cX6_part 4 = .ok (.iconst 3, 1) := by decide +kernel
theorem dX6_part_5 : decode cX6_part 5 = .ok (.iload_n 1, 1) := by decide +kernel
theorem dX6_part_6 : decode cX6_part 6 = .ok (.imul, 1) := by decide +kernel
theorem dX6_part_7 : decode cX6_part 7 = .ok (.iload_n 2, 1) := by decide +kernel
theorem dX6_part_8 : decode cX6_part 8 = .ok (.iadd, 1) := by decide +kernel
theorem dX6_part_9 : decode cX6_part 9 = .ok (.iaload, 1) := by decide +kernel
theorem dX6_part_10 : decode cX6_part 10 = .ok (.ireturn, 1) := by decide +kernel
noncomputable def kX6_part : Nat → Op := (nodeC 5 (nodeC 1 (nodeC 0 (leafC 0 (o_al 0 1)) (leafC 1 (o_gR 6 0 4))) (nodeC 4 (leafC 4 (o_ic (3) 5)) (leafC 5 (o_il 1 6)))) (nodeC 7 (nodeC 6 (leafC 6 (o_imul 7)) (leafC 7 (o_il 2 8))) (nodeC 8 (leafC 8 (o_iadd 9)) (nodeC 9 (leafC 9 (o_iald 10)) (leafC 10 (o_iret))))))
theorem sX6_part : ∀ pc, SoundOp cX6_part RX6 3 (some .int) false 0 0 pc (kX6_part pc) := (so_node (so_node (so_node (so_leaf (so_aload_n dX6_part_0 rfl)) (so_leaf (so_gR (by decide) (by decide) wC6 wf_RX6_11 (fun _ _ _ => rfl) dX6_part_1))) (so_node (so_leaf (so_iconst dX6_part_4 (by decide))) (so_leaf (so_iload_n dX6_part_5 rfl)))) (so_node (so_node (so_leaf (so_imul dX6_part_6)) (so_leaf (so_iload_n dX6_part_7 rfl))) (so_node (so_leaf (so_iadd dX6_part_8)) (so_node (so_leaf (so_iald dX6_part_9)) (so_leaf (so_iret dX6_part_10 rfl))))))
theorem pX6_part : ∀ pc, Pr (kX6_part pc) := (pr_node (pr_node (pr_node (pr_leaf (pr_al _ _)) (pr_leaf (pr_gR _ _ _))) (pr_node (pr_leaf (pr_ic _ _)) (pr_leaf (pr_il _ _)))) (pr_node (pr_node (pr_leaf (pr_imul _)) (pr_leaf (pr_il _ _))) (pr_node (pr_leaf (pr_iadd _)) (pr_node (pr_leaf (pr_iald _)) (pr_leaf (pr_iret))))))
noncomputable def FX6_part : List EV → Hp → Option (RV × Hp) := Fm kX6_part 3
theorem CX6_part : Con yX6_part cX6_part 3 (some .int) 0 0 FX6_part := con_of (own := RX6) rfl (by decide +kernel) sX6_part pX6_part (fun z => by cases z)
theorem GX6_part : Gr FX6_part := Gr_Fm pX6_part 3
theorem dX7_init_0 : decode cX7_init 0 = .ok (.aload_n 0, 1) := by decide +kernel
theorem dX7_init_1 : decode cX7_init 1 = .ok (.invokespecial 3, 3) := by decide +kernel
theorem dX7_init_4 : decode cX7_init 4 = .ok (.aload_n 0, 1) := by decide +kernel
theorem dX7_init_5 : decode cX7_init 5 = .ok (.lconst 1, 1) := by decide +kernel
theorem dX7_init_6 : decode cX7_init 6 = .ok (.putfield 9, 3) := by decide +kernel
theorem dX7_init_9 : decode cX7_init 9 = .ok (.aload_n 0, 1) := by decide +kernel
theorem dX7_init_10 : decode cX7_init 10 = .ok (.lconst 1, 1) := by decide +kernel
theorem dX7_init_11 : decode cX7_init 11 = .ok (.putfield 15, 3) := by decide +kernel
theorem dX7_init_14 : decode cX7_init 14 = .ok (.aload_n 0, 1) := by decide +kernel
theorem dX7_init_15 : decode cX7_init 15 = .ok (.bipush 30, 2) := by decide +kernel
theorem dX7_init_17 : decode cX7_init 17 = .ok (.newarray .int, 2) := by decide +kernel
theorem dX7_init_19 : decode cX7_init 19 = .ok (.putfield 18, 3) := by decide +kernel
theorem dX7_init_22 : decode cX7_init 22 = .ok (.return_, 1) := by decide +kernel
noncomputable def kX7_init : Nat → Op := (nodeC 9 (nodeC 4 (nodeC 0 (leafC 0 (o_al 0 1)) (nodeC 1 (leafC 1 (o_oini 4)) (leafC 4 (o_al 0 5)))) (nodeC 5 (leafC 5 (o_lc (1) 6)) (nodeC 6 (leafC 6 (o_pL 7 1 9)) (leafC 9 (o_al 0 10))))) (nodeC 14 (nodeC 10 (leafC 10 (o_lc (1) 11)) (nodeC 11 (leafC 11 (o_pL 7 2 14)) (leafC 14 (o_al 0 15)))) (nodeC 17 (nodeC 15 (leafC 15 (o_ic (30) 17)) (leafC 17 (o_newa 20 19))) (nodeC 19 (leafC 19 (o_pR 7 4 22)) (leafC 22 (o_vret))))))
theorem sX7_init : ∀ pc, SoundOp cX7_init RX7 1 none true 1 20 pc (kX7_init pc) := (so_node (so_node (so_node (so_leaf (so_aload_n dX7_init_0 rfl)) (so_node (so_leaf (so_oini wm_RX7_3 wob1 wob2 (by decide) (by decide) dX7_init_1)) (so_leaf (so_aload_n dX7_init_4 rfl)))) (so_node (so_leaf (so_lconst dX7_init_5 (by decide))) (so_node (so_leaf (so_pL (by decide) (by decide) wC7 wf_RX7_9 (Or.inl rfl) rfl dX7_init_6)) (so_leaf (so_aload_n dX7_init_9 rfl))))) (so_node (so_node (so_leaf (so_lconst dX7_init_10 (by decide))) (so_node (so_leaf (so_pL (by decide) (by decide) wC7 wf_RX7_15 (Or.inl rfl) rfl dX7_init_11)) (so_leaf (so_aload_n dX7_init_14 rfl)))) (so_node (so_node (so_leaf (so_bipush dX7_init_15 (by decide))) (so_leaf (so_newa (at' := .int) (t0 := 0) (Or.inl rfl) (fun _ => rfl) (fun _ _ z => z) rfl (by decide) wa_int dX7_init_17))) (so_node (so_leaf (so_pR (by decide) (by decide) wC7 wf_RX7_18 (Or.inr ⟨rfl, rfl, rfl⟩) (Or.inr ⟨_, rfl⟩) dX7_init_19)) (so_leaf (so_vret dX7_init_22 rfl))))))
theorem pX7_init : ∀ pc, Pr (kX7_init pc) := (pr_node (pr_node (pr_node (pr_leaf (pr_al _ _)) (pr_node (pr_leaf (pr_oini _)) (pr_leaf (pr_al _ _)))) (pr_node (pr_leaf (pr_lc _ _)) (pr_node (pr_leaf (pr_pL _ _ _)) (pr_leaf (pr_al _ _))))) (pr_node (pr_node (pr_leaf (pr_lc _ _)) (pr_node (pr_leaf (pr_pL _ _ _)) (pr_leaf (pr_al _ _)))) (pr_node (pr_node (pr_leaf (pr_ic _ _)) (pr_leaf (pr_newa _ _))) (pr_node (pr_leaf (pr_pR _ _ _)) (pr_leaf (pr_vret))))))
noncomputable def FX7_init : List EV → Hp → Option (RV × Hp) := Fm kX7_init 1
theorem CX7_init : Con yX7_init cX7_init 1 none 1 20 FX7_init := con_of (own := RX7) rfl (by decide +kernel) sX7_init pX7_init (fun _ => rfl)
theorem GX7_init : Gr FX7_init := Gr_Fm pX7_init 1
theorem dX7_forget_0 : decode cX7_forget 0 = .ok (.aload_n 0, 1) := by decide +kernel
theorem dX7_forget_1 : decode cX7_forget 1 = .ok (.iconst 0, 1) := by decide +kernel
theorem dX7_forget_2 : decode cX7_forget 2 = .ok (.putfield 22, 3) := by decide +kernel
theorem dX7_forget_5 : decode cX7_forget 5 = .ok (.aload_n 0, 1) := by decide +kernel
theorem dX7_forget_6 : decode cX7_forget 6 = .ok (.lconst 1, 1) := by decide +kernel
theorem dX7_forget_7 : decode cX7_forget 7 = .ok (.putfield 9, 3) := by decide +kernel
theorem dX7_forget_10 : decode cX7_forget 10 = .ok (.aload_n 0, 1) := by decide +kernel
theorem dX7_forget_11 : decode cX7_forget 11 = .ok (.lconst 1, 1) := by decide +kernel
theorem dX7_forget_12 : decode cX7_forget 12 = .ok (.putfield 15, 3) := by decide +kernel
theorem dX7_forget_15 : decode cX7_forget 15 = .ok (.aload_n 0, 1) := by decide +kernel
theorem dX7_forget_16 : decode cX7_forget 16 = .ok (.iconst 0, 1) := by decide +kernel
theorem dX7_forget_17 : decode cX7_forget 17 = .ok (.putfield 26, 3) := by decide +kernel
theorem dX7_forget_20 : decode cX7_forget 20 = .ok (.return_, 1) := by decide +kernel
noncomputable def kX7_forget : Nat → Op := (nodeC 7 (nodeC 2 (nodeC 0 (leafC 0 (o_al 0 1)) (nodeC 1 (leafC 1 (o_ic (0) 2)) (leafC 2 (o_pI 7 0 5)))) (nodeC 5 (leafC 5 (o_al 0 6)) (nodeC 6 (leafC 6 (o_lc (1) 7)) (leafC 7 (o_pL 7 1 10))))) (nodeC 12 (nodeC 10 (leafC 10 (o_al 0 11)) (nodeC 11 (leafC 11 (o_lc (1) 12)) (leafC 12 (o_pL 7 2 15)))) (nodeC 16 (nodeC 15 (leafC 15 (o_al 0 16)) (leafC 16 (o_ic (0) 17))) (nodeC 17 (leafC 17 (o_pI 7 3 20)) (leafC 20 (o_vret))))))
theorem sX7_forget : ∀ pc, SoundOp cX7_forget RX7 1 none false 0 0 pc (kX7_forget pc) := (so_node (so_node (so_node (so_leaf (so_aload_n dX7_forget_0 rfl)) (so_node (so_leaf (so_iconst dX7_forget_1 (by decide))) (so_leaf (so_pI (by decide) (by decide) wC7 wf_RX7_22 (Or.inl rfl) rfl dX7_forget_2)))) (so_node (so_leaf (so_aload_n dX7_forget_5 rfl)) (so_node (so_leaf (so_lconst dX7_forget_6 (by decide))) (so_leaf (so_pL (by decide) (by decide) wC7 wf_RX7_9 (Or.inl rfl) rfl dX7_forget_7))))) (so_node (so_node (so_leaf (so_aload_n dX7_forget_10 rfl)) (so_node (so_leaf (so_lconst dX7_forget_11 (by decide))) (so_leaf (so_pL (by decide) (by decide) wC7 wf_RX7_15 (Or.inl rfl) rfl dX7_forget_12)))) (so_node (so_node (so_leaf (so_aload_n dX7_forget_15 rfl)) (so_leaf (so_iconst dX7_forget_16 (by decide)))) (so_node (so_leaf (so_pI (by decide) (by decide) wC7 wf_RX7_26 (Or.inl rfl) rfl dX7_forget_17)) (so_leaf (so_vret dX7_forget_20 rfl))))))
theorem pX7_forget : ∀ pc, Pr (kX7_forget pc) := (pr_node (pr_node (pr_node (pr_leaf (pr_al _ _)) (pr_node (pr_leaf (pr_ic _ _)) (pr_leaf (pr_pI _ _ _)))) (pr_node (pr_leaf (pr_al _ _)) (pr_node (pr_leaf (pr_lc _ _)) (pr_leaf (pr_pL _ _ _))))) (pr_node (pr_node (pr_leaf (pr_al _ _)) (pr_node (pr_leaf (pr_lc _ _)) (pr_leaf (pr_pL _ _ _)))) (pr_node (pr_node (pr_leaf (pr_al _ _)) (pr_leaf (pr_ic _ _))) (pr_node (pr_leaf (pr_pI _ _ _)) (pr_leaf (pr_vret))))))
noncomputable def FX7_forget : List EV → Hp → Option (RV × Hp) := Fm kX7_forget 1
theorem CX7_forget : Con yX7_forget cX7_forget 1 none 0 0 FX7_forget := con_of (own := RX7) rfl (by decide +kernel) sX7_forget pX7_forget (fun z => by cases z)
theorem GX7_forget : Gr FX7_forget := Gr_Fm pX7_forget 1
theorem dX7_addTest_0 : decode cX7_addTest 0 = .ok (.aload_n 0, 1) := by decide +kernel
theorem dX7_addTest_1 : decode cX7_addTest 1 = .ok (.getfield 22, 3) := by decide +kernel
theorem dX7_addTest_4 : decode cX7_addTest 4 = .ok (.bipush 12, 2) := by decide +kernel
theorem dX7_addTest_6 : decode cX7_addTest 6 = .ok (.if_icmp .ge 15, 3) := by decide +kernel
theorem dX7_addTest_9 : decode cX7_addTest 9 = .ok (.iload_n 1, 1) := by decide +kernel
theorem dX7_addTest_10 : decode cX7_addTest 10 = .ok (.ifCond .lt 11, 3) := by decide +kernel
theorem dX7_addTest_13 : decode cX7_addTest 13 = .ok (.iload_n 1, 1) := by decide +kernel
theorem dX7_addTest_14 : decode cX7_addTest 14 = .ok (.getstatic 29, 3) := by decide +kernel
theorem dX7_addTest_17 : decode cX7_addTest 17 = .ok (.arraylength, 1) := by decide +kernel
theorem dX7_addTest_18 : decode cX7_addTest 18 = .ok (.if_icmp .lt 5, 3) := by decide +kernel
theorem dX7_addTest_21 : decode cX7_addTest 21 = .ok (.iconst (-1), 1) := by decide +kernel
theorem dX7_addTest_22 : decode cX7_addTest 22 = .ok (.ireturn, 1) := by decide +kernel
theorem dX7_addTest_23 : decode cX7_addTest 23 = .ok (.aload_n 0, 1) := by decide +kernel
theorem dX7_addTest_24 : decode cX7_addTest 24 = .ok (.dup, 1) := by decide +kernel
theorem dX7_addTest_25 : decode cX7_addTest 25 = .ok (.getfield 9, 3) := by decide +kernel
theorem dX7_addTest_28 : decode cX7_addTest 28 = .ok (.iload_n 2, 1) := by decide +kernel
theorem dX7_addTest_29 : decode cX7_addTest 29 = .ok (.ifCond .eq 12, 3) := by decide +kernel
theorem dX7_addTest_32 : decode cX7_addTest 32 = .ok (.getstatic 29, 3) := by decide +kernel
theorem dX7_addTest_35 : decode cX7_addTest 35 = .ok (.iload_n 1, 1) := by decide +kernel
theorem dX7_addTest_36 : decode cX7_addTest 36 = .ok (.iaload, 1) := by decide +kernel
theorem dX7_addTest_37 : decode cX7_addTest 37 = .ok (.i2l, 1) := by decide +kernel
theorem dX7_addTest_38 : decode cX7_addTest 38 = .ok (.goto 12, 3) := by decide +kernel
theorem dX7_addTest_41 : decode cX7_addTest 41 = .ok (.bipush 10, 2) := by decide +kernel
theorem dX7_addTest_43 : decode cX7_addTest 43 = .ok (.getstatic 29, 3) := by decide +kernel
theorem dX7_addTest_46 : decode cX7_addTest 46 = .ok (.iload_n 1, 1) := by decide +kernel
theorem dX7_addTest_47 : decode cX7_addTest 47 = .ok (.iaload, 1) := by decide +kernel
theorem dX7_addTest_48 : decode cX7_addTest 48 = .ok (.isub, 1) := by decide +kernel
theorem dX7_addTest_49 : decode cX7_addTest 49 = .ok (.i2l, 1) := by decide +kernel
theorem dX7_addTest_50 : decode cX7_addTest 50 = .ok (.lmul, 1) := by decide +kernel
theorem dX7_addTest_51 : decode cX7_addTest 51 = .ok (.putfield 9, 3) := by decide +kernel
theorem dX7_addTest_54 : decode cX7_addTest 54 = .ok (.aload_n 0, 1) := by decide +kernel
theorem dX7_addTest_55 : decode cX7_addTest 55 = .ok (.dup, 1) := by decide +kernel
theorem dX7_addTest_56 : decode cX7_addTest 56 = .ok (.getfield 15, 3) := by decide +kernel
theorem dX7_addTest_59 : decode cX7_addTest 59 = .ok (.iload_n 2, 1) := by decide +kernel
theorem dX7_addTest_60 : decode cX7_addTest 60 = .ok (.ifCond .eq 12, 3) := by decide +kernel
theorem dX7_addTest_63 : decode cX7_addTest 63 = .ok (.getstatic 32, 3) := by decide +kernel
theorem dX7_addTest_66 : decode cX7_addTest 66 = .ok (.iload_n 1, 1) := by decide +kernel
theorem dX7_addTest_67 : decode cX7_addTest 67 = .ok (.iaload, 1) := by decide +kernel
theorem dX7_addTest_68 : decode cX7_addTest 68 = .ok (.i2l, 1) := by decide +kernel
theorem dX7_addTest_69 : decode cX7_addTest 69 = .ok (.goto 12, 3) := by decide +kernel
theorem dX7_addTest_72 : decode cX7_addTest 72 = .ok (.bipush 10, 2) := by decide +kernel
theorem dX7_addTest_74 : decode cX7_addTest 74 = .ok (.getstatic 32, 3) := by decide +kernel
theorem dX7_addTest_77 : decode cX7_addTest 77 = .ok (.iload_n 1, 1) := by decide +kernel
theorem dX7_addTest_78 : decode cX7_addTest 78 = .ok (.iaload, 1) := by decide +kernel
theorem dX7_addTest_79 : decode cX7_addTest 79 = .ok (.isub, 1) := by decide +kernel
theorem dX7_addTest_80 : decode cX7_addTest 80 = .ok (.i2l, 1) := by decide +kernel
theorem dX7_addTest_81 : decode cX7_addTest 81 = .ok (.lmul, 1) := by decide +kernel
theorem dX7_addTest_82 : decode cX7_addTest 82 = .ok (.putfield 15, 3) := by decide +kernel
theorem dX7_addTest_85 : decode cX7_addTest 85 = .ok (.aload_n 0, 1) := by decide +kernel
theorem dX7_addTest_86 : decode cX7_addTest 86 = .ok (.dup, 1) := by decide +kernel
theorem dX7_addTest_87 : decode cX7_addTest 87 = .ok (.getfield 22, 3) := by decide +kernel
theorem dX7_addTest_90 : decode cX7_addTest 90 = .ok (.iconst 1, 1) := by decide +kernel
theorem dX7_addTest_91 : decode cX7_addTest 91 = .ok (.iadd, 1) := by decide +kernel
theorem dX7_addTest_92 : decode cX7_addTest 92 = .ok (.putfield 22, 3) := by decide +kernel
theorem dX7_addTest_95 : decode cX7_addTest 95 = .ok (.aload_n 0, 1) := by decide +kernel
theorem dX7_addTest_96 : decode cX7_addTest 96 = .ok (.getfield 22, 3) := by decide +kernel
theorem dX7_addTest_99 : decode cX7_addTest 99 = .ok (.ireturn, 1) := by decide +kernel
noncomputable def kX7_addTest : Nat → Op := (nodeC 49 (nodeC 24 (nodeC 13 (nodeC 4 (nodeC 0 (leafC 0 (o_al 0 1)) (nodeC 1 (leafC 1 (o_gI 7 0 4)) (leafC 4 (o_ic (12) 6)))) (nodeC 9 (nodeC 6 (leafC 6 (o_cge 21 9)) (leafC 9 (o_il 1 10))) (nodeC 10 (leafC 10 (o_zlt 21 13)) (leafC 13 (o_il 1 14))))) (nodeC 18 (nodeC 14 (leafC 14 (o_pre 4 17)) (nodeC 17 (leafC 17 (o_alen 18)) (leafC 18 (o_clt 23 21)))) (nodeC 22 (nodeC 21 (leafC 21 (o_ic (-1) 22)) (leafC 22 (o_iret))) (nodeC 23 (leafC 23 (o_al 0 24)) (leafC 24 (o_dupR 25)))))) (nodeC 37 (nodeC 29 (nodeC 25 (leafC 25 (o_gL 7 1 28)) (nodeC 28 (leafC 28 (o_il 2 29)) (leafC 29 (o_zeq 41 32)))) (nodeC 35 (nodeC 32 (leafC 32 (o_pre 4 35)) (leafC 35 (o_il 1 36))) (nodeC 36 (leafC 36 (o_iald 37)) (leafC 37 (o_i2l 38))))) (nodeC 43 (nodeC 38 (leafC 38 (o_goto 50)) (nodeC 41 (leafC 41 (o_ic (10) 43)) (leafC 43 (o_pre 4 46)))) (nodeC 47 (nodeC 46 (leafC 46 (o_il 1 47)) (leafC 47 (o_iald 48))) (nodeC 48 (leafC 48 (o_isub 49)) (leafC 49 (o_i2l 50))))))) (nodeC 74 (nodeC 60 (nodeC 54 (nodeC 50 (leafC 50 (o_lmul 51)) (nodeC 51 (leafC 51 (o_pL 7 1 54)) (leafC 54 (o_al 0 55)))) (nodeC 56 (nodeC 55 (leafC 55 (o_dupR 56)) (leafC 56 (o_gL 7 2 59))) (nodeC 59 (leafC 59 (o_il 2 60)) (leafC 60 (o_zeq 72 63))))) (nodeC 67 (nodeC 63 (leafC 63 (o_pre 5 66)) (nodeC 66 (leafC 66 (o_il 1 67)) (leafC 67 (o_iald 68)))) (nodeC 69 (nodeC 68 (leafC 68 (o_i2l 69)) (leafC 69 (o_goto 81))) (nodeC 72 (leafC 72 (o_ic (10) 74)) (leafC 74 (o_pre 5 77)))))) (nodeC 85 (nodeC 79 (nodeC 77 (leafC 77 (o_il 1 78)) (nodeC 78 (leafC 78 (o_iald 79)) (leafC 79 (o_isub 80)))) (nodeC 81 (nodeC 80 (leafC 80 (o_i2l 81)) (leafC 81 (o_lmul 82))) (nodeC 82 (leafC 82 (o_pL 7 2 85)) (leafC 85 (o_al 0 86))))) (nodeC 91 (nodeC 87 (nodeC 86 (leafC 86 (o_dupR 87)) (leafC 87 (o_gI 7 0 90))) (nodeC 90 (leafC 90 (o_ic (1) 91)) (leafC 91 (o_iadd 92)))) (nodeC 95 (nodeC 92 (leafC 92 (o_pI 7 0 95)) (leafC 95 (o_al 0 96))) (nodeC 96 (leafC 96 (o_gI 7 0 99)) (leafC 99 (o_iret))))))))
theorem sX7_addTest : ∀ pc, SoundOp cX7_addTest RX7 3 (some .int) false 0 0 pc (kX7_addTest pc) := (so_node (so_node (so_node (so_node (so_node (so_leaf (so_aload_n dX7_addTest_0 rfl)) (so_node (so_leaf (so_gI (by decide) (by decide) wC7 wf_RX7_22 (fun _ _ _ => rfl) dX7_addTest_1)) (so_leaf (so_bipush dX7_addTest_4 (by decide))))) (so_node (so_node (so_leaf (so_cge dX7_addTest_6 (by decide))) (so_leaf (so_iload_n dX7_addTest_9 rfl))) (so_node (so_leaf (so_zlt dX7_addTest_10 (by decide))) (so_leaf (so_iload_n dX7_addTest_13 rfl))))) (so_node (so_node (so_leaf (so_gets (by decide) ws_RX7_29 dX7_addTest_14)) (so_node (so_leaf (so_alen dX7_addTest_17)) (so_leaf (so_clt dX7_addTest_18 (by decide))))) (so_node (so_node (so_leaf (so_iconst dX7_addTest_21 (by decide))) (so_leaf (so_iret dX7_addTest_22 rfl))) (so_node (so_leaf (so_aload_n dX7_addTest_23 rfl)) (so_leaf (so_dupR dX7_addTest_24)))))) (so_node (so_node (so_node (so_leaf (so_gL (by decide) (by decide) wC7 wf_RX7_9 (fun _ _ _ => rfl) dX7_addTest_25)) (so_node (so_leaf (so_iload_n dX7_addTest_28 rfl)) (so_leaf (so_zeq dX7_addTest_29 (by decide))))) (so_node (so_node (so_leaf (so_gets (by decide) ws_RX7_29 dX7_addTest_32)) (so_leaf (so_iload_n dX7_addTest_35 rfl))) (so_node (so_leaf (so_iald dX7_addTest_36)) (so_leaf (so_i2l dX7_addTest_37))))) (so_node (so_node (so_leaf (so_goto dX7_addTest_38 (by decide))) (so_node (so_leaf (so_bipush dX7_addTest_41 (by decide))) (so_leaf (so_gets (by decide) ws_RX7_29 dX7_addTest_43)))) (so_node (so_node (so_leaf (so_iload_n dX7_addTest_46 rfl)) (so_leaf (so_iald dX7_addTest_47))) (so_node (so_leaf (so_isub dX7_addTest_48)) (so_leaf (so_i2l dX7_addTest_49))))))) (so_node (so_node (so_node (so_node (so_leaf (so_lmul dX7_addTest_50)) (so_node (so_leaf (so_pL (by decide) (by decide) wC7 wf_RX7_9 (Or.inl rfl) rfl dX7_addTest_51)) (so_leaf (so_aload_n dX7_addTest_54 rfl)))) (so_node (so_node (so_leaf (so_dupR dX7_addTest_55)) (so_leaf (so_gL (by decide) (by decide) wC7 wf_RX7_15 (fun _ _ _ => rfl) dX7_addTest_56))) (so_node (so_leaf (so_iload_n dX7_addTest_59 rfl)) (so_leaf (so_zeq dX7_addTest_60 (by decide)))))) (so_node (so_node (so_leaf (so_gets (by decide) ws_RX7_32 dX7_addTest_63)) (so_node (so_leaf (so_iload_n dX7_addTest_66 rfl)) (so_leaf (so_iald dX7_addTest_67)))) (so_node (so_node (so_leaf (so_i2l dX7_addTest_68)) (so_leaf (so_goto dX7_addTest_69 (by decide)))) (so_node (so_leaf (so_bipush dX7_addTest_72 (by decide))) (so_leaf (so_gets (by decide) ws_RX7_32 dX7_addTest_74)))))) (so_node (so_node (so_node (so_leaf (so_iload_n dX7_addTest_77 rfl)) (so_node (so_leaf (so_iald dX7_addTest_78)) (so_leaf (so_isub dX7_addTest_79)))) (so_node (so_node (so_leaf (so_i2l dX7_addTest_80)) (so_leaf (so_lmul dX7_addTest_81))) (so_node (so_leaf (so_pL (by decide) (by decide) wC7 wf_RX7_15 (Or.inl rfl) rfl dX7_addTest_82)) (so_leaf (so_aload_n dX7_addTest_85 rfl))))) (so_node (so_node (so_node (so_leaf (so_dupR dX7_addTest_86)) (so_leaf (so_gI (by decide) (by decide) wC7 wf_RX7_22 (fun _ _ _ => rfl) dX7_addTest_87))) (so_node (so_leaf (so_iconst dX7_addTest_90 (by decide))) (so_leaf (so_iadd dX7_addTest_91)))) (so_node (so_node (so_leaf (so_pI (by decide) (by decide) wC7 wf_RX7_22 (Or.inl rfl) rfl dX7_addTest_92)) (so_leaf (so_aload_n dX7_addTest_95 rfl))) (so_node (so_leaf (so_gI (by decide) (by decide) wC7 wf_RX7_22 (fun _ _ _ => rfl) dX7_addTest_96)) (so_leaf (so_iret dX7_addTest_99 rfl))))))))
theorem pX7_addTest : ∀ pc, Pr (kX7_addTest pc) := (pr_node (pr_node (pr_node (pr_node (pr_node (pr_leaf (pr_al _ _)) (pr_node (pr_leaf (pr_gI _ _ _)) (pr_leaf (pr_ic _ _)))) (pr_node (pr_node (pr_leaf (pr_cge _ _)) (pr_leaf (pr_il _ _))) (pr_node (pr_leaf (pr_zlt _ _)) (pr_leaf (pr_il _ _))))) (pr_node (pr_node (pr_leaf (pr_pre _ _)) (pr_node (pr_leaf (pr_alen _)) (pr_leaf (pr_clt _ _)))) (pr_node (pr_node (pr_leaf (pr_ic _ _)) (pr_leaf (pr_iret))) (pr_node (pr_leaf (pr_al _ _)) (pr_leaf (pr_dupR _)))))) (pr_node (pr_node (pr_node (pr_leaf (pr_gL _ _ _)) (pr_node (pr_leaf (pr_il _ _)) (pr_leaf (pr_zeq _ _)))) (pr_node (pr_node (pr_leaf (pr_pre _ _)) (pr_leaf (pr_il _ _))) (pr_node (pr_leaf (pr_iald _)) (pr_leaf (pr_i2l _))))) (pr_node (pr_node (pr_leaf (pr_goto _)) (pr_node (pr_leaf (pr_ic _ _)) (pr_leaf (pr_pre _ _)))) (pr_node (pr_node (pr_leaf (pr_il _ _)) (pr_leaf (pr_iald _))) (pr_node (pr_leaf (pr_isub _)) (pr_leaf (pr_i2l _))))))) (pr_node (pr_node (pr_node (pr_node (pr_leaf (pr_lmul _)) (pr_node (pr_leaf (pr_pL _ _ _)) (pr_leaf (pr_al _ _)))) (pr_node (pr_node (pr_leaf (pr_dupR _)) (pr_leaf (pr_gL _ _ _))) (pr_node (pr_leaf (pr_il _ _)) (pr_leaf (pr_zeq _ _))))) (pr_node (pr_node (pr_leaf (pr_pre _ _)) (pr_node (pr_leaf (pr_il _ _)) (pr_leaf (pr_iald _)))) (pr_node (pr_node (pr_leaf (pr_i2l _)) (pr_leaf (pr_goto _))) (pr_node (pr_leaf (pr_ic _ _)) (pr_leaf (pr_pre _ _)))))) (pr_node (pr_node (pr_node (pr_leaf (pr_il _ _)) (pr_node (pr_leaf (pr_iald _)) (pr_leaf (pr_isub _)))) (pr_node (pr_node (pr_leaf (pr_i2l _)) (pr_leaf (pr_lmul _))) (pr_node (pr_leaf (pr_pL _ _ _)) (pr_leaf (pr_al _ _))))) (pr_node (pr_node (pr_node (pr_leaf (pr_dupR _)) (pr_leaf (pr_gI _ _ _))) (pr_node (pr_leaf (pr_ic _ _)) (pr_leaf (pr_iadd _)))) (pr_node (pr_node (pr_leaf (pr_pI _ _ _)) (pr_leaf (pr_al _ _))) (pr_node (pr_leaf (pr_gI _ _ _)) (pr_leaf (pr_iret))))))))
noncomputable def FX7_addTest : List EV → Hp → Option (RV × Hp) := Fm kX7_addTest 3
theorem CX7_addTest : Con yX7_addTest cX7_addTest 3 (some .int) 0 0 FX7_addTest := con_of (own := RX7) rfl (by decide +kernel) sX7_addTest pX7_addTest (fun z => by cases z)
theorem GX7_addTest : Gr FX7_addTest := Gr_Fm pX7_addTest 3
theorem dX7_craneParts_0 : decode cX7_craneParts 0 = .ok (.aload_n 0, 1) := by decide +kernel
theorem dX7_craneParts_1 : decode cX7_craneParts 1 = .ok (.getfield 9, 3) := by decide +kernel
theorem dX7_craneParts_4 : decode cX7_craneParts 4 = .ok (.aload_n 0, 1) := by decide +kernel
theorem dX7_craneParts_5 : decode cX7_craneParts 5 = .ok (.getfield 15, 3) := by decide +kernel
theorem dX7_craneParts_8 : decode cX7_craneParts 8 = .ok (.ladd, 1) := by decide +kernel
theorem dX7_craneParts_9 : decode cX7_craneParts 9 = .ok (.lstore_n 1, 1) := by decide +kernel
theorem dX7_craneParts_10 : decode cX7_craneParts 10 = .ok (.lload_n 1, 1) := by decide +kernel
theorem dX7_craneParts_11 : decode cX7_craneParts 11 = .ok (.lconst 0, 1) := by decide +kernel
theorem dX7_craneParts_12 : decode cX7_craneParts 12 = .ok (.lcmp, 1) := by decide +kernel
theorem dX7_craneParts_13 : decode cX7_craneParts 13 = .ok (.ifCond .gt 7, 3) := by decide +kernel
theorem dX7_craneParts_16 : decode cX7_craneParts 16 = .ok (.iconst (-1), 1) := by decide +kernel
theorem dX7_craneParts_17 : decode cX7_craneParts 17 = .ok (.goto 14, 3) := by decide +kernel
theorem dX7_craneParts_20 : decode cX7_craneParts 20 = .ok (.aload_n 0, 1) := by decide +kernel
theorem dX7_craneParts_21 : decode cX7_craneParts 21 = .ok (.getfield 9, 3) := by decide +kernel
theorem dX7_craneParts_24 : decode cX7_craneParts 24 = .ok (.ldc2_w 35, 3) := by decide +kernel
theorem dX7_craneParts_27 : decode cX7_craneParts 27 = .ok (.lmul, 1) := by decide +kernel
theorem dX7_craneParts_28 : decode cX7_craneParts 28 = .ok (.lload_n 1, 1) := by decide +kernel
theorem dX7_craneParts_29 : decode cX7_craneParts 29 = .ok (.ldiv, 1) := by decide +kernel
theorem dX7_craneParts_30 : decode cX7_craneParts 30 = .ok (.l2i, 1) := by decide +kernel
theorem dX7_craneParts_31 : decode cX7_craneParts 31 = .ok (.ireturn, 1) := by decide +kernel
noncomputable def kX7_craneParts : Nat → Op := (nodeC 13 (nodeC 8 (nodeC 1 (nodeC 0 (leafC 0 (o_al 0 1)) (leafC 1 (o_gL 7 1 4))) (nodeC 4 (leafC 4 (o_al 0 5)) (nodeC 5 (leafC 5 (o_gL 7 2 8)) (leafC 8 (o_ladd 9))))) (nodeC 10 (nodeC 9 (leafC 9 (o_ls 1 10)) (leafC 10 (o_ll 1 11))) (nodeC 11 (leafC 11 (o_lc (0) 12)) (nodeC 12 (leafC 12 (o_lcmp 13)) (leafC 13 (o_zgt 20 16)))))) (nodeC 24 (nodeC 17 (nodeC 16 (leafC 16 (o_ic (-1) 17)) (leafC 17 (o_goto 31))) (nodeC 20 (leafC 20 (o_al 0 21)) (nodeC 21 (leafC 21 (o_gL 7 1 24)) (leafC 24 (o_lc (1000000) 27))))) (nodeC 28 (nodeC 27 (leafC 27 (o_lmul 28)) (leafC 28 (o_ll 1 29))) (nodeC 29 (leafC 29 (o_ldiv 30)) (nodeC 30 (leafC 30 (o_l2i 31)) (leafC 31 (o_iret)))))))
theorem sX7_craneParts : ∀ pc, SoundOp cX7_craneParts RX7 3 (some .int) false 0 0 pc (kX7_craneParts pc) := (so_node (so_node (so_node (so_node (so_leaf (so_aload_n dX7_craneParts_0 rfl)) (so_leaf (so_gL (by decide) (by decide) wC7 wf_RX7_9 (fun _ _ _ => rfl) dX7_craneParts_1))) (so_node (so_leaf (so_aload_n dX7_craneParts_4 rfl)) (so_node (so_leaf (so_gL (by decide) (by decide) wC7 wf_RX7_15 (fun _ _ _ => rfl) dX7_craneParts_5)) (so_leaf (so_ladd dX7_craneParts_8))))) (so_node (so_node (so_leaf (so_lstore_n dX7_craneParts_9 rfl (by decide))) (so_leaf (so_lload_n dX7_craneParts_10 rfl))) (so_node (so_leaf (so_lconst dX7_craneParts_11 (by decide))) (so_node (so_leaf (so_lcmp dX7_craneParts_12)) (so_leaf (so_zgt dX7_craneParts_13 (by decide))))))) (so_node (so_node (so_node (so_leaf (so_iconst dX7_craneParts_16 (by decide))) (so_leaf (so_goto dX7_craneParts_17 (by decide)))) (so_node (so_leaf (so_aload_n dX7_craneParts_20 rfl)) (so_node (so_leaf (so_gL (by decide) (by decide) wC7 wf_RX7_9 (fun _ _ _ => rfl) dX7_craneParts_21)) (so_leaf (so_ldc2 wk_RX7_35 dX7_craneParts_24))))) (so_node (so_node (so_leaf (so_lmul dX7_craneParts_27)) (so_leaf (so_lload_n dX7_craneParts_28 rfl))) (so_node (so_leaf (so_ldiv dX7_craneParts_29)) (so_node (so_leaf (so_l2i dX7_craneParts_30)) (so_leaf (so_iret dX7_craneParts_31 rfl)))))))
theorem pX7_craneParts : ∀ pc, Pr (kX7_craneParts pc) := (pr_node (pr_node (pr_node (pr_node (pr_leaf (pr_al _ _)) (pr_leaf (pr_gL _ _ _))) (pr_node (pr_leaf (pr_al _ _)) (pr_node (pr_leaf (pr_gL _ _ _)) (pr_leaf (pr_ladd _))))) (pr_node (pr_node (pr_leaf (pr_ls _ _)) (pr_leaf (pr_ll _ _))) (pr_node (pr_leaf (pr_lc _ _)) (pr_node (pr_leaf (pr_lcmp _)) (pr_leaf (pr_zgt _ _)))))) (pr_node (pr_node (pr_node (pr_leaf (pr_ic _ _)) (pr_leaf (pr_goto _))) (pr_node (pr_leaf (pr_al _ _)) (pr_node (pr_leaf (pr_gL _ _ _)) (pr_leaf (pr_lc _ _))))) (pr_node (pr_node (pr_leaf (pr_lmul _)) (pr_leaf (pr_ll _ _))) (pr_node (pr_leaf (pr_ldiv _)) (pr_node (pr_leaf (pr_l2i _)) (pr_leaf (pr_iret)))))))
noncomputable def FX7_craneParts : List EV → Hp → Option (RV × Hp) := Fm kX7_craneParts 3
theorem CX7_craneParts : Con yX7_craneParts cX7_craneParts 3 (some .int) 0 0 FX7_craneParts := con_of (own := RX7) rfl (by decide +kernel) sX7_craneParts pX7_craneParts (fun z => by cases z)
theorem GX7_craneParts : Gr FX7_craneParts := Gr_Fm pX7_craneParts 3
theorem dX7_addSign_0 : decode cX7_addSign 0 = .ok (.aload_n 0, 1) := by decide +kernel
theorem dX7_addSign_1 : decode cX7_addSign 1 = .ok (.getfield 26, 3) := by decide +kernel
theorem dX7_addSign_4 : decode cX7_addSign 4 = .ok (.bipush 10, 2) := by decide +kernel
theorem dX7_addSign_6 : decode cX7_addSign 6 = .ok (.if_icmp .lt 5, 3) := by decide +kernel
theorem dX7_addSign_9 : decode cX7_addSign 9 = .ok (.iconst (-1), 1) := by decide +kernel
theorem dX7_addSign_10 : decode cX7_addSign 10 = .ok (.ireturn, 1) := by decide +kernel
theorem dX7_addSign_11 : decode cX7_addSign 11 = .ok (.aload_n 0, 1) := by decide +kernel
theorem dX7_addSign_12 : decode cX7_addSign 12 = .ok (.getfield 18, 3) := by decide +kernel
theorem dX7_addSign_15 : decode cX7_addSign 15 = .ok (.iconst 3, 1) := by decide +kernel
theorem dX7_addSign_16 : decode cX7_addSign 16 = .ok (.aload_n 0, 1) := by decide +kernel
theorem dX7_addSign_17 : decode cX7_addSign 17 = .ok (.getfield 26, 3) := by decide +kernel
theorem dX7_addSign_20 : decode cX7_addSign 20 = .ok (.imul, 1) := by decide +kernel
theorem dX7_addSign_21 : decode cX7_addSign 21 = .ok (.iload_n 1, 1) := by decide +kernel
theorem dX7_addSign_22 : decode cX7_addSign 22 = .ok (.iastore, 1) := by decide +kernel
theorem dX7_addSign_23 : decode cX7_addSign 23 = .ok (.aload_n 0, 1) := by decide +kernel
theorem dX7_addSign_24 : decode cX7_addSign 24 = .ok (.getfield 18, 3) := by decide +kernel
theorem dX7_addSign_27 : decode cX7_addSign 27 = .ok (.iconst 3, 1) := by decide +kernel
theorem dX7_addSign_28 : decode cX7_addSign 28 = .ok (.aload_n 0, 1) := by decide +kernel
theorem dX7_addSign_29 : decode cX7_addSign 29 = .ok (.getfield 26, 3) := by decide +kernel
theorem dX7_addSign_32 : decode cX7_addSign 32 = .ok (.imul, 1) := by decide +kernel
theorem dX7_addSign_33 : decode cX7_addSign 33 = .ok (.iconst 1, 1) := by decide +kernel
theorem dX7_addSign_34 : decode cX7_addSign 34 = .ok (.iadd, 1) := by decide +kernel
theorem dX7_addSign_35 : decode cX7_addSign 35 = .ok (.iload_n 2, 1) := by decide +kernel
theorem dX7_addSign_36 : decode cX7_addSign 36 = .ok (.iastore, 1) := by decide +kernel
theorem dX7_addSign_37 : decode cX7_addSign 37 = .ok (.aload_n 0, 1) := by decide +kernel
theorem dX7_addSign_38 : decode cX7_addSign 38 = .ok (.getfield 18, 3) := by decide +kernel
theorem dX7_addSign_41 : decode cX7_addSign 41 = .ok (.iconst 3, 1) := by decide +kernel
theorem dX7_addSign_42 : decode cX7_addSign 42 = .ok (.aload_n 0, 1) := by decide +kernel
theorem dX7_addSign_43 : decode cX7_addSign 43 = .ok (.getfield 26, 3) := by decide +kernel
theorem dX7_addSign_46 : decode cX7_addSign 46 = .ok (.imul, 1) := by decide +kernel
theorem dX7_addSign_47 : decode cX7_addSign 47 = .ok (.iconst 2, 1) := by decide +kernel
theorem dX7_addSign_48 : decode cX7_addSign 48 = .ok (.iadd, 1) := by decide +kernel
theorem dX7_addSign_49 : decode cX7_addSign 49 = .ok (.iload_n 3, 1) := by decide +kernel
theorem dX7_addSign_50 : decode cX7_addSign 50 = .ok (.ifCond .eq 7, 3) := by decide +kernel
theorem dX7_addSign_53 : decode cX7_addSign 53 = .ok (.iconst 1, 1) := by decide +kernel
theorem dX7_addSign_54 : decode cX7_addSign 54 = .ok (.goto 4, 3) := by decide +kernel
theorem dX7_addSign_57 : decode cX7_addSign 57 = .ok (.iconst 0, 1) := by decide +kernel
theorem dX7_addSign_58 : decode cX7_addSign 58 = .ok (.iastore, 1) := by decide +kernel
theorem dX7_addSign_59 : decode cX7_addSign 59 = .ok (.aload_n 0, 1) := by decide +kernel
theorem dX7_addSign_60 : decode cX7_addSign 60 = .ok (.dup, 1) := by decide +kernel
theorem dX7_addSign_61 : decode cX7_addSign 61 = .ok (.getfield 26, 3) := by decide +kernel
theorem dX7_addSign_64 : decode cX7_addSign 64 = .ok (.iconst 1, 1) := by decide +kernel
theorem dX7_addSign_65 : decode cX7_addSign 65 = .ok (.iadd, 1) := by decide +kernel
theorem dX7_addSign_66 : decode cX7_addSign 66 = .ok (.putfield 26, 3) := by decide +kernel
theorem dX7_addSign_69 : decode cX7_addSign 69 = .ok (.aload_n 0, 1) := by decide +kernel
theorem dX7_addSign_70 : decode cX7_addSign 70 = .ok (.getfield 26, 3) := by decide +kernel
theorem dX7_addSign_73 : decode cX7_addSign 73 = .ok (.ireturn, 1) := by decide +kernel
noncomputable def kX7_addSign : Nat → Op := (nodeC 35 (nodeC 17 (nodeC 9 (nodeC 1 (nodeC 0 (leafC 0 (o_al 0 1)) (leafC 1 (o_gI 7 3 4))) (nodeC 4 (leafC 4 (o_ic (10) 6)) (nodeC 6 (leafC 6 (o_clt 11 9)) (leafC 9 (o_ic (-1) 10))))) (nodeC 12 (nodeC 10 (leafC 10 (o_iret)) (nodeC 11 (leafC 11 (o_al 0 12)) (leafC 12 (o_gR 7 4 15)))) (nodeC 15 (leafC 15 (o_ic (3) 16)) (nodeC 16 (leafC 16 (o_al 0 17)) (leafC 17 (o_gI 7 3 20)))))) (nodeC 27 (nodeC 22 (nodeC 20 (leafC 20 (o_imul 21)) (nodeC 21 (leafC 21 (o_il 1 22)) (leafC 22 (o_iast 23)))) (nodeC 23 (leafC 23 (o_al 0 24)) (nodeC 24 (leafC 24 (o_gR 7 4 27)) (leafC 27 (o_ic (3) 28))))) (nodeC 32 (nodeC 28 (leafC 28 (o_al 0 29)) (nodeC 29 (leafC 29 (o_gI 7 3 32)) (leafC 32 (o_imul 33)))) (nodeC 33 (leafC 33 (o_ic (1) 34)) (nodeC 34 (leafC 34 (o_iadd 35)) (leafC 35 (o_il 2 36))))))) (nodeC 53 (nodeC 43 (nodeC 38 (nodeC 36 (leafC 36 (o_iast 37)) (nodeC 37 (leafC 37 (o_al 0 38)) (leafC 38 (o_gR 7 4 41)))) (nodeC 41 (leafC 41 (o_ic (3) 42)) (nodeC 42 (leafC 42 (o_al 0 43)) (leafC 43 (o_gI 7 3 46))))) (nodeC 48 (nodeC 46 (leafC 46 (o_imul 47)) (nodeC 47 (leafC 47 (o_ic (2) 48)) (leafC 48 (o_iadd 49)))) (nodeC 49 (leafC 49 (o_il 3 50)) (nodeC 50 (leafC 50 (o_zeq 57 53)) (leafC 53 (o_ic (1) 54)))))) (nodeC 61 (nodeC 58 (nodeC 54 (leafC 54 (o_goto 58)) (nodeC 57 (leafC 57 (o_ic (0) 58)) (leafC 58 (o_iast 59)))) (nodeC 59 (leafC 59 (o_al 0 60)) (nodeC 60 (leafC 60 (o_dupR 61)) (leafC 61 (o_gI 7 3 64))))) (nodeC 66 (nodeC 64 (leafC 64 (o_ic (1) 65)) (nodeC 65 (leafC 65 (o_iadd 66)) (leafC 66 (o_pI 7 3 69)))) (nodeC 69 (leafC 69 (o_al 0 70)) (nodeC 70 (leafC 70 (o_gI 7 3 73)) (leafC 73 (o_iret))))))))
theorem sX7_addSign : ∀ pc, SoundOp cX7_addSign RX7 4 (some .int) false 0 0 pc (kX7_addSign pc) := (so_node (so_node (so_node (so_node (so_node (so_leaf (so_aload_n dX7_addSign_0 rfl)) (so_leaf (so_gI (by decide) (by decide) wC7 wf_RX7_26 (fun _ _ _ => rfl) dX7_addSign_1))) (so_node (so_leaf (so_bipush dX7_addSign_4 (by decide))) (so_node (so_leaf (so_clt dX7_addSign_6 (by decide))) (so_leaf (so_iconst dX7_addSign_9 (by decide)))))) (so_node (so_node (so_leaf (so_iret dX7_addSign_10 rfl)) (so_node (so_leaf (so_aload_n dX7_addSign_11 rfl)) (so_leaf (so_gR (by decide) (by decide) wC7 wf_RX7_18 (fun _ _ _ => rfl) dX7_addSign_12)))) (so_node (so_leaf (so_iconst dX7_addSign_15 (by decide))) (so_node (so_leaf (so_aload_n dX7_addSign_16 rfl)) (so_leaf (so_gI (by decide) (by decide) wC7 wf_RX7_26 (fun _ _ _ => rfl) dX7_addSign_17)))))) (so_node (so_node (so_node (so_leaf (so_imul dX7_addSign_20)) (so_node (so_leaf (so_iload_n dX7_addSign_21 rfl)) (so_leaf (so_iast dX7_addSign_22)))) (so_node (so_leaf (so_aload_n dX7_addSign_23 rfl)) (so_node (so_leaf (so_gR (by decide) (by decide) wC7 wf_RX7_18 (fun _ _ _ => rfl) dX7_addSign_24)) (so_leaf (so_iconst dX7_addSign_27 (by decide)))))) (so_node (so_node (so_leaf (so_aload_n dX7_addSign_28 rfl)) (so_node (so_leaf (so_gI (by decide) (by decide) wC7 wf_RX7_26 (fun _ _ _ => rfl) dX7_addSign_29)) (so_leaf (so_imul dX7_addSign_32)))) (so_node (so_leaf (so_iconst dX7_addSign_33 (by decide))) (so_node (so_leaf (so_iadd dX7_addSign_34)) (so_leaf (so_iload_n dX7_addSign_35 rfl))))))) (so_node (so_node (so_node (so_node (so_leaf (so_iast dX7_addSign_36)) (so_node (so_leaf (so_aload_n dX7_addSign_37 rfl)) (so_leaf (so_gR (by decide) (by decide) wC7 wf_RX7_18 (fun _ _ _ => rfl) dX7_addSign_38)))) (so_node (so_leaf (so_iconst dX7_addSign_41 (by decide))) (so_node (so_leaf (so_aload_n dX7_addSign_42 rfl)) (so_leaf (so_gI (by decide) (by decide) wC7 wf_RX7_26 (fun _ _ _ => rfl) dX7_addSign_43))))) (so_node (so_node (so_leaf (so_imul dX7_addSign_46)) (so_node (so_leaf (so_iconst dX7_addSign_47 (by decide))) (so_leaf (so_iadd dX7_addSign_48)))) (so_node (so_leaf (so_iload_n dX7_addSign_49 rfl)) (so_node (so_leaf (so_zeq dX7_addSign_50 (by decide))) (so_leaf (so_iconst dX7_addSign_53 (by decide))))))) (so_node (so_node (so_node (so_leaf (so_goto dX7_addSign_54 (by decide))) (so_node (so_leaf (so_iconst dX7_addSign_57 (by decide))) (so_leaf (so_iast dX7_addSign_58)))) (so_node (so_leaf (so_aload_n dX7_addSign_59 rfl)) (so_node (so_leaf (so_dupR dX7_addSign_60)) (so_leaf (so_gI (by decide) (by decide) wC7 wf_RX7_26 (fun _ _ _ => rfl) dX7_addSign_61))))) (so_node (so_node (so_leaf (so_iconst dX7_addSign_64 (by decide))) (so_node (so_leaf (so_iadd dX7_addSign_65)) (so_leaf (so_pI (by decide) (by decide) wC7 wf_RX7_26 (Or.inl rfl) rfl dX7_addSign_66)))) (so_node (so_leaf (so_aload_n dX7_addSign_69 rfl)) (so_node (so_leaf (so_gI (by decide) (by decide) wC7 wf_RX7_26 (fun _ _ _ => rfl) dX7_addSign_70)) (so_leaf (so_iret dX7_addSign_73 rfl))))))))
theorem pX7_addSign : ∀ pc, Pr (kX7_addSign pc) := (pr_node (pr_node (pr_node (pr_node (pr_node (pr_leaf (pr_al _ _)) (pr_leaf (pr_gI _ _ _))) (pr_node (pr_leaf (pr_ic _ _)) (pr_node (pr_leaf (pr_clt _ _)) (pr_leaf (pr_ic _ _))))) (pr_node (pr_node (pr_leaf (pr_iret)) (pr_node (pr_leaf (pr_al _ _)) (pr_leaf (pr_gR _ _ _)))) (pr_node (pr_leaf (pr_ic _ _)) (pr_node (pr_leaf (pr_al _ _)) (pr_leaf (pr_gI _ _ _)))))) (pr_node (pr_node (pr_node (pr_leaf (pr_imul _)) (pr_node (pr_leaf (pr_il _ _)) (pr_leaf (pr_iast _)))) (pr_node (pr_leaf (pr_al _ _)) (pr_node (pr_leaf (pr_gR _ _ _)) (pr_leaf (pr_ic _ _))))) (pr_node (pr_node (pr_leaf (pr_al _ _)) (pr_node (pr_leaf (pr_gI _ _ _)) (pr_leaf (pr_imul _)))) (pr_node (pr_leaf (pr_ic _ _)) (pr_node (pr_leaf (pr_iadd _)) (pr_leaf (pr_il _ _))))))) (pr_node (pr_node (pr_node (pr_node (pr_leaf (pr_iast _)) (pr_node (pr_leaf (pr_al _ _)) (pr_leaf (pr_gR _ _ _)))) (pr_node (pr_leaf (pr_ic _ _)) (pr_node (pr_leaf (pr_al _ _)) (pr_leaf (pr_gI _ _ _))))) (pr_node (pr_node (pr_leaf (pr_imul _)) (pr_node (pr_leaf (pr_ic _ _)) (pr_leaf (pr_iadd _)))) (pr_node (pr_leaf (pr_il _ _)) (pr_node (pr_leaf (pr_zeq _ _)) (pr_leaf (pr_ic _ _)))))) (pr_node (pr_node (pr_node (pr_leaf (pr_goto _)) (pr_node (pr_leaf (pr_ic _ _)) (pr_leaf (pr_iast _)))) (pr_node (pr_leaf (pr_al _ _)) (pr_node (pr_leaf (pr_dupR _)) (pr_leaf (pr_gI _ _ _))))) (pr_node (pr_node (pr_leaf (pr_ic _ _)) (pr_node (pr_leaf (pr_iadd _)) (pr_leaf (pr_pI _ _ _)))) (pr_node (pr_leaf (pr_al _ _)) (pr_node (pr_leaf (pr_gI _ _ _)) (pr_leaf (pr_iret))))))))
noncomputable def FX7_addSign : List EV → Hp → Option (RV × Hp) := Fm kX7_addSign 4
theorem CX7_addSign : Con yX7_addSign cX7_addSign 4 (some .int) 0 0 FX7_addSign := con_of (own := RX7) rfl (by decide +kernel) sX7_addSign pX7_addSign (fun z => by cases z)
theorem GX7_addSign : Gr FX7_addSign := Gr_Fm pX7_addSign 4
theorem dX7_fits_0 : decode cX7_fits 0 = .ok (.iconst 0, 1) := by decide +kernel
theorem dX7_fits_1 : decode cX7_fits 1 = .ok (.istore_n 3, 1) := by decide +kernel
theorem dX7_fits_2 : decode cX7_fits 2 = .ok (.iload_n 3, 1) := by decide +kernel
theorem dX7_fits_3 : decode cX7_fits 3 = .ok (.aload_n 0, 1) := by decide +kernel
theorem dX7_fits_4 : decode cX7_fits 4 = .ok (.getfield 26, 3) := by decide +kernel
theorem dX7_fits_7 : decode cX7_fits 7 = .ok (.if_icmp .ge 68, 3) := by decide +kernel
theorem dX7_fits_10 : decode cX7_fits 10 = .ok (.aload_n 1, 1) := by decide +kernel
theorem dX7_fits_11 : decode cX7_fits 11 = .ok (.iload_n 2, 1) := by decide +kernel
theorem dX7_fits_12 : decode cX7_fits 12 = .ok (.aload_n 0, 1) := by decide +kernel
theorem dX7_fits_13 : decode cX7_fits 13 = .ok (.getfield 18, 3) := by decide +kernel
theorem dX7_fits_16 : decode cX7_fits 16 = .ok (.iconst 3, 1) := by decide +kernel
theorem dX7_fits_17 : decode cX7_fits 17 = .ok (.iload_n 3, 1) := by decide +kernel
theorem dX7_fits_18 : decode cX7_fits 18 = .ok (.imul, 1) := by decide +kernel
theorem dX7_fits_19 : decode cX7_fits 19 = .ok (.iaload, 1) := by decide +kernel
theorem dX7_fits_20 : decode cX7_fits 20 = .ok (.invokevirtual 37, 3) := by decide +kernel
theorem dX7_fits_23 : decode cX7_fits 23 = .ok (.aload_n 0, 1) := by decide +kernel
theorem dX7_fits_24 : decode cX7_fits 24 = .ok (.getfield 18, 3) := by decide +kernel
theorem dX7_fits_27 : decode cX7_fits 27 = .ok (.iconst 3, 1) := by decide +kernel
theorem dX7_fits_28 : decode cX7_fits 28 = .ok (.iload_n 3, 1) := by decide +kernel
theorem dX7_fits_29 : decode cX7_fits 29 = .ok (.imul, 1) := by decide +kernel
theorem dX7_fits_30 : decode cX7_fits 30 = .ok (.iconst 1, 1) := by decide +kernel
theorem dX7_fits_31 : decode cX7_fits 31 = .ok (.iadd, 1) := by decide +kernel
theorem dX7_fits_32 : decode cX7_fits 32 = .ok (.iaload, 1) := by decide +kernel
theorem dX7_fits_33 : decode cX7_fits 33 = .ok (.if_icmp .lt 7, 3) := by decide +kernel
theorem dX7_fits_36 : decode cX7_fits 36 = .ok (.iconst 1, 1) := by decide +kernel
theorem dX7_fits_37 : decode cX7_fits 37 = .ok (.goto 4, 3) := by decide +kernel
theorem dX7_fits_40 : decode cX7_fits 40 = .ok (.iconst 0, 1) := by decide +kernel
theorem dX7_fits_41 : decode cX7_fits 41 = .ok (.istore 4, 2) := by decide +kernel
theorem dX7_fits_43 : decode cX7_fits 43 = .ok (.iload 4, 2) := by decide +kernel
theorem dX7_fits_45 : decode cX7_fits 45 = .ok (.aload_n 0, 1) := by decide +kernel
theorem dX7_fits_46 : decode cX7_fits 46 = .ok (.getfield 18, 3) := by decide +kernel
theorem dX7_fits_49 : decode cX7_fits 49 = .ok (.iconst 3, 1) := by decide +kernel
theorem dX7_fits_50 : decode cX7_fits 50 = .ok (.iload_n 3, 1) := by decide +kernel
theorem dX7_fits_51 : decode cX7_fits 51 = .ok (.imul, 1) := by decide +kernel
theorem dX7_fits_52 : decode cX7_fits 52 = .ok (.iconst 2, 1) := by decide +kernel
theorem dX7_fits_53 : decode cX7_fits 53 = .ok (.iadd, 1) := by decide +kernel
theorem dX7_fits_54 : decode cX7_fits 54 = .ok (.iaload, 1) := by decide +kernel
theorem dX7_fits_55 : decode cX7_fits 55 = .ok (.iconst 1, 1) := by decide +kernel
theorem dX7_fits_56 : decode cX7_fits 56 = .ok (.if_icmp .ne 7, 3) := by decide +kernel
theorem dX7_fits_59 : decode cX7_fits 59 = .ok (.iconst 1, 1) := by decide +kernel
theorem dX7_fits_60 : decode cX7_fits 60 = .ok (.goto 4, 3) := by decide +kernel
theorem dX7_fits_63 : decode cX7_fits 63 = .ok (.iconst 0, 1) := by decide +kernel
theorem dX7_fits_64 : decode cX7_fits 64 = .ok (.if_icmp .eq 5, 3) := by decide +kernel
theorem dX7_fits_67 : decode cX7_fits 67 = .ok (.iconst 0, 1) := by decide +kernel
theorem dX7_fits_68 : decode cX7_fits 68 = .ok (.ireturn, 1) := by decide +kernel
theorem dX7_fits_69 : decode cX7_fits 69 = .ok (.iinc 3 1, 3) := by decide +kernel
theorem dX7_fits_72 : decode cX7_fits 72 = .ok (.goto (-70), 3) := by decide +kernel
theorem dX7_fits_75 : decode cX7_fits 75 = .ok (.iconst 1, 1) := by decide +kernel
theorem dX7_fits_76 : decode cX7_fits 76 = .ok (.ireturn, 1) := by decide +kernel
noncomputable def kX7_fits : Nat → Op := (nodeC 33 (nodeC 17 (nodeC 7 (nodeC 2 (nodeC 0 (leafC 0 (o_ic (0) 1)) (nodeC 1 (leafC 1 (o_is 3 2)) (leafC 2 (o_mask [4] (o_il 3 3))))) (nodeC 3 (leafC 3 (o_al 0 4)) (nodeC 4 (leafC 4 (o_gI 7 3 7)) (leafC 7 (o_cge 75 10))))) (nodeC 12 (nodeC 10 (leafC 10 (o_al 1 11)) (nodeC 11 (leafC 11 (o_il 2 12)) (leafC 12 (o_al 0 13)))) (nodeC 13 (leafC 13 (o_gR 7 4 16)) (nodeC 16 (leafC 16 (o_ic (3) 17)) (leafC 17 (o_il 3 18)))))) (nodeC 27 (nodeC 20 (nodeC 18 (leafC 18 (o_imul 19)) (nodeC 19 (leafC 19 (o_iald 20)) (leafC 20 (o_inv 2 3 1 FX3_bound 23)))) (nodeC 23 (leafC 23 (o_al 0 24)) (nodeC 24 (leafC 24 (o_gR 7 4 27)) (leafC 27 (o_ic (3) 28))))) (nodeC 30 (nodeC 28 (leafC 28 (o_il 3 29)) (nodeC 29 (leafC 29 (o_imul 30)) (leafC 30 (o_ic (1) 31)))) (nodeC 31 (leafC 31 (o_iadd 32)) (nodeC 32 (leafC 32 (o_iald 33)) (leafC 33 (o_clt 40 36))))))) (nodeC 53 (nodeC 45 (nodeC 40 (nodeC 36 (leafC 36 (o_ic (1) 37)) (nodeC 37 (leafC 37 (o_goto 41)) (leafC 40 (o_ic (0) 41)))) (nodeC 41 (leafC 41 (o_is 4 43)) (nodeC 43 (leafC 43 (o_il 4 45)) (leafC 45 (o_al 0 46))))) (nodeC 50 (nodeC 46 (leafC 46 (o_gR 7 4 49)) (nodeC 49 (leafC 49 (o_ic (3) 50)) (leafC 50 (o_il 3 51)))) (nodeC 51 (leafC 51 (o_imul 52)) (nodeC 52 (leafC 52 (o_ic (2) 53)) (leafC 53 (o_iadd 54)))))) (nodeC 63 (nodeC 56 (nodeC 54 (leafC 54 (o_iald 55)) (nodeC 55 (leafC 55 (o_ic (1) 56)) (leafC 56 (o_cne 63 59)))) (nodeC 59 (leafC 59 (o_ic (1) 60)) (nodeC 60 (leafC 60 (o_goto 64)) (leafC 63 (o_ic (0) 64))))) (nodeC 68 (nodeC 64 (leafC 64 (o_ceq 69 67)) (nodeC 67 (leafC 67 (o_ic (0) 68)) (leafC 68 (o_zret)))) (nodeC 72 (nodeC 69 (leafC 69 (o_inc 3 (1) 72)) (leafC 72 (o_goto 2))) (nodeC 75 (leafC 75 (o_ic (1) 76)) (leafC 76 (o_zret))))))))
theorem sX7_fits : ∀ pc, SoundOp cX7_fits RX7 5 (some .boolean) false 1 22 pc (kX7_fits pc) := (so_node (so_node (so_node (so_node (so_node (so_leaf (so_iconst dX7_fits_0 (by decide))) (so_node (so_leaf (so_istore_n dX7_fits_1 rfl (by decide))) (so_leaf (so_mask (so_iload_n dX7_fits_2 rfl))))) (so_node (so_leaf (so_aload_n dX7_fits_3 rfl)) (so_node (so_leaf (so_gI (by decide) (by decide) wC7 wf_RX7_26 (fun _ _ _ => rfl) dX7_fits_4)) (so_leaf (so_cge dX7_fits_7 (by decide)))))) (so_node (so_node (so_leaf (so_aload_n dX7_fits_10 rfl)) (so_node (so_leaf (so_iload_n dX7_fits_11 rfl)) (so_leaf (so_aload_n dX7_fits_12 rfl)))) (so_node (so_leaf (so_gR (by decide) (by decide) wC7 wf_RX7_18 (fun _ _ _ => rfl) dX7_fits_13)) (so_node (so_leaf (so_iconst dX7_fits_16 (by decide))) (so_leaf (so_iload_n dX7_fits_17 rfl)))))) (so_node (so_node (so_node (so_leaf (so_imul dX7_fits_18)) (so_node (so_leaf (so_iald dX7_fits_19)) (so_leaf (so_inv CX3_bound (by decide) rfl wm_RX7_37 win_X3_bound wse_X3_bound wn_3 wc_X3_bound (by decide +kernel) (by decide) (by decide) dX7_fits_20)))) (so_node (so_leaf (so_aload_n dX7_fits_23 rfl)) (so_node (so_leaf (so_gR (by decide) (by decide) wC7 wf_RX7_18 (fun _ _ _ => rfl) dX7_fits_24)) (so_leaf (so_iconst dX7_fits_27 (by decide)))))) (so_node (so_node (so_leaf (so_iload_n dX7_fits_28 rfl)) (so_node (so_leaf (so_imul dX7_fits_29)) (so_leaf (so_iconst dX7_fits_30 (by decide))))) (so_node (so_leaf (so_iadd dX7_fits_31)) (so_node (so_leaf (so_iald dX7_fits_32)) (so_leaf (so_clt dX7_fits_33 (by decide)))))))) (so_node (so_node (so_node (so_node (so_leaf (so_iconst dX7_fits_36 (by decide))) (so_node (so_leaf (so_goto dX7_fits_37 (by decide))) (so_leaf (so_iconst dX7_fits_40 (by decide))))) (so_node (so_leaf (so_istore dX7_fits_41 (by decide))) (so_node (so_leaf (so_iload dX7_fits_43)) (so_leaf (so_aload_n dX7_fits_45 rfl))))) (so_node (so_node (so_leaf (so_gR (by decide) (by decide) wC7 wf_RX7_18 (fun _ _ _ => rfl) dX7_fits_46)) (so_node (so_leaf (so_iconst dX7_fits_49 (by decide))) (so_leaf (so_iload_n dX7_fits_50 rfl)))) (so_node (so_leaf (so_imul dX7_fits_51)) (so_node (so_leaf (so_iconst dX7_fits_52 (by decide))) (so_leaf (so_iadd dX7_fits_53)))))) (so_node (so_node (so_node (so_leaf (so_iald dX7_fits_54)) (so_node (so_leaf (so_iconst dX7_fits_55 (by decide))) (so_leaf (so_cne dX7_fits_56 (by decide))))) (so_node (so_leaf (so_iconst dX7_fits_59 (by decide))) (so_node (so_leaf (so_goto dX7_fits_60 (by decide))) (so_leaf (so_iconst dX7_fits_63 (by decide)))))) (so_node (so_node (so_leaf (so_ceq dX7_fits_64 (by decide))) (so_node (so_leaf (so_iconst dX7_fits_67 (by decide))) (so_leaf (so_zret dX7_fits_68 rfl)))) (so_node (so_node (so_leaf (so_iinc dX7_fits_69 (by decide) (by decide))) (so_leaf (so_goto dX7_fits_72 (by decide)))) (so_node (so_leaf (so_iconst dX7_fits_75 (by decide))) (so_leaf (so_zret dX7_fits_76 rfl))))))))
theorem pX7_fits : ∀ pc, Pr (kX7_fits pc) := (pr_node (pr_node (pr_node (pr_node (pr_node (pr_leaf (pr_ic _ _)) (pr_node (pr_leaf (pr_is _ _)) (pr_leaf (pr_mask (pr_il _ _))))) (pr_node (pr_leaf (pr_al _ _)) (pr_node (pr_leaf (pr_gI _ _ _)) (pr_leaf (pr_cge _ _))))) (pr_node (pr_node (pr_leaf (pr_al _ _)) (pr_node (pr_leaf (pr_il _ _)) (pr_leaf (pr_al _ _)))) (pr_node (pr_leaf (pr_gR _ _ _)) (pr_node (pr_leaf (pr_ic _ _)) (pr_leaf (pr_il _ _)))))) (pr_node (pr_node (pr_node (pr_leaf (pr_imul _)) (pr_node (pr_leaf (pr_iald _)) (pr_leaf (pr_inv _ _ _ GX3_bound _)))) (pr_node (pr_leaf (pr_al _ _)) (pr_node (pr_leaf (pr_gR _ _ _)) (pr_leaf (pr_ic _ _))))) (pr_node (pr_node (pr_leaf (pr_il _ _)) (pr_node (pr_leaf (pr_imul _)) (pr_leaf (pr_ic _ _)))) (pr_node (pr_leaf (pr_iadd _)) (pr_node (pr_leaf (pr_iald _)) (pr_leaf (pr_clt _ _))))))) (pr_node (pr_node (pr_node (pr_node (pr_leaf (pr_ic _ _)) (pr_node (pr_leaf (pr_goto _)) (pr_leaf (pr_ic _ _)))) (pr_node (pr_leaf (pr_is _ _)) (pr_node (pr_leaf (pr_il _ _)) (pr_leaf (pr_al _ _))))) (pr_node (pr_node (pr_leaf (pr_gR _ _ _)) (pr_node (pr_leaf (pr_ic _ _)) (pr_leaf (pr_il _ _)))) (pr_node (pr_leaf (pr_imul _)) (pr_node (pr_leaf (pr_ic _ _)) (pr_leaf (pr_iadd _)))))) (pr_node (pr_node (pr_node (pr_leaf (pr_iald _)) (pr_node (pr_leaf (pr_ic _ _)) (pr_leaf (pr_cne _ _)))) (pr_node (pr_leaf (pr_ic _ _)) (pr_node (pr_leaf (pr_goto _)) (pr_leaf (pr_ic _ _))))) (pr_node (pr_node (pr_leaf (pr_ceq _ _)) (pr_node (pr_leaf (pr_ic _ _)) (pr_leaf (pr_zret)))) (pr_node (pr_node (pr_leaf (pr_inc _ _ _)) (pr_leaf (pr_goto _))) (pr_node (pr_leaf (pr_ic _ _)) (pr_leaf (pr_zret))))))))
noncomputable def FX7_fits : List EV → Hp → Option (RV × Hp) := Fm kX7_fits 5
theorem CX7_fits : Con yX7_fits cX7_fits 5 (some .boolean) 1 22 FX7_fits := con_of (own := RX7) rfl (by decide +kernel) sX7_fits pX7_fits (fun z => by cases z)
theorem GX7_fits : Gr FX7_fits := Gr_Fm pX7_fits 5
theorem dX7_fitting_0 : decode cX7_fitting 0 = .ok (.lconst 0, 1) := by decide +kernel
theorem dX7_fitting_1 : decode cX7_fitting 1 = .ok (.lstore_n 3, 1) := by decide +kernel
theorem dX7_fitting_2 : decode cX7_fitting 2 = .ok (.iconst 0, 1) := by decide +kernel
theorem dX7_fitting_3 : decode cX7_fitting 3 = .ok (.istore 5, 2) := by decide +kernel
theorem dX7_fitting_5 : decode cX7_fitting 5 = .ok (.iload 5, 2) := by decide +kernel
theorem dX7_fitting_7 : decode cX7_fitting 7 = .ok (.iload_n 2, 1) := by decide +kernel
theorem dX7_fitting_8 : decode cX7_fitting 8 = .ok (.if_icmp .ge 26, 3) := by decide +kernel
theorem dX7_fitting_11 : decode cX7_fitting 11 = .ok (.aload_n 0, 1) := by decide +kernel
theorem dX7_fitting_12 : decode cX7_fitting 12 = .ok (.aload_n 1, 1) := by decide +kernel
theorem dX7_fitting_13 : decode cX7_fitting 13 = .ok (.iload 5, 2) := by decide +kernel
theorem dX7_fitting_15 : decode cX7_fitting 15 = .ok (.invokevirtual 43, 3) := by decide +kernel
theorem dX7_fitting_18 : decode cX7_fitting 18 = .ok (.ifCond .eq 10, 3) := by decide +kernel
theorem dX7_fitting_21 : decode cX7_fitting 21 = .ok (.lload_n 3, 1) := by decide +kernel
theorem dX7_fitting_22 : decode cX7_fitting 22 = .ok (.lconst 1, 1) := by decide +kernel
theorem dX7_fitting_23 : decode cX7_fitting 23 = .ok (.iload 5, 2) := by decide +kernel
theorem dX7_fitting_25 : decode cX7_fitting 25 = .ok (.lshl, 1) := by decide +kernel
theorem dX7_fitting_26 : decode cX7_fitting 26 = .ok (.lor, 1) := by decide +kernel
theorem dX7_fitting_27 : decode cX7_fitting 27 = .ok (.lstore_n 3, 1) := by decide +kernel
theorem dX7_fitting_28 : decode cX7_fitting 28 = .ok (.iinc 5 1, 3) := by decide +kernel
theorem dX7_fitting_31 : decode cX7_fitting 31 = .ok (.goto (-26), 3) := by decide +kernel
theorem dX7_fitting_34 : decode cX7_fitting 34 = .ok (.lload_n 3, 1) := by decide +kernel
theorem dX7_fitting_35 : decode cX7_fitting 35 = .ok (.lreturn, 1) := by decide +kernel
noncomputable def kX7_fitting : Nat → Op := (nodeC 15 (nodeC 5 (nodeC 1 (nodeC 0 (leafC 0 (o_lc (0) 1)) (leafC 1 (o_ls 3 2))) (nodeC 2 (leafC 2 (o_ic (0) 3)) (nodeC 3 (leafC 3 (o_is 5 5)) (leafC 5 (o_mask [4] (o_il 5 7)))))) (nodeC 11 (nodeC 7 (leafC 7 (o_il 2 8)) (nodeC 8 (leafC 8 (o_cge 34 11)) (leafC 11 (o_al 0 12)))) (nodeC 12 (leafC 12 (o_al 1 13)) (nodeC 13 (leafC 13 (o_il 5 15)) (leafC 15 (o_inv 2 7 1 FX7_fits 18)))))) (nodeC 25 (nodeC 21 (nodeC 18 (leafC 18 (o_zeq 28 21)) (leafC 21 (o_ll 3 22))) (nodeC 22 (leafC 22 (o_lc (1) 23)) (nodeC 23 (leafC 23 (o_il 5 25)) (leafC 25 (o_lshl 26))))) (nodeC 28 (nodeC 26 (leafC 26 (o_lor 27)) (nodeC 27 (leafC 27 (o_ls 3 28)) (leafC 28 (o_inc 5 (1) 31)))) (nodeC 31 (leafC 31 (o_goto 5)) (nodeC 34 (leafC 34 (o_ll 3 35)) (leafC 35 (o_lret)))))))
theorem sX7_fitting : ∀ pc, SoundOp cX7_fitting RX7 6 (some .long) false 2 46 pc (kX7_fitting pc) := (so_node (so_node (so_node (so_node (so_leaf (so_lconst dX7_fitting_0 (by decide))) (so_leaf (so_lstore_n dX7_fitting_1 rfl (by decide)))) (so_node (so_leaf (so_iconst dX7_fitting_2 (by decide))) (so_node (so_leaf (so_istore dX7_fitting_3 (by decide))) (so_leaf (so_mask (so_iload dX7_fitting_5)))))) (so_node (so_node (so_leaf (so_iload_n dX7_fitting_7 rfl)) (so_node (so_leaf (so_cge dX7_fitting_8 (by decide))) (so_leaf (so_aload_n dX7_fitting_11 rfl)))) (so_node (so_leaf (so_aload_n dX7_fitting_12 rfl)) (so_node (so_leaf (so_iload dX7_fitting_13)) (so_leaf (so_inv CX7_fits (by decide) rfl wm_RX7_43 win_X7_fits wse_X7_fits wn_7 wc_X7_fits (by decide +kernel) (by decide) (by decide) dX7_fitting_15)))))) (so_node (so_node (so_node (so_leaf (so_zeq dX7_fitting_18 (by decide))) (so_leaf (so_lload_n dX7_fitting_21 rfl))) (so_node (so_leaf (so_lconst dX7_fitting_22 (by decide))) (so_node (so_leaf (so_iload dX7_fitting_23)) (so_leaf (so_lshl dX7_fitting_25))))) (so_node (so_node (so_leaf (so_lor dX7_fitting_26)) (so_node (so_leaf (so_lstore_n dX7_fitting_27 rfl (by decide))) (so_leaf (so_iinc dX7_fitting_28 (by decide) (by decide))))) (so_node (so_leaf (so_goto dX7_fitting_31 (by decide))) (so_node (so_leaf (so_lload_n dX7_fitting_34 rfl)) (so_leaf (so_lret dX7_fitting_35 rfl)))))))
theorem pX7_fitting : ∀ pc, Pr (kX7_fitting pc) := (pr_node (pr_node (pr_node (pr_node (pr_leaf (pr_lc _ _)) (pr_leaf (pr_ls _ _))) (pr_node (pr_leaf (pr_ic _ _)) (pr_node (pr_leaf (pr_is _ _)) (pr_leaf (pr_mask (pr_il _ _)))))) (pr_node (pr_node (pr_leaf (pr_il _ _)) (pr_node (pr_leaf (pr_cge _ _)) (pr_leaf (pr_al _ _)))) (pr_node (pr_leaf (pr_al _ _)) (pr_node (pr_leaf (pr_il _ _)) (pr_leaf (pr_inv _ _ _ GX7_fits _)))))) (pr_node (pr_node (pr_node (pr_leaf (pr_zeq _ _)) (pr_leaf (pr_ll _ _))) (pr_node (pr_leaf (pr_lc _ _)) (pr_node (pr_leaf (pr_il _ _)) (pr_leaf (pr_lshl _))))) (pr_node (pr_node (pr_leaf (pr_lor _)) (pr_node (pr_leaf (pr_ls _ _)) (pr_leaf (pr_inc _ _ _)))) (pr_node (pr_leaf (pr_goto _)) (pr_node (pr_leaf (pr_ll _ _)) (pr_leaf (pr_lret)))))))
noncomputable def FX7_fitting : List EV → Hp → Option (RV × Hp) := Fm kX7_fitting 6
theorem CX7_fitting : Con yX7_fitting cX7_fitting 6 (some .long) 2 46 FX7_fitting := con_of (own := RX7) rfl (by decide +kernel) sX7_fitting pX7_fitting (fun z => by cases z)
theorem GX7_fitting : Gr FX7_fitting := Gr_Fm pX7_fitting 6
theorem dX7_bestQuestion_0 : decode cX7_bestQuestion 0 = .ok (.aload_n 0, 1) := by decide +kernel
theorem dX7_bestQuestion_1 : decode cX7_bestQuestion 1 = .ok (.aload_n 1, 1) := by decide +kernel
theorem dX7_bestQuestion_2 : decode cX7_bestQuestion 2 = .ok (.iload_n 2, 1) := by decide +kernel
theorem dX7_bestQuestion_3 : decode cX7_bestQuestion 3 = .ok (.invokevirtual 47, 3) := by decide +kernel
theorem dX7_bestQuestion_6 : decode cX7_bestQuestion 6 = .ok (.lstore_n 3, 1) := by decide +kernel
theorem dX7_bestQuestion_7 : decode cX7_bestQuestion 7 = .ok (.iconst (-1), 1) := by decide +kernel
theorem dX7_bestQuestion_8 : decode cX7_bestQuestion 8 = .ok (.istore 5, 2) := by decide +kernel
theorem dX7_bestQuestion_10 : decode cX7_bestQuestion 10 = .ok (.bipush 61, 2) := by decide +kernel
theorem dX7_bestQuestion_12 : decode cX7_bestQuestion 12 = .ok (.istore 6, 2) := by decide +kernel
theorem dX7_bestQuestion_14 : decode cX7_bestQuestion 14 = .ok (.iconst 0, 1) := by decide +kernel
theorem dX7_bestQuestion_15 : decode cX7_bestQuestion 15 = .ok (.istore 7, 2) := by decide +kernel
theorem dX7_bestQuestion_17 : decode cX7_bestQuestion 17 = .ok (.iload 7, 2) := by decide +kernel
theorem dX7_bestQuestion_19 : decode cX7_bestQuestion 19 = .ok (.sipush 300, 3) := by decide +kernel
theorem dX7_bestQuestion_22 : decode cX7_bestQuestion 22 = .ok (.if_icmp .ge 94, 3) := by decide +kernel
theorem dX7_bestQuestion_25 : decode cX7_bestQuestion 25 = .ok (.lload_n 3, 1) := by decide +kernel
theorem dX7_bestQuestion_26 : decode cX7_bestQuestion 26 = .ok (.lconst 0, 1) := by decide +kernel
theorem dX7_bestQuestion_27 : decode cX7_bestQuestion 27 = .ok (.lcmp, 1) := by decide +kernel
theorem dX7_bestQuestion_28 : decode cX7_bestQuestion 28 = .ok (.ifCond .eq 88, 3) := by decide +kernel
theorem dX7_bestQuestion_31 : decode cX7_bestQuestion 31 = .ok (.iconst 0, 1) := by decide +kernel
theorem dX7_bestQuestion_32 : decode cX7_bestQuestion 32 = .ok (.istore 8, 2) := by decide +kernel
theorem dX7_bestQuestion_34 : decode cX7_bestQuestion 34 = .ok (.iconst 0, 1) := by decide +kernel
theorem dX7_bestQuestion_35 : decode cX7_bestQuestion 35 = .ok (.istore 9, 2) := by decide +kernel
theorem dX7_bestQuestion_37 : decode cX7_bestQuestion 37 = .ok (.iload 9, 2) := by decide +kernel
theorem dX7_bestQuestion_39 : decode cX7_bestQuestion 39 = .ok (.iload_n 2, 1) := by decide +kernel
theorem dX7_bestQuestion_40 : decode cX7_bestQuestion 40 = .ok (.if_icmp .ge 49, 3) := by decide +kernel
theorem dX7_bestQuestion_43 : decode cX7_bestQuestion 43 = .ok (.lload_n 3, 1) := by decide +kernel
theorem dX7_bestQuestion_44 : decode cX7_bestQuestion 44 = .ok (.iload 9, 2) := by decide +kernel
theorem dX7_bestQuestion_46 : decode cX7_bestQuestion 46 = .ok (.lushr, 1) := by decide +kernel
theorem dX7_bestQuestion_47 : decode cX7_bestQuestion 47 = .ok (.lconst 1, 1) := by decide +kernel
theorem dX7_bestQuestion_48 : decode cX7_bestQuestion 48 = .ok (.land, 1) := by decide +kernel
theorem dX7_bestQuestion_49 : decode cX7_bestQuestion 49 = .ok (.lconst 0, 1) := by decide +kernel
theorem dX7_bestQuestion_50 : decode cX7_bestQuestion 50 = .ok (.lcmp, 1) := by decide +kernel
theorem dX7_bestQuestion_51 : decode cX7_bestQuestion 51 = .ok (.ifCond .eq 32, 3) := by decide +kernel
theorem dX7_bestQuestion_54 : decode cX7_bestQuestion 54 = .ok (.iload 8, 2) := by decide +kernel
theorem dX7_bestQuestion_56 : decode cX7_bestQuestion 56 = .ok (.aload_n 1, 1) := by decide +kernel
theorem dX7_bestQuestion_57 : decode cX7_bestQuestion 57 = .ok (.iload 9, 2) := by decide +kernel
theorem dX7_bestQuestion_59 : decode cX7_bestQuestion 59 = .ok (.iload 7, 2) := by decide +kernel
theorem dX7_bestQuestion_61 : decode cX7_bestQuestion 61 = .ok (.bipush 100, 2) := by decide +kernel
theorem dX7_bestQuestion_63 : decode cX7_bestQuestion 63 = .ok (.idiv, 1) := by decide +kernel
theorem dX7_bestQuestion_64 : decode cX7_bestQuestion 64 = .ok (.invokevirtual 37, 3) := by decide +kernel
theorem dX7_bestQuestion_67 : decode cX7_bestQuestion 67 = .ok (.iload 7, 2) := by decide +kernel
theorem dX7_bestQuestion_69 : decode cX7_bestQuestion 69 = .ok (.bipush 100, 2) := by decide +kernel
theorem dX7_bestQuestion_71 : decode cX7_bestQuestion 71 = .ok (.irem, 1) := by decide +kernel
theorem dX7_bestQuestion_72 : decode cX7_bestQuestion 72 = .ok (.if_icmp .lt 7, 3) := by decide +kernel
theorem dX7_bestQuestion_75 : decode cX7_bestQuestion 75 = .ok (.iconst 1, 1) := by decide +kernel
theorem dX7_bestQuestion_76 : decode cX7_bestQuestion 76 = .ok (.goto 4, 3) := by decide +kernel
theorem dX7_bestQuestion_79 : decode cX7_bestQuestion 79 = .ok (.iconst (-1), 1) := by decide +kernel
theorem dX7_bestQuestion_80 : decode cX7_bestQuestion 80 = .ok (.iadd, 1) := by decide +kernel
theorem dX7_bestQuestion_81 : decode cX7_bestQuestion 81 = .ok (.istore 8, 2) := by decide +kernel
theorem dX7_bestQuestion_83 : decode cX7_bestQuestion 83 = .ok (.iinc 9 1, 3) := by decide +kernel
theorem dX7_bestQuestion_86 : decode cX7_bestQuestion 86 = .ok (.goto (-49), 3) := by decide +kernel
theorem dX7_bestQuestion_89 : decode cX7_bestQuestion 89 = .ok (.iload 8, 2) := by decide +kernel
theorem dX7_bestQuestion_91 : decode cX7_bestQuestion 91 = .ok (.invokestatic 51, 3) := by decide +kernel
theorem dX7_bestQuestion_94 : decode cX7_bestQuestion 94 = .ok (.iload 6, 2) := by decide +kernel
theorem dX7_bestQuestion_96 : decode cX7_bestQuestion 96 = .ok (.if_icmp .ge 14, 3) := by decide +kernel
theorem dX7_bestQuestion_99 : decode cX7_bestQuestion 99 = .ok (.iload 8, 2) := by decide +kernel
theorem dX7_bestQuestion_101 : decode cX7_bestQuestion 101 = .ok (.invokestatic 51, 3) := by decide +kernel
theorem dX7_bestQuestion_104 : decode cX7_bestQuestion 104 = .ok (.istore 6, 2) := by decide +kernel
theorem dX7_bestQuestion_106 : decode cX7_bestQuestion 106 = .ok (.iload 7, 2) := by decide +kernel
theorem dX7_bestQuestion_108 : decode cX7_bestQuestion 108 = .ok (.istore 5, 2) := by decide +kernel
theorem dX7_bestQuestion_110 : decode cX7_bestQuestion 110 = .ok (.iinc 7 1, 3) := by decide +kernel
theorem dX7_bestQuestion_113 : decode cX7_bestQuestion 113 = .ok (.goto (-96), 3) := by decide +kernel
theorem dX7_bestQuestion_116 : decode cX7_bestQuestion 116 = .ok (.iload 5, 2) := by decide +kernel
theorem dX7_bestQuestion_118 : decode cX7_bestQuestion 118 = .ok (.ireturn, 1) := by decide +kernel
noncomputable def kX7_bestQuestion : Nat → Op := (nodeC 50 (nodeC 26 (nodeC 10 (nodeC 3 (nodeC 1 (nodeC 0 (leafC 0 (o_al 0 1)) (leafC 1 (o_al 1 2))) (nodeC 2 (leafC 2 (o_il 2 3)) (leafC 3 (o_inv 2 7 2 FX7_fitting 6)))) (nodeC 7 (nodeC 6 (leafC 6 (o_ls 3 7)) (leafC 7 (o_ic (-1) 8))) (nodeC 8 (leafC 8 (o_is 5 10)) (leafC 10 (o_ic (61) 12))))) (nodeC 17 (nodeC 14 (nodeC 12 (leafC 12 (o_is 6 14)) (leafC 14 (o_ic (0) 15))) (nodeC 15 (leafC 15 (o_is 7 17)) (leafC 17 (o_mask [0, 4, 8, 9] (o_il 7 19))))) (nodeC 22 (nodeC 19 (leafC 19 (o_ic (300) 22)) (leafC 22 (o_cge 116 25))) (nodeC 25 (leafC 25 (o_ll 3 26)) (leafC 26 (o_lc (0) 27)))))) (nodeC 39 (nodeC 32 (nodeC 28 (nodeC 27 (leafC 27 (o_lcmp 28)) (leafC 28 (o_zeq 116 31))) (nodeC 31 (leafC 31 (o_ic (0) 32)) (leafC 32 (o_is 8 34)))) (nodeC 35 (nodeC 34 (leafC 34 (o_ic (0) 35)) (leafC 35 (o_is 9 37))) (nodeC 37 (leafC 37 (o_mask [0, 4] (o_il 9 39))) (leafC 39 (o_il 2 40))))) (nodeC 46 (nodeC 43 (nodeC 40 (leafC 40 (o_cge 89 43)) (leafC 43 (o_ll 3 44))) (nodeC 44 (leafC 44 (o_il 9 46)) (leafC 46 (o_lushr 47)))) (nodeC 48 (nodeC 47 (leafC 47 (o_lc (1) 48)) (leafC 48 (o_land 49))) (nodeC 49 (leafC 49 (o_lc (0) 50)) (leafC 50 (o_lcmp 51))))))) (nodeC 80 (nodeC 64 (nodeC 57 (nodeC 54 (nodeC 51 (leafC 51 (o_zeq 83 54)) (leafC 54 (o_il 8 56))) (nodeC 56 (leafC 56 (o_al 1 57)) (leafC 57 (o_il 9 59)))) (nodeC 61 (nodeC 59 (leafC 59 (o_il 7 61)) (leafC 61 (o_ic (100) 63))) (nodeC 63 (leafC 63 (o_idiv 64)) (leafC 64 (o_inv 2 3 1 FX3_bound 67))))) (nodeC 72 (nodeC 69 (nodeC 67 (leafC 67 (o_il 7 69)) (leafC 69 (o_ic (100) 71))) (nodeC 71 (leafC 71 (o_irem 72)) (leafC 72 (o_clt 79 75)))) (nodeC 76 (nodeC 75 (leafC 75 (o_ic (1) 76)) (leafC 76 (o_goto 80))) (nodeC 79 (leafC 79 (o_ic (-1) 80)) (leafC 80 (o_iadd 81)))))) (nodeC 99 (nodeC 89 (nodeC 83 (nodeC 81 (leafC 81 (o_is 8 83)) (leafC 83 (o_inc 9 (1) 86))) (nodeC 86 (leafC 86 (o_goto 37)) (leafC 89 (o_il 8 91)))) (nodeC 94 (nodeC 91 (leafC 91 (o_abs 94)) (leafC 94 (o_il 6 96))) (nodeC 96 (leafC 96 (o_cge 110 99)) (leafC 99 (o_il 8 101))))) (nodeC 108 (nodeC 104 (nodeC 101 (leafC 101 (o_abs 104)) (leafC 104 (o_is 6 106))) (nodeC 106 (leafC 106 (o_il 7 108)) (leafC 108 (o_is 5 110)))) (nodeC 113 (nodeC 110 (leafC 110 (o_inc 7 (1) 113)) (leafC 113 (o_goto 17))) (nodeC 116 (leafC 116 (o_il 5 118)) (leafC 118 (o_iret))))))))
theorem sX7_bestQuestion : ∀ pc, SoundOp cX7_bestQuestion RX7 10 (some .int) false 3 71 pc (kX7_bestQuestion pc) := (so_node (so_node (so_node (so_node (so_node (so_node (so_leaf (so_aload_n dX7_bestQuestion_0 rfl)) (so_leaf (so_aload_n dX7_bestQuestion_1 rfl))) (so_node (so_leaf (so_iload_n dX7_bestQuestion_2 rfl)) (so_leaf (so_inv CX7_fitting (by decide) rfl wm_RX7_47 win_X7_fitting wse_X7_fitting wn_7 wc_X7_fitting (by decide +kernel) (by decide) (by decide) dX7_bestQuestion_3)))) (so_node (so_node (so_leaf (so_lstore_n dX7_bestQuestion_6 rfl (by decide))) (so_leaf (so_iconst dX7_bestQuestion_7 (by decide)))) (so_node (so_leaf (so_istore dX7_bestQuestion_8 (by decide))) (so_leaf (so_bipush dX7_bestQuestion_10 (by decide)))))) (so_node (so_node (so_node (so_leaf (so_istore dX7_bestQuestion_12 (by decide))) (so_leaf (so_iconst dX7_bestQuestion_14 (by decide)))) (so_node (so_leaf (so_istore dX7_bestQuestion_15 (by decide))) (so_leaf (so_mask (so_iload dX7_bestQuestion_17))))) (so_node (so_node (so_leaf (so_sipush dX7_bestQuestion_19 (by decide))) (so_leaf (so_cge dX7_bestQuestion_22 (by decide)))) (so_node (so_leaf (so_lload_n dX7_bestQuestion_25 rfl)) (so_leaf (so_lconst dX7_bestQuestion_26 (by decide))))))) (so_node (so_node (so_node (so_node (so_leaf (so_lcmp dX7_bestQuestion_27)) (so_leaf (so_zeq dX7_bestQuestion_28 (by decide)))) (so_node (so_leaf (so_iconst dX7_bestQuestion_31 (by decide))) (so_leaf (so_istore dX7_bestQuestion_32 (by decide))))) (so_node (so_node (so_leaf (so_iconst dX7_bestQuestion_34 (by decide))) (so_leaf (so_istore dX7_bestQuestion_35 (by decide)))) (so_node (so_leaf (so_mask (so_iload dX7_bestQuestion_37))) (so_leaf (so_iload_n dX7_bestQuestion_39 rfl))))) (so_node (so_node (so_node (so_leaf (so_cge dX7_bestQuestion_40 (by decide))) (so_leaf (so_lload_n dX7_bestQuestion_43 rfl))) (so_node (so_leaf (so_iload dX7_bestQuestion_44)) (so_leaf (so_lushr dX7_bestQuestion_46)))) (so_node (so_node (so_leaf (so_lconst dX7_bestQuestion_47 (by decide))) (so_leaf (so_land dX7_bestQuestion_48))) (so_node (so_leaf (so_lconst dX7_bestQuestion_49 (by decide))) (so_leaf (so_lcmp dX7_bestQuestion_50))))))) (so_node (so_node (so_node (so_node (so_node (so_leaf (so_zeq dX7_bestQuestion_51 (by decide))) (so_leaf (so_iload dX7_bestQuestion_54))) (so_node (so_leaf (so_aload_n dX7_bestQuestion_56 rfl)) (so_leaf (so_iload dX7_bestQuestion_57)))) (so_node (so_node (so_leaf (so_iload dX7_bestQuestion_59)) (so_leaf (so_bipush dX7_bestQuestion_61 (by decide)))) (so_node (so_leaf (so_idiv dX7_bestQuestion_63)) (so_leaf (so_inv CX3_bound (by decide) rfl wm_RX7_37 win_X3_bound wse_X3_bound wn_3 wc_X3_bound (by decide +kernel) (by decide) (by decide) dX7_bestQuestion_64))))) (so_node (so_node (so_node (so_leaf (so_iload dX7_bestQuestion_67)) (so_leaf (so_bipush dX7_bestQuestion_69 (by decide)))) (so_node (so_leaf (so_irem dX7_bestQuestion_71)) (so_leaf (so_clt dX7_bestQuestion_72 (by decide))))) (so_node (so_node (so_leaf (so_iconst dX7_bestQuestion_75 (by decide))) (so_leaf (so_goto dX7_bestQuestion_76 (by decide)))) (so_node (so_leaf (so_iconst dX7_bestQuestion_79 (by decide))) (so_leaf (so_iadd dX7_bestQuestion_80)))))) (so_node (so_node (so_node (so_node (so_leaf (so_istore dX7_bestQuestion_81 (by decide))) (so_leaf (so_iinc dX7_bestQuestion_83 (by decide) (by decide)))) (so_node (so_leaf (so_goto dX7_bestQuestion_86 (by decide))) (so_leaf (so_iload dX7_bestQuestion_89)))) (so_node (so_node (so_leaf (so_abs wm_RX7_51 wms_abs wmi wmc_abs (by decide) (by decide) dX7_bestQuestion_91)) (so_leaf (so_iload dX7_bestQuestion_94))) (so_node (so_leaf (so_cge dX7_bestQuestion_96 (by decide))) (so_leaf (so_iload dX7_bestQuestion_99))))) (so_node (so_node (so_node (so_leaf (so_abs wm_RX7_51 wms_abs wmi wmc_abs (by decide) (by decide) dX7_bestQuestion_101)) (so_leaf (so_istore dX7_bestQuestion_104 (by decide)))) (so_node (so_leaf (so_iload dX7_bestQuestion_106)) (so_leaf (so_istore dX7_bestQuestion_108 (by decide))))) (so_node (so_node (so_leaf (so_iinc dX7_bestQuestion_110 (by decide) (by decide))) (so_leaf (so_goto dX7_bestQuestion_113 (by decide)))) (so_node (so_leaf (so_iload dX7_bestQuestion_116)) (so_leaf (so_iret dX7_bestQuestion_118 rfl))))))))
theorem pX7_bestQuestion : ∀ pc, Pr (kX7_bestQuestion pc) := (pr_node (pr_node (pr_node (pr_node (pr_node (pr_node (pr_leaf (pr_al _ _)) (pr_leaf (pr_al _ _))) (pr_node (pr_leaf (pr_il _ _)) (pr_leaf (pr_inv _ _ _ GX7_fitting _)))) (pr_node (pr_node (pr_leaf (pr_ls _ _)) (pr_leaf (pr_ic _ _))) (pr_node (pr_leaf (pr_is _ _)) (pr_leaf (pr_ic _ _))))) (pr_node (pr_node (pr_node (pr_leaf (pr_is _ _)) (pr_leaf (pr_ic _ _))) (pr_node (pr_leaf (pr_is _ _)) (pr_leaf (pr_mask (pr_il _ _))))) (pr_node (pr_node (pr_leaf (pr_ic _ _)) (pr_leaf (pr_cge _ _))) (pr_node (pr_leaf (pr_ll _ _)) (pr_leaf (pr_lc _ _)))))) (pr_node (pr_node (pr_node (pr_node (pr_leaf (pr_lcmp _)) (pr_leaf (pr_zeq _ _))) (pr_node (pr_leaf (pr_ic _ _)) (pr_leaf (pr_is _ _)))) (pr_node (pr_node (pr_leaf (pr_ic _ _)) (pr_leaf (pr_is _ _))) (pr_node (pr_leaf (pr_mask (pr_il _ _))) (pr_leaf (pr_il _ _))))) (pr_node (pr_node (pr_node (pr_leaf (pr_cge _ _)) (pr_leaf (pr_ll _ _))) (pr_node (pr_leaf (pr_il _ _)) (pr_leaf (pr_lushr _)))) (pr_node (pr_node (pr_leaf (pr_lc _ _)) (pr_leaf (pr_land _))) (pr_node (pr_leaf (pr_lc _ _)) (pr_leaf (pr_lcmp _))))))) (pr_node (pr_node (pr_node (pr_node (pr_node (pr_leaf (pr_zeq _ _)) (pr_leaf (pr_il _ _))) (pr_node (pr_leaf (pr_al _ _)) (pr_leaf (pr_il _ _)))) (pr_node (pr_node (pr_leaf (pr_il _ _)) (pr_leaf (pr_ic _ _))) (pr_node (pr_leaf (pr_idiv _)) (pr_leaf (pr_inv _ _ _ GX3_bound _))))) (pr_node (pr_node (pr_node (pr_leaf (pr_il _ _)) (pr_leaf (pr_ic _ _))) (pr_node (pr_leaf (pr_irem _)) (pr_leaf (pr_clt _ _)))) (pr_node (pr_node (pr_leaf (pr_ic _ _)) (pr_leaf (pr_goto _))) (pr_node (pr_leaf (pr_ic _ _)) (pr_leaf (pr_iadd _)))))) (pr_node (pr_node (pr_node (pr_node (pr_leaf (pr_is _ _)) (pr_leaf (pr_inc _ _ _))) (pr_node (pr_leaf (pr_goto _)) (pr_leaf (pr_il _ _)))) (pr_node (pr_node (pr_leaf (pr_abs _)) (pr_leaf (pr_il _ _))) (pr_node (pr_leaf (pr_cge _ _)) (pr_leaf (pr_il _ _))))) (pr_node (pr_node (pr_node (pr_leaf (pr_abs _)) (pr_leaf (pr_is _ _))) (pr_node (pr_leaf (pr_il _ _)) (pr_leaf (pr_is _ _)))) (pr_node (pr_node (pr_leaf (pr_inc _ _ _)) (pr_leaf (pr_goto _))) (pr_node (pr_leaf (pr_il _ _)) (pr_leaf (pr_iret))))))))
noncomputable def FX7_bestQuestion : List EV → Hp → Option (RV × Hp) := Fm kX7_bestQuestion 10
theorem CX7_bestQuestion : Con yX7_bestQuestion cX7_bestQuestion 10 (some .int) 3 71 FX7_bestQuestion := con_of (own := RX7) rfl (by decide +kernel) sX7_bestQuestion pX7_bestQuestion (fun z => by cases z)
theorem GX7_bestQuestion : Gr FX7_bestQuestion := Gr_Fm pX7_bestQuestion 10
