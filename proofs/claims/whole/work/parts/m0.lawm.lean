/-! ===== the law: its code ===== -/
theorem wl_RL_8 : Cond.classLink RL 8 (clR 11) ∈ bigW := big_mem 121 (by decide +kernel) (by decide +kernel)
theorem wi_11 : Cond.instantiable (clR 11) (nF 11) ∈ bigW := big_mem 122 (by decide +kernel) (by decide +kernel)
theorem wm_RL_15 : Cond.methodLink RL 15 yX11_init ∈ bigW := big_mem 123 (by decide +kernel) (by decide +kernel)
theorem wc_X11_init : Cond.code yX11_init cX11_init 2 none ∈ bigW := big_mem 125 (by decide +kernel) (by decide +kernel)
theorem win_X11_init : Cond.instanceMethod yX11_init ∈ bigW := big_mem 124 (by decide +kernel) (by decide +kernel)
theorem wny_X11_init : Cond.initialized yX11_init.cls ∈ bigW := big_mem 97 (by decide +kernel) (by decide +kernel)
theorem wl_RL_16 : Cond.classLink RL 16 (clR 12) ∈ bigW := big_mem 1246 (by decide +kernel) (by decide +kernel)
theorem wi_12 : Cond.instantiable (clR 12) (nF 12) ∈ bigW := big_mem 1247 (by decide +kernel) (by decide +kernel)
theorem wm_RL_18 : Cond.methodLink RL 18 yX12_init ∈ bigW := big_mem 1248 (by decide +kernel) (by decide +kernel)
theorem wc_X12_init : Cond.code yX12_init cX12_init 1 none ∈ bigW := big_mem 1250 (by decide +kernel) (by decide +kernel)
theorem win_X12_init : Cond.instanceMethod yX12_init ∈ bigW := big_mem 1249 (by decide +kernel) (by decide +kernel)
theorem wny_X12_init : Cond.initialized yX12_init.cls ∈ bigW := big_mem 108 (by decide +kernel) (by decide +kernel)
theorem wm_RL_19 : Cond.methodLink RL 19 yX11_feed ∈ bigW := big_mem 495 (by decide +kernel) (by decide +kernel)
theorem wc_X11_feed : Cond.code yX11_feed cX11_feed 7 (some .int) ∈ bigW := big_mem 498 (by decide +kernel) (by decide +kernel)
theorem win_X11_feed : Cond.instanceMethod yX11_feed ∈ bigW := big_mem 496 (by decide +kernel) (by decide +kernel)
theorem wse_X11_feed : Cond.selects (clR 11) yX11_feed yX11_feed ∈ bigW := big_mem 497 (by decide +kernel) (by decide +kernel)
theorem wm_RL_23 : Cond.methodLink RL 23 yX12_feed ∈ bigW := big_mem 1422 (by decide +kernel) (by decide +kernel)
theorem wc_X12_feed : Cond.code yX12_feed cX12_feed 6 (some .int) ∈ bigW := big_mem 1425 (by decide +kernel) (by decide +kernel)
theorem win_X12_feed : Cond.instanceMethod yX12_feed ∈ bigW := big_mem 1423 (by decide +kernel) (by decide +kernel)
theorem wse_X12_feed : Cond.selects (clR 12) yX12_feed yX12_feed ∈ bigW := big_mem 1424 (by decide +kernel) (by decide +kernel)
theorem wm_RL_24 : Cond.methodLink RL 24 yX11_end ∈ bigW := big_mem 506 (by decide +kernel) (by decide +kernel)
theorem wc_X11_end : Cond.code yX11_end cX11_end 2 (some .boolean) ∈ bigW := big_mem 509 (by decide +kernel) (by decide +kernel)
theorem win_X11_end : Cond.instanceMethod yX11_end ∈ bigW := big_mem 507 (by decide +kernel) (by decide +kernel)
theorem wse_X11_end : Cond.selects (clR 11) yX11_end yX11_end ∈ bigW := big_mem 508 (by decide +kernel) (by decide +kernel)
theorem wm_RL_28 : Cond.methodLink RL 28 yX12_end ∈ bigW := big_mem 1433 (by decide +kernel) (by decide +kernel)
theorem wc_X12_end : Cond.code yX12_end cX12_end 2 (some .boolean) ∈ bigW := big_mem 1436 (by decide +kernel) (by decide +kernel)
theorem win_X12_end : Cond.instanceMethod yX12_end ∈ bigW := big_mem 1434 (by decide +kernel) (by decide +kernel)
theorem wse_X12_end : Cond.selects (clR 12) yX12_end yX12_end ∈ bigW := big_mem 1435 (by decide +kernel) (by decide +kernel)
theorem wm_RL_29 : Cond.methodLink RL 29 yX11_fault ∈ bigW := big_mem 510 (by decide +kernel) (by decide +kernel)
theorem wc_X11_fault : Cond.code yX11_fault cX11_fault 2 (some .int) ∈ bigW := big_mem 513 (by decide +kernel) (by decide +kernel)
theorem win_X11_fault : Cond.instanceMethod yX11_fault ∈ bigW := big_mem 511 (by decide +kernel) (by decide +kernel)
theorem wse_X11_fault : Cond.selects (clR 11) yX11_fault yX11_fault ∈ bigW := big_mem 512 (by decide +kernel) (by decide +kernel)
theorem wm_RL_33 : Cond.methodLink RL 33 yX12_fault ∈ bigW := big_mem 1437 (by decide +kernel) (by decide +kernel)
theorem wm_RL_34 : Cond.methodLink RL 34 yX11_text ∈ bigW := big_mem 651 (by decide +kernel) (by decide +kernel)
theorem wc_X11_text : Cond.code yX11_text cX11_text 2 (some .int) ∈ bigW := big_mem 654 (by decide +kernel) (by decide +kernel)
theorem win_X11_text : Cond.instanceMethod yX11_text ∈ bigW := big_mem 652 (by decide +kernel) (by decide +kernel)
theorem wse_X11_text : Cond.selects (clR 11) yX11_text yX11_text ∈ bigW := big_mem 653 (by decide +kernel) (by decide +kernel)
theorem wm_RL_37 : Cond.methodLink RL 37 yX12_text ∈ bigW := big_mem 1621 (by decide +kernel) (by decide +kernel)
theorem wc_X12_text : Cond.code yX12_text cX12_text 4 (some .int) ∈ bigW := big_mem 1624 (by decide +kernel) (by decide +kernel)
theorem win_X12_text : Cond.instanceMethod yX12_text ∈ bigW := big_mem 1622 (by decide +kernel) (by decide +kernel)
theorem wse_X12_text : Cond.selects (clR 12) yX12_text yX12_text ∈ bigW := big_mem 1623 (by decide +kernel) (by decide +kernel)
theorem wm_RL_38 : Cond.methodLink RL 38 yX11_rule ∈ bigW := big_mem 712 (by decide +kernel) (by decide +kernel)
theorem wc_X11_rule : Cond.code yX11_rule cX11_rule 2 (some .int) ∈ bigW := big_mem 715 (by decide +kernel) (by decide +kernel)
theorem win_X11_rule : Cond.instanceMethod yX11_rule ∈ bigW := big_mem 713 (by decide +kernel) (by decide +kernel)
theorem wse_X11_rule : Cond.selects (clR 11) yX11_rule yX11_rule ∈ bigW := big_mem 714 (by decide +kernel) (by decide +kernel)
theorem wm_RL_41 : Cond.methodLink RL 41 yX12_rule ∈ bigW := big_mem 1626 (by decide +kernel) (by decide +kernel)
theorem wc_X12_rule : Cond.code yX12_rule cX12_rule 2 (some .int) ∈ bigW := big_mem 1629 (by decide +kernel) (by decide +kernel)
theorem win_X12_rule : Cond.instanceMethod yX12_rule ∈ bigW := big_mem 1627 (by decide +kernel) (by decide +kernel)
theorem wse_X12_rule : Cond.selects (clR 12) yX12_rule yX12_rule ∈ bigW := big_mem 1628 (by decide +kernel) (by decide +kernel)
theorem wm_RL_42 : Cond.methodLink RL 42 yX11_debt ∈ bigW := big_mem 740 (by decide +kernel) (by decide +kernel)
theorem wc_X11_debt : Cond.code yX11_debt cX11_debt 3 (some .int) ∈ bigW := big_mem 743 (by decide +kernel) (by decide +kernel)
theorem win_X11_debt : Cond.instanceMethod yX11_debt ∈ bigW := big_mem 741 (by decide +kernel) (by decide +kernel)
theorem wse_X11_debt : Cond.selects (clR 11) yX11_debt yX11_debt ∈ bigW := big_mem 742 (by decide +kernel) (by decide +kernel)
theorem wm_RL_45 : Cond.methodLink RL 45 yX12_debt ∈ bigW := big_mem 1641 (by decide +kernel) (by decide +kernel)
theorem wc_X12_debt : Cond.code yX12_debt cX12_debt 3 (some .int) ∈ bigW := big_mem 1644 (by decide +kernel) (by decide +kernel)
theorem win_X12_debt : Cond.instanceMethod yX12_debt ∈ bigW := big_mem 1642 (by decide +kernel) (by decide +kernel)
theorem wse_X12_debt : Cond.selects (clR 12) yX12_debt yX12_debt ∈ bigW := big_mem 1643 (by decide +kernel) (by decide +kernel)
theorem wm_RL_51 : Cond.methodLink RL 51 yX12_buyer ∈ bigW := big_mem 1658 (by decide +kernel) (by decide +kernel)
theorem wc_X12_buyer : Cond.code yX12_buyer cX12_buyer 3 (some .int) ∈ bigW := big_mem 1661 (by decide +kernel) (by decide +kernel)
theorem win_X12_buyer : Cond.instanceMethod yX12_buyer ∈ bigW := big_mem 1659 (by decide +kernel) (by decide +kernel)
theorem wse_X12_buyer : Cond.selects (clR 12) yX12_buyer yX12_buyer ∈ bigW := big_mem 1660 (by decide +kernel) (by decide +kernel)
theorem wm_RL_52 : Cond.methodLink RL 52 yX12_thrown ∈ bigW := big_mem 1418 (by decide +kernel) (by decide +kernel)
theorem wc_X12_thrown : Cond.code yX12_thrown cX12_thrown 1 (some .int) ∈ bigW := big_mem 1421 (by decide +kernel) (by decide +kernel)
theorem win_X12_thrown : Cond.instanceMethod yX12_thrown ∈ bigW := big_mem 1419 (by decide +kernel) (by decide +kernel)
theorem wse_X12_thrown : Cond.selects (clR 12) yX12_thrown yX12_thrown ∈ bigW := big_mem 1420 (by decide +kernel) (by decide +kernel)
theorem wm_RL_56 : Cond.methodLink RL 56 yX11_law ∈ bigW := big_mem 756 (by decide +kernel) (by decide +kernel)
theorem wc_X11_law : Cond.code yX11_law cX11_law 2 (some .boolean) ∈ bigW := big_mem 759 (by decide +kernel) (by decide +kernel)
theorem win_X11_law : Cond.instanceMethod yX11_law ∈ bigW := big_mem 757 (by decide +kernel) (by decide +kernel)
theorem wse_X11_law : Cond.selects (clR 11) yX11_law yX11_law ∈ bigW := big_mem 758 (by decide +kernel) (by decide +kernel)
theorem wm_RL_59 : Cond.methodLink RL 59 yX12_law ∈ bigW := big_mem 1671 (by decide +kernel) (by decide +kernel)
theorem wc_X12_law : Cond.code yX12_law cX12_law 2 (some .boolean) ∈ bigW := big_mem 1674 (by decide +kernel) (by decide +kernel)
theorem win_X12_law : Cond.instanceMethod yX12_law ∈ bigW := big_mem 1672 (by decide +kernel) (by decide +kernel)
theorem wse_X12_law : Cond.selects (clR 12) yX12_law yX12_law ∈ bigW := big_mem 1673 (by decide +kernel) (by decide +kernel)
theorem wm_RL_60 : Cond.methodLink RL 60 yX11_lazy ∈ bigW := big_mem 760 (by decide +kernel) (by decide +kernel)
theorem wc_X11_lazy : Cond.code yX11_lazy cX11_lazy 2 (some .boolean) ∈ bigW := big_mem 763 (by decide +kernel) (by decide +kernel)
theorem win_X11_lazy : Cond.instanceMethod yX11_lazy ∈ bigW := big_mem 761 (by decide +kernel) (by decide +kernel)
theorem wse_X11_lazy : Cond.selects (clR 11) yX11_lazy yX11_lazy ∈ bigW := big_mem 762 (by decide +kernel) (by decide +kernel)
theorem wm_RL_63 : Cond.methodLink RL 63 yX12_lazy ∈ bigW := big_mem 1675 (by decide +kernel) (by decide +kernel)
theorem wc_X12_lazy : Cond.code yX12_lazy cX12_lazy 2 (some .boolean) ∈ bigW := big_mem 1678 (by decide +kernel) (by decide +kernel)
theorem win_X12_lazy : Cond.instanceMethod yX12_lazy ∈ bigW := big_mem 1676 (by decide +kernel) (by decide +kernel)
theorem wse_X12_lazy : Cond.selects (clR 12) yX12_lazy yX12_lazy ∈ bigW := big_mem 1677 (by decide +kernel) (by decide +kernel)
theorem wm_RL_64 : Cond.methodLink RL 64 yX11_week ∈ bigW := big_mem 774 (by decide +kernel) (by decide +kernel)
theorem wm_RL_67 : Cond.methodLink RL 67 yX12_week ∈ bigW := big_mem 1680 (by decide +kernel) (by decide +kernel)
theorem wc_X12_week : Cond.code yX12_week cX12_week 2 (some .int) ∈ bigW := big_mem 1683 (by decide +kernel) (by decide +kernel)
theorem win_X12_week : Cond.instanceMethod yX12_week ∈ bigW := big_mem 1681 (by decide +kernel) (by decide +kernel)
theorem wse_X12_week : Cond.selects (clR 12) yX12_week yX12_week ∈ bigW := big_mem 1682 (by decide +kernel) (by decide +kernel)
theorem wm_RL_68 : Cond.methodLink RL 68 yX11_cut ∈ bigW := big_mem 819 (by decide +kernel) (by decide +kernel)
theorem wm_RL_71 : Cond.methodLink RL 71 yX12_cut ∈ bigW := big_mem 1708 (by decide +kernel) (by decide +kernel)
theorem wc_X12_cut : Cond.code yX12_cut cX12_cut 1 (some .int) ∈ bigW := big_mem 1711 (by decide +kernel) (by decide +kernel)
theorem win_X12_cut : Cond.instanceMethod yX12_cut ∈ bigW := big_mem 1709 (by decide +kernel) (by decide +kernel)
theorem wse_X12_cut : Cond.selects (clR 12) yX12_cut yX12_cut ∈ bigW := big_mem 1710 (by decide +kernel) (by decide +kernel)
theorem wm_RL_72 : Cond.methodLink RL 72 yX11_sell ∈ bigW := big_mem 827 (by decide +kernel) (by decide +kernel)
theorem wm_RL_75 : Cond.methodLink RL 75 yX12_sell ∈ bigW := big_mem 1715 (by decide +kernel) (by decide +kernel)
theorem wc_X12_sell : Cond.code yX12_sell cX12_sell 3 (some .int) ∈ bigW := big_mem 1718 (by decide +kernel) (by decide +kernel)
theorem win_X12_sell : Cond.instanceMethod yX12_sell ∈ bigW := big_mem 1716 (by decide +kernel) (by decide +kernel)
theorem wse_X12_sell : Cond.selects (clR 12) yX12_sell yX12_sell ∈ bigW := big_mem 1717 (by decide +kernel) (by decide +kernel)
theorem wm_RL_76 : Cond.methodLink RL 76 yX11_pay ∈ bigW := big_mem 840 (by decide +kernel) (by decide +kernel)
theorem wm_RL_79 : Cond.methodLink RL 79 yX12_pay ∈ bigW := big_mem 1727 (by decide +kernel) (by decide +kernel)
theorem wc_X12_pay : Cond.code yX12_pay cX12_pay 2 (some .int) ∈ bigW := big_mem 1730 (by decide +kernel) (by decide +kernel)
theorem win_X12_pay : Cond.instanceMethod yX12_pay ∈ bigW := big_mem 1728 (by decide +kernel) (by decide +kernel)
theorem wse_X12_pay : Cond.selects (clR 12) yX12_pay yX12_pay ∈ bigW := big_mem 1729 (by decide +kernel) (by decide +kernel)
theorem wm_RL_80 : Cond.methodLink RL 80 yX11_iron ∈ bigW := big_mem 850 (by decide +kernel) (by decide +kernel)
theorem wc_X11_iron : Cond.code yX11_iron cX11_iron 2 (some .boolean) ∈ bigW := big_mem 853 (by decide +kernel) (by decide +kernel)
theorem win_X11_iron : Cond.instanceMethod yX11_iron ∈ bigW := big_mem 851 (by decide +kernel) (by decide +kernel)
theorem wse_X11_iron : Cond.selects (clR 11) yX11_iron yX11_iron ∈ bigW := big_mem 852 (by decide +kernel) (by decide +kernel)
theorem wm_RL_84 : Cond.methodLink RL 84 yX12_iron ∈ bigW := big_mem 1739 (by decide +kernel) (by decide +kernel)
theorem wc_X12_iron : Cond.code yX12_iron cX12_iron 2 (some .boolean) ∈ bigW := big_mem 1742 (by decide +kernel) (by decide +kernel)
theorem win_X12_iron : Cond.instanceMethod yX12_iron ∈ bigW := big_mem 1740 (by decide +kernel) (by decide +kernel)
theorem wse_X12_iron : Cond.selects (clR 12) yX12_iron yX12_iron ∈ bigW := big_mem 1741 (by decide +kernel) (by decide +kernel)
theorem wm_RL_85 : Cond.methodLink RL 85 yX11_give ∈ bigW := big_mem 854 (by decide +kernel) (by decide +kernel)
theorem wc_X11_give : Cond.code yX11_give cX11_give 2 (some .int) ∈ bigW := big_mem 857 (by decide +kernel) (by decide +kernel)
theorem win_X11_give : Cond.instanceMethod yX11_give ∈ bigW := big_mem 855 (by decide +kernel) (by decide +kernel)
theorem wse_X11_give : Cond.selects (clR 11) yX11_give yX11_give ∈ bigW := big_mem 856 (by decide +kernel) (by decide +kernel)
theorem wm_RL_88 : Cond.methodLink RL 88 yX12_give ∈ bigW := big_mem 1743 (by decide +kernel) (by decide +kernel)
theorem wc_X12_give : Cond.code yX12_give cX12_give 2 (some .int) ∈ bigW := big_mem 1746 (by decide +kernel) (by decide +kernel)
theorem win_X12_give : Cond.instanceMethod yX12_give ∈ bigW := big_mem 1744 (by decide +kernel) (by decide +kernel)
theorem wse_X12_give : Cond.selects (clR 12) yX12_give yX12_give ∈ bigW := big_mem 1745 (by decide +kernel) (by decide +kernel)
theorem wk_RL_89 : Cond.constantLong RL 89 (4294967295) ∈ bigW := big_mem 1956 (by decide +kernel) (by decide +kernel)
theorem wm_RL_91 : Cond.methodLink RL 91 yX11_lives ∈ bigW := big_mem 858 (by decide +kernel) (by decide +kernel)
theorem wc_X11_lives : Cond.code yX11_lives cX11_lives 5 (some .int) ∈ bigW := big_mem 861 (by decide +kernel) (by decide +kernel)
theorem win_X11_lives : Cond.instanceMethod yX11_lives ∈ bigW := big_mem 859 (by decide +kernel) (by decide +kernel)
theorem wse_X11_lives : Cond.selects (clR 11) yX11_lives yX11_lives ∈ bigW := big_mem 860 (by decide +kernel) (by decide +kernel)
theorem wm_RL_95 : Cond.methodLink RL 95 yX12_lives ∈ bigW := big_mem 1748 (by decide +kernel) (by decide +kernel)
theorem wc_X12_lives : Cond.code yX12_lives cX12_lives 7 (some .int) ∈ bigW := big_mem 1751 (by decide +kernel) (by decide +kernel)
theorem win_X12_lives : Cond.instanceMethod yX12_lives ∈ bigW := big_mem 1749 (by decide +kernel) (by decide +kernel)
theorem wse_X12_lives : Cond.selects (clR 12) yX12_lives yX12_lives ∈ bigW := big_mem 1750 (by decide +kernel) (by decide +kernel)
theorem wm_RL_96 : Cond.methodLink RL 96 yX11_undo ∈ bigW := big_mem 872 (by decide +kernel) (by decide +kernel)
theorem wc_X11_undo : Cond.code yX11_undo cX11_undo 1 (some .int) ∈ bigW := big_mem 875 (by decide +kernel) (by decide +kernel)
theorem win_X11_undo : Cond.instanceMethod yX11_undo ∈ bigW := big_mem 873 (by decide +kernel) (by decide +kernel)
theorem wse_X11_undo : Cond.selects (clR 11) yX11_undo yX11_undo ∈ bigW := big_mem 874 (by decide +kernel) (by decide +kernel)
theorem wm_RL_99 : Cond.methodLink RL 99 yX12_undo ∈ bigW := big_mem 1759 (by decide +kernel) (by decide +kernel)
theorem wc_X12_undo : Cond.code yX12_undo cX12_undo 2 (some .int) ∈ bigW := big_mem 1762 (by decide +kernel) (by decide +kernel)
theorem win_X12_undo : Cond.instanceMethod yX12_undo ∈ bigW := big_mem 1760 (by decide +kernel) (by decide +kernel)
theorem wse_X12_undo : Cond.selects (clR 12) yX12_undo yX12_undo ∈ bigW := big_mem 1761 (by decide +kernel) (by decide +kernel)
theorem wm_RL_100 : Cond.methodLink RL 100 yX11_log ∈ bigW := big_mem 894 (by decide +kernel) (by decide +kernel)
theorem wc_X11_log : Cond.code yX11_log cX11_log 3 (some .int) ∈ bigW := big_mem 897 (by decide +kernel) (by decide +kernel)
theorem win_X11_log : Cond.instanceMethod yX11_log ∈ bigW := big_mem 895 (by decide +kernel) (by decide +kernel)
theorem wse_X11_log : Cond.selects (clR 11) yX11_log yX11_log ∈ bigW := big_mem 896 (by decide +kernel) (by decide +kernel)
theorem wm_RL_103 : Cond.methodLink RL 103 yX12_log ∈ bigW := big_mem 1763 (by decide +kernel) (by decide +kernel)
theorem wc_X12_log : Cond.code yX12_log cX12_log 3 (some .int) ∈ bigW := big_mem 1766 (by decide +kernel) (by decide +kernel)
theorem win_X12_log : Cond.instanceMethod yX12_log ∈ bigW := big_mem 1764 (by decide +kernel) (by decide +kernel)
theorem wse_X12_log : Cond.selects (clR 12) yX12_log yX12_log ∈ bigW := big_mem 1765 (by decide +kernel) (by decide +kernel)
theorem wm_RL_104 : Cond.methodLink RL 104 yX11_book ∈ bigW := big_mem 902 (by decide +kernel) (by decide +kernel)
theorem wc_X11_book : Cond.code yX11_book cX11_book 3 (some .int) ∈ bigW := big_mem 905 (by decide +kernel) (by decide +kernel)
theorem win_X11_book : Cond.instanceMethod yX11_book ∈ bigW := big_mem 903 (by decide +kernel) (by decide +kernel)
theorem wse_X11_book : Cond.selects (clR 11) yX11_book yX11_book ∈ bigW := big_mem 904 (by decide +kernel) (by decide +kernel)
theorem wm_RL_107 : Cond.methodLink RL 107 yX12_book ∈ bigW := big_mem 1767 (by decide +kernel) (by decide +kernel)
theorem wc_X12_book : Cond.code yX12_book cX12_book 3 (some .int) ∈ bigW := big_mem 1770 (by decide +kernel) (by decide +kernel)
theorem win_X12_book : Cond.instanceMethod yX12_book ∈ bigW := big_mem 1768 (by decide +kernel) (by decide +kernel)
theorem wse_X12_book : Cond.selects (clR 12) yX12_book yX12_book ∈ bigW := big_mem 1769 (by decide +kernel) (by decide +kernel)
theorem wm_RL_108 : Cond.methodLink RL 108 yX11_step ∈ bigW := big_mem 914 (by decide +kernel) (by decide +kernel)
theorem wc_X11_step : Cond.code yX11_step cX11_step 4 (some .int) ∈ bigW := big_mem 917 (by decide +kernel) (by decide +kernel)
theorem win_X11_step : Cond.instanceMethod yX11_step ∈ bigW := big_mem 915 (by decide +kernel) (by decide +kernel)
theorem wse_X11_step : Cond.selects (clR 11) yX11_step yX11_step ∈ bigW := big_mem 916 (by decide +kernel) (by decide +kernel)
theorem wm_RL_112 : Cond.methodLink RL 112 yX12_step ∈ bigW := big_mem 1775 (by decide +kernel) (by decide +kernel)
theorem wc_X12_step : Cond.code yX12_step cX12_step 4 (some .int) ∈ bigW := big_mem 1778 (by decide +kernel) (by decide +kernel)
theorem win_X12_step : Cond.instanceMethod yX12_step ∈ bigW := big_mem 1776 (by decide +kernel) (by decide +kernel)
theorem wse_X12_step : Cond.selects (clR 12) yX12_step yX12_step ∈ bigW := big_mem 1777 (by decide +kernel) (by decide +kernel)
theorem wm_RL_113 : Cond.methodLink RL 113 yX11_run ∈ bigW := big_mem 926 (by decide +kernel) (by decide +kernel)
theorem wc_X11_run : Cond.code yX11_run cX11_run 4 (some .int) ∈ bigW := big_mem 929 (by decide +kernel) (by decide +kernel)
theorem win_X11_run : Cond.instanceMethod yX11_run ∈ bigW := big_mem 927 (by decide +kernel) (by decide +kernel)
theorem wse_X11_run : Cond.selects (clR 11) yX11_run yX11_run ∈ bigW := big_mem 928 (by decide +kernel) (by decide +kernel)
theorem wm_RL_116 : Cond.methodLink RL 116 yX12_run ∈ bigW := big_mem 1784 (by decide +kernel) (by decide +kernel)
theorem wc_X12_run : Cond.code yX12_run cX12_run 4 (some .int) ∈ bigW := big_mem 1787 (by decide +kernel) (by decide +kernel)
theorem win_X12_run : Cond.instanceMethod yX12_run ∈ bigW := big_mem 1785 (by decide +kernel) (by decide +kernel)
theorem wse_X12_run : Cond.selects (clR 12) yX12_run yX12_run ∈ bigW := big_mem 1786 (by decide +kernel) (by decide +kernel)
theorem wm_RL_117 : Cond.methodLink RL 117 yX11_perform ∈ bigW := big_mem 939 (by decide +kernel) (by decide +kernel)
theorem wc_X11_perform : Cond.code yX11_perform cX11_perform 3 (some .int) ∈ bigW := big_mem 942 (by decide +kernel) (by decide +kernel)
theorem win_X11_perform : Cond.instanceMethod yX11_perform ∈ bigW := big_mem 940 (by decide +kernel) (by decide +kernel)
theorem wse_X11_perform : Cond.selects (clR 11) yX11_perform yX11_perform ∈ bigW := big_mem 941 (by decide +kernel) (by decide +kernel)
theorem wm_RL_120 : Cond.methodLink RL 120 yX12_perform ∈ bigW := big_mem 1799 (by decide +kernel) (by decide +kernel)
theorem wc_X12_perform : Cond.code yX12_perform cX12_perform 3 (some .int) ∈ bigW := big_mem 1802 (by decide +kernel) (by decide +kernel)
theorem win_X12_perform : Cond.instanceMethod yX12_perform ∈ bigW := big_mem 1800 (by decide +kernel) (by decide +kernel)
theorem wse_X12_perform : Cond.selects (clR 12) yX12_perform yX12_perform ∈ bigW := big_mem 1801 (by decide +kernel) (by decide +kernel)
theorem wm_RL_121 : Cond.methodLink RL 121 yX11_weaving ∈ bigW := big_mem 951 (by decide +kernel) (by decide +kernel)
theorem wc_X11_weaving : Cond.code yX11_weaving cX11_weaving 4 (some .int) ∈ bigW := big_mem 954 (by decide +kernel) (by decide +kernel)
theorem win_X11_weaving : Cond.instanceMethod yX11_weaving ∈ bigW := big_mem 952 (by decide +kernel) (by decide +kernel)
theorem wse_X11_weaving : Cond.selects (clR 11) yX11_weaving yX11_weaving ∈ bigW := big_mem 953 (by decide +kernel) (by decide +kernel)
theorem wm_RL_124 : Cond.methodLink RL 124 yX12_weaving ∈ bigW := big_mem 1803 (by decide +kernel) (by decide +kernel)
theorem wc_X12_weaving : Cond.code yX12_weaving cX12_weaving 4 (some .int) ∈ bigW := big_mem 1806 (by decide +kernel) (by decide +kernel)
theorem win_X12_weaving : Cond.instanceMethod yX12_weaving ∈ bigW := big_mem 1804 (by decide +kernel) (by decide +kernel)
theorem wse_X12_weaving : Cond.selects (clR 12) yX12_weaving yX12_weaving ∈ bigW := big_mem 1805 (by decide +kernel) (by decide +kernel)
theorem wm_RL_125 : Cond.methodLink RL 125 yX11_stands ∈ bigW := big_mem 967 (by decide +kernel) (by decide +kernel)
theorem wc_X11_stands : Cond.code yX11_stands cX11_stands 2 (some .int) ∈ bigW := big_mem 970 (by decide +kernel) (by decide +kernel)
theorem win_X11_stands : Cond.instanceMethod yX11_stands ∈ bigW := big_mem 968 (by decide +kernel) (by decide +kernel)
theorem wse_X11_stands : Cond.selects (clR 11) yX11_stands yX11_stands ∈ bigW := big_mem 969 (by decide +kernel) (by decide +kernel)
theorem wm_RL_128 : Cond.methodLink RL 128 yX12_stands ∈ bigW := big_mem 1812 (by decide +kernel) (by decide +kernel)
theorem wc_X12_stands : Cond.code yX12_stands cX12_stands 2 (some .int) ∈ bigW := big_mem 1815 (by decide +kernel) (by decide +kernel)
theorem win_X12_stands : Cond.instanceMethod yX12_stands ∈ bigW := big_mem 1813 (by decide +kernel) (by decide +kernel)
theorem wse_X12_stands : Cond.selects (clR 12) yX12_stands yX12_stands ∈ bigW := big_mem 1814 (by decide +kernel) (by decide +kernel)
theorem wm_RL_129 : Cond.methodLink RL 129 yX11_soonest ∈ bigW := big_mem 971 (by decide +kernel) (by decide +kernel)
theorem wc_X11_soonest : Cond.code yX11_soonest cX11_soonest 2 (some .int) ∈ bigW := big_mem 974 (by decide +kernel) (by decide +kernel)
theorem win_X11_soonest : Cond.instanceMethod yX11_soonest ∈ bigW := big_mem 972 (by decide +kernel) (by decide +kernel)
theorem wse_X11_soonest : Cond.selects (clR 11) yX11_soonest yX11_soonest ∈ bigW := big_mem 973 (by decide +kernel) (by decide +kernel)
theorem wm_RL_132 : Cond.methodLink RL 132 yX12_soonest ∈ bigW := big_mem 1816 (by decide +kernel) (by decide +kernel)
theorem wc_X12_soonest : Cond.code yX12_soonest cX12_soonest 4 (some .int) ∈ bigW := big_mem 1819 (by decide +kernel) (by decide +kernel)
theorem win_X12_soonest : Cond.instanceMethod yX12_soonest ∈ bigW := big_mem 1817 (by decide +kernel) (by decide +kernel)
theorem wse_X12_soonest : Cond.selects (clR 12) yX12_soonest yX12_soonest ∈ bigW := big_mem 1818 (by decide +kernel) (by decide +kernel)
theorem wm_RL_133 : Cond.methodLink RL 133 yX11_paying ∈ bigW := big_mem 1009 (by decide +kernel) (by decide +kernel)
theorem wc_X11_paying : Cond.code yX11_paying cX11_paying 3 (some .int) ∈ bigW := big_mem 1012 (by decide +kernel) (by decide +kernel)
theorem win_X11_paying : Cond.instanceMethod yX11_paying ∈ bigW := big_mem 1010 (by decide +kernel) (by decide +kernel)
theorem wse_X11_paying : Cond.selects (clR 11) yX11_paying yX11_paying ∈ bigW := big_mem 1011 (by decide +kernel) (by decide +kernel)
theorem wm_RL_136 : Cond.methodLink RL 136 yX12_paying ∈ bigW := big_mem 1835 (by decide +kernel) (by decide +kernel)
theorem wc_X12_paying : Cond.code yX12_paying cX12_paying 10 (some .int) ∈ bigW := big_mem 1838 (by decide +kernel) (by decide +kernel)
theorem win_X12_paying : Cond.instanceMethod yX12_paying ∈ bigW := big_mem 1836 (by decide +kernel) (by decide +kernel)
theorem wse_X12_paying : Cond.selects (clR 12) yX12_paying yX12_paying ∈ bigW := big_mem 1837 (by decide +kernel) (by decide +kernel)
theorem wm_RL_137 : Cond.methodLink RL 137 yX11_moon ∈ bigW := big_mem 1030 (by decide +kernel) (by decide +kernel)
theorem wc_X11_moon : Cond.code yX11_moon cX11_moon 3 (some .int) ∈ bigW := big_mem 1033 (by decide +kernel) (by decide +kernel)
theorem win_X11_moon : Cond.instanceMethod yX11_moon ∈ bigW := big_mem 1031 (by decide +kernel) (by decide +kernel)
theorem wse_X11_moon : Cond.selects (clR 11) yX11_moon yX11_moon ∈ bigW := big_mem 1032 (by decide +kernel) (by decide +kernel)
theorem wm_RL_140 : Cond.methodLink RL 140 yX12_moon ∈ bigW := big_mem 1843 (by decide +kernel) (by decide +kernel)
theorem wc_X12_moon : Cond.code yX12_moon cX12_moon 4 (some .int) ∈ bigW := big_mem 1846 (by decide +kernel) (by decide +kernel)
theorem win_X12_moon : Cond.instanceMethod yX12_moon ∈ bigW := big_mem 1844 (by decide +kernel) (by decide +kernel)
theorem wse_X12_moon : Cond.selects (clR 12) yX12_moon yX12_moon ∈ bigW := big_mem 1845 (by decide +kernel) (by decide +kernel)
theorem wm_RL_141 : Cond.methodLink RL 141 yX11_market ∈ bigW := big_mem 1050 (by decide +kernel) (by decide +kernel)
theorem wc_X11_market : Cond.code yX11_market cX11_market 2 (some .int) ∈ bigW := big_mem 1053 (by decide +kernel) (by decide +kernel)
theorem win_X11_market : Cond.instanceMethod yX11_market ∈ bigW := big_mem 1051 (by decide +kernel) (by decide +kernel)
theorem wse_X11_market : Cond.selects (clR 11) yX11_market yX11_market ∈ bigW := big_mem 1052 (by decide +kernel) (by decide +kernel)
theorem wm_RL_144 : Cond.methodLink RL 144 yX12_market ∈ bigW := big_mem 1847 (by decide +kernel) (by decide +kernel)
theorem wc_X12_market : Cond.code yX12_market cX12_market 3 (some .int) ∈ bigW := big_mem 1850 (by decide +kernel) (by decide +kernel)
theorem win_X12_market : Cond.instanceMethod yX12_market ∈ bigW := big_mem 1848 (by decide +kernel) (by decide +kernel)
theorem wse_X12_market : Cond.selects (clR 12) yX12_market yX12_market ∈ bigW := big_mem 1849 (by decide +kernel) (by decide +kernel)
theorem wm_RL_145 : Cond.methodLink RL 145 yX11_ring ∈ bigW := big_mem 1068 (by decide +kernel) (by decide +kernel)
theorem wc_X11_ring : Cond.code yX11_ring cX11_ring 3 (some .int) ∈ bigW := big_mem 1071 (by decide +kernel) (by decide +kernel)
theorem win_X11_ring : Cond.instanceMethod yX11_ring ∈ bigW := big_mem 1069 (by decide +kernel) (by decide +kernel)
theorem wse_X11_ring : Cond.selects (clR 11) yX11_ring yX11_ring ∈ bigW := big_mem 1070 (by decide +kernel) (by decide +kernel)
theorem wm_RL_148 : Cond.methodLink RL 148 yX12_ring ∈ bigW := big_mem 1863 (by decide +kernel) (by decide +kernel)
theorem wc_X12_ring : Cond.code yX12_ring cX12_ring 2 (some .int) ∈ bigW := big_mem 1866 (by decide +kernel) (by decide +kernel)
theorem win_X12_ring : Cond.instanceMethod yX12_ring ∈ bigW := big_mem 1864 (by decide +kernel) (by decide +kernel)
theorem wse_X12_ring : Cond.selects (clR 12) yX12_ring yX12_ring ∈ bigW := big_mem 1865 (by decide +kernel) (by decide +kernel)
theorem wm_RL_149 : Cond.methodLink RL 149 yX11_pieces ∈ bigW := big_mem 1072 (by decide +kernel) (by decide +kernel)
theorem wc_X11_pieces : Cond.code yX11_pieces cX11_pieces 4 (some .int) ∈ bigW := big_mem 1075 (by decide +kernel) (by decide +kernel)
theorem win_X11_pieces : Cond.instanceMethod yX11_pieces ∈ bigW := big_mem 1073 (by decide +kernel) (by decide +kernel)
theorem wse_X11_pieces : Cond.selects (clR 11) yX11_pieces yX11_pieces ∈ bigW := big_mem 1074 (by decide +kernel) (by decide +kernel)
theorem wm_RL_152 : Cond.methodLink RL 152 yX12_pieces ∈ bigW := big_mem 1867 (by decide +kernel) (by decide +kernel)
theorem wc_X12_pieces : Cond.code yX12_pieces cX12_pieces 4 (some .int) ∈ bigW := big_mem 1870 (by decide +kernel) (by decide +kernel)
theorem win_X12_pieces : Cond.instanceMethod yX12_pieces ∈ bigW := big_mem 1868 (by decide +kernel) (by decide +kernel)
theorem wse_X12_pieces : Cond.selects (clR 12) yX12_pieces yX12_pieces ∈ bigW := big_mem 1869 (by decide +kernel) (by decide +kernel)
theorem wm_RL_153 : Cond.methodLink RL 153 yX11_game ∈ bigW := big_mem 1093 (by decide +kernel) (by decide +kernel)
theorem wc_X11_game : Cond.code yX11_game cX11_game 4 (some .int) ∈ bigW := big_mem 1096 (by decide +kernel) (by decide +kernel)
theorem win_X11_game : Cond.instanceMethod yX11_game ∈ bigW := big_mem 1094 (by decide +kernel) (by decide +kernel)
theorem wse_X11_game : Cond.selects (clR 11) yX11_game yX11_game ∈ bigW := big_mem 1095 (by decide +kernel) (by decide +kernel)
theorem wm_RL_156 : Cond.methodLink RL 156 yX12_game ∈ bigW := big_mem 1875 (by decide +kernel) (by decide +kernel)
theorem wc_X12_game : Cond.code yX12_game cX12_game 4 (some .int) ∈ bigW := big_mem 1878 (by decide +kernel) (by decide +kernel)
theorem win_X12_game : Cond.instanceMethod yX12_game ∈ bigW := big_mem 1876 (by decide +kernel) (by decide +kernel)
theorem wse_X12_game : Cond.selects (clR 12) yX12_game yX12_game ∈ bigW := big_mem 1877 (by decide +kernel) (by decide +kernel)
theorem wm_RL_157 : Cond.methodLink RL 157 yX11_rests ∈ bigW := big_mem 1105 (by decide +kernel) (by decide +kernel)
theorem wc_X11_rests : Cond.code yX11_rests cX11_rests 6 (some .int) ∈ bigW := big_mem 1108 (by decide +kernel) (by decide +kernel)
theorem win_X11_rests : Cond.instanceMethod yX11_rests ∈ bigW := big_mem 1106 (by decide +kernel) (by decide +kernel)
theorem wse_X11_rests : Cond.selects (clR 11) yX11_rests yX11_rests ∈ bigW := big_mem 1107 (by decide +kernel) (by decide +kernel)
theorem wm_RL_160 : Cond.methodLink RL 160 yX12_rests ∈ bigW := big_mem 1883 (by decide +kernel) (by decide +kernel)
theorem wc_X12_rests : Cond.code yX12_rests cX12_rests 6 (some .int) ∈ bigW := big_mem 1886 (by decide +kernel) (by decide +kernel)
theorem win_X12_rests : Cond.instanceMethod yX12_rests ∈ bigW := big_mem 1884 (by decide +kernel) (by decide +kernel)
theorem wse_X12_rests : Cond.selects (clR 12) yX12_rests yX12_rests ∈ bigW := big_mem 1885 (by decide +kernel) (by decide +kernel)
theorem wm_RL_161 : Cond.methodLink RL 161 yX11_test ∈ bigW := big_mem 1113 (by decide +kernel) (by decide +kernel)
theorem wc_X11_test : Cond.code yX11_test cX11_test 3 (some .int) ∈ bigW := big_mem 1116 (by decide +kernel) (by decide +kernel)
theorem win_X11_test : Cond.instanceMethod yX11_test ∈ bigW := big_mem 1114 (by decide +kernel) (by decide +kernel)
theorem wse_X11_test : Cond.selects (clR 11) yX11_test yX11_test ∈ bigW := big_mem 1115 (by decide +kernel) (by decide +kernel)
theorem wm_RL_165 : Cond.methodLink RL 165 yX12_test ∈ bigW := big_mem 1887 (by decide +kernel) (by decide +kernel)
theorem wc_X12_test : Cond.code yX12_test cX12_test 3 (some .int) ∈ bigW := big_mem 1890 (by decide +kernel) (by decide +kernel)
theorem win_X12_test : Cond.instanceMethod yX12_test ∈ bigW := big_mem 1888 (by decide +kernel) (by decide +kernel)
theorem wse_X12_test : Cond.selects (clR 12) yX12_test yX12_test ∈ bigW := big_mem 1889 (by decide +kernel) (by decide +kernel)
theorem wm_RL_166 : Cond.methodLink RL 166 yX11_crane ∈ bigW := big_mem 1125 (by decide +kernel) (by decide +kernel)
theorem wc_X11_crane : Cond.code yX11_crane cX11_crane 1 (some .int) ∈ bigW := big_mem 1128 (by decide +kernel) (by decide +kernel)
theorem win_X11_crane : Cond.instanceMethod yX11_crane ∈ bigW := big_mem 1126 (by decide +kernel) (by decide +kernel)
theorem wse_X11_crane : Cond.selects (clR 11) yX11_crane yX11_crane ∈ bigW := big_mem 1127 (by decide +kernel) (by decide +kernel)
theorem wm_RL_169 : Cond.methodLink RL 169 yX12_crane ∈ bigW := big_mem 1891 (by decide +kernel) (by decide +kernel)
theorem wc_X12_crane : Cond.code yX12_crane cX12_crane 8 (some .int) ∈ bigW := big_mem 1894 (by decide +kernel) (by decide +kernel)
theorem win_X12_crane : Cond.instanceMethod yX12_crane ∈ bigW := big_mem 1892 (by decide +kernel) (by decide +kernel)
theorem wse_X12_crane : Cond.selects (clR 12) yX12_crane yX12_crane ∈ bigW := big_mem 1893 (by decide +kernel) (by decide +kernel)
theorem wm_RL_170 : Cond.methodLink RL 170 yX11_sign ∈ bigW := big_mem 1134 (by decide +kernel) (by decide +kernel)
theorem wc_X11_sign : Cond.code yX11_sign cX11_sign 4 (some .int) ∈ bigW := big_mem 1137 (by decide +kernel) (by decide +kernel)
theorem win_X11_sign : Cond.instanceMethod yX11_sign ∈ bigW := big_mem 1135 (by decide +kernel) (by decide +kernel)
theorem wse_X11_sign : Cond.selects (clR 11) yX11_sign yX11_sign ∈ bigW := big_mem 1136 (by decide +kernel) (by decide +kernel)
theorem wm_RL_174 : Cond.methodLink RL 174 yX12_sign ∈ bigW := big_mem 1895 (by decide +kernel) (by decide +kernel)
theorem wc_X12_sign : Cond.code yX12_sign cX12_sign 4 (some .int) ∈ bigW := big_mem 1898 (by decide +kernel) (by decide +kernel)
theorem win_X12_sign : Cond.instanceMethod yX12_sign ∈ bigW := big_mem 1896 (by decide +kernel) (by decide +kernel)
theorem wse_X12_sign : Cond.selects (clR 12) yX12_sign yX12_sign ∈ bigW := big_mem 1897 (by decide +kernel) (by decide +kernel)
theorem wm_RL_175 : Cond.methodLink RL 175 yX11_from ∈ bigW := big_mem 1142 (by decide +kernel) (by decide +kernel)
theorem wc_X11_from : Cond.code yX11_from cX11_from 6 (some .int) ∈ bigW := big_mem 1145 (by decide +kernel) (by decide +kernel)
theorem win_X11_from : Cond.instanceMethod yX11_from ∈ bigW := big_mem 1143 (by decide +kernel) (by decide +kernel)
theorem wse_X11_from : Cond.selects (clR 11) yX11_from yX11_from ∈ bigW := big_mem 1144 (by decide +kernel) (by decide +kernel)
theorem wm_RL_178 : Cond.methodLink RL 178 yX12_from ∈ bigW := big_mem 1899 (by decide +kernel) (by decide +kernel)
theorem wm_RL_179 : Cond.methodLink RL 179 yX11_ask ∈ bigW := big_mem 1155 (by decide +kernel) (by decide +kernel)
theorem wc_X11_ask : Cond.code yX11_ask cX11_ask 1 (some .int) ∈ bigW := big_mem 1158 (by decide +kernel) (by decide +kernel)
theorem win_X11_ask : Cond.instanceMethod yX11_ask ∈ bigW := big_mem 1156 (by decide +kernel) (by decide +kernel)
theorem wse_X11_ask : Cond.selects (clR 11) yX11_ask yX11_ask ∈ bigW := big_mem 1157 (by decide +kernel) (by decide +kernel)
theorem wm_RL_182 : Cond.methodLink RL 182 yX12_ask ∈ bigW := big_mem 1907 (by decide +kernel) (by decide +kernel)
theorem wc_X12_ask : Cond.code yX12_ask cX12_ask 6 (some .int) ∈ bigW := big_mem 1910 (by decide +kernel) (by decide +kernel)
theorem win_X12_ask : Cond.instanceMethod yX12_ask ∈ bigW := big_mem 1908 (by decide +kernel) (by decide +kernel)
theorem wse_X12_ask : Cond.selects (clR 12) yX12_ask yX12_ask ∈ bigW := big_mem 1909 (by decide +kernel) (by decide +kernel)
theorem wm_RL_183 : Cond.methodLink RL 183 yX11_odds ∈ bigW := big_mem 1003 (by decide +kernel) (by decide +kernel)
theorem wc_X11_odds : Cond.code yX11_odds cX11_odds 6 (some .int) ∈ bigW := big_mem 1006 (by decide +kernel) (by decide +kernel)
theorem win_X11_odds : Cond.instanceMethod yX11_odds ∈ bigW := big_mem 1004 (by decide +kernel) (by decide +kernel)
theorem wse_X11_odds : Cond.selects (clR 11) yX11_odds yX11_odds ∈ bigW := big_mem 1005 (by decide +kernel) (by decide +kernel)
theorem wm_RL_186 : Cond.methodLink RL 186 yX12_odds ∈ bigW := big_mem 1913 (by decide +kernel) (by decide +kernel)
theorem wc_X12_odds : Cond.code yX12_odds cX12_odds 6 (some .int) ∈ bigW := big_mem 1916 (by decide +kernel) (by decide +kernel)
theorem win_X12_odds : Cond.instanceMethod yX12_odds ∈ bigW := big_mem 1914 (by decide +kernel) (by decide +kernel)
theorem wse_X12_odds : Cond.selects (clR 12) yX12_odds yX12_odds ∈ bigW := big_mem 1915 (by decide +kernel) (by decide +kernel)
theorem wm_RL_187 : Cond.methodLink RL 187 yX11_owed ∈ bigW := big_mem 1038 (by decide +kernel) (by decide +kernel)
theorem wc_X11_owed : Cond.code yX11_owed cX11_owed 2 (some .int) ∈ bigW := big_mem 1041 (by decide +kernel) (by decide +kernel)
theorem win_X11_owed : Cond.instanceMethod yX11_owed ∈ bigW := big_mem 1039 (by decide +kernel) (by decide +kernel)
theorem wse_X11_owed : Cond.selects (clR 11) yX11_owed yX11_owed ∈ bigW := big_mem 1040 (by decide +kernel) (by decide +kernel)
theorem wm_RL_190 : Cond.methodLink RL 190 yX12_owed ∈ bigW := big_mem 1920 (by decide +kernel) (by decide +kernel)
theorem wc_X12_owed : Cond.code yX12_owed cX12_owed 6 (some .int) ∈ bigW := big_mem 1923 (by decide +kernel) (by decide +kernel)
theorem win_X12_owed : Cond.instanceMethod yX12_owed ∈ bigW := big_mem 1921 (by decide +kernel) (by decide +kernel)
theorem wse_X12_owed : Cond.selects (clR 12) yX12_owed yX12_owed ∈ bigW := big_mem 1922 (by decide +kernel) (by decide +kernel)
theorem wm_RL_191 : Cond.methodLink RL 191 yX11_bears ∈ bigW := big_mem 999 (by decide +kernel) (by decide +kernel)
theorem wc_X11_bears : Cond.code yX11_bears cX11_bears 3 (some .int) ∈ bigW := big_mem 1002 (by decide +kernel) (by decide +kernel)
theorem win_X11_bears : Cond.instanceMethod yX11_bears ∈ bigW := big_mem 1000 (by decide +kernel) (by decide +kernel)
theorem wse_X11_bears : Cond.selects (clR 11) yX11_bears yX11_bears ∈ bigW := big_mem 1001 (by decide +kernel) (by decide +kernel)
theorem wm_RL_194 : Cond.methodLink RL 194 yX12_bears ∈ bigW := big_mem 1924 (by decide +kernel) (by decide +kernel)
theorem wc_X12_bears : Cond.code yX12_bears cX12_bears 3 (some .int) ∈ bigW := big_mem 1927 (by decide +kernel) (by decide +kernel)
theorem win_X12_bears : Cond.instanceMethod yX12_bears ∈ bigW := big_mem 1925 (by decide +kernel) (by decide +kernel)
theorem wse_X12_bears : Cond.selects (clR 12) yX12_bears yX12_bears ∈ bigW := big_mem 1926 (by decide +kernel) (by decide +kernel)
theorem wm_RL_195 : Cond.methodLink RL 195 yX11_best ∈ bigW := big_mem 1080 (by decide +kernel) (by decide +kernel)
theorem wm_RL_198 : Cond.methodLink RL 198 yX12_best ∈ bigW := big_mem 1928 (by decide +kernel) (by decide +kernel)
theorem wc_X12_best : Cond.code yX12_best cX12_best 1 (some .int) ∈ bigW := big_mem 1931 (by decide +kernel) (by decide +kernel)
theorem win_X12_best : Cond.instanceMethod yX12_best ∈ bigW := big_mem 1929 (by decide +kernel) (by decide +kernel)
theorem wse_X12_best : Cond.selects (clR 12) yX12_best yX12_best ∈ bigW := big_mem 1930 (by decide +kernel) (by decide +kernel)
theorem wm_RL_199 : Cond.methodLink RL 199 yX11_thin ∈ bigW := big_mem 910 (by decide +kernel) (by decide +kernel)
theorem wc_X11_thin : Cond.code yX11_thin cX11_thin 3 (some .int) ∈ bigW := big_mem 913 (by decide +kernel) (by decide +kernel)
theorem win_X11_thin : Cond.instanceMethod yX11_thin ∈ bigW := big_mem 911 (by decide +kernel) (by decide +kernel)
theorem wse_X11_thin : Cond.selects (clR 11) yX11_thin yX11_thin ∈ bigW := big_mem 912 (by decide +kernel) (by decide +kernel)
theorem wm_RL_202 : Cond.methodLink RL 202 yX12_thin ∈ bigW := big_mem 1936 (by decide +kernel) (by decide +kernel)
theorem wc_X12_thin : Cond.code yX12_thin cX12_thin 3 (some .int) ∈ bigW := big_mem 1939 (by decide +kernel) (by decide +kernel)
theorem win_X12_thin : Cond.instanceMethod yX12_thin ∈ bigW := big_mem 1937 (by decide +kernel) (by decide +kernel)
theorem wse_X12_thin : Cond.selects (clR 12) yX12_thin yX12_thin ∈ bigW := big_mem 1938 (by decide +kernel) (by decide +kernel)
theorem wm_RL_203 : Cond.methodLink RL 203 yX11_weaves ∈ bigW := big_mem 1088 (by decide +kernel) (by decide +kernel)
theorem wc_X11_weaves : Cond.code yX11_weaves cX11_weaves 4 (some .int) ∈ bigW := big_mem 1091 (by decide +kernel) (by decide +kernel)
theorem win_X11_weaves : Cond.instanceMethod yX11_weaves ∈ bigW := big_mem 1089 (by decide +kernel) (by decide +kernel)
theorem wse_X11_weaves : Cond.selects (clR 11) yX11_weaves yX11_weaves ∈ bigW := big_mem 1090 (by decide +kernel) (by decide +kernel)
theorem wm_RL_206 : Cond.methodLink RL 206 yX12_weaves ∈ bigW := big_mem 1940 (by decide +kernel) (by decide +kernel)
theorem wc_X12_weaves : Cond.code yX12_weaves cX12_weaves 3 (some .int) ∈ bigW := big_mem 1943 (by decide +kernel) (by decide +kernel)
theorem win_X12_weaves : Cond.instanceMethod yX12_weaves ∈ bigW := big_mem 1941 (by decide +kernel) (by decide +kernel)
theorem wse_X12_weaves : Cond.selects (clR 12) yX12_weaves yX12_weaves ∈ bigW := big_mem 1942 (by decide +kernel) (by decide +kernel)
theorem wm_RL_207 : Cond.methodLink RL 207 yX11_image ∈ bigW := big_mem 880 (by decide +kernel) (by decide +kernel)
theorem wc_X11_image : Cond.code yX11_image cX11_image 1 (some .int) ∈ bigW := big_mem 883 (by decide +kernel) (by decide +kernel)
theorem win_X11_image : Cond.instanceMethod yX11_image ∈ bigW := big_mem 881 (by decide +kernel) (by decide +kernel)
theorem wse_X11_image : Cond.selects (clR 11) yX11_image yX11_image ∈ bigW := big_mem 882 (by decide +kernel) (by decide +kernel)
theorem wm_RL_210 : Cond.methodLink RL 210 yX12_image ∈ bigW := big_mem 1944 (by decide +kernel) (by decide +kernel)
theorem wc_X12_image : Cond.code yX12_image cX12_image 1 (some .int) ∈ bigW := big_mem 1947 (by decide +kernel) (by decide +kernel)
theorem win_X12_image : Cond.instanceMethod yX12_image ∈ bigW := big_mem 1945 (by decide +kernel) (by decide +kernel)
theorem wse_X12_image : Cond.selects (clR 12) yX12_image yX12_image ∈ bigW := big_mem 1946 (by decide +kernel) (by decide +kernel)
theorem wm_RL_211 : Cond.methodLink RL 211 yX11_back ∈ bigW := big_mem 890 (by decide +kernel) (by decide +kernel)
theorem wc_X11_back : Cond.code yX11_back cX11_back 1 (some .int) ∈ bigW := big_mem 893 (by decide +kernel) (by decide +kernel)
theorem win_X11_back : Cond.instanceMethod yX11_back ∈ bigW := big_mem 891 (by decide +kernel) (by decide +kernel)
theorem wse_X11_back : Cond.selects (clR 11) yX11_back yX11_back ∈ bigW := big_mem 892 (by decide +kernel) (by decide +kernel)
theorem wm_RL_214 : Cond.methodLink RL 214 yX12_back ∈ bigW := big_mem 1948 (by decide +kernel) (by decide +kernel)
theorem wc_X12_back : Cond.code yX12_back cX12_back 1 (some .int) ∈ bigW := big_mem 1951 (by decide +kernel) (by decide +kernel)
theorem win_X12_back : Cond.instanceMethod yX12_back ∈ bigW := big_mem 1949 (by decide +kernel) (by decide +kernel)
theorem wse_X12_back : Cond.selects (clR 12) yX12_back yX12_back ∈ bigW := big_mem 1950 (by decide +kernel) (by decide +kernel)
theorem wm_RL_215 : Cond.methodLink RL 215 yX11_count ∈ bigW := big_mem 764 (by decide +kernel) (by decide +kernel)
theorem wc_X11_count : Cond.code yX11_count cX11_count 2 (some .int) ∈ bigW := big_mem 767 (by decide +kernel) (by decide +kernel)
theorem win_X11_count : Cond.instanceMethod yX11_count ∈ bigW := big_mem 765 (by decide +kernel) (by decide +kernel)
theorem wse_X11_count : Cond.selects (clR 11) yX11_count yX11_count ∈ bigW := big_mem 766 (by decide +kernel) (by decide +kernel)
theorem wm_RL_218 : Cond.methodLink RL 218 yX12_count ∈ bigW := big_mem 1952 (by decide +kernel) (by decide +kernel)
theorem wc_X12_count : Cond.code yX12_count cX12_count 2 (some .int) ∈ bigW := big_mem 1955 (by decide +kernel) (by decide +kernel)
theorem win_X12_count : Cond.instanceMethod yX12_count ∈ bigW := big_mem 1953 (by decide +kernel) (by decide +kernel)
theorem wse_X12_count : Cond.selects (clR 12) yX12_count yX12_count ∈ bigW := big_mem 1954 (by decide +kernel) (by decide +kernel)
theorem dL_law_0 : decode cL_law 0 = .ok (.new 8, 3) := by decide +kernel
theorem dL_law_3 : decode cL_law 3 = .ok (.dup, 1) := by decide +kernel
theorem dL_law_4 : decode cL_law 4 = .ok (.invokespecial 15, 3) := by decide +kernel
theorem dL_law_7 : decode cL_law 7 = .ok (.astore_n 1, 1) := by decide +kernel
theorem dL_law_8 : decode cL_law 8 = .ok (.new 16, 3) := by decide +kernel
theorem dL_law_11 : decode cL_law 11 = .ok (.dup, 1) := by decide +kernel
theorem dL_law_12 : decode cL_law 12 = .ok (.invokespecial 18, 3) := by decide +kernel
theorem dL_law_15 : decode cL_law 15 = .ok (.astore_n 2, 1) := by decide +kernel
theorem dL_law_16 : decode cL_law 16 = .ok (.iconst 1, 1) := by decide +kernel
theorem dL_law_17 : decode cL_law 17 = .ok (.newarray .long, 2) := by decide +kernel
theorem dL_law_19 : decode cL_law 19 = .ok (.astore_n 3, 1) := by decide +kernel
theorem dL_law_20 : decode cL_law 20 = .ok (.iconst 0, 1) := by decide +kernel
theorem dL_law_21 : decode cL_law 21 = .ok (.istore 4, 2) := by decide +kernel
theorem dL_law_23 : decode cL_law 23 = .ok (.iload 4, 2) := by decide +kernel
theorem dL_law_25 : decode cL_law 25 = .ok (.aload_n 0, 1) := by decide +kernel
theorem dL_law_26 : decode cL_law 26 = .ok (.arraylength, 1) := by decide +kernel
theorem dL_law_27 : decode cL_law 27 = .ok (.bipush 6, 2) := by decide +kernel
theorem dL_law_29 : decode cL_law 29 = .ok (.isub, 1) := by decide +kernel
theorem dL_law_30 : decode cL_law 30 = .ok (.if_icmp .gt 1597, 3) := by decide +kernel
theorem dL_law_33 : decode cL_law 33 = .ok (.aload_n 0, 1) := by decide +kernel
theorem dL_law_34 : decode cL_law 34 = .ok (.iload 4, 2) := by decide +kernel
theorem dL_law_36 : decode cL_law 36 = .ok (.iaload, 1) := by decide +kernel
theorem dL_law_37 : decode cL_law 37 = .ok (.bipush 63, 2) := by decide +kernel
theorem dL_law_39 : decode cL_law 39 = .ok (.iand, 1) := by decide +kernel
theorem dL_law_40 : decode cL_law 40 = .ok (.tableswitch 1581 0 45 #[200, 273, 298, 323, 348, 373, 410, 478, 503, 528, 553, 566, 603, 628, 669, 694, 763, 776, 813, 850, 899, 936, 961, 1010, 1023, 1048, 1073, 1086, 1111, 1136, 1161, 1210, 1235, 1288, 1301, 1366, 1391, 1404, 1441, 1466, 1491, 1504, 1517, 1530, 1543, 1556], 200) := by decide +kernel
theorem dL_law_240 : decode cL_law 240 = .ok (.aload_n 1, 1) := by decide +kernel
theorem dL_law_241 : decode cL_law 241 = .ok (.aload_n 0, 1) := by decide +kernel
theorem dL_law_242 : decode cL_law 242 = .ok (.iload 4, 2) := by decide +kernel
theorem dL_law_244 : decode cL_law 244 = .ok (.iconst 1, 1) := by decide +kernel
theorem dL_law_245 : decode cL_law 245 = .ok (.iadd, 1) := by decide +kernel
theorem dL_law_246 : decode cL_law 246 = .ok (.iaload, 1) := by decide +kernel
theorem dL_law_247 : decode cL_law 247 = .ok (.aload_n 0, 1) := by decide +kernel
theorem dL_law_248 : decode cL_law 248 = .ok (.iload 4, 2) := by decide +kernel
theorem dL_law_250 : decode cL_law 250 = .ok (.iconst 2, 1) := by decide +kernel
theorem dL_law_251 : decode cL_law 251 = .ok (.iadd, 1) := by decide +kernel
theorem dL_law_252 : decode cL_law 252 = .ok (.iaload, 1) := by decide +kernel
theorem dL_law_253 : decode cL_law 253 = .ok (.aload_n 0, 1) := by decide +kernel
theorem dL_law_254 : decode cL_law 254 = .ok (.iload 4, 2) := by decide +kernel
theorem dL_law_256 : decode cL_law 256 = .ok (.iconst 3, 1) := by decide +kernel
theorem dL_law_257 : decode cL_law 257 = .ok (.iadd, 1) := by decide +kernel
theorem dL_law_258 : decode cL_law 258 = .ok (.iaload, 1) := by decide +kernel
theorem dL_law_259 : decode cL_law 259 = .ok (.aload_n 0, 1) := by decide +kernel
theorem dL_law_260 : decode cL_law 260 = .ok (.iload 4, 2) := by decide +kernel
theorem dL_law_262 : decode cL_law 262 = .ok (.iconst 4, 1) := by decide +kernel
theorem dL_law_263 : decode cL_law 263 = .ok (.iadd, 1) := by decide +kernel
theorem dL_law_264 : decode cL_law 264 = .ok (.iaload, 1) := by decide +kernel
theorem dL_law_265 : decode cL_law 265 = .ok (.aload_n 0, 1) := by decide +kernel
theorem dL_law_266 : decode cL_law 266 = .ok (.iload 4, 2) := by decide +kernel
theorem dL_law_268 : decode cL_law 268 = .ok (.iconst 5, 1) := by decide +kernel
theorem dL_law_269 : decode cL_law 269 = .ok (.iadd, 1) := by decide +kernel
theorem dL_law_270 : decode cL_law 270 = .ok (.iaload, 1) := by decide +kernel
theorem dL_law_271 : decode cL_law 271 = .ok (.invokevirtual 19, 3) := by decide +kernel
theorem dL_law_274 : decode cL_law 274 = .ok (.aload_n 2, 1) := by decide +kernel
theorem dL_law_275 : decode cL_law 275 = .ok (.aload_n 0, 1) := by decide +kernel
theorem dL_law_276 : decode cL_law 276 = .ok (.iload 4, 2) := by decide +kernel
theorem dL_law_278 : decode cL_law 278 = .ok (.iconst 1, 1) := by decide +kernel
theorem dL_law_279 : decode cL_law 279 = .ok (.iadd, 1) := by decide +kernel
theorem dL_law_280 : decode cL_law 280 = .ok (.iaload, 1) := by decide +kernel
theorem dL_law_281 : decode cL_law 281 = .ok (.aload_n 0, 1) := by decide +kernel
theorem dL_law_282 : decode cL_law 282 = .ok (.iload 4, 2) := by decide +kernel
theorem dL_law_284 : decode cL_law 284 = .ok (.iconst 2, 1) := by decide +kernel
theorem dL_law_285 : decode cL_law 285 = .ok (.iadd, 1) := by decide +kernel
theorem dL_law_286 : decode cL_law 286 = .ok (.iaload, 1) := by decide +kernel
theorem dL_law_287 : decode cL_law 287 = .ok (.aload_n 0, 1) := by decide +kernel
theorem dL_law_288 : decode cL_law 288 = .ok (.iload 4, 2) := by decide +kernel
theorem dL_law_290 : decode cL_law 290 = .ok (.iconst 3, 1) := by decide +kernel
theorem dL_law_291 : decode cL_law 291 = .ok (.iadd, 1) := by decide +kernel
theorem dL_law_292 : decode cL_law 292 = .ok (.iaload, 1) := by decide +kernel
theorem dL_law_293 : decode cL_law 293 = .ok (.aload_n 0, 1) := by decide +kernel
theorem dL_law_294 : decode cL_law 294 = .ok (.iload 4, 2) := by decide +kernel
theorem dL_law_296 : decode cL_law 296 = .ok (.iconst 4, 1) := by decide +kernel
theorem dL_law_297 : decode cL_law 297 = .ok (.iadd, 1) := by decide +kernel
theorem dL_law_298 : decode cL_law 298 = .ok (.iaload, 1) := by decide +kernel
theorem dL_law_299 : decode cL_law 299 = .ok (.aload_n 0, 1) := by decide +kernel
theorem dL_law_300 : decode cL_law 300 = .ok (.iload 4, 2) := by decide +kernel
theorem dL_law_302 : decode cL_law 302 = .ok (.iconst 5, 1) := by decide +kernel
theorem dL_law_303 : decode cL_law 303 = .ok (.iadd, 1) := by decide +kernel
theorem dL_law_304 : decode cL_law 304 = .ok (.iaload, 1) := by decide +kernel
theorem dL_law_305 : decode cL_law 305 = .ok (.invokevirtual 23, 3) := by decide +kernel
theorem dL_law_308 : decode cL_law 308 = .ok (.if_icmp .eq 1313, 3) := by decide +kernel
theorem dL_law_311 : decode cL_law 311 = .ok (.iconst 0, 1) := by decide +kernel
theorem dL_law_312 : decode cL_law 312 = .ok (.ireturn, 1) := by decide +kernel
theorem dL_law_313 : decode cL_law 313 = .ok (.aload_n 1, 1) := by decide +kernel
theorem dL_law_314 : decode cL_law 314 = .ok (.aload_n 0, 1) := by decide +kernel
theorem dL_law_315 : decode cL_law 315 = .ok (.iload 4, 2) := by decide +kernel
theorem dL_law_317 : decode cL_law 317 = .ok (.iconst 1, 1) := by decide +kernel
theorem dL_law_318 : decode cL_law 318 = .ok (.iadd, 1) := by decide +kernel
theorem dL_law_319 : decode cL_law 319 = .ok (.iaload, 1) := by decide +kernel
theorem dL_law_320 : decode cL_law 320 = .ok (.invokevirtual 24, 3) := by decide +kernel
theorem dL_law_323 : decode cL_law 323 = .ok (.aload_n 2, 1) := by decide +kernel
theorem dL_law_324 : decode cL_law 324 = .ok (.aload_n 0, 1) := by decide +kernel
theorem dL_law_325 : decode cL_law 325 = .ok (.iload 4, 2) := by decide +kernel
theorem dL_law_327 : decode cL_law 327 = .ok (.iconst 1, 1) := by decide +kernel
theorem dL_law_328 : decode cL_law 328 = .ok (.iadd, 1) := by decide +kernel
theorem dL_law_329 : decode cL_law 329 = .ok (.iaload, 1) := by decide +kernel
theorem dL_law_330 : decode cL_law 330 = .ok (.invokevirtual 28, 3) := by decide +kernel
theorem dL_law_333 : decode cL_law 333 = .ok (.if_icmp .eq 1288, 3) := by decide +kernel
theorem dL_law_336 : decode cL_law 336 = .ok (.iconst 0, 1) := by decide +kernel
theorem dL_law_337 : decode cL_law 337 = .ok (.ireturn, 1) := by decide +kernel
theorem dL_law_338 : decode cL_law 338 = .ok (.aload_n 1, 1) := by decide +kernel
theorem dL_law_339 : decode cL_law 339 = .ok (.aload_n 0, 1) := by decide +kernel
theorem dL_law_340 : decode cL_law 340 = .ok (.iload 4, 2) := by decide +kernel
theorem dL_law_342 : decode cL_law 342 = .ok (.iconst 1, 1) := by decide +kernel
theorem dL_law_343 : decode cL_law 343 = .ok (.iadd, 1) := by decide +kernel
theorem dL_law_344 : decode cL_law 344 = .ok (.iaload, 1) := by decide +kernel
theorem dL_law_345 : decode cL_law 345 = .ok (.invokevirtual 29, 3) := by decide +kernel
theorem dL_law_348 : decode cL_law 348 = .ok (.aload_n 2, 1) := by decide +kernel
theorem dL_law_349 : decode cL_law 349 = .ok (.aload_n 0, 1) := by decide +kernel
theorem dL_law_350 : decode cL_law 350 = .ok (.iload 4, 2) := by decide +kernel
theorem dL_law_352 : decode cL_law 352 = .ok (.iconst 1, 1) := by decide +kernel
theorem dL_law_353 : decode cL_law 353 = .ok (.iadd, 1) := by decide +kernel
theorem dL_law_354 : decode cL_law 354 = .ok (.iaload, 1) := by decide +kernel
theorem dL_law_355 : decode cL_law 355 = .ok (.invokevirtual 33, 3) := by decide +kernel
theorem dL_law_358 : decode cL_law 358 = .ok (.if_icmp .eq 1263, 3) := by decide +kernel
theorem dL_law_361 : decode cL_law 361 = .ok (.iconst 0, 1) := by decide +kernel
theorem dL_law_362 : decode cL_law 362 = .ok (.ireturn, 1) := by decide +kernel
theorem dL_law_363 : decode cL_law 363 = .ok (.aload_n 1, 1) := by decide +kernel
theorem dL_law_364 : decode cL_law 364 = .ok (.aload_n 0, 1) := by decide +kernel
theorem dL_law_365 : decode cL_law 365 = .ok (.iload 4, 2) := by decide +kernel
theorem dL_law_367 : decode cL_law 367 = .ok (.iconst 1, 1) := by decide +kernel
theorem dL_law_368 : decode cL_law 368 = .ok (.iadd, 1) := by decide +kernel
theorem dL_law_369 : decode cL_law 369 = .ok (.iaload, 1) := by decide +kernel
theorem dL_law_370 : decode cL_law 370 = .ok (.invokevirtual 34, 3) := by decide +kernel
theorem dL_law_373 : decode cL_law 373 = .ok (.aload_n 2, 1) := by decide +kernel
theorem dL_law_374 : decode cL_law 374 = .ok (.aload_n 0, 1) := by decide +kernel
theorem dL_law_375 : decode cL_law 375 = .ok (.iload 4, 2) := by decide +kernel
theorem dL_law_377 : decode cL_law 377 = .ok (.iconst 1, 1) := by decide +kernel
theorem dL_law_378 : decode cL_law 378 = .ok (.iadd, 1) := by decide +kernel
theorem dL_law_379 : decode cL_law 379 = .ok (.iaload, 1) := by decide +kernel
theorem dL_law_380 : decode cL_law 380 = .ok (.invokevirtual 37, 3) := by decide +kernel
theorem dL_law_383 : decode cL_law 383 = .ok (.if_icmp .eq 1238, 3) := by decide +kernel
theorem dL_law_386 : decode cL_law 386 = .ok (.iconst 0, 1) := by decide +kernel
theorem dL_law_387 : decode cL_law 387 = .ok (.ireturn, 1) := by decide +kernel
theorem dL_law_388 : decode cL_law 388 = .ok (.aload_n 1, 1) := by decide +kernel
theorem dL_law_389 : decode cL_law 389 = .ok (.aload_n 0, 1) := by decide +kernel
theorem dL_law_390 : decode cL_law 390 = .ok (.iload 4, 2) := by decide +kernel
theorem dL_law_392 : decode cL_law 392 = .ok (.iconst 1, 1) := by decide +kernel
theorem dL_law_393 : decode cL_law 393 = .ok (.iadd, 1) := by decide +kernel
theorem dL_law_394 : decode cL_law 394 = .ok (.iaload, 1) := by decide +kernel
theorem dL_law_395 : decode cL_law 395 = .ok (.invokevirtual 38, 3) := by decide +kernel
theorem dL_law_398 : decode cL_law 398 = .ok (.aload_n 2, 1) := by decide +kernel
theorem dL_law_399 : decode cL_law 399 = .ok (.aload_n 0, 1) := by decide +kernel
theorem dL_law_400 : decode cL_law 400 = .ok (.iload 4, 2) := by decide +kernel
theorem dL_law_402 : decode cL_law 402 = .ok (.iconst 1, 1) := by decide +kernel
theorem dL_law_403 : decode cL_law 403 = .ok (.iadd, 1) := by decide +kernel
theorem dL_law_404 : decode cL_law 404 = .ok (.iaload, 1) := by decide +kernel
theorem dL_law_405 : decode cL_law 405 = .ok (.invokevirtual 41, 3) := by decide +kernel
theorem dL_law_408 : decode cL_law 408 = .ok (.if_icmp .eq 1213, 3) := by decide +kernel
theorem dL_law_411 : decode cL_law 411 = .ok (.iconst 0, 1) := by decide +kernel
theorem dL_law_412 : decode cL_law 412 = .ok (.ireturn, 1) := by decide +kernel
theorem dL_law_413 : decode cL_law 413 = .ok (.aload_n 1, 1) := by decide +kernel
theorem dL_law_414 : decode cL_law 414 = .ok (.aload_n 0, 1) := by decide +kernel
theorem dL_law_415 : decode cL_law 415 = .ok (.iload 4, 2) := by decide +kernel
theorem dL_law_417 : decode cL_law 417 = .ok (.iconst 1, 1) := by decide +kernel
theorem dL_law_418 : decode cL_law 418 = .ok (.iadd, 1) := by decide +kernel
theorem dL_law_419 : decode cL_law 419 = .ok (.iaload, 1) := by decide +kernel
theorem dL_law_420 : decode cL_law 420 = .ok (.aload_n 0, 1) := by decide +kernel
theorem dL_law_421 : decode cL_law 421 = .ok (.iload 4, 2) := by decide +kernel
theorem dL_law_423 : decode cL_law 423 = .ok (.iconst 2, 1) := by decide +kernel
theorem dL_law_424 : decode cL_law 424 = .ok (.iadd, 1) := by decide +kernel
theorem dL_law_425 : decode cL_law 425 = .ok (.iaload, 1) := by decide +kernel
theorem dL_law_426 : decode cL_law 426 = .ok (.invokevirtual 42, 3) := by decide +kernel
theorem dL_law_429 : decode cL_law 429 = .ok (.aload_n 2, 1) := by decide +kernel
theorem dL_law_430 : decode cL_law 430 = .ok (.aload_n 0, 1) := by decide +kernel
theorem dL_law_431 : decode cL_law 431 = .ok (.iload 4, 2) := by decide +kernel
theorem dL_law_433 : decode cL_law 433 = .ok (.iconst 1, 1) := by decide +kernel
theorem dL_law_434 : decode cL_law 434 = .ok (.iadd, 1) := by decide +kernel
theorem dL_law_435 : decode cL_law 435 = .ok (.iaload, 1) := by decide +kernel
theorem dL_law_436 : decode cL_law 436 = .ok (.aload_n 0, 1) := by decide +kernel
theorem dL_law_437 : decode cL_law 437 = .ok (.iload 4, 2) := by decide +kernel
theorem dL_law_439 : decode cL_law 439 = .ok (.iconst 2, 1) := by decide +kernel
theorem dL_law_440 : decode cL_law 440 = .ok (.iadd, 1) := by decide +kernel
theorem dL_law_441 : decode cL_law 441 = .ok (.iaload, 1) := by decide +kernel
theorem dL_law_442 : decode cL_law 442 = .ok (.invokevirtual 45, 3) := by decide +kernel
theorem dL_law_445 : decode cL_law 445 = .ok (.if_icmp .eq 1176, 3) := by decide +kernel
theorem dL_law_448 : decode cL_law 448 = .ok (.iconst 0, 1) := by decide +kernel
theorem dL_law_449 : decode cL_law 449 = .ok (.ireturn, 1) := by decide +kernel
theorem dL_law_450 : decode cL_law 450 = .ok (.aload_n 1, 1) := by decide +kernel
theorem dL_law_451 : decode cL_law 451 = .ok (.aload_n 0, 1) := by decide +kernel
theorem dL_law_452 : decode cL_law 452 = .ok (.iload 4, 2) := by decide +kernel
theorem dL_law_454 : decode cL_law 454 = .ok (.iconst 1, 1) := by decide +kernel
theorem dL_law_455 : decode cL_law 455 = .ok (.iadd, 1) := by decide +kernel
theorem dL_law_456 : decode cL_law 456 = .ok (.iaload, 1) := by decide +kernel
theorem dL_law_457 : decode cL_law 457 = .ok (.aload_n 0, 1) := by decide +kernel
theorem dL_law_458 : decode cL_law 458 = .ok (.iload 4, 2) := by decide +kernel
theorem dL_law_460 : decode cL_law 460 = .ok (.iconst 2, 1) := by decide +kernel
theorem dL_law_461 : decode cL_law 461 = .ok (.iadd, 1) := by decide +kernel
theorem dL_law_462 : decode cL_law 462 = .ok (.iaload, 1) := by decide +kernel
theorem dL_law_463 : decode cL_law 463 = .ok (.aload_n 3, 1) := by decide +kernel
theorem dL_law_464 : decode cL_law 464 = .ok (.invokestatic 46, 3) := by decide +kernel
theorem dL_law_467 : decode cL_law 467 = .ok (.istore 5, 2) := by decide +kernel
theorem dL_law_469 : decode cL_law 469 = .ok (.aload_n 2, 1) := by decide +kernel
theorem dL_law_470 : decode cL_law 470 = .ok (.aload_n 0, 1) := by decide +kernel
theorem dL_law_471 : decode cL_law 471 = .ok (.iload 4, 2) := by decide +kernel
theorem dL_law_473 : decode cL_law 473 = .ok (.iconst 1, 1) := by decide +kernel
theorem dL_law_474 : decode cL_law 474 = .ok (.iadd, 1) := by decide +kernel
theorem dL_law_475 : decode cL_law 475 = .ok (.iaload, 1) := by decide +kernel
theorem dL_law_476 : decode cL_law 476 = .ok (.aload_n 0, 1) := by decide +kernel
theorem dL_law_477 : decode cL_law 477 = .ok (.iload 4, 2) := by decide +kernel
theorem dL_law_479 : decode cL_law 479 = .ok (.iconst 2, 1) := by decide +kernel
theorem dL_law_480 : decode cL_law 480 = .ok (.iadd, 1) := by decide +kernel
theorem dL_law_481 : decode cL_law 481 = .ok (.iaload, 1) := by decide +kernel
theorem dL_law_482 : decode cL_law 482 = .ok (.invokevirtual 51, 3) := by decide +kernel
theorem dL_law_485 : decode cL_law 485 = .ok (.istore 6, 2) := by decide +kernel
theorem dL_law_487 : decode cL_law 487 = .ok (.aload_n 2, 1) := by decide +kernel
theorem dL_law_488 : decode cL_law 488 = .ok (.invokevirtual 52, 3) := by decide +kernel
theorem dL_law_491 : decode cL_law 491 = .ok (.iload 5, 2) := by decide +kernel
theorem dL_law_493 : decode cL_law 493 = .ok (.if_icmp .eq 5, 3) := by decide +kernel
theorem dL_law_496 : decode cL_law 496 = .ok (.iconst 0, 1) := by decide +kernel
theorem dL_law_497 : decode cL_law 497 = .ok (.ireturn, 1) := by decide +kernel
theorem dL_law_498 : decode cL_law 498 = .ok (.iload 5, 2) := by decide +kernel
theorem dL_law_500 : decode cL_law 500 = .ok (.ifCond .ne 15, 3) := by decide +kernel
theorem dL_law_503 : decode cL_law 503 = .ok (.aload_n 3, 1) := by decide +kernel
theorem dL_law_504 : decode cL_law 504 = .ok (.iconst 0, 1) := by decide +kernel
theorem dL_law_505 : decode cL_law 505 = .ok (.laload, 1) := by decide +kernel
theorem dL_law_506 : decode cL_law 506 = .ok (.iload 6, 2) := by decide +kernel
theorem dL_law_508 : decode cL_law 508 = .ok (.i2l, 1) := by decide +kernel
theorem dL_law_509 : decode cL_law 509 = .ok (.lcmp, 1) := by decide +kernel
theorem dL_law_510 : decode cL_law 510 = .ok (.ifCond .eq 5, 3) := by decide +kernel
theorem dL_law_513 : decode cL_law 513 = .ok (.iconst 0, 1) := by decide +kernel
theorem dL_law_514 : decode cL_law 514 = .ok (.ireturn, 1) := by decide +kernel
theorem dL_law_515 : decode cL_law 515 = .ok (.goto 1106, 3) := by decide +kernel
theorem dL_law_518 : decode cL_law 518 = .ok (.aload_n 1, 1) := by decide +kernel
theorem dL_law_519 : decode cL_law 519 = .ok (.aload_n 0, 1) := by decide +kernel
theorem dL_law_520 : decode cL_law 520 = .ok (.iload 4, 2) := by decide +kernel
theorem dL_law_522 : decode cL_law 522 = .ok (.iconst 1, 1) := by decide +kernel
theorem dL_law_523 : decode cL_law 523 = .ok (.iadd, 1) := by decide +kernel
theorem dL_law_524 : decode cL_law 524 = .ok (.iaload, 1) := by decide +kernel
theorem dL_law_525 : decode cL_law 525 = .ok (.invokevirtual 56, 3) := by decide +kernel
theorem dL_law_528 : decode cL_law 528 = .ok (.aload_n 2, 1) := by decide +kernel
theorem dL_law_529 : decode cL_law 529 = .ok (.aload_n 0, 1) := by decide +kernel
theorem dL_law_530 : decode cL_law 530 = .ok (.iload 4, 2) := by decide +kernel
theorem dL_law_532 : decode cL_law 532 = .ok (.iconst 1, 1) := by decide +kernel
theorem dL_law_533 : decode cL_law 533 = .ok (.iadd, 1) := by decide +kernel
theorem dL_law_534 : decode cL_law 534 = .ok (.iaload, 1) := by decide +kernel
theorem dL_law_535 : decode cL_law 535 = .ok (.invokevirtual 59, 3) := by decide +kernel
theorem dL_law_538 : decode cL_law 538 = .ok (.if_icmp .eq 1083, 3) := by decide +kernel
theorem dL_law_541 : decode cL_law 541 = .ok (.iconst 0, 1) := by decide +kernel
theorem dL_law_542 : decode cL_law 542 = .ok (.ireturn, 1) := by decide +kernel
theorem dL_law_543 : decode cL_law 543 = .ok (.aload_n 1, 1) := by decide +kernel
theorem dL_law_544 : decode cL_law 544 = .ok (.aload_n 0, 1) := by decide +kernel
theorem dL_law_545 : decode cL_law 545 = .ok (.iload 4, 2) := by decide +kernel
theorem dL_law_547 : decode cL_law 547 = .ok (.iconst 1, 1) := by decide +kernel
theorem dL_law_548 : decode cL_law 548 = .ok (.iadd, 1) := by decide +kernel
theorem dL_law_549 : decode cL_law 549 = .ok (.iaload, 1) := by decide +kernel
theorem dL_law_550 : decode cL_law 550 = .ok (.invokevirtual 60, 3) := by decide +kernel
theorem dL_law_553 : decode cL_law 553 = .ok (.aload_n 2, 1) := by decide +kernel
theorem dL_law_554 : decode cL_law 554 = .ok (.aload_n 0, 1) := by decide +kernel
theorem dL_law_555 : decode cL_law 555 = .ok (.iload 4, 2) := by decide +kernel
theorem dL_law_557 : decode cL_law 557 = .ok (.iconst 1, 1) := by decide +kernel
theorem dL_law_558 : decode cL_law 558 = .ok (.iadd, 1) := by decide +kernel
theorem dL_law_559 : decode cL_law 559 = .ok (.iaload, 1) := by decide +kernel
theorem dL_law_560 : decode cL_law 560 = .ok (.invokevirtual 63, 3) := by decide +kernel
theorem dL_law_563 : decode cL_law 563 = .ok (.if_icmp .eq 1058, 3) := by decide +kernel
theorem dL_law_566 : decode cL_law 566 = .ok (.iconst 0, 1) := by decide +kernel
theorem dL_law_567 : decode cL_law 567 = .ok (.ireturn, 1) := by decide +kernel
theorem dL_law_568 : decode cL_law 568 = .ok (.aload_n 1, 1) := by decide +kernel
theorem dL_law_569 : decode cL_law 569 = .ok (.aload_n 0, 1) := by decide +kernel
theorem dL_law_570 : decode cL_law 570 = .ok (.iload 4, 2) := by decide +kernel
theorem dL_law_572 : decode cL_law 572 = .ok (.iconst 1, 1) := by decide +kernel
theorem dL_law_573 : decode cL_law 573 = .ok (.iadd, 1) := by decide +kernel
theorem dL_law_574 : decode cL_law 574 = .ok (.iaload, 1) := by decide +kernel
theorem dL_law_575 : decode cL_law 575 = .ok (.invokevirtual 64, 3) := by decide +kernel
theorem dL_law_578 : decode cL_law 578 = .ok (.aload_n 2, 1) := by decide +kernel
theorem dL_law_579 : decode cL_law 579 = .ok (.aload_n 0, 1) := by decide +kernel
theorem dL_law_580 : decode cL_law 580 = .ok (.iload 4, 2) := by decide +kernel
theorem dL_law_582 : decode cL_law 582 = .ok (.iconst 1, 1) := by decide +kernel
theorem dL_law_583 : decode cL_law 583 = .ok (.iadd, 1) := by decide +kernel
theorem dL_law_584 : decode cL_law 584 = .ok (.iaload, 1) := by decide +kernel
theorem dL_law_585 : decode cL_law 585 = .ok (.invokevirtual 67, 3) := by decide +kernel
theorem dL_law_588 : decode cL_law 588 = .ok (.if_icmp .eq 1033, 3) := by decide +kernel
theorem dL_law_591 : decode cL_law 591 = .ok (.iconst 0, 1) := by decide +kernel
theorem dL_law_592 : decode cL_law 592 = .ok (.ireturn, 1) := by decide +kernel
theorem dL_law_593 : decode cL_law 593 = .ok (.aload_n 1, 1) := by decide +kernel
theorem dL_law_594 : decode cL_law 594 = .ok (.invokevirtual 68, 3) := by decide +kernel
theorem dL_law_597 : decode cL_law 597 = .ok (.aload_n 2, 1) := by decide +kernel
theorem dL_law_598 : decode cL_law 598 = .ok (.invokevirtual 71, 3) := by decide +kernel
theorem dL_law_601 : decode cL_law 601 = .ok (.if_icmp .eq 1020, 3) := by decide +kernel
theorem dL_law_604 : decode cL_law 604 = .ok (.iconst 0, 1) := by decide +kernel
theorem dL_law_605 : decode cL_law 605 = .ok (.ireturn, 1) := by decide +kernel
theorem dL_law_606 : decode cL_law 606 = .ok (.aload_n 1, 1) := by decide +kernel
theorem dL_law_607 : decode cL_law 607 = .ok (.aload_n 0, 1) := by decide +kernel
theorem dL_law_608 : decode cL_law 608 = .ok (.iload 4, 2) := by decide +kernel
theorem dL_law_610 : decode cL_law 610 = .ok (.iconst 1, 1) := by decide +kernel
theorem dL_law_611 : decode cL_law 611 = .ok (.iadd, 1) := by decide +kernel
theorem dL_law_612 : decode cL_law 612 = .ok (.iaload, 1) := by decide +kernel
theorem dL_law_613 : decode cL_law 613 = .ok (.aload_n 0, 1) := by decide +kernel
theorem dL_law_614 : decode cL_law 614 = .ok (.iload 4, 2) := by decide +kernel
theorem dL_law_616 : decode cL_law 616 = .ok (.iconst 2, 1) := by decide +kernel
theorem dL_law_617 : decode cL_law 617 = .ok (.iadd, 1) := by decide +kernel
theorem dL_law_618 : decode cL_law 618 = .ok (.iaload, 1) := by decide +kernel
theorem dL_law_619 : decode cL_law 619 = .ok (.invokevirtual 72, 3) := by decide +kernel
theorem dL_law_622 : decode cL_law 622 = .ok (.aload_n 2, 1) := by decide +kernel
theorem dL_law_623 : decode cL_law 623 = .ok (.aload_n 0, 1) := by decide +kernel
theorem dL_law_624 : decode cL_law 624 = .ok (.iload 4, 2) := by decide +kernel
theorem dL_law_626 : decode cL_law 626 = .ok (.iconst 1, 1) := by decide +kernel
theorem dL_law_627 : decode cL_law 627 = .ok (.iadd, 1) := by decide +kernel
theorem dL_law_628 : decode cL_law 628 = .ok (.iaload, 1) := by decide +kernel
theorem dL_law_629 : decode cL_law 629 = .ok (.aload_n 0, 1) := by decide +kernel
theorem dL_law_630 : decode cL_law 630 = .ok (.iload 4, 2) := by decide +kernel
theorem dL_law_632 : decode cL_law 632 = .ok (.iconst 2, 1) := by decide +kernel
theorem dL_law_633 : decode cL_law 633 = .ok (.iadd, 1) := by decide +kernel
theorem dL_law_634 : decode cL_law 634 = .ok (.iaload, 1) := by decide +kernel
theorem dL_law_635 : decode cL_law 635 = .ok (.invokevirtual 75, 3) := by decide +kernel
theorem dL_law_638 : decode cL_law 638 = .ok (.if_icmp .eq 983, 3) := by decide +kernel
theorem dL_law_641 : decode cL_law 641 = .ok (.iconst 0, 1) := by decide +kernel
theorem dL_law_642 : decode cL_law 642 = .ok (.ireturn, 1) := by decide +kernel
theorem dL_law_643 : decode cL_law 643 = .ok (.aload_n 1, 1) := by decide +kernel
theorem dL_law_644 : decode cL_law 644 = .ok (.aload_n 0, 1) := by decide +kernel
theorem dL_law_645 : decode cL_law 645 = .ok (.iload 4, 2) := by decide +kernel
theorem dL_law_647 : decode cL_law 647 = .ok (.iconst 1, 1) := by decide +kernel
theorem dL_law_648 : decode cL_law 648 = .ok (.iadd, 1) := by decide +kernel
theorem dL_law_649 : decode cL_law 649 = .ok (.iaload, 1) := by decide +kernel
theorem dL_law_650 : decode cL_law 650 = .ok (.invokevirtual 76, 3) := by decide +kernel
theorem dL_law_653 : decode cL_law 653 = .ok (.aload_n 2, 1) := by decide +kernel
theorem dL_law_654 : decode cL_law 654 = .ok (.aload_n 0, 1) := by decide +kernel
theorem dL_law_655 : decode cL_law 655 = .ok (.iload 4, 2) := by decide +kernel
theorem dL_law_657 : decode cL_law 657 = .ok (.iconst 1, 1) := by decide +kernel
theorem dL_law_658 : decode cL_law 658 = .ok (.iadd, 1) := by decide +kernel
theorem dL_law_659 : decode cL_law 659 = .ok (.iaload, 1) := by decide +kernel
theorem dL_law_660 : decode cL_law 660 = .ok (.invokevirtual 79, 3) := by decide +kernel
theorem dL_law_663 : decode cL_law 663 = .ok (.if_icmp .eq 958, 3) := by decide +kernel
theorem dL_law_666 : decode cL_law 666 = .ok (.iconst 0, 1) := by decide +kernel
theorem dL_law_667 : decode cL_law 667 = .ok (.ireturn, 1) := by decide +kernel
theorem dL_law_668 : decode cL_law 668 = .ok (.aload_n 1, 1) := by decide +kernel
theorem dL_law_669 : decode cL_law 669 = .ok (.aload_n 0, 1) := by decide +kernel
theorem dL_law_670 : decode cL_law 670 = .ok (.iload 4, 2) := by decide +kernel
theorem dL_law_672 : decode cL_law 672 = .ok (.iconst 1, 1) := by decide +kernel
theorem dL_law_673 : decode cL_law 673 = .ok (.iadd, 1) := by decide +kernel
theorem dL_law_674 : decode cL_law 674 = .ok (.iaload, 1) := by decide +kernel
theorem dL_law_675 : decode cL_law 675 = .ok (.ifCond .eq 7, 3) := by decide +kernel
theorem dL_law_678 : decode cL_law 678 = .ok (.iconst 1, 1) := by decide +kernel
theorem dL_law_679 : decode cL_law 679 = .ok (.goto 4, 3) := by decide +kernel
theorem dL_law_682 : decode cL_law 682 = .ok (.iconst 0, 1) := by decide +kernel
theorem dL_law_683 : decode cL_law 683 = .ok (.invokevirtual 80, 3) := by decide +kernel
theorem dL_law_686 : decode cL_law 686 = .ok (.aload_n 2, 1) := by decide +kernel
theorem dL_law_687 : decode cL_law 687 = .ok (.aload_n 0, 1) := by decide +kernel
theorem dL_law_688 : decode cL_law 688 = .ok (.iload 4, 2) := by decide +kernel
theorem dL_law_690 : decode cL_law 690 = .ok (.iconst 1, 1) := by decide +kernel
theorem dL_law_691 : decode cL_law 691 = .ok (.iadd, 1) := by decide +kernel
theorem dL_law_692 : decode cL_law 692 = .ok (.iaload, 1) := by decide +kernel
theorem dL_law_693 : decode cL_law 693 = .ok (.ifCond .eq 7, 3) := by decide +kernel
theorem dL_law_696 : decode cL_law 696 = .ok (.iconst 1, 1) := by decide +kernel
theorem dL_law_697 : decode cL_law 697 = .ok (.goto 4, 3) := by decide +kernel
theorem dL_law_700 : decode cL_law 700 = .ok (.iconst 0, 1) := by decide +kernel
theorem dL_law_701 : decode cL_law 701 = .ok (.invokevirtual 84, 3) := by decide +kernel
theorem dL_law_704 : decode cL_law 704 = .ok (.if_icmp .eq 917, 3) := by decide +kernel
theorem dL_law_707 : decode cL_law 707 = .ok (.iconst 0, 1) := by decide +kernel
theorem dL_law_708 : decode cL_law 708 = .ok (.ireturn, 1) := by decide +kernel
theorem dL_law_709 : decode cL_law 709 = .ok (.aload_n 1, 1) := by decide +kernel
theorem dL_law_710 : decode cL_law 710 = .ok (.aload_n 0, 1) := by decide +kernel
theorem dL_law_711 : decode cL_law 711 = .ok (.iload 4, 2) := by decide +kernel
theorem dL_law_713 : decode cL_law 713 = .ok (.iconst 1, 1) := by decide +kernel
theorem dL_law_714 : decode cL_law 714 = .ok (.iadd, 1) := by decide +kernel
theorem dL_law_715 : decode cL_law 715 = .ok (.iaload, 1) := by decide +kernel
theorem dL_law_716 : decode cL_law 716 = .ok (.invokevirtual 85, 3) := by decide +kernel
theorem dL_law_719 : decode cL_law 719 = .ok (.aload_n 2, 1) := by decide +kernel
theorem dL_law_720 : decode cL_law 720 = .ok (.aload_n 0, 1) := by decide +kernel
theorem dL_law_721 : decode cL_law 721 = .ok (.iload 4, 2) := by decide +kernel
theorem dL_law_723 : decode cL_law 723 = .ok (.iconst 1, 1) := by decide +kernel
theorem dL_law_724 : decode cL_law 724 = .ok (.iadd, 1) := by decide +kernel
theorem dL_law_725 : decode cL_law 725 = .ok (.iaload, 1) := by decide +kernel
theorem dL_law_726 : decode cL_law 726 = .ok (.invokevirtual 88, 3) := by decide +kernel
theorem dL_law_729 : decode cL_law 729 = .ok (.if_icmp .eq 892, 3) := by decide +kernel
theorem dL_law_732 : decode cL_law 732 = .ok (.iconst 0, 1) := by decide +kernel
theorem dL_law_733 : decode cL_law 733 = .ok (.ireturn, 1) := by decide +kernel
theorem dL_law_734 : decode cL_law 734 = .ok (.aload_n 1, 1) := by decide +kernel
theorem dL_law_735 : decode cL_law 735 = .ok (.aload_n 0, 1) := by decide +kernel
theorem dL_law_736 : decode cL_law 736 = .ok (.iload 4, 2) := by decide +kernel
theorem dL_law_738 : decode cL_law 738 = .ok (.iconst 1, 1) := by decide +kernel
theorem dL_law_739 : decode cL_law 739 = .ok (.iadd, 1) := by decide +kernel
theorem dL_law_740 : decode cL_law 740 = .ok (.iaload, 1) := by decide +kernel
theorem dL_law_741 : decode cL_law 741 = .ok (.aload_n 0, 1) := by decide +kernel
theorem dL_law_742 : decode cL_law 742 = .ok (.iload 4, 2) := by decide +kernel
theorem dL_law_744 : decode cL_law 744 = .ok (.iconst 2, 1) := by decide +kernel
theorem dL_law_745 : decode cL_law 745 = .ok (.iadd, 1) := by decide +kernel
theorem dL_law_746 : decode cL_law 746 = .ok (.iaload, 1) := by decide +kernel
theorem dL_law_747 : decode cL_law 747 = .ok (.i2l, 1) := by decide +kernel
theorem dL_law_748 : decode cL_law 748 = .ok (.bipush 32, 2) := by decide +kernel
theorem dL_law_750 : decode cL_law 750 = .ok (.lshl, 1) := by decide +kernel
theorem dL_law_751 : decode cL_law 751 = .ok (.aload_n 0, 1) := by decide +kernel
theorem dL_law_752 : decode cL_law 752 = .ok (.iload 4, 2) := by decide +kernel
theorem dL_law_754 : decode cL_law 754 = .ok (.iconst 3, 1) := by decide +kernel
theorem dL_law_755 : decode cL_law 755 = .ok (.iadd, 1) := by decide +kernel
theorem dL_law_756 : decode cL_law 756 = .ok (.iaload, 1) := by decide +kernel
theorem dL_law_757 : decode cL_law 757 = .ok (.i2l, 1) := by decide +kernel
theorem dL_law_758 : decode cL_law 758 = .ok (.ldc2_w 89, 3) := by decide +kernel
theorem dL_law_761 : decode cL_law 761 = .ok (.land, 1) := by decide +kernel
theorem dL_law_762 : decode cL_law 762 = .ok (.lor, 1) := by decide +kernel
theorem dL_law_763 : decode cL_law 763 = .ok (.invokevirtual 91, 3) := by decide +kernel
theorem dL_law_766 : decode cL_law 766 = .ok (.aload_n 2, 1) := by decide +kernel
theorem dL_law_767 : decode cL_law 767 = .ok (.aload_n 0, 1) := by decide +kernel
theorem dL_law_768 : decode cL_law 768 = .ok (.iload 4, 2) := by decide +kernel
theorem dL_law_770 : decode cL_law 770 = .ok (.iconst 1, 1) := by decide +kernel
theorem dL_law_771 : decode cL_law 771 = .ok (.iadd, 1) := by decide +kernel
theorem dL_law_772 : decode cL_law 772 = .ok (.iaload, 1) := by decide +kernel
theorem dL_law_773 : decode cL_law 773 = .ok (.aload_n 0, 1) := by decide +kernel
theorem dL_law_774 : decode cL_law 774 = .ok (.iload 4, 2) := by decide +kernel
theorem dL_law_776 : decode cL_law 776 = .ok (.iconst 2, 1) := by decide +kernel
theorem dL_law_777 : decode cL_law 777 = .ok (.iadd, 1) := by decide +kernel
theorem dL_law_778 : decode cL_law 778 = .ok (.iaload, 1) := by decide +kernel
theorem dL_law_779 : decode cL_law 779 = .ok (.i2l, 1) := by decide +kernel
theorem dL_law_780 : decode cL_law 780 = .ok (.bipush 32, 2) := by decide +kernel
theorem dL_law_782 : decode cL_law 782 = .ok (.lshl, 1) := by decide +kernel
theorem dL_law_783 : decode cL_law 783 = .ok (.aload_n 0, 1) := by decide +kernel
theorem dL_law_784 : decode cL_law 784 = .ok (.iload 4, 2) := by decide +kernel
theorem dL_law_786 : decode cL_law 786 = .ok (.iconst 3, 1) := by decide +kernel
theorem dL_law_787 : decode cL_law 787 = .ok (.iadd, 1) := by decide +kernel
theorem dL_law_788 : decode cL_law 788 = .ok (.iaload, 1) := by decide +kernel
theorem dL_law_789 : decode cL_law 789 = .ok (.i2l, 1) := by decide +kernel
theorem dL_law_790 : decode cL_law 790 = .ok (.ldc2_w 89, 3) := by decide +kernel
theorem dL_law_793 : decode cL_law 793 = .ok (.land, 1) := by decide +kernel
theorem dL_law_794 : decode cL_law 794 = .ok (.lor, 1) := by decide +kernel
theorem dL_law_795 : decode cL_law 795 = .ok (.invokevirtual 95, 3) := by decide +kernel
theorem dL_law_798 : decode cL_law 798 = .ok (.if_icmp .eq 823, 3) := by decide +kernel
theorem dL_law_801 : decode cL_law 801 = .ok (.iconst 0, 1) := by decide +kernel
theorem dL_law_802 : decode cL_law 802 = .ok (.ireturn, 1) := by decide +kernel
theorem dL_law_803 : decode cL_law 803 = .ok (.aload_n 1, 1) := by decide +kernel
theorem dL_law_804 : decode cL_law 804 = .ok (.invokevirtual 96, 3) := by decide +kernel
theorem dL_law_807 : decode cL_law 807 = .ok (.aload_n 2, 1) := by decide +kernel
theorem dL_law_808 : decode cL_law 808 = .ok (.invokevirtual 99, 3) := by decide +kernel
theorem dL_law_811 : decode cL_law 811 = .ok (.if_icmp .eq 810, 3) := by decide +kernel
theorem dL_law_814 : decode cL_law 814 = .ok (.iconst 0, 1) := by decide +kernel
theorem dL_law_815 : decode cL_law 815 = .ok (.ireturn, 1) := by decide +kernel
theorem dL_law_816 : decode cL_law 816 = .ok (.aload_n 1, 1) := by decide +kernel
theorem dL_law_817 : decode cL_law 817 = .ok (.aload_n 0, 1) := by decide +kernel
theorem dL_law_818 : decode cL_law 818 = .ok (.iload 4, 2) := by decide +kernel
theorem dL_law_820 : decode cL_law 820 = .ok (.iconst 1, 1) := by decide +kernel
theorem dL_law_821 : decode cL_law 821 = .ok (.iadd, 1) := by decide +kernel
theorem dL_law_822 : decode cL_law 822 = .ok (.iaload, 1) := by decide +kernel
theorem dL_law_823 : decode cL_law 823 = .ok (.aload_n 0, 1) := by decide +kernel
theorem dL_law_824 : decode cL_law 824 = .ok (.iload 4, 2) := by decide +kernel
theorem dL_law_826 : decode cL_law 826 = .ok (.iconst 2, 1) := by decide +kernel
theorem dL_law_827 : decode cL_law 827 = .ok (.iadd, 1) := by decide +kernel
theorem dL_law_828 : decode cL_law 828 = .ok (.iaload, 1) := by decide +kernel
theorem dL_law_829 : decode cL_law 829 = .ok (.invokevirtual 100, 3) := by decide +kernel
theorem dL_law_832 : decode cL_law 832 = .ok (.aload_n 2, 1) := by decide +kernel
theorem dL_law_833 : decode cL_law 833 = .ok (.aload_n 0, 1) := by decide +kernel
theorem dL_law_834 : decode cL_law 834 = .ok (.iload 4, 2) := by decide +kernel
theorem dL_law_836 : decode cL_law 836 = .ok (.iconst 1, 1) := by decide +kernel
theorem dL_law_837 : decode cL_law 837 = .ok (.iadd, 1) := by decide +kernel
theorem dL_law_838 : decode cL_law 838 = .ok (.iaload, 1) := by decide +kernel
theorem dL_law_839 : decode cL_law 839 = .ok (.aload_n 0, 1) := by decide +kernel
theorem dL_law_840 : decode cL_law 840 = .ok (.iload 4, 2) := by decide +kernel
theorem dL_law_842 : decode cL_law 842 = .ok (.iconst 2, 1) := by decide +kernel
theorem dL_law_843 : decode cL_law 843 = .ok (.iadd, 1) := by decide +kernel
theorem dL_law_844 : decode cL_law 844 = .ok (.iaload, 1) := by decide +kernel
theorem dL_law_845 : decode cL_law 845 = .ok (.invokevirtual 103, 3) := by decide +kernel
theorem dL_law_848 : decode cL_law 848 = .ok (.if_icmp .eq 773, 3) := by decide +kernel
theorem dL_law_851 : decode cL_law 851 = .ok (.iconst 0, 1) := by decide +kernel
theorem dL_law_852 : decode cL_law 852 = .ok (.ireturn, 1) := by decide +kernel
theorem dL_law_853 : decode cL_law 853 = .ok (.aload_n 1, 1) := by decide +kernel
theorem dL_law_854 : decode cL_law 854 = .ok (.aload_n 0, 1) := by decide +kernel
theorem dL_law_855 : decode cL_law 855 = .ok (.iload 4, 2) := by decide +kernel
theorem dL_law_857 : decode cL_law 857 = .ok (.iconst 1, 1) := by decide +kernel
theorem dL_law_858 : decode cL_law 858 = .ok (.iadd, 1) := by decide +kernel
theorem dL_law_859 : decode cL_law 859 = .ok (.iaload, 1) := by decide +kernel
theorem dL_law_860 : decode cL_law 860 = .ok (.aload_n 0, 1) := by decide +kernel
theorem dL_law_861 : decode cL_law 861 = .ok (.iload 4, 2) := by decide +kernel
theorem dL_law_863 : decode cL_law 863 = .ok (.iconst 2, 1) := by decide +kernel
theorem dL_law_864 : decode cL_law 864 = .ok (.iadd, 1) := by decide +kernel
theorem dL_law_865 : decode cL_law 865 = .ok (.iaload, 1) := by decide +kernel
theorem dL_law_866 : decode cL_law 866 = .ok (.invokevirtual 104, 3) := by decide +kernel
theorem dL_law_869 : decode cL_law 869 = .ok (.aload_n 2, 1) := by decide +kernel
theorem dL_law_870 : decode cL_law 870 = .ok (.aload_n 0, 1) := by decide +kernel
theorem dL_law_871 : decode cL_law 871 = .ok (.iload 4, 2) := by decide +kernel
theorem dL_law_873 : decode cL_law 873 = .ok (.iconst 1, 1) := by decide +kernel
theorem dL_law_874 : decode cL_law 874 = .ok (.iadd, 1) := by decide +kernel
theorem dL_law_875 : decode cL_law 875 = .ok (.iaload, 1) := by decide +kernel
theorem dL_law_876 : decode cL_law 876 = .ok (.aload_n 0, 1) := by decide +kernel
theorem dL_law_877 : decode cL_law 877 = .ok (.iload 4, 2) := by decide +kernel
theorem dL_law_879 : decode cL_law 879 = .ok (.iconst 2, 1) := by decide +kernel
theorem dL_law_880 : decode cL_law 880 = .ok (.iadd, 1) := by decide +kernel
theorem dL_law_881 : decode cL_law 881 = .ok (.iaload, 1) := by decide +kernel
theorem dL_law_882 : decode cL_law 882 = .ok (.invokevirtual 107, 3) := by decide +kernel
theorem dL_law_885 : decode cL_law 885 = .ok (.if_icmp .eq 736, 3) := by decide +kernel
theorem dL_law_888 : decode cL_law 888 = .ok (.iconst 0, 1) := by decide +kernel
theorem dL_law_889 : decode cL_law 889 = .ok (.ireturn, 1) := by decide +kernel
theorem dL_law_890 : decode cL_law 890 = .ok (.aload_n 1, 1) := by decide +kernel
theorem dL_law_891 : decode cL_law 891 = .ok (.aload_n 0, 1) := by decide +kernel
theorem dL_law_892 : decode cL_law 892 = .ok (.iload 4, 2) := by decide +kernel
theorem dL_law_894 : decode cL_law 894 = .ok (.iconst 1, 1) := by decide +kernel
theorem dL_law_895 : decode cL_law 895 = .ok (.iadd, 1) := by decide +kernel
theorem dL_law_896 : decode cL_law 896 = .ok (.iaload, 1) := by decide +kernel
theorem dL_law_897 : decode cL_law 897 = .ok (.aload_n 0, 1) := by decide +kernel
theorem dL_law_898 : decode cL_law 898 = .ok (.iload 4, 2) := by decide +kernel
theorem dL_law_900 : decode cL_law 900 = .ok (.iconst 2, 1) := by decide +kernel
theorem dL_law_901 : decode cL_law 901 = .ok (.iadd, 1) := by decide +kernel
theorem dL_law_902 : decode cL_law 902 = .ok (.iaload, 1) := by decide +kernel
theorem dL_law_903 : decode cL_law 903 = .ok (.aload_n 0, 1) := by decide +kernel
theorem dL_law_904 : decode cL_law 904 = .ok (.iload 4, 2) := by decide +kernel
theorem dL_law_906 : decode cL_law 906 = .ok (.iconst 3, 1) := by decide +kernel
theorem dL_law_907 : decode cL_law 907 = .ok (.iadd, 1) := by decide +kernel
theorem dL_law_908 : decode cL_law 908 = .ok (.iaload, 1) := by decide +kernel
theorem dL_law_909 : decode cL_law 909 = .ok (.invokevirtual 108, 3) := by decide +kernel
theorem dL_law_912 : decode cL_law 912 = .ok (.aload_n 2, 1) := by decide +kernel
theorem dL_law_913 : decode cL_law 913 = .ok (.aload_n 0, 1) := by decide +kernel
theorem dL_law_914 : decode cL_law 914 = .ok (.iload 4, 2) := by decide +kernel
theorem dL_law_916 : decode cL_law 916 = .ok (.iconst 1, 1) := by decide +kernel
theorem dL_law_917 : decode cL_law 917 = .ok (.iadd, 1) := by decide +kernel
theorem dL_law_918 : decode cL_law 918 = .ok (.iaload, 1) := by decide +kernel
theorem dL_law_919 : decode cL_law 919 = .ok (.aload_n 0, 1) := by decide +kernel
theorem dL_law_920 : decode cL_law 920 = .ok (.iload 4, 2) := by decide +kernel
theorem dL_law_922 : decode cL_law 922 = .ok (.iconst 2, 1) := by decide +kernel
theorem dL_law_923 : decode cL_law 923 = .ok (.iadd, 1) := by decide +kernel
theorem dL_law_924 : decode cL_law 924 = .ok (.iaload, 1) := by decide +kernel
theorem dL_law_925 : decode cL_law 925 = .ok (.aload_n 0, 1) := by decide +kernel
theorem dL_law_926 : decode cL_law 926 = .ok (.iload 4, 2) := by decide +kernel
theorem dL_law_928 : decode cL_law 928 = .ok (.iconst 3, 1) := by decide +kernel
theorem dL_law_929 : decode cL_law 929 = .ok (.iadd, 1) := by decide +kernel
theorem dL_law_930 : decode cL_law 930 = .ok (.iaload, 1) := by decide +kernel
theorem dL_law_931 : decode cL_law 931 = .ok (.invokevirtual 112, 3) := by decide +kernel
theorem dL_law_934 : decode cL_law 934 = .ok (.if_icmp .eq 687, 3) := by decide +kernel
theorem dL_law_937 : decode cL_law 937 = .ok (.iconst 0, 1) := by decide +kernel
theorem dL_law_938 : decode cL_law 938 = .ok (.ireturn, 1) := by decide +kernel
theorem dL_law_939 : decode cL_law 939 = .ok (.aload_n 1, 1) := by decide +kernel
theorem dL_law_940 : decode cL_law 940 = .ok (.aload_n 0, 1) := by decide +kernel
theorem dL_law_941 : decode cL_law 941 = .ok (.iload 4, 2) := by decide +kernel
theorem dL_law_943 : decode cL_law 943 = .ok (.iconst 1, 1) := by decide +kernel
theorem dL_law_944 : decode cL_law 944 = .ok (.iadd, 1) := by decide +kernel
theorem dL_law_945 : decode cL_law 945 = .ok (.iaload, 1) := by decide +kernel
theorem dL_law_946 : decode cL_law 946 = .ok (.aload_n 0, 1) := by decide +kernel
theorem dL_law_947 : decode cL_law 947 = .ok (.iload 4, 2) := by decide +kernel
theorem dL_law_949 : decode cL_law 949 = .ok (.iconst 2, 1) := by decide +kernel
theorem dL_law_950 : decode cL_law 950 = .ok (.iadd, 1) := by decide +kernel
theorem dL_law_951 : decode cL_law 951 = .ok (.iaload, 1) := by decide +kernel
theorem dL_law_952 : decode cL_law 952 = .ok (.invokevirtual 113, 3) := by decide +kernel
theorem dL_law_955 : decode cL_law 955 = .ok (.aload_n 2, 1) := by decide +kernel
theorem dL_law_956 : decode cL_law 956 = .ok (.aload_n 0, 1) := by decide +kernel
theorem dL_law_957 : decode cL_law 957 = .ok (.iload 4, 2) := by decide +kernel
theorem dL_law_959 : decode cL_law 959 = .ok (.iconst 1, 1) := by decide +kernel
theorem dL_law_960 : decode cL_law 960 = .ok (.iadd, 1) := by decide +kernel
theorem dL_law_961 : decode cL_law 961 = .ok (.iaload, 1) := by decide +kernel
theorem dL_law_962 : decode cL_law 962 = .ok (.aload_n 0, 1) := by decide +kernel
theorem dL_law_963 : decode cL_law 963 = .ok (.iload 4, 2) := by decide +kernel
theorem dL_law_965 : decode cL_law 965 = .ok (.iconst 2, 1) := by decide +kernel
theorem dL_law_966 : decode cL_law 966 = .ok (.iadd, 1) := by decide +kernel
theorem dL_law_967 : decode cL_law 967 = .ok (.iaload, 1) := by decide +kernel
theorem dL_law_968 : decode cL_law 968 = .ok (.invokevirtual 116, 3) := by decide +kernel
theorem dL_law_971 : decode cL_law 971 = .ok (.if_icmp .eq 650, 3) := by decide +kernel
theorem dL_law_974 : decode cL_law 974 = .ok (.iconst 0, 1) := by decide +kernel
theorem dL_law_975 : decode cL_law 975 = .ok (.ireturn, 1) := by decide +kernel
theorem dL_law_976 : decode cL_law 976 = .ok (.aload_n 1, 1) := by decide +kernel
theorem dL_law_977 : decode cL_law 977 = .ok (.aload_n 0, 1) := by decide +kernel
theorem dL_law_978 : decode cL_law 978 = .ok (.iload 4, 2) := by decide +kernel
theorem dL_law_980 : decode cL_law 980 = .ok (.iconst 1, 1) := by decide +kernel
theorem dL_law_981 : decode cL_law 981 = .ok (.iadd, 1) := by decide +kernel
theorem dL_law_982 : decode cL_law 982 = .ok (.iaload, 1) := by decide +kernel
theorem dL_law_983 : decode cL_law 983 = .ok (.invokevirtual 117, 3) := by decide +kernel
theorem dL_law_986 : decode cL_law 986 = .ok (.aload_n 2, 1) := by decide +kernel
theorem dL_law_987 : decode cL_law 987 = .ok (.aload_n 0, 1) := by decide +kernel
theorem dL_law_988 : decode cL_law 988 = .ok (.iload 4, 2) := by decide +kernel
theorem dL_law_990 : decode cL_law 990 = .ok (.iconst 1, 1) := by decide +kernel
theorem dL_law_991 : decode cL_law 991 = .ok (.iadd, 1) := by decide +kernel
theorem dL_law_992 : decode cL_law 992 = .ok (.iaload, 1) := by decide +kernel
theorem dL_law_993 : decode cL_law 993 = .ok (.invokevirtual 120, 3) := by decide +kernel
theorem dL_law_996 : decode cL_law 996 = .ok (.if_icmp .eq 625, 3) := by decide +kernel
theorem dL_law_999 : decode cL_law 999 = .ok (.iconst 0, 1) := by decide +kernel
theorem dL_law_1000 : decode cL_law 1000 = .ok (.ireturn, 1) := by decide +kernel
theorem dL_law_1001 : decode cL_law 1001 = .ok (.aload_n 1, 1) := by decide +kernel
theorem dL_law_1002 : decode cL_law 1002 = .ok (.aload_n 0, 1) := by decide +kernel
theorem dL_law_1003 : decode cL_law 1003 = .ok (.iload 4, 2) := by decide +kernel
theorem dL_law_1005 : decode cL_law 1005 = .ok (.iconst 1, 1) := by decide +kernel
theorem dL_law_1006 : decode cL_law 1006 = .ok (.iadd, 1) := by decide +kernel
theorem dL_law_1007 : decode cL_law 1007 = .ok (.iaload, 1) := by decide +kernel
theorem dL_law_1008 : decode cL_law 1008 = .ok (.aload_n 0, 1) := by decide +kernel
theorem dL_law_1009 : decode cL_law 1009 = .ok (.iload 4, 2) := by decide +kernel
theorem dL_law_1011 : decode cL_law 1011 = .ok (.iconst 2, 1) := by decide +kernel
theorem dL_law_1012 : decode cL_law 1012 = .ok (.iadd, 1) := by decide +kernel
theorem dL_law_1013 : decode cL_law 1013 = .ok (.iaload, 1) := by decide +kernel
theorem dL_law_1014 : decode cL_law 1014 = .ok (.aload_n 0, 1) := by decide +kernel
theorem dL_law_1015 : decode cL_law 1015 = .ok (.iload 4, 2) := by decide +kernel
theorem dL_law_1017 : decode cL_law 1017 = .ok (.iconst 3, 1) := by decide +kernel
theorem dL_law_1018 : decode cL_law 1018 = .ok (.iadd, 1) := by decide +kernel
theorem dL_law_1019 : decode cL_law 1019 = .ok (.iaload, 1) := by decide +kernel
theorem dL_law_1020 : decode cL_law 1020 = .ok (.invokevirtual 121, 3) := by decide +kernel
theorem dL_law_1023 : decode cL_law 1023 = .ok (.aload_n 2, 1) := by decide +kernel
theorem dL_law_1024 : decode cL_law 1024 = .ok (.aload_n 0, 1) := by decide +kernel
theorem dL_law_1025 : decode cL_law 1025 = .ok (.iload 4, 2) := by decide +kernel
theorem dL_law_1027 : decode cL_law 1027 = .ok (.iconst 1, 1) := by decide +kernel
theorem dL_law_1028 : decode cL_law 1028 = .ok (.iadd, 1) := by decide +kernel
theorem dL_law_1029 : decode cL_law 1029 = .ok (.iaload, 1) := by decide +kernel
theorem dL_law_1030 : decode cL_law 1030 = .ok (.aload_n 0, 1) := by decide +kernel
theorem dL_law_1031 : decode cL_law 1031 = .ok (.iload 4, 2) := by decide +kernel
theorem dL_law_1033 : decode cL_law 1033 = .ok (.iconst 2, 1) := by decide +kernel
theorem dL_law_1034 : decode cL_law 1034 = .ok (.iadd, 1) := by decide +kernel
theorem dL_law_1035 : decode cL_law 1035 = .ok (.iaload, 1) := by decide +kernel
theorem dL_law_1036 : decode cL_law 1036 = .ok (.aload_n 0, 1) := by decide +kernel
theorem dL_law_1037 : decode cL_law 1037 = .ok (.iload 4, 2) := by decide +kernel
theorem dL_law_1039 : decode cL_law 1039 = .ok (.iconst 3, 1) := by decide +kernel
theorem dL_law_1040 : decode cL_law 1040 = .ok (.iadd, 1) := by decide +kernel
theorem dL_law_1041 : decode cL_law 1041 = .ok (.iaload, 1) := by decide +kernel
theorem dL_law_1042 : decode cL_law 1042 = .ok (.invokevirtual 124, 3) := by decide +kernel
theorem dL_law_1045 : decode cL_law 1045 = .ok (.if_icmp .eq 576, 3) := by decide +kernel
theorem dL_law_1048 : decode cL_law 1048 = .ok (.iconst 0, 1) := by decide +kernel
theorem dL_law_1049 : decode cL_law 1049 = .ok (.ireturn, 1) := by decide +kernel
theorem dL_law_1050 : decode cL_law 1050 = .ok (.aload_n 1, 1) := by decide +kernel
theorem dL_law_1051 : decode cL_law 1051 = .ok (.invokevirtual 125, 3) := by decide +kernel
theorem dL_law_1054 : decode cL_law 1054 = .ok (.aload_n 2, 1) := by decide +kernel
theorem dL_law_1055 : decode cL_law 1055 = .ok (.invokevirtual 128, 3) := by decide +kernel
theorem dL_law_1058 : decode cL_law 1058 = .ok (.if_icmp .eq 563, 3) := by decide +kernel
theorem dL_law_1061 : decode cL_law 1061 = .ok (.iconst 0, 1) := by decide +kernel
theorem dL_law_1062 : decode cL_law 1062 = .ok (.ireturn, 1) := by decide +kernel
theorem dL_law_1063 : decode cL_law 1063 = .ok (.aload_n 1, 1) := by decide +kernel
theorem dL_law_1064 : decode cL_law 1064 = .ok (.aload_n 0, 1) := by decide +kernel
theorem dL_law_1065 : decode cL_law 1065 = .ok (.iload 4, 2) := by decide +kernel
theorem dL_law_1067 : decode cL_law 1067 = .ok (.iconst 1, 1) := by decide +kernel
theorem dL_law_1068 : decode cL_law 1068 = .ok (.iadd, 1) := by decide +kernel
theorem dL_law_1069 : decode cL_law 1069 = .ok (.iaload, 1) := by decide +kernel
theorem dL_law_1070 : decode cL_law 1070 = .ok (.invokevirtual 129, 3) := by decide +kernel
theorem dL_law_1073 : decode cL_law 1073 = .ok (.aload_n 2, 1) := by decide +kernel
theorem dL_law_1074 : decode cL_law 1074 = .ok (.aload_n 0, 1) := by decide +kernel
theorem dL_law_1075 : decode cL_law 1075 = .ok (.iload 4, 2) := by decide +kernel
theorem dL_law_1077 : decode cL_law 1077 = .ok (.iconst 1, 1) := by decide +kernel
theorem dL_law_1078 : decode cL_law 1078 = .ok (.iadd, 1) := by decide +kernel
theorem dL_law_1079 : decode cL_law 1079 = .ok (.iaload, 1) := by decide +kernel
theorem dL_law_1080 : decode cL_law 1080 = .ok (.invokevirtual 132, 3) := by decide +kernel
theorem dL_law_1083 : decode cL_law 1083 = .ok (.if_icmp .eq 538, 3) := by decide +kernel
theorem dL_law_1086 : decode cL_law 1086 = .ok (.iconst 0, 1) := by decide +kernel
theorem dL_law_1087 : decode cL_law 1087 = .ok (.ireturn, 1) := by decide +kernel
theorem dL_law_1088 : decode cL_law 1088 = .ok (.aload_n 1, 1) := by decide +kernel
theorem dL_law_1089 : decode cL_law 1089 = .ok (.aload_n 0, 1) := by decide +kernel
theorem dL_law_1090 : decode cL_law 1090 = .ok (.iload 4, 2) := by decide +kernel
theorem dL_law_1092 : decode cL_law 1092 = .ok (.iconst 1, 1) := by decide +kernel
theorem dL_law_1093 : decode cL_law 1093 = .ok (.iadd, 1) := by decide +kernel
theorem dL_law_1094 : decode cL_law 1094 = .ok (.iaload, 1) := by decide +kernel
theorem dL_law_1095 : decode cL_law 1095 = .ok (.invokevirtual 133, 3) := by decide +kernel
theorem dL_law_1098 : decode cL_law 1098 = .ok (.aload_n 2, 1) := by decide +kernel
theorem dL_law_1099 : decode cL_law 1099 = .ok (.aload_n 0, 1) := by decide +kernel
theorem dL_law_1100 : decode cL_law 1100 = .ok (.iload 4, 2) := by decide +kernel
theorem dL_law_1102 : decode cL_law 1102 = .ok (.iconst 1, 1) := by decide +kernel
theorem dL_law_1103 : decode cL_law 1103 = .ok (.iadd, 1) := by decide +kernel
theorem dL_law_1104 : decode cL_law 1104 = .ok (.iaload, 1) := by decide +kernel
theorem dL_law_1105 : decode cL_law 1105 = .ok (.invokevirtual 136, 3) := by decide +kernel
theorem dL_law_1108 : decode cL_law 1108 = .ok (.if_icmp .eq 513, 3) := by decide +kernel
theorem dL_law_1111 : decode cL_law 1111 = .ok (.iconst 0, 1) := by decide +kernel
theorem dL_law_1112 : decode cL_law 1112 = .ok (.ireturn, 1) := by decide +kernel
theorem dL_law_1113 : decode cL_law 1113 = .ok (.aload_n 1, 1) := by decide +kernel
theorem dL_law_1114 : decode cL_law 1114 = .ok (.invokevirtual 137, 3) := by decide +kernel
theorem dL_law_1117 : decode cL_law 1117 = .ok (.aload_n 2, 1) := by decide +kernel
theorem dL_law_1118 : decode cL_law 1118 = .ok (.invokevirtual 140, 3) := by decide +kernel
theorem dL_law_1121 : decode cL_law 1121 = .ok (.if_icmp .eq 500, 3) := by decide +kernel
theorem dL_law_1124 : decode cL_law 1124 = .ok (.iconst 0, 1) := by decide +kernel
theorem dL_law_1125 : decode cL_law 1125 = .ok (.ireturn, 1) := by decide +kernel
theorem dL_law_1126 : decode cL_law 1126 = .ok (.aload_n 1, 1) := by decide +kernel
theorem dL_law_1127 : decode cL_law 1127 = .ok (.aload_n 0, 1) := by decide +kernel
theorem dL_law_1128 : decode cL_law 1128 = .ok (.iload 4, 2) := by decide +kernel
theorem dL_law_1130 : decode cL_law 1130 = .ok (.iconst 1, 1) := by decide +kernel
theorem dL_law_1131 : decode cL_law 1131 = .ok (.iadd, 1) := by decide +kernel
theorem dL_law_1132 : decode cL_law 1132 = .ok (.iaload, 1) := by decide +kernel
theorem dL_law_1133 : decode cL_law 1133 = .ok (.invokevirtual 141, 3) := by decide +kernel
theorem dL_law_1136 : decode cL_law 1136 = .ok (.aload_n 2, 1) := by decide +kernel
theorem dL_law_1137 : decode cL_law 1137 = .ok (.aload_n 0, 1) := by decide +kernel
theorem dL_law_1138 : decode cL_law 1138 = .ok (.iload 4, 2) := by decide +kernel
theorem dL_law_1140 : decode cL_law 1140 = .ok (.iconst 1, 1) := by decide +kernel
theorem dL_law_1141 : decode cL_law 1141 = .ok (.iadd, 1) := by decide +kernel
theorem dL_law_1142 : decode cL_law 1142 = .ok (.iaload, 1) := by decide +kernel
theorem dL_law_1143 : decode cL_law 1143 = .ok (.invokevirtual 144, 3) := by decide +kernel
theorem dL_law_1146 : decode cL_law 1146 = .ok (.if_icmp .eq 475, 3) := by decide +kernel
theorem dL_law_1149 : decode cL_law 1149 = .ok (.iconst 0, 1) := by decide +kernel
theorem dL_law_1150 : decode cL_law 1150 = .ok (.ireturn, 1) := by decide +kernel
theorem dL_law_1151 : decode cL_law 1151 = .ok (.aload_n 1, 1) := by decide +kernel
theorem dL_law_1152 : decode cL_law 1152 = .ok (.aload_n 0, 1) := by decide +kernel
theorem dL_law_1153 : decode cL_law 1153 = .ok (.iload 4, 2) := by decide +kernel
theorem dL_law_1155 : decode cL_law 1155 = .ok (.iconst 1, 1) := by decide +kernel
theorem dL_law_1156 : decode cL_law 1156 = .ok (.iadd, 1) := by decide +kernel
theorem dL_law_1157 : decode cL_law 1157 = .ok (.iaload, 1) := by decide +kernel
theorem dL_law_1158 : decode cL_law 1158 = .ok (.invokevirtual 145, 3) := by decide +kernel
theorem dL_law_1161 : decode cL_law 1161 = .ok (.aload_n 2, 1) := by decide +kernel
theorem dL_law_1162 : decode cL_law 1162 = .ok (.aload_n 0, 1) := by decide +kernel
theorem dL_law_1163 : decode cL_law 1163 = .ok (.iload 4, 2) := by decide +kernel
theorem dL_law_1165 : decode cL_law 1165 = .ok (.iconst 1, 1) := by decide +kernel
theorem dL_law_1166 : decode cL_law 1166 = .ok (.iadd, 1) := by decide +kernel
theorem dL_law_1167 : decode cL_law 1167 = .ok (.iaload, 1) := by decide +kernel
theorem dL_law_1168 : decode cL_law 1168 = .ok (.invokevirtual 148, 3) := by decide +kernel
theorem dL_law_1171 : decode cL_law 1171 = .ok (.if_icmp .eq 450, 3) := by decide +kernel
theorem dL_law_1174 : decode cL_law 1174 = .ok (.iconst 0, 1) := by decide +kernel
theorem dL_law_1175 : decode cL_law 1175 = .ok (.ireturn, 1) := by decide +kernel
theorem dL_law_1176 : decode cL_law 1176 = .ok (.aload_n 1, 1) := by decide +kernel
theorem dL_law_1177 : decode cL_law 1177 = .ok (.aload_n 0, 1) := by decide +kernel
theorem dL_law_1178 : decode cL_law 1178 = .ok (.iload 4, 2) := by decide +kernel
theorem dL_law_1180 : decode cL_law 1180 = .ok (.iconst 1, 1) := by decide +kernel
theorem dL_law_1181 : decode cL_law 1181 = .ok (.iadd, 1) := by decide +kernel
theorem dL_law_1182 : decode cL_law 1182 = .ok (.iaload, 1) := by decide +kernel
theorem dL_law_1183 : decode cL_law 1183 = .ok (.invokevirtual 149, 3) := by decide +kernel
theorem dL_law_1186 : decode cL_law 1186 = .ok (.aload_n 2, 1) := by decide +kernel
theorem dL_law_1187 : decode cL_law 1187 = .ok (.aload_n 0, 1) := by decide +kernel
theorem dL_law_1188 : decode cL_law 1188 = .ok (.iload 4, 2) := by decide +kernel
theorem dL_law_1190 : decode cL_law 1190 = .ok (.iconst 1, 1) := by decide +kernel
theorem dL_law_1191 : decode cL_law 1191 = .ok (.iadd, 1) := by decide +kernel
theorem dL_law_1192 : decode cL_law 1192 = .ok (.iaload, 1) := by decide +kernel
theorem dL_law_1193 : decode cL_law 1193 = .ok (.invokevirtual 152, 3) := by decide +kernel
theorem dL_law_1196 : decode cL_law 1196 = .ok (.if_icmp .eq 425, 3) := by decide +kernel
theorem dL_law_1199 : decode cL_law 1199 = .ok (.iconst 0, 1) := by decide +kernel
theorem dL_law_1200 : decode cL_law 1200 = .ok (.ireturn, 1) := by decide +kernel
theorem dL_law_1201 : decode cL_law 1201 = .ok (.aload_n 1, 1) := by decide +kernel
theorem dL_law_1202 : decode cL_law 1202 = .ok (.aload_n 0, 1) := by decide +kernel
theorem dL_law_1203 : decode cL_law 1203 = .ok (.iload 4, 2) := by decide +kernel
theorem dL_law_1205 : decode cL_law 1205 = .ok (.iconst 1, 1) := by decide +kernel
theorem dL_law_1206 : decode cL_law 1206 = .ok (.iadd, 1) := by decide +kernel
theorem dL_law_1207 : decode cL_law 1207 = .ok (.iaload, 1) := by decide +kernel
theorem dL_law_1208 : decode cL_law 1208 = .ok (.aload_n 0, 1) := by decide +kernel
theorem dL_law_1209 : decode cL_law 1209 = .ok (.iload 4, 2) := by decide +kernel
theorem dL_law_1211 : decode cL_law 1211 = .ok (.iconst 2, 1) := by decide +kernel
theorem dL_law_1212 : decode cL_law 1212 = .ok (.iadd, 1) := by decide +kernel
theorem dL_law_1213 : decode cL_law 1213 = .ok (.iaload, 1) := by decide +kernel
theorem dL_law_1214 : decode cL_law 1214 = .ok (.aload_n 0, 1) := by decide +kernel
theorem dL_law_1215 : decode cL_law 1215 = .ok (.iload 4, 2) := by decide +kernel
theorem dL_law_1217 : decode cL_law 1217 = .ok (.iconst 3, 1) := by decide +kernel
theorem dL_law_1218 : decode cL_law 1218 = .ok (.iadd, 1) := by decide +kernel
theorem dL_law_1219 : decode cL_law 1219 = .ok (.iaload, 1) := by decide +kernel
theorem dL_law_1220 : decode cL_law 1220 = .ok (.invokevirtual 153, 3) := by decide +kernel
theorem dL_law_1223 : decode cL_law 1223 = .ok (.aload_n 2, 1) := by decide +kernel
theorem dL_law_1224 : decode cL_law 1224 = .ok (.aload_n 0, 1) := by decide +kernel
theorem dL_law_1225 : decode cL_law 1225 = .ok (.iload 4, 2) := by decide +kernel
theorem dL_law_1227 : decode cL_law 1227 = .ok (.iconst 1, 1) := by decide +kernel
theorem dL_law_1228 : decode cL_law 1228 = .ok (.iadd, 1) := by decide +kernel
theorem dL_law_1229 : decode cL_law 1229 = .ok (.iaload, 1) := by decide +kernel
theorem dL_law_1230 : decode cL_law 1230 = .ok (.aload_n 0, 1) := by decide +kernel
theorem dL_law_1231 : decode cL_law 1231 = .ok (.iload 4, 2) := by decide +kernel
theorem dL_law_1233 : decode cL_law 1233 = .ok (.iconst 2, 1) := by decide +kernel
theorem dL_law_1234 : decode cL_law 1234 = .ok (.iadd, 1) := by decide +kernel
theorem dL_law_1235 : decode cL_law 1235 = .ok (.iaload, 1) := by decide +kernel
theorem dL_law_1236 : decode cL_law 1236 = .ok (.aload_n 0, 1) := by decide +kernel
theorem dL_law_1237 : decode cL_law 1237 = .ok (.iload 4, 2) := by decide +kernel
theorem dL_law_1239 : decode cL_law 1239 = .ok (.iconst 3, 1) := by decide +kernel
theorem dL_law_1240 : decode cL_law 1240 = .ok (.iadd, 1) := by decide +kernel
theorem dL_law_1241 : decode cL_law 1241 = .ok (.iaload, 1) := by decide +kernel
theorem dL_law_1242 : decode cL_law 1242 = .ok (.invokevirtual 156, 3) := by decide +kernel
theorem dL_law_1245 : decode cL_law 1245 = .ok (.if_icmp .eq 376, 3) := by decide +kernel
theorem dL_law_1248 : decode cL_law 1248 = .ok (.iconst 0, 1) := by decide +kernel
theorem dL_law_1249 : decode cL_law 1249 = .ok (.ireturn, 1) := by decide +kernel
theorem dL_law_1250 : decode cL_law 1250 = .ok (.aload_n 1, 1) := by decide +kernel
theorem dL_law_1251 : decode cL_law 1251 = .ok (.aload_n 0, 1) := by decide +kernel
theorem dL_law_1252 : decode cL_law 1252 = .ok (.iload 4, 2) := by decide +kernel
theorem dL_law_1254 : decode cL_law 1254 = .ok (.iconst 1, 1) := by decide +kernel
theorem dL_law_1255 : decode cL_law 1255 = .ok (.iadd, 1) := by decide +kernel
theorem dL_law_1256 : decode cL_law 1256 = .ok (.iaload, 1) := by decide +kernel
theorem dL_law_1257 : decode cL_law 1257 = .ok (.invokevirtual 157, 3) := by decide +kernel
theorem dL_law_1260 : decode cL_law 1260 = .ok (.aload_n 2, 1) := by decide +kernel
theorem dL_law_1261 : decode cL_law 1261 = .ok (.aload_n 0, 1) := by decide +kernel
theorem dL_law_1262 : decode cL_law 1262 = .ok (.iload 4, 2) := by decide +kernel
theorem dL_law_1264 : decode cL_law 1264 = .ok (.iconst 1, 1) := by decide +kernel
theorem dL_law_1265 : decode cL_law 1265 = .ok (.iadd, 1) := by decide +kernel
theorem dL_law_1266 : decode cL_law 1266 = .ok (.iaload, 1) := by decide +kernel
theorem dL_law_1267 : decode cL_law 1267 = .ok (.invokevirtual 160, 3) := by decide +kernel
theorem dL_law_1270 : decode cL_law 1270 = .ok (.if_icmp .eq 351, 3) := by decide +kernel
theorem dL_law_1273 : decode cL_law 1273 = .ok (.iconst 0, 1) := by decide +kernel
theorem dL_law_1274 : decode cL_law 1274 = .ok (.ireturn, 1) := by decide +kernel
theorem dL_law_1275 : decode cL_law 1275 = .ok (.aload_n 1, 1) := by decide +kernel
theorem dL_law_1276 : decode cL_law 1276 = .ok (.aload_n 0, 1) := by decide +kernel
theorem dL_law_1277 : decode cL_law 1277 = .ok (.iload 4, 2) := by decide +kernel
theorem dL_law_1279 : decode cL_law 1279 = .ok (.iconst 1, 1) := by decide +kernel
theorem dL_law_1280 : decode cL_law 1280 = .ok (.iadd, 1) := by decide +kernel
theorem dL_law_1281 : decode cL_law 1281 = .ok (.iaload, 1) := by decide +kernel
theorem dL_law_1282 : decode cL_law 1282 = .ok (.aload_n 0, 1) := by decide +kernel
theorem dL_law_1283 : decode cL_law 1283 = .ok (.iload 4, 2) := by decide +kernel
theorem dL_law_1285 : decode cL_law 1285 = .ok (.iconst 2, 1) := by decide +kernel
theorem dL_law_1286 : decode cL_law 1286 = .ok (.iadd, 1) := by decide +kernel
theorem dL_law_1287 : decode cL_law 1287 = .ok (.iaload, 1) := by decide +kernel
theorem dL_law_1288 : decode cL_law 1288 = .ok (.ifCond .eq 7, 3) := by decide +kernel
theorem dL_law_1291 : decode cL_law 1291 = .ok (.iconst 1, 1) := by decide +kernel
theorem dL_law_1292 : decode cL_law 1292 = .ok (.goto 4, 3) := by decide +kernel
theorem dL_law_1295 : decode cL_law 1295 = .ok (.iconst 0, 1) := by decide +kernel
theorem dL_law_1296 : decode cL_law 1296 = .ok (.invokevirtual 161, 3) := by decide +kernel
theorem dL_law_1299 : decode cL_law 1299 = .ok (.aload_n 2, 1) := by decide +kernel
theorem dL_law_1300 : decode cL_law 1300 = .ok (.aload_n 0, 1) := by decide +kernel
theorem dL_law_1301 : decode cL_law 1301 = .ok (.iload 4, 2) := by decide +kernel
theorem dL_law_1303 : decode cL_law 1303 = .ok (.iconst 1, 1) := by decide +kernel
theorem dL_law_1304 : decode cL_law 1304 = .ok (.iadd, 1) := by decide +kernel
theorem dL_law_1305 : decode cL_law 1305 = .ok (.iaload, 1) := by decide +kernel
theorem dL_law_1306 : decode cL_law 1306 = .ok (.aload_n 0, 1) := by decide +kernel
theorem dL_law_1307 : decode cL_law 1307 = .ok (.iload 4, 2) := by decide +kernel
theorem dL_law_1309 : decode cL_law 1309 = .ok (.iconst 2, 1) := by decide +kernel
theorem dL_law_1310 : decode cL_law 1310 = .ok (.iadd, 1) := by decide +kernel
theorem dL_law_1311 : decode cL_law 1311 = .ok (.iaload, 1) := by decide +kernel
theorem dL_law_1312 : decode cL_law 1312 = .ok (.ifCond .eq 7, 3) := by decide +kernel
theorem dL_law_1315 : decode cL_law 1315 = .ok (.iconst 1, 1) := by decide +kernel
theorem dL_law_1316 : decode cL_law 1316 = .ok (.goto 4, 3) := by decide +kernel
theorem dL_law_1319 : decode cL_law 1319 = .ok (.iconst 0, 1) := by decide +kernel
theorem dL_law_1320 : decode cL_law 1320 = .ok (.invokevirtual 165, 3) := by decide +kernel
theorem dL_law_1323 : decode cL_law 1323 = .ok (.if_icmp .eq 298, 3) := by decide +kernel
theorem dL_law_1326 : decode cL_law 1326 = .ok (.iconst 0, 1) := by decide +kernel
theorem dL_law_1327 : decode cL_law 1327 = .ok (.ireturn, 1) := by decide +kernel
theorem dL_law_1328 : decode cL_law 1328 = .ok (.aload_n 1, 1) := by decide +kernel
theorem dL_law_1329 : decode cL_law 1329 = .ok (.invokevirtual 166, 3) := by decide +kernel
theorem dL_law_1332 : decode cL_law 1332 = .ok (.aload_n 2, 1) := by decide +kernel
theorem dL_law_1333 : decode cL_law 1333 = .ok (.invokevirtual 169, 3) := by decide +kernel
theorem dL_law_1336 : decode cL_law 1336 = .ok (.if_icmp .eq 285, 3) := by decide +kernel
theorem dL_law_1339 : decode cL_law 1339 = .ok (.iconst 0, 1) := by decide +kernel
theorem dL_law_1340 : decode cL_law 1340 = .ok (.ireturn, 1) := by decide +kernel
theorem dL_law_1341 : decode cL_law 1341 = .ok (.aload_n 1, 1) := by decide +kernel
theorem dL_law_1342 : decode cL_law 1342 = .ok (.aload_n 0, 1) := by decide +kernel
theorem dL_law_1343 : decode cL_law 1343 = .ok (.iload 4, 2) := by decide +kernel
theorem dL_law_1345 : decode cL_law 1345 = .ok (.iconst 1, 1) := by decide +kernel
theorem dL_law_1346 : decode cL_law 1346 = .ok (.iadd, 1) := by decide +kernel
theorem dL_law_1347 : decode cL_law 1347 = .ok (.iaload, 1) := by decide +kernel
theorem dL_law_1348 : decode cL_law 1348 = .ok (.aload_n 0, 1) := by decide +kernel
theorem dL_law_1349 : decode cL_law 1349 = .ok (.iload 4, 2) := by decide +kernel
theorem dL_law_1351 : decode cL_law 1351 = .ok (.iconst 2, 1) := by decide +kernel
theorem dL_law_1352 : decode cL_law 1352 = .ok (.iadd, 1) := by decide +kernel
theorem dL_law_1353 : decode cL_law 1353 = .ok (.iaload, 1) := by decide +kernel
theorem dL_law_1354 : decode cL_law 1354 = .ok (.aload_n 0, 1) := by decide +kernel
theorem dL_law_1355 : decode cL_law 1355 = .ok (.iload 4, 2) := by decide +kernel
theorem dL_law_1357 : decode cL_law 1357 = .ok (.iconst 3, 1) := by decide +kernel
theorem dL_law_1358 : decode cL_law 1358 = .ok (.iadd, 1) := by decide +kernel
theorem dL_law_1359 : decode cL_law 1359 = .ok (.iaload, 1) := by decide +kernel
theorem dL_law_1360 : decode cL_law 1360 = .ok (.ifCond .eq 7, 3) := by decide +kernel
theorem dL_law_1363 : decode cL_law 1363 = .ok (.iconst 1, 1) := by decide +kernel
theorem dL_law_1364 : decode cL_law 1364 = .ok (.goto 4, 3) := by decide +kernel
theorem dL_law_1367 : decode cL_law 1367 = .ok (.iconst 0, 1) := by decide +kernel
theorem dL_law_1368 : decode cL_law 1368 = .ok (.invokevirtual 170, 3) := by decide +kernel
theorem dL_law_1371 : decode cL_law 1371 = .ok (.aload_n 2, 1) := by decide +kernel
theorem dL_law_1372 : decode cL_law 1372 = .ok (.aload_n 0, 1) := by decide +kernel
theorem dL_law_1373 : decode cL_law 1373 = .ok (.iload 4, 2) := by decide +kernel
theorem dL_law_1375 : decode cL_law 1375 = .ok (.iconst 1, 1) := by decide +kernel
theorem dL_law_1376 : decode cL_law 1376 = .ok (.iadd, 1) := by decide +kernel
theorem dL_law_1377 : decode cL_law 1377 = .ok (.iaload, 1) := by decide +kernel
theorem dL_law_1378 : decode cL_law 1378 = .ok (.aload_n 0, 1) := by decide +kernel
theorem dL_law_1379 : decode cL_law 1379 = .ok (.iload 4, 2) := by decide +kernel
theorem dL_law_1381 : decode cL_law 1381 = .ok (.iconst 2, 1) := by decide +kernel
theorem dL_law_1382 : decode cL_law 1382 = .ok (.iadd, 1) := by decide +kernel
theorem dL_law_1383 : decode cL_law 1383 = .ok (.iaload, 1) := by decide +kernel
theorem dL_law_1384 : decode cL_law 1384 = .ok (.aload_n 0, 1) := by decide +kernel
theorem dL_law_1385 : decode cL_law 1385 = .ok (.iload 4, 2) := by decide +kernel
theorem dL_law_1387 : decode cL_law 1387 = .ok (.iconst 3, 1) := by decide +kernel
theorem dL_law_1388 : decode cL_law 1388 = .ok (.iadd, 1) := by decide +kernel
theorem dL_law_1389 : decode cL_law 1389 = .ok (.iaload, 1) := by decide +kernel
theorem dL_law_1390 : decode cL_law 1390 = .ok (.ifCond .eq 7, 3) := by decide +kernel
theorem dL_law_1393 : decode cL_law 1393 = .ok (.iconst 1, 1) := by decide +kernel
theorem dL_law_1394 : decode cL_law 1394 = .ok (.goto 4, 3) := by decide +kernel
theorem dL_law_1397 : decode cL_law 1397 = .ok (.iconst 0, 1) := by decide +kernel
theorem dL_law_1398 : decode cL_law 1398 = .ok (.invokevirtual 174, 3) := by decide +kernel
theorem dL_law_1401 : decode cL_law 1401 = .ok (.if_icmp .eq 220, 3) := by decide +kernel
theorem dL_law_1404 : decode cL_law 1404 = .ok (.iconst 0, 1) := by decide +kernel
theorem dL_law_1405 : decode cL_law 1405 = .ok (.ireturn, 1) := by decide +kernel
theorem dL_law_1406 : decode cL_law 1406 = .ok (.aload_n 1, 1) := by decide +kernel
theorem dL_law_1407 : decode cL_law 1407 = .ok (.aload_n 0, 1) := by decide +kernel
theorem dL_law_1408 : decode cL_law 1408 = .ok (.iload 4, 2) := by decide +kernel
theorem dL_law_1410 : decode cL_law 1410 = .ok (.iconst 1, 1) := by decide +kernel
theorem dL_law_1411 : decode cL_law 1411 = .ok (.iadd, 1) := by decide +kernel
theorem dL_law_1412 : decode cL_law 1412 = .ok (.iaload, 1) := by decide +kernel
theorem dL_law_1413 : decode cL_law 1413 = .ok (.invokevirtual 175, 3) := by decide +kernel
theorem dL_law_1416 : decode cL_law 1416 = .ok (.aload_n 2, 1) := by decide +kernel
theorem dL_law_1417 : decode cL_law 1417 = .ok (.aload_n 0, 1) := by decide +kernel
theorem dL_law_1418 : decode cL_law 1418 = .ok (.iload 4, 2) := by decide +kernel
theorem dL_law_1420 : decode cL_law 1420 = .ok (.iconst 1, 1) := by decide +kernel
theorem dL_law_1421 : decode cL_law 1421 = .ok (.iadd, 1) := by decide +kernel
theorem dL_law_1422 : decode cL_law 1422 = .ok (.iaload, 1) := by decide +kernel
theorem dL_law_1423 : decode cL_law 1423 = .ok (.invokevirtual 178, 3) := by decide +kernel
theorem dL_law_1426 : decode cL_law 1426 = .ok (.if_icmp .eq 195, 3) := by decide +kernel
theorem dL_law_1429 : decode cL_law 1429 = .ok (.iconst 0, 1) := by decide +kernel
theorem dL_law_1430 : decode cL_law 1430 = .ok (.ireturn, 1) := by decide +kernel
theorem dL_law_1431 : decode cL_law 1431 = .ok (.aload_n 1, 1) := by decide +kernel
theorem dL_law_1432 : decode cL_law 1432 = .ok (.invokevirtual 179, 3) := by decide +kernel
theorem dL_law_1435 : decode cL_law 1435 = .ok (.aload_n 2, 1) := by decide +kernel
theorem dL_law_1436 : decode cL_law 1436 = .ok (.invokevirtual 182, 3) := by decide +kernel
theorem dL_law_1439 : decode cL_law 1439 = .ok (.if_icmp .eq 182, 3) := by decide +kernel
theorem dL_law_1442 : decode cL_law 1442 = .ok (.iconst 0, 1) := by decide +kernel
theorem dL_law_1443 : decode cL_law 1443 = .ok (.ireturn, 1) := by decide +kernel
theorem dL_law_1444 : decode cL_law 1444 = .ok (.aload_n 1, 1) := by decide +kernel
theorem dL_law_1445 : decode cL_law 1445 = .ok (.aload_n 0, 1) := by decide +kernel
theorem dL_law_1446 : decode cL_law 1446 = .ok (.iload 4, 2) := by decide +kernel
theorem dL_law_1448 : decode cL_law 1448 = .ok (.iconst 1, 1) := by decide +kernel
theorem dL_law_1449 : decode cL_law 1449 = .ok (.iadd, 1) := by decide +kernel
theorem dL_law_1450 : decode cL_law 1450 = .ok (.iaload, 1) := by decide +kernel
theorem dL_law_1451 : decode cL_law 1451 = .ok (.aload_n 0, 1) := by decide +kernel
theorem dL_law_1452 : decode cL_law 1452 = .ok (.iload 4, 2) := by decide +kernel
theorem dL_law_1454 : decode cL_law 1454 = .ok (.iconst 2, 1) := by decide +kernel
theorem dL_law_1455 : decode cL_law 1455 = .ok (.iadd, 1) := by decide +kernel
theorem dL_law_1456 : decode cL_law 1456 = .ok (.iaload, 1) := by decide +kernel
theorem dL_law_1457 : decode cL_law 1457 = .ok (.invokevirtual 183, 3) := by decide +kernel
theorem dL_law_1460 : decode cL_law 1460 = .ok (.aload_n 2, 1) := by decide +kernel
theorem dL_law_1461 : decode cL_law 1461 = .ok (.aload_n 0, 1) := by decide +kernel
theorem dL_law_1462 : decode cL_law 1462 = .ok (.iload 4, 2) := by decide +kernel
theorem dL_law_1464 : decode cL_law 1464 = .ok (.iconst 1, 1) := by decide +kernel
theorem dL_law_1465 : decode cL_law 1465 = .ok (.iadd, 1) := by decide +kernel
theorem dL_law_1466 : decode cL_law 1466 = .ok (.iaload, 1) := by decide +kernel
theorem dL_law_1467 : decode cL_law 1467 = .ok (.aload_n 0, 1) := by decide +kernel
theorem dL_law_1468 : decode cL_law 1468 = .ok (.iload 4, 2) := by decide +kernel
theorem dL_law_1470 : decode cL_law 1470 = .ok (.iconst 2, 1) := by decide +kernel
theorem dL_law_1471 : decode cL_law 1471 = .ok (.iadd, 1) := by decide +kernel
theorem dL_law_1472 : decode cL_law 1472 = .ok (.iaload, 1) := by decide +kernel
theorem dL_law_1473 : decode cL_law 1473 = .ok (.invokevirtual 186, 3) := by decide +kernel
theorem dL_law_1476 : decode cL_law 1476 = .ok (.if_icmp .eq 145, 3) := by decide +kernel
theorem dL_law_1479 : decode cL_law 1479 = .ok (.iconst 0, 1) := by decide +kernel
theorem dL_law_1480 : decode cL_law 1480 = .ok (.ireturn, 1) := by decide +kernel
theorem dL_law_1481 : decode cL_law 1481 = .ok (.aload_n 1, 1) := by decide +kernel
theorem dL_law_1482 : decode cL_law 1482 = .ok (.aload_n 0, 1) := by decide +kernel
theorem dL_law_1483 : decode cL_law 1483 = .ok (.iload 4, 2) := by decide +kernel
theorem dL_law_1485 : decode cL_law 1485 = .ok (.iconst 1, 1) := by decide +kernel
theorem dL_law_1486 : decode cL_law 1486 = .ok (.iadd, 1) := by decide +kernel
theorem dL_law_1487 : decode cL_law 1487 = .ok (.iaload, 1) := by decide +kernel
theorem dL_law_1488 : decode cL_law 1488 = .ok (.invokevirtual 187, 3) := by decide +kernel
theorem dL_law_1491 : decode cL_law 1491 = .ok (.aload_n 2, 1) := by decide +kernel
theorem dL_law_1492 : decode cL_law 1492 = .ok (.aload_n 0, 1) := by decide +kernel
theorem dL_law_1493 : decode cL_law 1493 = .ok (.iload 4, 2) := by decide +kernel
theorem dL_law_1495 : decode cL_law 1495 = .ok (.iconst 1, 1) := by decide +kernel
theorem dL_law_1496 : decode cL_law 1496 = .ok (.iadd, 1) := by decide +kernel
theorem dL_law_1497 : decode cL_law 1497 = .ok (.iaload, 1) := by decide +kernel
theorem dL_law_1498 : decode cL_law 1498 = .ok (.invokevirtual 190, 3) := by decide +kernel
theorem dL_law_1501 : decode cL_law 1501 = .ok (.if_icmp .eq 120, 3) := by decide +kernel
theorem dL_law_1504 : decode cL_law 1504 = .ok (.iconst 0, 1) := by decide +kernel
theorem dL_law_1505 : decode cL_law 1505 = .ok (.ireturn, 1) := by decide +kernel
theorem dL_law_1506 : decode cL_law 1506 = .ok (.aload_n 1, 1) := by decide +kernel
theorem dL_law_1507 : decode cL_law 1507 = .ok (.aload_n 0, 1) := by decide +kernel
theorem dL_law_1508 : decode cL_law 1508 = .ok (.iload 4, 2) := by decide +kernel
theorem dL_law_1510 : decode cL_law 1510 = .ok (.iconst 1, 1) := by decide +kernel
theorem dL_law_1511 : decode cL_law 1511 = .ok (.iadd, 1) := by decide +kernel
theorem dL_law_1512 : decode cL_law 1512 = .ok (.iaload, 1) := by decide +kernel
theorem dL_law_1513 : decode cL_law 1513 = .ok (.invokevirtual 191, 3) := by decide +kernel
theorem dL_law_1516 : decode cL_law 1516 = .ok (.aload_n 2, 1) := by decide +kernel
theorem dL_law_1517 : decode cL_law 1517 = .ok (.aload_n 0, 1) := by decide +kernel
theorem dL_law_1518 : decode cL_law 1518 = .ok (.iload 4, 2) := by decide +kernel
theorem dL_law_1520 : decode cL_law 1520 = .ok (.iconst 1, 1) := by decide +kernel
theorem dL_law_1521 : decode cL_law 1521 = .ok (.iadd, 1) := by decide +kernel
theorem dL_law_1522 : decode cL_law 1522 = .ok (.iaload, 1) := by decide +kernel
theorem dL_law_1523 : decode cL_law 1523 = .ok (.invokevirtual 194, 3) := by decide +kernel
theorem dL_law_1526 : decode cL_law 1526 = .ok (.if_icmp .eq 95, 3) := by decide +kernel
theorem dL_law_1529 : decode cL_law 1529 = .ok (.iconst 0, 1) := by decide +kernel
theorem dL_law_1530 : decode cL_law 1530 = .ok (.ireturn, 1) := by decide +kernel
theorem dL_law_1531 : decode cL_law 1531 = .ok (.aload_n 1, 1) := by decide +kernel
theorem dL_law_1532 : decode cL_law 1532 = .ok (.invokevirtual 195, 3) := by decide +kernel
theorem dL_law_1535 : decode cL_law 1535 = .ok (.aload_n 2, 1) := by decide +kernel
theorem dL_law_1536 : decode cL_law 1536 = .ok (.invokevirtual 198, 3) := by decide +kernel
theorem dL_law_1539 : decode cL_law 1539 = .ok (.if_icmp .eq 82, 3) := by decide +kernel
theorem dL_law_1542 : decode cL_law 1542 = .ok (.iconst 0, 1) := by decide +kernel
theorem dL_law_1543 : decode cL_law 1543 = .ok (.ireturn, 1) := by decide +kernel
theorem dL_law_1544 : decode cL_law 1544 = .ok (.aload_n 1, 1) := by decide +kernel
theorem dL_law_1545 : decode cL_law 1545 = .ok (.invokevirtual 199, 3) := by decide +kernel
theorem dL_law_1548 : decode cL_law 1548 = .ok (.aload_n 2, 1) := by decide +kernel
theorem dL_law_1549 : decode cL_law 1549 = .ok (.invokevirtual 202, 3) := by decide +kernel
theorem dL_law_1552 : decode cL_law 1552 = .ok (.if_icmp .eq 69, 3) := by decide +kernel
theorem dL_law_1555 : decode cL_law 1555 = .ok (.iconst 0, 1) := by decide +kernel
theorem dL_law_1556 : decode cL_law 1556 = .ok (.ireturn, 1) := by decide +kernel
theorem dL_law_1557 : decode cL_law 1557 = .ok (.aload_n 1, 1) := by decide +kernel
theorem dL_law_1558 : decode cL_law 1558 = .ok (.invokevirtual 203, 3) := by decide +kernel
theorem dL_law_1561 : decode cL_law 1561 = .ok (.aload_n 2, 1) := by decide +kernel
theorem dL_law_1562 : decode cL_law 1562 = .ok (.invokevirtual 206, 3) := by decide +kernel
theorem dL_law_1565 : decode cL_law 1565 = .ok (.if_icmp .eq 56, 3) := by decide +kernel
theorem dL_law_1568 : decode cL_law 1568 = .ok (.iconst 0, 1) := by decide +kernel
theorem dL_law_1569 : decode cL_law 1569 = .ok (.ireturn, 1) := by decide +kernel
theorem dL_law_1570 : decode cL_law 1570 = .ok (.aload_n 1, 1) := by decide +kernel
theorem dL_law_1571 : decode cL_law 1571 = .ok (.invokevirtual 207, 3) := by decide +kernel
theorem dL_law_1574 : decode cL_law 1574 = .ok (.aload_n 2, 1) := by decide +kernel
theorem dL_law_1575 : decode cL_law 1575 = .ok (.invokevirtual 210, 3) := by decide +kernel
theorem dL_law_1578 : decode cL_law 1578 = .ok (.if_icmp .eq 43, 3) := by decide +kernel
theorem dL_law_1581 : decode cL_law 1581 = .ok (.iconst 0, 1) := by decide +kernel
theorem dL_law_1582 : decode cL_law 1582 = .ok (.ireturn, 1) := by decide +kernel
theorem dL_law_1583 : decode cL_law 1583 = .ok (.aload_n 1, 1) := by decide +kernel
theorem dL_law_1584 : decode cL_law 1584 = .ok (.invokevirtual 211, 3) := by decide +kernel
theorem dL_law_1587 : decode cL_law 1587 = .ok (.aload_n 2, 1) := by decide +kernel
theorem dL_law_1588 : decode cL_law 1588 = .ok (.invokevirtual 214, 3) := by decide +kernel
theorem dL_law_1591 : decode cL_law 1591 = .ok (.if_icmp .eq 30, 3) := by decide +kernel
theorem dL_law_1594 : decode cL_law 1594 = .ok (.iconst 0, 1) := by decide +kernel
theorem dL_law_1595 : decode cL_law 1595 = .ok (.ireturn, 1) := by decide +kernel
theorem dL_law_1596 : decode cL_law 1596 = .ok (.aload_n 1, 1) := by decide +kernel
theorem dL_law_1597 : decode cL_law 1597 = .ok (.aload_n 0, 1) := by decide +kernel
theorem dL_law_1598 : decode cL_law 1598 = .ok (.iload 4, 2) := by decide +kernel
theorem dL_law_1600 : decode cL_law 1600 = .ok (.iconst 1, 1) := by decide +kernel
theorem dL_law_1601 : decode cL_law 1601 = .ok (.iadd, 1) := by decide +kernel
theorem dL_law_1602 : decode cL_law 1602 = .ok (.iaload, 1) := by decide +kernel
theorem dL_law_1603 : decode cL_law 1603 = .ok (.invokevirtual 215, 3) := by decide +kernel
theorem dL_law_1606 : decode cL_law 1606 = .ok (.aload_n 2, 1) := by decide +kernel
theorem dL_law_1607 : decode cL_law 1607 = .ok (.aload_n 0, 1) := by decide +kernel
theorem dL_law_1608 : decode cL_law 1608 = .ok (.iload 4, 2) := by decide +kernel
theorem dL_law_1610 : decode cL_law 1610 = .ok (.iconst 1, 1) := by decide +kernel
theorem dL_law_1611 : decode cL_law 1611 = .ok (.iadd, 1) := by decide +kernel
theorem dL_law_1612 : decode cL_law 1612 = .ok (.iaload, 1) := by decide +kernel
theorem dL_law_1613 : decode cL_law 1613 = .ok (.invokevirtual 218, 3) := by decide +kernel
theorem dL_law_1616 : decode cL_law 1616 = .ok (.if_icmp .eq 5, 3) := by decide +kernel
theorem dL_law_1619 : decode cL_law 1619 = .ok (.iconst 0, 1) := by decide +kernel
theorem dL_law_1620 : decode cL_law 1620 = .ok (.ireturn, 1) := by decide +kernel
theorem dL_law_1621 : decode cL_law 1621 = .ok (.iinc 4 6, 3) := by decide +kernel
theorem dL_law_1624 : decode cL_law 1624 = .ok (.goto (-1601), 3) := by decide +kernel
theorem dL_law_1627 : decode cL_law 1627 = .ok (.iconst 1, 1) := by decide +kernel
theorem dL_law_1628 : decode cL_law 1628 = .ok (.ireturn, 1) := by decide +kernel
noncomputable def kL_law : Nat → Op := (nodeC 901 (nodeC 548 (nodeC 369 (nodeC 284 (nodeC 245 (nodeC 25 (nodeC 12 (nodeC 4 (nodeC 0 (leafC 0 (o_new 11 3)) (nodeC 3 (leafC 3 (o_dupR 4)) (leafC 4 (o_inv 0 11 0 FX11_init 7)))) (nodeC 8 (nodeC 7 (leafC 7 (o_as 1 8)) (leafC 8 (o_new 12 11))) (nodeC 11 (leafC 11 (o_dupR 12)) (leafC 12 (o_inv 0 12 0 FX12_init 15))))) (nodeC 19 (nodeC 16 (nodeC 15 (leafC 15 (o_as 2 16)) (leafC 16 (o_ic (1) 17))) (nodeC 17 (leafC 17 (o_newa 23 19)) (leafC 19 (o_as 3 20)))) (nodeC 21 (nodeC 20 (leafC 20 (o_ic (0) 21)) (leafC 21 (o_is 4 23))) (nodeC 23 (leafC 23 (o_mask [5, 6] (o_il 4 25))) (leafC 25 (o_al 0 26)))))) (nodeC 36 (nodeC 29 (nodeC 26 (leafC 26 (o_alen 27)) (nodeC 27 (leafC 27 (o_ic (6) 29)) (leafC 29 (o_isub 30)))) (nodeC 33 (nodeC 30 (leafC 30 (o_cgt 1627 33)) (leafC 33 (o_al 0 34))) (nodeC 34 (leafC 34 (o_il 4 36)) (leafC 36 (o_iald 37))))) (nodeC 240 (nodeC 39 (nodeC 37 (leafC 37 (o_ic (63) 39)) (leafC 39 (o_iand 40))) (nodeC 40 (leafC 40 (o_sw [(0, 240), (1, 313), (2, 338), (3, 363), (4, 388), (5, 413), (6, 450), (7, 518), (8, 543), (9, 568), (10, 593), (11, 606), (12, 643), (13, 668), (14, 709), (15, 734), (16, 803), (17, 816), (18, 853), (19, 890), (20, 939), (21, 976), (22, 1001), (23, 1050), (24, 1063), (25, 1088), (26, 1113), (27, 1126), (28, 1151), (29, 1176), (30, 1201), (31, 1250), (32, 1275), (33, 1328), (34, 1341), (35, 1406), (36, 1431), (37, 1444), (38, 1481), (39, 1506), (40, 1531), (41, 1544), (42, 1557), (43, 1570), (44, 1583), (45, 1596)] 1621)) (leafC 240 (o_mask [5, 6] (o_al 1 241))))) (nodeC 242 (nodeC 241 (leafC 241 (o_al 0 242)) (leafC 242 (o_il 4 244))) (nodeC 244 (leafC 244 (o_ic (1) 245)) (leafC 245 (o_iadd 246))))))) (nodeC 263 (nodeC 253 (nodeC 248 (nodeC 246 (leafC 246 (o_iald 247)) (nodeC 247 (leafC 247 (o_al 0 248)) (leafC 248 (o_il 4 250)))) (nodeC 251 (nodeC 250 (leafC 250 (o_ic (2) 251)) (leafC 251 (o_iadd 252))) (nodeC 252 (leafC 252 (o_iald 253)) (leafC 253 (o_al 0 254))))) (nodeC 258 (nodeC 256 (nodeC 254 (leafC 254 (o_il 4 256)) (leafC 256 (o_ic (3) 257))) (nodeC 257 (leafC 257 (o_iadd 258)) (leafC 258 (o_iald 259)))) (nodeC 260 (nodeC 259 (leafC 259 (o_al 0 260)) (leafC 260 (o_il 4 262))) (nodeC 262 (leafC 262 (o_ic (4) 263)) (leafC 263 (o_iadd 264)))))) (nodeC 274 (nodeC 268 (nodeC 265 (nodeC 264 (leafC 264 (o_iald 265)) (leafC 265 (o_al 0 266))) (nodeC 266 (leafC 266 (o_il 4 268)) (leafC 268 (o_ic (5) 269)))) (nodeC 270 (nodeC 269 (leafC 269 (o_iadd 270)) (leafC 270 (o_iald 271))) (nodeC 271 (leafC 271 (o_inv 5 11 1 FX11_feed 274)) (leafC 274 (o_al 2 275))))) (nodeC 279 (nodeC 276 (nodeC 275 (leafC 275 (o_al 0 276)) (leafC 276 (o_il 4 278))) (nodeC 278 (leafC 278 (o_ic (1) 279)) (leafC 279 (o_iadd 280)))) (nodeC 281 (nodeC 280 (leafC 280 (o_iald 281)) (leafC 281 (o_al 0 282))) (nodeC 282 (leafC 282 (o_il 4 284)) (leafC 284 (o_ic (2) 285)))))))) (nodeC 324 (nodeC 302 (nodeC 292 (nodeC 287 (nodeC 285 (leafC 285 (o_iadd 286)) (nodeC 286 (leafC 286 (o_iald 287)) (leafC 287 (o_al 0 288)))) (nodeC 290 (nodeC 288 (leafC 288 (o_il 4 290)) (leafC 290 (o_ic (3) 291))) (nodeC 291 (leafC 291 (o_iadd 292)) (leafC 292 (o_iald 293))))) (nodeC 297 (nodeC 294 (nodeC 293 (leafC 293 (o_al 0 294)) (leafC 294 (o_il 4 296))) (nodeC 296 (leafC 296 (o_ic (4) 297)) (leafC 297 (o_iadd 298)))) (nodeC 299 (nodeC 298 (leafC 298 (o_iald 299)) (leafC 299 (o_al 0 300))) (nodeC 300 (leafC 300 (o_il 4 302)) (leafC 302 (o_ic (5) 303)))))) (nodeC 313 (nodeC 305 (nodeC 303 (leafC 303 (o_iadd 304)) (nodeC 304 (leafC 304 (o_iald 305)) (leafC 305 (o_inv 5 12 1 FX12_feed 308)))) (nodeC 311 (nodeC 308 (leafC 308 (o_ceq 1621 311)) (leafC 311 (o_ic (0) 312))) (nodeC 312 (leafC 312 (o_zret)) (leafC 313 (o_mask [5, 6] (o_al 1 314)))))) (nodeC 318 (nodeC 315 (nodeC 314 (leafC 314 (o_al 0 315)) (leafC 315 (o_il 4 317))) (nodeC 317 (leafC 317 (o_ic (1) 318)) (leafC 318 (o_iadd 319)))) (nodeC 320 (nodeC 319 (leafC 319 (o_iald 320)) (leafC 320 (o_inv 1 11 1 FX11_end 323))) (nodeC 323 (leafC 323 (o_al 2 324)) (leafC 324 (o_al 0 325))))))) (nodeC 345 (nodeC 336 (nodeC 328 (nodeC 325 (leafC 325 (o_il 4 327)) (nodeC 327 (leafC 327 (o_ic (1) 328)) (leafC 328 (o_iadd 329)))) (nodeC 330 (nodeC 329 (leafC 329 (o_iald 330)) (leafC 330 (o_inv 1 12 1 FX12_end 333))) (nodeC 333 (leafC 333 (o_ceq 1621 336)) (leafC 336 (o_ic (0) 337))))) (nodeC 340 (nodeC 338 (nodeC 337 (leafC 337 (o_zret)) (leafC 338 (o_mask [5, 6] (o_al 1 339)))) (nodeC 339 (leafC 339 (o_al 0 340)) (leafC 340 (o_il 4 342)))) (nodeC 343 (nodeC 342 (leafC 342 (o_ic (1) 343)) (leafC 343 (o_iadd 344))) (nodeC 344 (leafC 344 (o_iald 345)) (leafC 345 (o_inv 1 11 1 FX11_fault 348)))))) (nodeC 358 (nodeC 352 (nodeC 349 (nodeC 348 (leafC 348 (o_al 2 349)) (leafC 349 (o_al 0 350))) (nodeC 350 (leafC 350 (o_il 4 352)) (leafC 352 (o_ic (1) 353)))) (nodeC 354 (nodeC 353 (leafC 353 (o_iadd 354)) (leafC 354 (o_iald 355))) (nodeC 355 (leafC 355 (o_inv 1 12 1 FX12_fault 358)) (leafC 358 (o_ceq 1621 361))))) (nodeC 364 (nodeC 362 (nodeC 361 (leafC 361 (o_ic (0) 362)) (leafC 362 (o_zret))) (nodeC 363 (leafC 363 (o_mask [5, 6] (o_al 1 364))) (leafC 364 (o_al 0 365)))) (nodeC 367 (nodeC 365 (leafC 365 (o_il 4 367)) (leafC 367 (o_ic (1) 368))) (nodeC 368 (leafC 368 (o_iadd 369)) (leafC 369 (o_iald 370))))))))) (nodeC 456 (nodeC 414 (nodeC 392 (nodeC 379 (nodeC 374 (nodeC 370 (leafC 370 (o_inv 1 11 1 FX11_text 373)) (nodeC 373 (leafC 373 (o_al 2 374)) (leafC 374 (o_al 0 375)))) (nodeC 377 (nodeC 375 (leafC 375 (o_il 4 377)) (leafC 377 (o_ic (1) 378))) (nodeC 378 (leafC 378 (o_iadd 379)) (leafC 379 (o_iald 380))))) (nodeC 387 (nodeC 383 (nodeC 380 (leafC 380 (o_inv 1 12 1 FX12_text 383)) (leafC 383 (o_ceq 1621 386))) (nodeC 386 (leafC 386 (o_ic (0) 387)) (leafC 387 (o_zret)))) (nodeC 389 (nodeC 388 (leafC 388 (o_mask [5, 6] (o_al 1 389))) (leafC 389 (o_al 0 390))) (nodeC 390 (leafC 390 (o_il 4 392)) (leafC 392 (o_ic (1) 393)))))) (nodeC 402 (nodeC 395 (nodeC 393 (leafC 393 (o_iadd 394)) (nodeC 394 (leafC 394 (o_iald 395)) (leafC 395 (o_inv 1 11 1 FX11_rule 398)))) (nodeC 399 (nodeC 398 (leafC 398 (o_al 2 399)) (leafC 399 (o_al 0 400))) (nodeC 400 (leafC 400 (o_il 4 402)) (leafC 402 (o_ic (1) 403))))) (nodeC 408 (nodeC 404 (nodeC 403 (leafC 403 (o_iadd 404)) (leafC 404 (o_iald 405))) (nodeC 405 (leafC 405 (o_inv 1 12 1 FX12_rule 408)) (leafC 408 (o_ceq 1621 411)))) (nodeC 412 (nodeC 411 (leafC 411 (o_ic (0) 412)) (leafC 412 (o_zret))) (nodeC 413 (leafC 413 (o_mask [5, 6] (o_al 1 414))) (leafC 414 (o_al 0 415))))))) (nodeC 434 (nodeC 423 (nodeC 418 (nodeC 415 (leafC 415 (o_il 4 417)) (nodeC 417 (leafC 417 (o_ic (1) 418)) (leafC 418 (o_iadd 419)))) (nodeC 420 (nodeC 419 (leafC 419 (o_iald 420)) (leafC 420 (o_al 0 421))) (nodeC 421 (leafC 421 (o_il 4 423)) (leafC 423 (o_ic (2) 424))))) (nodeC 429 (nodeC 425 (nodeC 424 (leafC 424 (o_iadd 425)) (leafC 425 (o_iald 426))) (nodeC 426 (leafC 426 (o_inv 2 11 1 FX11_debt 429)) (leafC 429 (o_al 2 430)))) (nodeC 431 (nodeC 430 (leafC 430 (o_al 0 431)) (leafC 431 (o_il 4 433))) (nodeC 433 (leafC 433 (o_ic (1) 434)) (leafC 434 (o_iadd 435)))))) (nodeC 445 (nodeC 439 (nodeC 436 (nodeC 435 (leafC 435 (o_iald 436)) (leafC 436 (o_al 0 437))) (nodeC 437 (leafC 437 (o_il 4 439)) (leafC 439 (o_ic (2) 440)))) (nodeC 441 (nodeC 440 (leafC 440 (o_iadd 441)) (leafC 441 (o_iald 442))) (nodeC 442 (leafC 442 (o_inv 2 12 1 FX12_debt 445)) (leafC 445 (o_ceq 1621 448))))) (nodeC 451 (nodeC 449 (nodeC 448 (leafC 448 (o_ic (0) 449)) (leafC 449 (o_zret))) (nodeC 450 (leafC 450 (o_mask [5, 6] (o_al 1 451))) (leafC 451 (o_al 0 452)))) (nodeC 454 (nodeC 452 (leafC 452 (o_il 4 454)) (leafC 454 (o_ic (1) 455))) (nodeC 455 (leafC 455 (o_iadd 456)) (leafC 456 (o_iald 457)))))))) (nodeC 503 (nodeC 476 (nodeC 464 (nodeC 460 (nodeC 457 (leafC 457 (o_al 0 458)) (nodeC 458 (leafC 458 (o_il 4 460)) (leafC 460 (o_ic (2) 461)))) (nodeC 462 (nodeC 461 (leafC 461 (o_iadd 462)) (leafC 462 (o_iald 463))) (nodeC 463 (leafC 463 (o_al 3 464)) (leafC 464 (o_ist 4 1 FL_buyer 467))))) (nodeC 471 (nodeC 469 (nodeC 467 (leafC 467 (o_is 5 469)) (leafC 469 (o_al 2 470))) (nodeC 470 (leafC 470 (o_al 0 471)) (leafC 471 (o_il 4 473)))) (nodeC 474 (nodeC 473 (leafC 473 (o_ic (1) 474)) (leafC 474 (o_iadd 475))) (nodeC 475 (leafC 475 (o_iald 476)) (leafC 476 (o_al 0 477)))))) (nodeC 487 (nodeC 480 (nodeC 477 (leafC 477 (o_il 4 479)) (nodeC 479 (leafC 479 (o_ic (2) 480)) (leafC 480 (o_iadd 481)))) (nodeC 482 (nodeC 481 (leafC 481 (o_iald 482)) (leafC 482 (o_inv 2 12 1 FX12_buyer 485))) (nodeC 485 (leafC 485 (o_is 6 487)) (leafC 487 (o_al 2 488))))) (nodeC 496 (nodeC 491 (nodeC 488 (leafC 488 (o_inv 0 12 1 FX12_thrown 491)) (leafC 491 (o_il 5 493))) (nodeC 493 (leafC 493 (o_ceq 498 496)) (leafC 496 (o_ic (0) 497)))) (nodeC 498 (nodeC 497 (leafC 497 (o_zret)) (leafC 498 (o_il 5 500))) (nodeC 500 (leafC 500 (o_zne 515 503)) (leafC 503 (o_al 3 504))))))) (nodeC 524 (nodeC 513 (nodeC 506 (nodeC 504 (leafC 504 (o_ic (0) 505)) (nodeC 505 (leafC 505 (o_lald 506)) (leafC 506 (o_il 6 508)))) (nodeC 509 (nodeC 508 (leafC 508 (o_i2l 509)) (leafC 509 (o_lcmp 510))) (nodeC 510 (leafC 510 (o_zeq 515 513)) (leafC 513 (o_ic (0) 514))))) (nodeC 519 (nodeC 515 (nodeC 514 (leafC 514 (o_zret)) (leafC 515 (o_goto 1621))) (nodeC 518 (leafC 518 (o_mask [5, 6] (o_al 1 519))) (leafC 519 (o_al 0 520)))) (nodeC 522 (nodeC 520 (leafC 520 (o_il 4 522)) (leafC 522 (o_ic (1) 523))) (nodeC 523 (leafC 523 (o_iadd 524)) (leafC 524 (o_iald 525)))))) (nodeC 535 (nodeC 530 (nodeC 528 (nodeC 525 (leafC 525 (o_inv 1 11 1 FX11_law 528)) (leafC 528 (o_al 2 529))) (nodeC 529 (leafC 529 (o_al 0 530)) (leafC 530 (o_il 4 532)))) (nodeC 533 (nodeC 532 (leafC 532 (o_ic (1) 533)) (leafC 533 (o_iadd 534))) (nodeC 534 (leafC 534 (o_iald 535)) (leafC 535 (o_inv 1 12 1 FX12_law 538))))) (nodeC 543 (nodeC 541 (nodeC 538 (leafC 538 (o_ceq 1621 541)) (leafC 541 (o_ic (0) 542))) (nodeC 542 (leafC 542 (o_zret)) (leafC 543 (o_mask [5, 6] (o_al 1 544))))) (nodeC 545 (nodeC 544 (leafC 544 (o_al 0 545)) (leafC 545 (o_il 4 547))) (nodeC 547 (leafC 547 (o_ic (1) 548)) (leafC 548 (o_iadd 549)))))))))) (nodeC 733 (nodeC 638 (nodeC 593 (nodeC 570 (nodeC 558 (nodeC 553 (nodeC 549 (leafC 549 (o_iald 550)) (nodeC 550 (leafC 550 (o_inv 1 11 1 FX11_lazy 553)) (leafC 553 (o_al 2 554)))) (nodeC 555 (nodeC 554 (leafC 554 (o_al 0 555)) (leafC 555 (o_il 4 557))) (nodeC 557 (leafC 557 (o_ic (1) 558)) (leafC 558 (o_iadd 559))))) (nodeC 566 (nodeC 560 (nodeC 559 (leafC 559 (o_iald 560)) (leafC 560 (o_inv 1 12 1 FX12_lazy 563))) (nodeC 563 (leafC 563 (o_ceq 1621 566)) (leafC 566 (o_ic (0) 567)))) (nodeC 568 (nodeC 567 (leafC 567 (o_zret)) (leafC 568 (o_mask [5, 6] (o_al 1 569)))) (nodeC 569 (leafC 569 (o_al 0 570)) (leafC 570 (o_il 4 572)))))) (nodeC 580 (nodeC 574 (nodeC 572 (leafC 572 (o_ic (1) 573)) (nodeC 573 (leafC 573 (o_iadd 574)) (leafC 574 (o_iald 575)))) (nodeC 578 (nodeC 575 (leafC 575 (o_inv 1 11 1 FX11_week 578)) (leafC 578 (o_al 2 579))) (nodeC 579 (leafC 579 (o_al 0 580)) (leafC 580 (o_il 4 582))))) (nodeC 585 (nodeC 583 (nodeC 582 (leafC 582 (o_ic (1) 583)) (leafC 583 (o_iadd 584))) (nodeC 584 (leafC 584 (o_iald 585)) (leafC 585 (o_inv 1 12 1 FX12_week 588)))) (nodeC 591 (nodeC 588 (leafC 588 (o_ceq 1621 591)) (leafC 591 (o_ic (0) 592))) (nodeC 592 (leafC 592 (o_zret)) (leafC 593 (o_mask [5, 6] (o_al 1 594)))))))) (nodeC 616 (nodeC 606 (nodeC 598 (nodeC 594 (leafC 594 (o_inv 0 11 1 FX11_cut 597)) (nodeC 597 (leafC 597 (o_al 2 598)) (leafC 598 (o_inv 0 12 1 FX12_cut 601)))) (nodeC 604 (nodeC 601 (leafC 601 (o_ceq 1621 604)) (leafC 604 (o_ic (0) 605))) (nodeC 605 (leafC 605 (o_zret)) (leafC 606 (o_mask [5, 6] (o_al 1 607)))))) (nodeC 611 (nodeC 608 (nodeC 607 (leafC 607 (o_al 0 608)) (leafC 608 (o_il 4 610))) (nodeC 610 (leafC 610 (o_ic (1) 611)) (leafC 611 (o_iadd 612)))) (nodeC 613 (nodeC 612 (leafC 612 (o_iald 613)) (leafC 613 (o_al 0 614))) (nodeC 614 (leafC 614 (o_il 4 616)) (leafC 616 (o_ic (2) 617)))))) (nodeC 627 (nodeC 622 (nodeC 618 (nodeC 617 (leafC 617 (o_iadd 618)) (leafC 618 (o_iald 619))) (nodeC 619 (leafC 619 (o_inv 2 11 1 FX11_sell 622)) (leafC 622 (o_al 2 623)))) (nodeC 624 (nodeC 623 (leafC 623 (o_al 0 624)) (leafC 624 (o_il 4 626))) (nodeC 626 (leafC 626 (o_ic (1) 627)) (leafC 627 (o_iadd 628))))) (nodeC 632 (nodeC 629 (nodeC 628 (leafC 628 (o_iald 629)) (leafC 629 (o_al 0 630))) (nodeC 630 (leafC 630 (o_il 4 632)) (leafC 632 (o_ic (2) 633)))) (nodeC 634 (nodeC 633 (leafC 633 (o_iadd 634)) (leafC 634 (o_iald 635))) (nodeC 635 (leafC 635 (o_inv 2 12 1 FX12_sell 638)) (leafC 638 (o_ceq 1621 641)))))))) (nodeC 683 (nodeC 659 (nodeC 648 (nodeC 643 (nodeC 641 (leafC 641 (o_ic (0) 642)) (nodeC 642 (leafC 642 (o_zret)) (leafC 643 (o_mask [5, 6] (o_al 1 644))))) (nodeC 645 (nodeC 644 (leafC 644 (o_al 0 645)) (leafC 645 (o_il 4 647))) (nodeC 647 (leafC 647 (o_ic (1) 648)) (leafC 648 (o_iadd 649))))) (nodeC 654 (nodeC 650 (nodeC 649 (leafC 649 (o_iald 650)) (leafC 650 (o_inv 1 11 1 FX11_pay 653))) (nodeC 653 (leafC 653 (o_al 2 654)) (leafC 654 (o_al 0 655)))) (nodeC 657 (nodeC 655 (leafC 655 (o_il 4 657)) (leafC 657 (o_ic (1) 658))) (nodeC 658 (leafC 658 (o_iadd 659)) (leafC 659 (o_iald 660)))))) (nodeC 670 (nodeC 666 (nodeC 660 (leafC 660 (o_inv 1 12 1 FX12_pay 663)) (nodeC 663 (leafC 663 (o_ceq 1621 666)) (leafC 666 (o_ic (0) 667)))) (nodeC 668 (nodeC 667 (leafC 667 (o_zret)) (leafC 668 (o_mask [5, 6] (o_al 1 669)))) (nodeC 669 (leafC 669 (o_al 0 670)) (leafC 670 (o_il 4 672))))) (nodeC 675 (nodeC 673 (nodeC 672 (leafC 672 (o_ic (1) 673)) (leafC 673 (o_iadd 674))) (nodeC 674 (leafC 674 (o_iald 675)) (leafC 675 (o_zeq 682 678)))) (nodeC 679 (nodeC 678 (leafC 678 (o_ic (1) 679)) (leafC 679 (o_goto 683))) (nodeC 682 (leafC 682 (o_ic (0) 683)) (leafC 683 (o_inv 1 11 1 FX11_iron 686))))))) (nodeC 709 (nodeC 693 (nodeC 688 (nodeC 686 (leafC 686 (o_al 2 687)) (nodeC 687 (leafC 687 (o_al 0 688)) (leafC 688 (o_il 4 690)))) (nodeC 691 (nodeC 690 (leafC 690 (o_ic (1) 691)) (leafC 691 (o_iadd 692))) (nodeC 692 (leafC 692 (o_iald 693)) (leafC 693 (o_zeq 700 696))))) (nodeC 701 (nodeC 697 (nodeC 696 (leafC 696 (o_ic (1) 697)) (leafC 697 (o_goto 701))) (nodeC 700 (leafC 700 (o_ic (0) 701)) (leafC 701 (o_inv 1 12 1 FX12_iron 704)))) (nodeC 707 (nodeC 704 (leafC 704 (o_ceq 1621 707)) (leafC 707 (o_ic (0) 708))) (nodeC 708 (leafC 708 (o_zret)) (leafC 709 (o_mask [5, 6] (o_al 1 710))))))) (nodeC 720 (nodeC 714 (nodeC 711 (nodeC 710 (leafC 710 (o_al 0 711)) (leafC 711 (o_il 4 713))) (nodeC 713 (leafC 713 (o_ic (1) 714)) (leafC 714 (o_iadd 715)))) (nodeC 716 (nodeC 715 (leafC 715 (o_iald 716)) (leafC 716 (o_inv 1 11 1 FX11_give 719))) (nodeC 719 (leafC 719 (o_al 2 720)) (leafC 720 (o_al 0 721))))) (nodeC 725 (nodeC 723 (nodeC 721 (leafC 721 (o_il 4 723)) (leafC 723 (o_ic (1) 724))) (nodeC 724 (leafC 724 (o_iadd 725)) (leafC 725 (o_iald 726)))) (nodeC 729 (nodeC 726 (leafC 726 (o_inv 1 12 1 FX12_give 729)) (leafC 729 (o_ceq 1621 732))) (nodeC 732 (leafC 732 (o_ic (0) 733)) (leafC 733 (o_zret))))))))) (nodeC 818 (nodeC 772 (nodeC 751 (nodeC 741 (nodeC 736 (nodeC 734 (leafC 734 (o_mask [5, 6] (o_al 1 735))) (nodeC 735 (leafC 735 (o_al 0 736)) (leafC 736 (o_il 4 738)))) (nodeC 739 (nodeC 738 (leafC 738 (o_ic (1) 739)) (leafC 739 (o_iadd 740))) (nodeC 740 (leafC 740 (o_iald 741)) (leafC 741 (o_al 0 742))))) (nodeC 746 (nodeC 744 (nodeC 742 (leafC 742 (o_il 4 744)) (leafC 744 (o_ic (2) 745))) (nodeC 745 (leafC 745 (o_iadd 746)) (leafC 746 (o_iald 747)))) (nodeC 748 (nodeC 747 (leafC 747 (o_i2l 748)) (leafC 748 (o_ic (32) 750))) (nodeC 750 (leafC 750 (o_lshl 751)) (leafC 751 (o_al 0 752)))))) (nodeC 761 (nodeC 755 (nodeC 752 (leafC 752 (o_il 4 754)) (nodeC 754 (leafC 754 (o_ic (3) 755)) (leafC 755 (o_iadd 756)))) (nodeC 757 (nodeC 756 (leafC 756 (o_iald 757)) (leafC 757 (o_i2l 758))) (nodeC 758 (leafC 758 (o_lc (4294967295) 761)) (leafC 761 (o_land 762))))) (nodeC 767 (nodeC 763 (nodeC 762 (leafC 762 (o_lor 763)) (leafC 763 (o_inv 2 11 1 FX11_lives 766))) (nodeC 766 (leafC 766 (o_al 2 767)) (leafC 767 (o_al 0 768)))) (nodeC 770 (nodeC 768 (leafC 768 (o_il 4 770)) (leafC 770 (o_ic (1) 771))) (nodeC 771 (leafC 771 (o_iadd 772)) (leafC 772 (o_iald 773))))))) (nodeC 790 (nodeC 780 (nodeC 776 (nodeC 773 (leafC 773 (o_al 0 774)) (nodeC 774 (leafC 774 (o_il 4 776)) (leafC 776 (o_ic (2) 777)))) (nodeC 778 (nodeC 777 (leafC 777 (o_iadd 778)) (leafC 778 (o_iald 779))) (nodeC 779 (leafC 779 (o_i2l 780)) (leafC 780 (o_ic (32) 782))))) (nodeC 786 (nodeC 783 (nodeC 782 (leafC 782 (o_lshl 783)) (leafC 783 (o_al 0 784))) (nodeC 784 (leafC 784 (o_il 4 786)) (leafC 786 (o_ic (3) 787)))) (nodeC 788 (nodeC 787 (leafC 787 (o_iadd 788)) (leafC 788 (o_iald 789))) (nodeC 789 (leafC 789 (o_i2l 790)) (leafC 790 (o_lc (4294967295) 793)))))) (nodeC 804 (nodeC 798 (nodeC 794 (nodeC 793 (leafC 793 (o_land 794)) (leafC 794 (o_lor 795))) (nodeC 795 (leafC 795 (o_inv 2 12 1 FX12_lives 798)) (leafC 798 (o_ceq 1621 801)))) (nodeC 802 (nodeC 801 (leafC 801 (o_ic (0) 802)) (leafC 802 (o_zret))) (nodeC 803 (leafC 803 (o_mask [5, 6] (o_al 1 804))) (leafC 804 (o_inv 0 11 1 FX11_undo 807))))) (nodeC 814 (nodeC 808 (nodeC 807 (leafC 807 (o_al 2 808)) (leafC 808 (o_inv 0 12 1 FX12_undo 811))) (nodeC 811 (leafC 811 (o_ceq 1621 814)) (leafC 814 (o_ic (0) 815)))) (nodeC 816 (nodeC 815 (leafC 815 (o_zret)) (leafC 816 (o_mask [5, 6] (o_al 1 817)))) (nodeC 817 (leafC 817 (o_al 0 818)) (leafC 818 (o_il 4 820)))))))) (nodeC 859 (nodeC 838 (nodeC 827 (nodeC 822 (nodeC 820 (leafC 820 (o_ic (1) 821)) (nodeC 821 (leafC 821 (o_iadd 822)) (leafC 822 (o_iald 823)))) (nodeC 824 (nodeC 823 (leafC 823 (o_al 0 824)) (leafC 824 (o_il 4 826))) (nodeC 826 (leafC 826 (o_ic (2) 827)) (leafC 827 (o_iadd 828))))) (nodeC 833 (nodeC 829 (nodeC 828 (leafC 828 (o_iald 829)) (leafC 829 (o_inv 2 11 1 FX11_log 832))) (nodeC 832 (leafC 832 (o_al 2 833)) (leafC 833 (o_al 0 834)))) (nodeC 836 (nodeC 834 (leafC 834 (o_il 4 836)) (leafC 836 (o_ic (1) 837))) (nodeC 837 (leafC 837 (o_iadd 838)) (leafC 838 (o_iald 839)))))) (nodeC 848 (nodeC 842 (nodeC 839 (leafC 839 (o_al 0 840)) (nodeC 840 (leafC 840 (o_il 4 842)) (leafC 842 (o_ic (2) 843)))) (nodeC 844 (nodeC 843 (leafC 843 (o_iadd 844)) (leafC 844 (o_iald 845))) (nodeC 845 (leafC 845 (o_inv 2 12 1 FX12_log 848)) (leafC 848 (o_ceq 1621 851))))) (nodeC 854 (nodeC 852 (nodeC 851 (leafC 851 (o_ic (0) 852)) (leafC 852 (o_zret))) (nodeC 853 (leafC 853 (o_mask [5, 6] (o_al 1 854))) (leafC 854 (o_al 0 855)))) (nodeC 857 (nodeC 855 (leafC 855 (o_il 4 857)) (leafC 857 (o_ic (1) 858))) (nodeC 858 (leafC 858 (o_iadd 859)) (leafC 859 (o_iald 860))))))) (nodeC 879 (nodeC 869 (nodeC 863 (nodeC 860 (leafC 860 (o_al 0 861)) (nodeC 861 (leafC 861 (o_il 4 863)) (leafC 863 (o_ic (2) 864)))) (nodeC 865 (nodeC 864 (leafC 864 (o_iadd 865)) (leafC 865 (o_iald 866))) (nodeC 866 (leafC 866 (o_inv 2 11 1 FX11_book 869)) (leafC 869 (o_al 2 870))))) (nodeC 874 (nodeC 871 (nodeC 870 (leafC 870 (o_al 0 871)) (leafC 871 (o_il 4 873))) (nodeC 873 (leafC 873 (o_ic (1) 874)) (leafC 874 (o_iadd 875)))) (nodeC 876 (nodeC 875 (leafC 875 (o_iald 876)) (leafC 876 (o_al 0 877))) (nodeC 877 (leafC 877 (o_il 4 879)) (leafC 879 (o_ic (2) 880)))))) (nodeC 891 (nodeC 885 (nodeC 881 (nodeC 880 (leafC 880 (o_iadd 881)) (leafC 881 (o_iald 882))) (nodeC 882 (leafC 882 (o_inv 2 12 1 FX12_book 885)) (leafC 885 (o_ceq 1621 888)))) (nodeC 889 (nodeC 888 (leafC 888 (o_ic (0) 889)) (leafC 889 (o_zret))) (nodeC 890 (leafC 890 (o_mask [5, 6] (o_al 1 891))) (leafC 891 (o_al 0 892))))) (nodeC 896 (nodeC 894 (nodeC 892 (leafC 892 (o_il 4 894)) (leafC 894 (o_ic (1) 895))) (nodeC 895 (leafC 895 (o_iadd 896)) (leafC 896 (o_iald 897)))) (nodeC 898 (nodeC 897 (leafC 897 (o_al 0 898)) (leafC 898 (o_il 4 900))) (nodeC 900 (leafC 900 (o_ic (2) 901)) (leafC 901 (o_iadd 902))))))))))) (nodeC 1249 (nodeC 1070 (nodeC 983 (nodeC 941 (nodeC 920 (nodeC 909 (nodeC 904 (nodeC 902 (leafC 902 (o_iald 903)) (nodeC 903 (leafC 903 (o_al 0 904)) (leafC 904 (o_il 4 906)))) (nodeC 907 (nodeC 906 (leafC 906 (o_ic (3) 907)) (leafC 907 (o_iadd 908))) (nodeC 908 (leafC 908 (o_iald 909)) (leafC 909 (o_inv 3 11 1 FX11_step 912))))) (nodeC 916 (nodeC 913 (nodeC 912 (leafC 912 (o_al 2 913)) (leafC 913 (o_al 0 914))) (nodeC 914 (leafC 914 (o_il 4 916)) (leafC 916 (o_ic (1) 917)))) (nodeC 918 (nodeC 917 (leafC 917 (o_iadd 918)) (leafC 918 (o_iald 919))) (nodeC 919 (leafC 919 (o_al 0 920)) (leafC 920 (o_il 4 922)))))) (nodeC 929 (nodeC 924 (nodeC 922 (leafC 922 (o_ic (2) 923)) (nodeC 923 (leafC 923 (o_iadd 924)) (leafC 924 (o_iald 925)))) (nodeC 926 (nodeC 925 (leafC 925 (o_al 0 926)) (leafC 926 (o_il 4 928))) (nodeC 928 (leafC 928 (o_ic (3) 929)) (leafC 929 (o_iadd 930))))) (nodeC 937 (nodeC 931 (nodeC 930 (leafC 930 (o_iald 931)) (leafC 931 (o_inv 3 12 1 FX12_step 934))) (nodeC 934 (leafC 934 (o_ceq 1621 937)) (leafC 937 (o_ic (0) 938)))) (nodeC 939 (nodeC 938 (leafC 938 (o_zret)) (leafC 939 (o_mask [5, 6] (o_al 1 940)))) (nodeC 940 (leafC 940 (o_al 0 941)) (leafC 941 (o_il 4 943))))))) (nodeC 961 (nodeC 950 (nodeC 945 (nodeC 943 (leafC 943 (o_ic (1) 944)) (nodeC 944 (leafC 944 (o_iadd 945)) (leafC 945 (o_iald 946)))) (nodeC 947 (nodeC 946 (leafC 946 (o_al 0 947)) (leafC 947 (o_il 4 949))) (nodeC 949 (leafC 949 (o_ic (2) 950)) (leafC 950 (o_iadd 951))))) (nodeC 956 (nodeC 952 (nodeC 951 (leafC 951 (o_iald 952)) (leafC 952 (o_inv 2 11 1 FX11_run 955))) (nodeC 955 (leafC 955 (o_al 2 956)) (leafC 956 (o_al 0 957)))) (nodeC 959 (nodeC 957 (leafC 957 (o_il 4 959)) (leafC 959 (o_ic (1) 960))) (nodeC 960 (leafC 960 (o_iadd 961)) (leafC 961 (o_iald 962)))))) (nodeC 974 (nodeC 966 (nodeC 963 (nodeC 962 (leafC 962 (o_al 0 963)) (leafC 963 (o_il 4 965))) (nodeC 965 (leafC 965 (o_ic (2) 966)) (leafC 966 (o_iadd 967)))) (nodeC 968 (nodeC 967 (leafC 967 (o_iald 968)) (leafC 968 (o_inv 2 12 1 FX12_run 971))) (nodeC 971 (leafC 971 (o_ceq 1621 974)) (leafC 974 (o_ic (0) 975))))) (nodeC 978 (nodeC 976 (nodeC 975 (leafC 975 (o_zret)) (leafC 976 (o_mask [5, 6] (o_al 1 977)))) (nodeC 977 (leafC 977 (o_al 0 978)) (leafC 978 (o_il 4 980)))) (nodeC 981 (nodeC 980 (leafC 980 (o_ic (1) 981)) (leafC 981 (o_iadd 982))) (nodeC 982 (leafC 982 (o_iald 983)) (leafC 983 (o_inv 1 11 1 FX11_perform 986)))))))) (nodeC 1025 (nodeC 1006 (nodeC 993 (nodeC 988 (nodeC 986 (leafC 986 (o_al 2 987)) (nodeC 987 (leafC 987 (o_al 0 988)) (leafC 988 (o_il 4 990)))) (nodeC 991 (nodeC 990 (leafC 990 (o_ic (1) 991)) (leafC 991 (o_iadd 992))) (nodeC 992 (leafC 992 (o_iald 993)) (leafC 993 (o_inv 1 12 1 FX12_perform 996))))) (nodeC 1001 (nodeC 999 (nodeC 996 (leafC 996 (o_ceq 1621 999)) (leafC 999 (o_ic (0) 1000))) (nodeC 1000 (leafC 1000 (o_zret)) (leafC 1001 (o_mask [5, 6] (o_al 1 1002))))) (nodeC 1003 (nodeC 1002 (leafC 1002 (o_al 0 1003)) (leafC 1003 (o_il 4 1005))) (nodeC 1005 (leafC 1005 (o_ic (1) 1006)) (leafC 1006 (o_iadd 1007)))))) (nodeC 1014 (nodeC 1009 (nodeC 1007 (leafC 1007 (o_iald 1008)) (nodeC 1008 (leafC 1008 (o_al 0 1009)) (leafC 1009 (o_il 4 1011)))) (nodeC 1012 (nodeC 1011 (leafC 1011 (o_ic (2) 1012)) (leafC 1012 (o_iadd 1013))) (nodeC 1013 (leafC 1013 (o_iald 1014)) (leafC 1014 (o_al 0 1015))))) (nodeC 1019 (nodeC 1017 (nodeC 1015 (leafC 1015 (o_il 4 1017)) (leafC 1017 (o_ic (3) 1018))) (nodeC 1018 (leafC 1018 (o_iadd 1019)) (leafC 1019 (o_iald 1020)))) (nodeC 1023 (nodeC 1020 (leafC 1020 (o_inv 3 11 1 FX11_weaving 1023)) (leafC 1023 (o_al 2 1024))) (nodeC 1024 (leafC 1024 (o_al 0 1025)) (leafC 1025 (o_il 4 1027))))))) (nodeC 1045 (nodeC 1034 (nodeC 1029 (nodeC 1027 (leafC 1027 (o_ic (1) 1028)) (nodeC 1028 (leafC 1028 (o_iadd 1029)) (leafC 1029 (o_iald 1030)))) (nodeC 1031 (nodeC 1030 (leafC 1030 (o_al 0 1031)) (leafC 1031 (o_il 4 1033))) (nodeC 1033 (leafC 1033 (o_ic (2) 1034)) (leafC 1034 (o_iadd 1035))))) (nodeC 1039 (nodeC 1036 (nodeC 1035 (leafC 1035 (o_iald 1036)) (leafC 1036 (o_al 0 1037))) (nodeC 1037 (leafC 1037 (o_il 4 1039)) (leafC 1039 (o_ic (3) 1040)))) (nodeC 1041 (nodeC 1040 (leafC 1040 (o_iadd 1041)) (leafC 1041 (o_iald 1042))) (nodeC 1042 (leafC 1042 (o_inv 3 12 1 FX12_weaving 1045)) (leafC 1045 (o_ceq 1621 1048)))))) (nodeC 1061 (nodeC 1051 (nodeC 1049 (nodeC 1048 (leafC 1048 (o_ic (0) 1049)) (leafC 1049 (o_zret))) (nodeC 1050 (leafC 1050 (o_mask [5, 6] (o_al 1 1051))) (leafC 1051 (o_inv 0 11 1 FX11_stands 1054)))) (nodeC 1055 (nodeC 1054 (leafC 1054 (o_al 2 1055)) (leafC 1055 (o_inv 0 12 1 FX12_stands 1058))) (nodeC 1058 (leafC 1058 (o_ceq 1621 1061)) (leafC 1061 (o_ic (0) 1062))))) (nodeC 1065 (nodeC 1063 (nodeC 1062 (leafC 1062 (o_zret)) (leafC 1063 (o_mask [5, 6] (o_al 1 1064)))) (nodeC 1064 (leafC 1064 (o_al 0 1065)) (leafC 1065 (o_il 4 1067)))) (nodeC 1068 (nodeC 1067 (leafC 1067 (o_ic (1) 1068)) (leafC 1068 (o_iadd 1069))) (nodeC 1069 (leafC 1069 (o_iald 1070)) (leafC 1070 (o_inv 1 11 1 FX11_soonest 1073))))))))) (nodeC 1163 (nodeC 1117 (nodeC 1093 (nodeC 1080 (nodeC 1075 (nodeC 1073 (leafC 1073 (o_al 2 1074)) (nodeC 1074 (leafC 1074 (o_al 0 1075)) (leafC 1075 (o_il 4 1077)))) (nodeC 1078 (nodeC 1077 (leafC 1077 (o_ic (1) 1078)) (leafC 1078 (o_iadd 1079))) (nodeC 1079 (leafC 1079 (o_iald 1080)) (leafC 1080 (o_inv 1 12 1 FX12_soonest 1083))))) (nodeC 1088 (nodeC 1086 (nodeC 1083 (leafC 1083 (o_ceq 1621 1086)) (leafC 1086 (o_ic (0) 1087))) (nodeC 1087 (leafC 1087 (o_zret)) (leafC 1088 (o_mask [5, 6] (o_al 1 1089))))) (nodeC 1090 (nodeC 1089 (leafC 1089 (o_al 0 1090)) (leafC 1090 (o_il 4 1092))) (nodeC 1092 (leafC 1092 (o_ic (1) 1093)) (leafC 1093 (o_iadd 1094)))))) (nodeC 1103 (nodeC 1098 (nodeC 1094 (leafC 1094 (o_iald 1095)) (nodeC 1095 (leafC 1095 (o_inv 1 11 1 FX11_paying 1098)) (leafC 1098 (o_al 2 1099)))) (nodeC 1100 (nodeC 1099 (leafC 1099 (o_al 0 1100)) (leafC 1100 (o_il 4 1102))) (nodeC 1102 (leafC 1102 (o_ic (1) 1103)) (leafC 1103 (o_iadd 1104))))) (nodeC 1111 (nodeC 1105 (nodeC 1104 (leafC 1104 (o_iald 1105)) (leafC 1105 (o_inv 1 12 1 FX12_paying 1108))) (nodeC 1108 (leafC 1108 (o_ceq 1621 1111)) (leafC 1111 (o_ic (0) 1112)))) (nodeC 1113 (nodeC 1112 (leafC 1112 (o_zret)) (leafC 1113 (o_mask [5, 6] (o_al 1 1114)))) (nodeC 1114 (leafC 1114 (o_inv 0 11 1 FX11_moon 1117)) (leafC 1117 (o_al 2 1118))))))) (nodeC 1140 (nodeC 1128 (nodeC 1124 (nodeC 1118 (leafC 1118 (o_inv 0 12 1 FX12_moon 1121)) (nodeC 1121 (leafC 1121 (o_ceq 1621 1124)) (leafC 1124 (o_ic (0) 1125)))) (nodeC 1126 (nodeC 1125 (leafC 1125 (o_zret)) (leafC 1126 (o_mask [5, 6] (o_al 1 1127)))) (nodeC 1127 (leafC 1127 (o_al 0 1128)) (leafC 1128 (o_il 4 1130))))) (nodeC 1133 (nodeC 1131 (nodeC 1130 (leafC 1130 (o_ic (1) 1131)) (leafC 1131 (o_iadd 1132))) (nodeC 1132 (leafC 1132 (o_iald 1133)) (leafC 1133 (o_inv 1 11 1 FX11_market 1136)))) (nodeC 1137 (nodeC 1136 (leafC 1136 (o_al 2 1137)) (leafC 1137 (o_al 0 1138))) (nodeC 1138 (leafC 1138 (o_il 4 1140)) (leafC 1140 (o_ic (1) 1141)))))) (nodeC 1152 (nodeC 1146 (nodeC 1142 (nodeC 1141 (leafC 1141 (o_iadd 1142)) (leafC 1142 (o_iald 1143))) (nodeC 1143 (leafC 1143 (o_inv 1 12 1 FX12_market 1146)) (leafC 1146 (o_ceq 1621 1149)))) (nodeC 1150 (nodeC 1149 (leafC 1149 (o_ic (0) 1150)) (leafC 1150 (o_zret))) (nodeC 1151 (leafC 1151 (o_mask [5, 6] (o_al 1 1152))) (leafC 1152 (o_al 0 1153))))) (nodeC 1157 (nodeC 1155 (nodeC 1153 (leafC 1153 (o_il 4 1155)) (leafC 1155 (o_ic (1) 1156))) (nodeC 1156 (leafC 1156 (o_iadd 1157)) (leafC 1157 (o_iald 1158)))) (nodeC 1161 (nodeC 1158 (leafC 1158 (o_inv 1 11 1 FX11_ring 1161)) (leafC 1161 (o_al 2 1162))) (nodeC 1162 (leafC 1162 (o_al 0 1163)) (leafC 1163 (o_il 4 1165)))))))) (nodeC 1207 (nodeC 1186 (nodeC 1175 (nodeC 1167 (nodeC 1165 (leafC 1165 (o_ic (1) 1166)) (nodeC 1166 (leafC 1166 (o_iadd 1167)) (leafC 1167 (o_iald 1168)))) (nodeC 1171 (nodeC 1168 (leafC 1168 (o_inv 1 12 1 FX12_ring 1171)) (leafC 1171 (o_ceq 1621 1174))) (nodeC 1174 (leafC 1174 (o_ic (0) 1175)) (leafC 1175 (o_zret))))) (nodeC 1180 (nodeC 1177 (nodeC 1176 (leafC 1176 (o_mask [5, 6] (o_al 1 1177))) (leafC 1177 (o_al 0 1178))) (nodeC 1178 (leafC 1178 (o_il 4 1180)) (leafC 1180 (o_ic (1) 1181)))) (nodeC 1182 (nodeC 1181 (leafC 1181 (o_iadd 1182)) (leafC 1182 (o_iald 1183))) (nodeC 1183 (leafC 1183 (o_inv 1 11 1 FX11_pieces 1186)) (leafC 1186 (o_al 2 1187)))))) (nodeC 1196 (nodeC 1190 (nodeC 1187 (leafC 1187 (o_al 0 1188)) (nodeC 1188 (leafC 1188 (o_il 4 1190)) (leafC 1190 (o_ic (1) 1191)))) (nodeC 1192 (nodeC 1191 (leafC 1191 (o_iadd 1192)) (leafC 1192 (o_iald 1193))) (nodeC 1193 (leafC 1193 (o_inv 1 12 1 FX12_pieces 1196)) (leafC 1196 (o_ceq 1621 1199))))) (nodeC 1202 (nodeC 1200 (nodeC 1199 (leafC 1199 (o_ic (0) 1200)) (leafC 1200 (o_zret))) (nodeC 1201 (leafC 1201 (o_mask [5, 6] (o_al 1 1202))) (leafC 1202 (o_al 0 1203)))) (nodeC 1205 (nodeC 1203 (leafC 1203 (o_il 4 1205)) (leafC 1205 (o_ic (1) 1206))) (nodeC 1206 (leafC 1206 (o_iadd 1207)) (leafC 1207 (o_iald 1208))))))) (nodeC 1227 (nodeC 1215 (nodeC 1211 (nodeC 1208 (leafC 1208 (o_al 0 1209)) (nodeC 1209 (leafC 1209 (o_il 4 1211)) (leafC 1211 (o_ic (2) 1212)))) (nodeC 1213 (nodeC 1212 (leafC 1212 (o_iadd 1213)) (leafC 1213 (o_iald 1214))) (nodeC 1214 (leafC 1214 (o_al 0 1215)) (leafC 1215 (o_il 4 1217))))) (nodeC 1220 (nodeC 1218 (nodeC 1217 (leafC 1217 (o_ic (3) 1218)) (leafC 1218 (o_iadd 1219))) (nodeC 1219 (leafC 1219 (o_iald 1220)) (leafC 1220 (o_inv 3 11 1 FX11_game 1223)))) (nodeC 1224 (nodeC 1223 (leafC 1223 (o_al 2 1224)) (leafC 1224 (o_al 0 1225))) (nodeC 1225 (leafC 1225 (o_il 4 1227)) (leafC 1227 (o_ic (1) 1228)))))) (nodeC 1236 (nodeC 1231 (nodeC 1229 (nodeC 1228 (leafC 1228 (o_iadd 1229)) (leafC 1229 (o_iald 1230))) (nodeC 1230 (leafC 1230 (o_al 0 1231)) (leafC 1231 (o_il 4 1233)))) (nodeC 1234 (nodeC 1233 (leafC 1233 (o_ic (2) 1234)) (leafC 1234 (o_iadd 1235))) (nodeC 1235 (leafC 1235 (o_iald 1236)) (leafC 1236 (o_al 0 1237))))) (nodeC 1241 (nodeC 1239 (nodeC 1237 (leafC 1237 (o_il 4 1239)) (leafC 1239 (o_ic (3) 1240))) (nodeC 1240 (leafC 1240 (o_iadd 1241)) (leafC 1241 (o_iald 1242)))) (nodeC 1245 (nodeC 1242 (leafC 1242 (o_inv 3 12 1 FX12_game 1245)) (leafC 1245 (o_ceq 1621 1248))) (nodeC 1248 (leafC 1248 (o_ic (0) 1249)) (leafC 1249 (o_zret)))))))))) (nodeC 1431 (nodeC 1342 (nodeC 1291 (nodeC 1270 (nodeC 1257 (nodeC 1252 (nodeC 1250 (leafC 1250 (o_mask [5, 6] (o_al 1 1251))) (nodeC 1251 (leafC 1251 (o_al 0 1252)) (leafC 1252 (o_il 4 1254)))) (nodeC 1255 (nodeC 1254 (leafC 1254 (o_ic (1) 1255)) (leafC 1255 (o_iadd 1256))) (nodeC 1256 (leafC 1256 (o_iald 1257)) (leafC 1257 (o_inv 1 11 1 FX11_rests 1260))))) (nodeC 1264 (nodeC 1261 (nodeC 1260 (leafC 1260 (o_al 2 1261)) (leafC 1261 (o_al 0 1262))) (nodeC 1262 (leafC 1262 (o_il 4 1264)) (leafC 1264 (o_ic (1) 1265)))) (nodeC 1266 (nodeC 1265 (leafC 1265 (o_iadd 1266)) (leafC 1266 (o_iald 1267))) (nodeC 1267 (leafC 1267 (o_inv 1 12 1 FX12_rests 1270)) (leafC 1270 (o_ceq 1621 1273)))))) (nodeC 1280 (nodeC 1275 (nodeC 1273 (leafC 1273 (o_ic (0) 1274)) (nodeC 1274 (leafC 1274 (o_zret)) (leafC 1275 (o_mask [5, 6] (o_al 1 1276))))) (nodeC 1277 (nodeC 1276 (leafC 1276 (o_al 0 1277)) (leafC 1277 (o_il 4 1279))) (nodeC 1279 (leafC 1279 (o_ic (1) 1280)) (leafC 1280 (o_iadd 1281))))) (nodeC 1285 (nodeC 1282 (nodeC 1281 (leafC 1281 (o_iald 1282)) (leafC 1282 (o_al 0 1283))) (nodeC 1283 (leafC 1283 (o_il 4 1285)) (leafC 1285 (o_ic (2) 1286)))) (nodeC 1287 (nodeC 1286 (leafC 1286 (o_iadd 1287)) (leafC 1287 (o_iald 1288))) (nodeC 1288 (leafC 1288 (o_zeq 1295 1291)) (leafC 1291 (o_ic (1) 1292))))))) (nodeC 1312 (nodeC 1303 (nodeC 1296 (nodeC 1292 (leafC 1292 (o_goto 1296)) (nodeC 1295 (leafC 1295 (o_ic (0) 1296)) (leafC 1296 (o_inv 2 11 1 FX11_test 1299)))) (nodeC 1300 (nodeC 1299 (leafC 1299 (o_al 2 1300)) (leafC 1300 (o_al 0 1301))) (nodeC 1301 (leafC 1301 (o_il 4 1303)) (leafC 1303 (o_ic (1) 1304))))) (nodeC 1307 (nodeC 1305 (nodeC 1304 (leafC 1304 (o_iadd 1305)) (leafC 1305 (o_iald 1306))) (nodeC 1306 (leafC 1306 (o_al 0 1307)) (leafC 1307 (o_il 4 1309)))) (nodeC 1310 (nodeC 1309 (leafC 1309 (o_ic (2) 1310)) (leafC 1310 (o_iadd 1311))) (nodeC 1311 (leafC 1311 (o_iald 1312)) (leafC 1312 (o_zeq 1319 1315)))))) (nodeC 1328 (nodeC 1320 (nodeC 1316 (nodeC 1315 (leafC 1315 (o_ic (1) 1316)) (leafC 1316 (o_goto 1320))) (nodeC 1319 (leafC 1319 (o_ic (0) 1320)) (leafC 1320 (o_inv 2 12 1 FX12_test 1323)))) (nodeC 1326 (nodeC 1323 (leafC 1323 (o_ceq 1621 1326)) (leafC 1326 (o_ic (0) 1327))) (nodeC 1327 (leafC 1327 (o_zret)) (leafC 1328 (o_mask [5, 6] (o_al 1 1329)))))) (nodeC 1336 (nodeC 1332 (nodeC 1329 (leafC 1329 (o_inv 0 11 1 FX11_crane 1332)) (leafC 1332 (o_al 2 1333))) (nodeC 1333 (leafC 1333 (o_inv 0 12 1 FX12_crane 1336)) (leafC 1336 (o_ceq 1621 1339)))) (nodeC 1340 (nodeC 1339 (leafC 1339 (o_ic (0) 1340)) (leafC 1340 (o_zret))) (nodeC 1341 (leafC 1341 (o_mask [5, 6] (o_al 1 1342))) (leafC 1342 (o_al 0 1343)))))))) (nodeC 1383 (nodeC 1360 (nodeC 1351 (nodeC 1346 (nodeC 1343 (leafC 1343 (o_il 4 1345)) (nodeC 1345 (leafC 1345 (o_ic (1) 1346)) (leafC 1346 (o_iadd 1347)))) (nodeC 1348 (nodeC 1347 (leafC 1347 (o_iald 1348)) (leafC 1348 (o_al 0 1349))) (nodeC 1349 (leafC 1349 (o_il 4 1351)) (leafC 1351 (o_ic (2) 1352))))) (nodeC 1355 (nodeC 1353 (nodeC 1352 (leafC 1352 (o_iadd 1353)) (leafC 1353 (o_iald 1354))) (nodeC 1354 (leafC 1354 (o_al 0 1355)) (leafC 1355 (o_il 4 1357)))) (nodeC 1358 (nodeC 1357 (leafC 1357 (o_ic (3) 1358)) (leafC 1358 (o_iadd 1359))) (nodeC 1359 (leafC 1359 (o_iald 1360)) (leafC 1360 (o_zeq 1367 1363)))))) (nodeC 1373 (nodeC 1367 (nodeC 1363 (leafC 1363 (o_ic (1) 1364)) (nodeC 1364 (leafC 1364 (o_goto 1368)) (leafC 1367 (o_ic (0) 1368)))) (nodeC 1371 (nodeC 1368 (leafC 1368 (o_inv 3 11 1 FX11_sign 1371)) (leafC 1371 (o_al 2 1372))) (nodeC 1372 (leafC 1372 (o_al 0 1373)) (leafC 1373 (o_il 4 1375))))) (nodeC 1378 (nodeC 1376 (nodeC 1375 (leafC 1375 (o_ic (1) 1376)) (leafC 1376 (o_iadd 1377))) (nodeC 1377 (leafC 1377 (o_iald 1378)) (leafC 1378 (o_al 0 1379)))) (nodeC 1381 (nodeC 1379 (leafC 1379 (o_il 4 1381)) (leafC 1381 (o_ic (2) 1382))) (nodeC 1382 (leafC 1382 (o_iadd 1383)) (leafC 1383 (o_iald 1384))))))) (nodeC 1407 (nodeC 1393 (nodeC 1387 (nodeC 1384 (leafC 1384 (o_al 0 1385)) (nodeC 1385 (leafC 1385 (o_il 4 1387)) (leafC 1387 (o_ic (3) 1388)))) (nodeC 1389 (nodeC 1388 (leafC 1388 (o_iadd 1389)) (leafC 1389 (o_iald 1390))) (nodeC 1390 (leafC 1390 (o_zeq 1397 1393)) (leafC 1393 (o_ic (1) 1394))))) (nodeC 1401 (nodeC 1397 (nodeC 1394 (leafC 1394 (o_goto 1398)) (leafC 1397 (o_ic (0) 1398))) (nodeC 1398 (leafC 1398 (o_inv 3 12 1 FX12_sign 1401)) (leafC 1401 (o_ceq 1621 1404)))) (nodeC 1405 (nodeC 1404 (leafC 1404 (o_ic (0) 1405)) (leafC 1405 (o_zret))) (nodeC 1406 (leafC 1406 (o_mask [5, 6] (o_al 1 1407))) (leafC 1407 (o_al 0 1408)))))) (nodeC 1418 (nodeC 1412 (nodeC 1410 (nodeC 1408 (leafC 1408 (o_il 4 1410)) (leafC 1410 (o_ic (1) 1411))) (nodeC 1411 (leafC 1411 (o_iadd 1412)) (leafC 1412 (o_iald 1413)))) (nodeC 1416 (nodeC 1413 (leafC 1413 (o_inv 1 11 1 FX11_from 1416)) (leafC 1416 (o_al 2 1417))) (nodeC 1417 (leafC 1417 (o_al 0 1418)) (leafC 1418 (o_il 4 1420))))) (nodeC 1423 (nodeC 1421 (nodeC 1420 (leafC 1420 (o_ic (1) 1421)) (leafC 1421 (o_iadd 1422))) (nodeC 1422 (leafC 1422 (o_iald 1423)) (leafC 1423 (o_inv 1 12 1 FX12_from 1426)))) (nodeC 1429 (nodeC 1426 (leafC 1426 (o_ceq 1621 1429)) (leafC 1429 (o_ic (0) 1430))) (nodeC 1430 (leafC 1430 (o_zret)) (leafC 1431 (o_mask [5, 6] (o_al 1 1432)))))))))) (nodeC 1520 (nodeC 1473 (nodeC 1454 (nodeC 1444 (nodeC 1436 (nodeC 1432 (leafC 1432 (o_inv 0 11 1 FX11_ask 1435)) (nodeC 1435 (leafC 1435 (o_al 2 1436)) (leafC 1436 (o_inv 0 12 1 FX12_ask 1439)))) (nodeC 1442 (nodeC 1439 (leafC 1439 (o_ceq 1621 1442)) (leafC 1442 (o_ic (0) 1443))) (nodeC 1443 (leafC 1443 (o_zret)) (leafC 1444 (o_mask [5, 6] (o_al 1 1445)))))) (nodeC 1449 (nodeC 1446 (nodeC 1445 (leafC 1445 (o_al 0 1446)) (leafC 1446 (o_il 4 1448))) (nodeC 1448 (leafC 1448 (o_ic (1) 1449)) (leafC 1449 (o_iadd 1450)))) (nodeC 1451 (nodeC 1450 (leafC 1450 (o_iald 1451)) (leafC 1451 (o_al 0 1452))) (nodeC 1452 (leafC 1452 (o_il 4 1454)) (leafC 1454 (o_ic (2) 1455)))))) (nodeC 1464 (nodeC 1457 (nodeC 1455 (leafC 1455 (o_iadd 1456)) (nodeC 1456 (leafC 1456 (o_iald 1457)) (leafC 1457 (o_inv 2 11 1 FX11_odds 1460)))) (nodeC 1461 (nodeC 1460 (leafC 1460 (o_al 2 1461)) (leafC 1461 (o_al 0 1462))) (nodeC 1462 (leafC 1462 (o_il 4 1464)) (leafC 1464 (o_ic (1) 1465))))) (nodeC 1468 (nodeC 1466 (nodeC 1465 (leafC 1465 (o_iadd 1466)) (leafC 1466 (o_iald 1467))) (nodeC 1467 (leafC 1467 (o_al 0 1468)) (leafC 1468 (o_il 4 1470)))) (nodeC 1471 (nodeC 1470 (leafC 1470 (o_ic (2) 1471)) (leafC 1471 (o_iadd 1472))) (nodeC 1472 (leafC 1472 (o_iald 1473)) (leafC 1473 (o_inv 2 12 1 FX12_odds 1476))))))) (nodeC 1496 (nodeC 1485 (nodeC 1480 (nodeC 1476 (leafC 1476 (o_ceq 1621 1479)) (nodeC 1479 (leafC 1479 (o_ic (0) 1480)) (leafC 1480 (o_zret)))) (nodeC 1482 (nodeC 1481 (leafC 1481 (o_mask [5, 6] (o_al 1 1482))) (leafC 1482 (o_al 0 1483))) (nodeC 1483 (leafC 1483 (o_il 4 1485)) (leafC 1485 (o_ic (1) 1486))))) (nodeC 1491 (nodeC 1487 (nodeC 1486 (leafC 1486 (o_iadd 1487)) (leafC 1487 (o_iald 1488))) (nodeC 1488 (leafC 1488 (o_inv 1 11 1 FX11_owed 1491)) (leafC 1491 (o_al 2 1492)))) (nodeC 1493 (nodeC 1492 (leafC 1492 (o_al 0 1493)) (leafC 1493 (o_il 4 1495))) (nodeC 1495 (leafC 1495 (o_ic (1) 1496)) (leafC 1496 (o_iadd 1497)))))) (nodeC 1508 (nodeC 1504 (nodeC 1498 (nodeC 1497 (leafC 1497 (o_iald 1498)) (leafC 1498 (o_inv 1 12 1 FX12_owed 1501))) (nodeC 1501 (leafC 1501 (o_ceq 1621 1504)) (leafC 1504 (o_ic (0) 1505)))) (nodeC 1506 (nodeC 1505 (leafC 1505 (o_zret)) (leafC 1506 (o_mask [5, 6] (o_al 1 1507)))) (nodeC 1507 (leafC 1507 (o_al 0 1508)) (leafC 1508 (o_il 4 1510))))) (nodeC 1513 (nodeC 1511 (nodeC 1510 (leafC 1510 (o_ic (1) 1511)) (leafC 1511 (o_iadd 1512))) (nodeC 1512 (leafC 1512 (o_iald 1513)) (leafC 1513 (o_inv 1 11 1 FX11_bears 1516)))) (nodeC 1517 (nodeC 1516 (leafC 1516 (o_al 2 1517)) (leafC 1517 (o_al 0 1518))) (nodeC 1518 (leafC 1518 (o_il 4 1520)) (leafC 1520 (o_ic (1) 1521)))))))) (nodeC 1575 (nodeC 1545 (nodeC 1531 (nodeC 1523 (nodeC 1521 (leafC 1521 (o_iadd 1522)) (nodeC 1522 (leafC 1522 (o_iald 1523)) (leafC 1523 (o_inv 1 12 1 FX12_bears 1526)))) (nodeC 1529 (nodeC 1526 (leafC 1526 (o_ceq 1621 1529)) (leafC 1529 (o_ic (0) 1530))) (nodeC 1530 (leafC 1530 (o_zret)) (leafC 1531 (o_mask [5, 6] (o_al 1 1532)))))) (nodeC 1539 (nodeC 1535 (nodeC 1532 (leafC 1532 (o_inv 0 11 1 FX11_best 1535)) (leafC 1535 (o_al 2 1536))) (nodeC 1536 (leafC 1536 (o_inv 0 12 1 FX12_best 1539)) (leafC 1539 (o_ceq 1621 1542)))) (nodeC 1543 (nodeC 1542 (leafC 1542 (o_ic (0) 1543)) (leafC 1543 (o_zret))) (nodeC 1544 (leafC 1544 (o_mask [5, 6] (o_al 1 1545))) (leafC 1545 (o_inv 0 11 1 FX11_thin 1548)))))) (nodeC 1561 (nodeC 1555 (nodeC 1549 (nodeC 1548 (leafC 1548 (o_al 2 1549)) (leafC 1549 (o_inv 0 12 1 FX12_thin 1552))) (nodeC 1552 (leafC 1552 (o_ceq 1621 1555)) (leafC 1555 (o_ic (0) 1556)))) (nodeC 1557 (nodeC 1556 (leafC 1556 (o_zret)) (leafC 1557 (o_mask [5, 6] (o_al 1 1558)))) (nodeC 1558 (leafC 1558 (o_inv 0 11 1 FX11_weaves 1561)) (leafC 1561 (o_al 2 1562))))) (nodeC 1569 (nodeC 1565 (nodeC 1562 (leafC 1562 (o_inv 0 12 1 FX12_weaves 1565)) (leafC 1565 (o_ceq 1621 1568))) (nodeC 1568 (leafC 1568 (o_ic (0) 1569)) (leafC 1569 (o_zret)))) (nodeC 1571 (nodeC 1570 (leafC 1570 (o_mask [5, 6] (o_al 1 1571))) (leafC 1571 (o_inv 0 11 1 FX11_image 1574))) (nodeC 1574 (leafC 1574 (o_al 2 1575)) (leafC 1575 (o_inv 0 12 1 FX12_image 1578))))))) (nodeC 1601 (nodeC 1588 (nodeC 1582 (nodeC 1578 (leafC 1578 (o_ceq 1621 1581)) (nodeC 1581 (leafC 1581 (o_ic (0) 1582)) (leafC 1582 (o_zret)))) (nodeC 1584 (nodeC 1583 (leafC 1583 (o_mask [5, 6] (o_al 1 1584))) (leafC 1584 (o_inv 0 11 1 FX11_back 1587))) (nodeC 1587 (leafC 1587 (o_al 2 1588)) (leafC 1588 (o_inv 0 12 1 FX12_back 1591))))) (nodeC 1596 (nodeC 1594 (nodeC 1591 (leafC 1591 (o_ceq 1621 1594)) (leafC 1594 (o_ic (0) 1595))) (nodeC 1595 (leafC 1595 (o_zret)) (leafC 1596 (o_mask [5, 6] (o_al 1 1597))))) (nodeC 1598 (nodeC 1597 (leafC 1597 (o_al 0 1598)) (leafC 1598 (o_il 4 1600))) (nodeC 1600 (leafC 1600 (o_ic (1) 1601)) (leafC 1601 (o_iadd 1602)))))) (nodeC 1612 (nodeC 1607 (nodeC 1603 (nodeC 1602 (leafC 1602 (o_iald 1603)) (leafC 1603 (o_inv 1 11 1 FX11_count 1606))) (nodeC 1606 (leafC 1606 (o_al 2 1607)) (leafC 1607 (o_al 0 1608)))) (nodeC 1610 (nodeC 1608 (leafC 1608 (o_il 4 1610)) (leafC 1610 (o_ic (1) 1611))) (nodeC 1611 (leafC 1611 (o_iadd 1612)) (leafC 1612 (o_iald 1613))))) (nodeC 1620 (nodeC 1616 (nodeC 1613 (leafC 1613 (o_inv 1 12 1 FX12_count 1616)) (leafC 1616 (o_ceq 1621 1619))) (nodeC 1619 (leafC 1619 (o_ic (0) 1620)) (leafC 1620 (o_zret)))) (nodeC 1624 (nodeC 1621 (leafC 1621 (o_mask [5, 6] (o_inc 4 (6) 1624))) (leafC 1624 (o_goto 23))) (nodeC 1627 (leafC 1627 (o_ic (1) 1628)) (leafC 1628 (o_zret))))))))))))
theorem pL_law : ∀ pc, Pr (kL_law pc) := (pr_node (pr_node (pr_node (pr_node (pr_node (pr_node (pr_node (pr_node (pr_node (pr_leaf (pr_new _ _)) (pr_node (pr_leaf (pr_dupR _)) (pr_leaf (pr_inv _ _ _ GX11_init _)))) (pr_node (pr_node (pr_leaf (pr_as _ _)) (pr_leaf (pr_new _ _))) (pr_node (pr_leaf (pr_dupR _)) (pr_leaf (pr_inv _ _ _ GX12_init _))))) (pr_node (pr_node (pr_node (pr_leaf (pr_as _ _)) (pr_leaf (pr_ic _ _))) (pr_node (pr_leaf (pr_newa _ _)) (pr_leaf (pr_as _ _)))) (pr_node (pr_node (pr_leaf (pr_ic _ _)) (pr_leaf (pr_is _ _))) (pr_node (pr_leaf (pr_mask (pr_il _ _))) (pr_leaf (pr_al _ _)))))) (pr_node (pr_node (pr_node (pr_leaf (pr_alen _)) (pr_node (pr_leaf (pr_ic _ _)) (pr_leaf (pr_isub _)))) (pr_node (pr_node (pr_leaf (pr_cgt _ _)) (pr_leaf (pr_al _ _))) (pr_node (pr_leaf (pr_il _ _)) (pr_leaf (pr_iald _))))) (pr_node (pr_node (pr_node (pr_leaf (pr_ic _ _)) (pr_leaf (pr_iand _))) (pr_node (pr_leaf (pr_sw _ _)) (pr_leaf (pr_mask (pr_al _ _))))) (pr_node (pr_node (pr_leaf (pr_al _ _)) (pr_leaf (pr_il _ _))) (pr_node (pr_leaf (pr_ic _ _)) (pr_leaf (pr_iadd _))))))) (pr_node (pr_node (pr_node (pr_node (pr_leaf (pr_iald _)) (pr_node (pr_leaf (pr_al _ _)) (pr_leaf (pr_il _ _)))) (pr_node (pr_node (pr_leaf (pr_ic _ _)) (pr_leaf (pr_iadd _))) (pr_node (pr_leaf (pr_iald _)) (pr_leaf (pr_al _ _))))) (pr_node (pr_node (pr_node (pr_leaf (pr_il _ _)) (pr_leaf (pr_ic _ _))) (pr_node (pr_leaf (pr_iadd _)) (pr_leaf (pr_iald _)))) (pr_node (pr_node (pr_leaf (pr_al _ _)) (pr_leaf (pr_il _ _))) (pr_node (pr_leaf (pr_ic _ _)) (pr_leaf (pr_iadd _)))))) (pr_node (pr_node (pr_node (pr_node (pr_leaf (pr_iald _)) (pr_leaf (pr_al _ _))) (pr_node (pr_leaf (pr_il _ _)) (pr_leaf (pr_ic _ _)))) (pr_node (pr_node (pr_leaf (pr_iadd _)) (pr_leaf (pr_iald _))) (pr_node (pr_leaf (pr_inv _ _ _ GX11_feed _)) (pr_leaf (pr_al _ _))))) (pr_node (pr_node (pr_node (pr_leaf (pr_al _ _)) (pr_leaf (pr_il _ _))) (pr_node (pr_leaf (pr_ic _ _)) (pr_leaf (pr_iadd _)))) (pr_node (pr_node (pr_leaf (pr_iald _)) (pr_leaf (pr_al _ _))) (pr_node (pr_leaf (pr_il _ _)) (pr_leaf (pr_ic _ _)))))))) (pr_node (pr_node (pr_node (pr_node (pr_node (pr_leaf (pr_iadd _)) (pr_node (pr_leaf (pr_iald _)) (pr_leaf (pr_al _ _)))) (pr_node (pr_node (pr_leaf (pr_il _ _)) (pr_leaf (pr_ic _ _))) (pr_node (pr_leaf (pr_iadd _)) (pr_leaf (pr_iald _))))) (pr_node (pr_node (pr_node (pr_leaf (pr_al _ _)) (pr_leaf (pr_il _ _))) (pr_node (pr_leaf (pr_ic _ _)) (pr_leaf (pr_iadd _)))) (pr_node (pr_node (pr_leaf (pr_iald _)) (pr_leaf (pr_al _ _))) (pr_node (pr_leaf (pr_il _ _)) (pr_leaf (pr_ic _ _)))))) (pr_node (pr_node (pr_node (pr_leaf (pr_iadd _)) (pr_node (pr_leaf (pr_iald _)) (pr_leaf (pr_inv _ _ _ GX12_feed _)))) (pr_node (pr_node (pr_leaf (pr_ceq _ _)) (pr_leaf (pr_ic _ _))) (pr_node (pr_leaf (pr_zret)) (pr_leaf (pr_mask (pr_al _ _)))))) (pr_node (pr_node (pr_node (pr_leaf (pr_al _ _)) (pr_leaf (pr_il _ _))) (pr_node (pr_leaf (pr_ic _ _)) (pr_leaf (pr_iadd _)))) (pr_node (pr_node (pr_leaf (pr_iald _)) (pr_leaf (pr_inv _ _ _ GX11_end _))) (pr_node (pr_leaf (pr_al _ _)) (pr_leaf (pr_al _ _))))))) (pr_node (pr_node (pr_node (pr_node (pr_leaf (pr_il _ _)) (pr_node (pr_leaf (pr_ic _ _)) (pr_leaf (pr_iadd _)))) (pr_node (pr_node (pr_leaf (pr_iald _)) (pr_leaf (pr_inv _ _ _ GX12_end _))) (pr_node (pr_leaf (pr_ceq _ _)) (pr_leaf (pr_ic _ _))))) (pr_node (pr_node (pr_node (pr_leaf (pr_zret)) (pr_leaf (pr_mask (pr_al _ _)))) (pr_node (pr_leaf (pr_al _ _)) (pr_leaf (pr_il _ _)))) (pr_node (pr_node (pr_leaf (pr_ic _ _)) (pr_leaf (pr_iadd _))) (pr_node (pr_leaf (pr_iald _)) (pr_leaf (pr_inv _ _ _ GX11_fault _)))))) (pr_node (pr_node (pr_node (pr_node (pr_leaf (pr_al _ _)) (pr_leaf (pr_al _ _))) (pr_node (pr_leaf (pr_il _ _)) (pr_leaf (pr_ic _ _)))) (pr_node (pr_node (pr_leaf (pr_iadd _)) (pr_leaf (pr_iald _))) (pr_node (pr_leaf (pr_inv _ _ _ GX12_fault _)) (pr_leaf (pr_ceq _ _))))) (pr_node (pr_node (pr_node (pr_leaf (pr_ic _ _)) (pr_leaf (pr_zret))) (pr_node (pr_leaf (pr_mask (pr_al _ _))) (pr_leaf (pr_al _ _)))) (pr_node (pr_node (pr_leaf (pr_il _ _)) (pr_leaf (pr_ic _ _))) (pr_node (pr_leaf (pr_iadd _)) (pr_leaf (pr_iald _))))))))) (pr_node (pr_node (pr_node (pr_node (pr_node (pr_node (pr_leaf (pr_inv _ _ _ GX11_text _)) (pr_node (pr_leaf (pr_al _ _)) (pr_leaf (pr_al _ _)))) (pr_node (pr_node (pr_leaf (pr_il _ _)) (pr_leaf (pr_ic _ _))) (pr_node (pr_leaf (pr_iadd _)) (pr_leaf (pr_iald _))))) (pr_node (pr_node (pr_node (pr_leaf (pr_inv _ _ _ GX12_text _)) (pr_leaf (pr_ceq _ _))) (pr_node (pr_leaf (pr_ic _ _)) (pr_leaf (pr_zret)))) (pr_node (pr_node (pr_leaf (pr_mask (pr_al _ _))) (pr_leaf (pr_al _ _))) (pr_node (pr_leaf (pr_il _ _)) (pr_leaf (pr_ic _ _)))))) (pr_node (pr_node (pr_node (pr_leaf (pr_iadd _)) (pr_node (pr_leaf (pr_iald _)) (pr_leaf (pr_inv _ _ _ GX11_rule _)))) (pr_node (pr_node (pr_leaf (pr_al _ _)) (pr_leaf (pr_al _ _))) (pr_node (pr_leaf (pr_il _ _)) (pr_leaf (pr_ic _ _))))) (pr_node (pr_node (pr_node (pr_leaf (pr_iadd _)) (pr_leaf (pr_iald _))) (pr_node (pr_leaf (pr_inv _ _ _ GX12_rule _)) (pr_leaf (pr_ceq _ _)))) (pr_node (pr_node (pr_leaf (pr_ic _ _)) (pr_leaf (pr_zret))) (pr_node (pr_leaf (pr_mask (pr_al _ _))) (pr_leaf (pr_al _ _))))))) (pr_node (pr_node (pr_node (pr_node (pr_leaf (pr_il _ _)) (pr_node (pr_leaf (pr_ic _ _)) (pr_leaf (pr_iadd _)))) (pr_node (pr_node (pr_leaf (pr_iald _)) (pr_leaf (pr_al _ _))) (pr_node (pr_leaf (pr_il _ _)) (pr_leaf (pr_ic _ _))))) (pr_node (pr_node (pr_node (pr_leaf (pr_iadd _)) (pr_leaf (pr_iald _))) (pr_node (pr_leaf (pr_inv _ _ _ GX11_debt _)) (pr_leaf (pr_al _ _)))) (pr_node (pr_node (pr_leaf (pr_al _ _)) (pr_leaf (pr_il _ _))) (pr_node (pr_leaf (pr_ic _ _)) (pr_leaf (pr_iadd _)))))) (pr_node (pr_node (pr_node (pr_node (pr_leaf (pr_iald _)) (pr_leaf (pr_al _ _))) (pr_node (pr_leaf (pr_il _ _)) (pr_leaf (pr_ic _ _)))) (pr_node (pr_node (pr_leaf (pr_iadd _)) (pr_leaf (pr_iald _))) (pr_node (pr_leaf (pr_inv _ _ _ GX12_debt _)) (pr_leaf (pr_ceq _ _))))) (pr_node (pr_node (pr_node (pr_leaf (pr_ic _ _)) (pr_leaf (pr_zret))) (pr_node (pr_leaf (pr_mask (pr_al _ _))) (pr_leaf (pr_al _ _)))) (pr_node (pr_node (pr_leaf (pr_il _ _)) (pr_leaf (pr_ic _ _))) (pr_node (pr_leaf (pr_iadd _)) (pr_leaf (pr_iald _)))))))) (pr_node (pr_node (pr_node (pr_node (pr_node (pr_leaf (pr_al _ _)) (pr_node (pr_leaf (pr_il _ _)) (pr_leaf (pr_ic _ _)))) (pr_node (pr_node (pr_leaf (pr_iadd _)) (pr_leaf (pr_iald _))) (pr_node (pr_leaf (pr_al _ _)) (pr_leaf (pr_ist _ _ GL_buyer _))))) (pr_node (pr_node (pr_node (pr_leaf (pr_is _ _)) (pr_leaf (pr_al _ _))) (pr_node (pr_leaf (pr_al _ _)) (pr_leaf (pr_il _ _)))) (pr_node (pr_node (pr_leaf (pr_ic _ _)) (pr_leaf (pr_iadd _))) (pr_node (pr_leaf (pr_iald _)) (pr_leaf (pr_al _ _)))))) (pr_node (pr_node (pr_node (pr_leaf (pr_il _ _)) (pr_node (pr_leaf (pr_ic _ _)) (pr_leaf (pr_iadd _)))) (pr_node (pr_node (pr_leaf (pr_iald _)) (pr_leaf (pr_inv _ _ _ GX12_buyer _))) (pr_node (pr_leaf (pr_is _ _)) (pr_leaf (pr_al _ _))))) (pr_node (pr_node (pr_node (pr_leaf (pr_inv _ _ _ GX12_thrown _)) (pr_leaf (pr_il _ _))) (pr_node (pr_leaf (pr_ceq _ _)) (pr_leaf (pr_ic _ _)))) (pr_node (pr_node (pr_leaf (pr_zret)) (pr_leaf (pr_il _ _))) (pr_node (pr_leaf (pr_zne _ _)) (pr_leaf (pr_al _ _))))))) (pr_node (pr_node (pr_node (pr_node (pr_leaf (pr_ic _ _)) (pr_node (pr_leaf (pr_lald _)) (pr_leaf (pr_il _ _)))) (pr_node (pr_node (pr_leaf (pr_i2l _)) (pr_leaf (pr_lcmp _))) (pr_node (pr_leaf (pr_zeq _ _)) (pr_leaf (pr_ic _ _))))) (pr_node (pr_node (pr_node (pr_leaf (pr_zret)) (pr_leaf (pr_goto _))) (pr_node (pr_leaf (pr_mask (pr_al _ _))) (pr_leaf (pr_al _ _)))) (pr_node (pr_node (pr_leaf (pr_il _ _)) (pr_leaf (pr_ic _ _))) (pr_node (pr_leaf (pr_iadd _)) (pr_leaf (pr_iald _)))))) (pr_node (pr_node (pr_node (pr_node (pr_leaf (pr_inv _ _ _ GX11_law _)) (pr_leaf (pr_al _ _))) (pr_node (pr_leaf (pr_al _ _)) (pr_leaf (pr_il _ _)))) (pr_node (pr_node (pr_leaf (pr_ic _ _)) (pr_leaf (pr_iadd _))) (pr_node (pr_leaf (pr_iald _)) (pr_leaf (pr_inv _ _ _ GX12_law _))))) (pr_node (pr_node (pr_node (pr_leaf (pr_ceq _ _)) (pr_leaf (pr_ic _ _))) (pr_node (pr_leaf (pr_zret)) (pr_leaf (pr_mask (pr_al _ _))))) (pr_node (pr_node (pr_leaf (pr_al _ _)) (pr_leaf (pr_il _ _))) (pr_node (pr_leaf (pr_ic _ _)) (pr_leaf (pr_iadd _)))))))))) (pr_node (pr_node (pr_node (pr_node (pr_node (pr_node (pr_node (pr_leaf (pr_iald _)) (pr_node (pr_leaf (pr_inv _ _ _ GX11_lazy _)) (pr_leaf (pr_al _ _)))) (pr_node (pr_node (pr_leaf (pr_al _ _)) (pr_leaf (pr_il _ _))) (pr_node (pr_leaf (pr_ic _ _)) (pr_leaf (pr_iadd _))))) (pr_node (pr_node (pr_node (pr_leaf (pr_iald _)) (pr_leaf (pr_inv _ _ _ GX12_lazy _))) (pr_node (pr_leaf (pr_ceq _ _)) (pr_leaf (pr_ic _ _)))) (pr_node (pr_node (pr_leaf (pr_zret)) (pr_leaf (pr_mask (pr_al _ _)))) (pr_node (pr_leaf (pr_al _ _)) (pr_leaf (pr_il _ _)))))) (pr_node (pr_node (pr_node (pr_leaf (pr_ic _ _)) (pr_node (pr_leaf (pr_iadd _)) (pr_leaf (pr_iald _)))) (pr_node (pr_node (pr_leaf (pr_inv _ _ _ GX11_week _)) (pr_leaf (pr_al _ _))) (pr_node (pr_leaf (pr_al _ _)) (pr_leaf (pr_il _ _))))) (pr_node (pr_node (pr_node (pr_leaf (pr_ic _ _)) (pr_leaf (pr_iadd _))) (pr_node (pr_leaf (pr_iald _)) (pr_leaf (pr_inv _ _ _ GX12_week _)))) (pr_node (pr_node (pr_leaf (pr_ceq _ _)) (pr_leaf (pr_ic _ _))) (pr_node (pr_leaf (pr_zret)) (pr_leaf (pr_mask (pr_al _ _)))))))) (pr_node (pr_node (pr_node (pr_node (pr_leaf (pr_inv _ _ _ GX11_cut _)) (pr_node (pr_leaf (pr_al _ _)) (pr_leaf (pr_inv _ _ _ GX12_cut _)))) (pr_node (pr_node (pr_leaf (pr_ceq _ _)) (pr_leaf (pr_ic _ _))) (pr_node (pr_leaf (pr_zret)) (pr_leaf (pr_mask (pr_al _ _)))))) (pr_node (pr_node (pr_node (pr_leaf (pr_al _ _)) (pr_leaf (pr_il _ _))) (pr_node (pr_leaf (pr_ic _ _)) (pr_leaf (pr_iadd _)))) (pr_node (pr_node (pr_leaf (pr_iald _)) (pr_leaf (pr_al _ _))) (pr_node (pr_leaf (pr_il _ _)) (pr_leaf (pr_ic _ _)))))) (pr_node (pr_node (pr_node (pr_node (pr_leaf (pr_iadd _)) (pr_leaf (pr_iald _))) (pr_node (pr_leaf (pr_inv _ _ _ GX11_sell _)) (pr_leaf (pr_al _ _)))) (pr_node (pr_node (pr_leaf (pr_al _ _)) (pr_leaf (pr_il _ _))) (pr_node (pr_leaf (pr_ic _ _)) (pr_leaf (pr_iadd _))))) (pr_node (pr_node (pr_node (pr_leaf (pr_iald _)) (pr_leaf (pr_al _ _))) (pr_node (pr_leaf (pr_il _ _)) (pr_leaf (pr_ic _ _)))) (pr_node (pr_node (pr_leaf (pr_iadd _)) (pr_leaf (pr_iald _))) (pr_node (pr_leaf (pr_inv _ _ _ GX12_sell _)) (pr_leaf (pr_ceq _ _)))))))) (pr_node (pr_node (pr_node (pr_node (pr_node (pr_leaf (pr_ic _ _)) (pr_node (pr_leaf (pr_zret)) (pr_leaf (pr_mask (pr_al _ _))))) (pr_node (pr_node (pr_leaf (pr_al _ _)) (pr_leaf (pr_il _ _))) (pr_node (pr_leaf (pr_ic _ _)) (pr_leaf (pr_iadd _))))) (pr_node (pr_node (pr_node (pr_leaf (pr_iald _)) (pr_leaf (pr_inv _ _ _ GX11_pay _))) (pr_node (pr_leaf (pr_al _ _)) (pr_leaf (pr_al _ _)))) (pr_node (pr_node (pr_leaf (pr_il _ _)) (pr_leaf (pr_ic _ _))) (pr_node (pr_leaf (pr_iadd _)) (pr_leaf (pr_iald _)))))) (pr_node (pr_node (pr_node (pr_leaf (pr_inv _ _ _ GX12_pay _)) (pr_node (pr_leaf (pr_ceq _ _)) (pr_leaf (pr_ic _ _)))) (pr_node (pr_node (pr_leaf (pr_zret)) (pr_leaf (pr_mask (pr_al _ _)))) (pr_node (pr_leaf (pr_al _ _)) (pr_leaf (pr_il _ _))))) (pr_node (pr_node (pr_node (pr_leaf (pr_ic _ _)) (pr_leaf (pr_iadd _))) (pr_node (pr_leaf (pr_iald _)) (pr_leaf (pr_zeq _ _)))) (pr_node (pr_node (pr_leaf (pr_ic _ _)) (pr_leaf (pr_goto _))) (pr_node (pr_leaf (pr_ic _ _)) (pr_leaf (pr_inv _ _ _ GX11_iron _))))))) (pr_node (pr_node (pr_node (pr_node (pr_leaf (pr_al _ _)) (pr_node (pr_leaf (pr_al _ _)) (pr_leaf (pr_il _ _)))) (pr_node (pr_node (pr_leaf (pr_ic _ _)) (pr_leaf (pr_iadd _))) (pr_node (pr_leaf (pr_iald _)) (pr_leaf (pr_zeq _ _))))) (pr_node (pr_node (pr_node (pr_leaf (pr_ic _ _)) (pr_leaf (pr_goto _))) (pr_node (pr_leaf (pr_ic _ _)) (pr_leaf (pr_inv _ _ _ GX12_iron _)))) (pr_node (pr_node (pr_leaf (pr_ceq _ _)) (pr_leaf (pr_ic _ _))) (pr_node (pr_leaf (pr_zret)) (pr_leaf (pr_mask (pr_al _ _))))))) (pr_node (pr_node (pr_node (pr_node (pr_leaf (pr_al _ _)) (pr_leaf (pr_il _ _))) (pr_node (pr_leaf (pr_ic _ _)) (pr_leaf (pr_iadd _)))) (pr_node (pr_node (pr_leaf (pr_iald _)) (pr_leaf (pr_inv _ _ _ GX11_give _))) (pr_node (pr_leaf (pr_al _ _)) (pr_leaf (pr_al _ _))))) (pr_node (pr_node (pr_node (pr_leaf (pr_il _ _)) (pr_leaf (pr_ic _ _))) (pr_node (pr_leaf (pr_iadd _)) (pr_leaf (pr_iald _)))) (pr_node (pr_node (pr_leaf (pr_inv _ _ _ GX12_give _)) (pr_leaf (pr_ceq _ _))) (pr_node (pr_leaf (pr_ic _ _)) (pr_leaf (pr_zret))))))))) (pr_node (pr_node (pr_node (pr_node (pr_node (pr_node (pr_leaf (pr_mask (pr_al _ _))) (pr_node (pr_leaf (pr_al _ _)) (pr_leaf (pr_il _ _)))) (pr_node (pr_node (pr_leaf (pr_ic _ _)) (pr_leaf (pr_iadd _))) (pr_node (pr_leaf (pr_iald _)) (pr_leaf (pr_al _ _))))) (pr_node (pr_node (pr_node (pr_leaf (pr_il _ _)) (pr_leaf (pr_ic _ _))) (pr_node (pr_leaf (pr_iadd _)) (pr_leaf (pr_iald _)))) (pr_node (pr_node (pr_leaf (pr_i2l _)) (pr_leaf (pr_ic _ _))) (pr_node (pr_leaf (pr_lshl _)) (pr_leaf (pr_al _ _)))))) (pr_node (pr_node (pr_node (pr_leaf (pr_il _ _)) (pr_node (pr_leaf (pr_ic _ _)) (pr_leaf (pr_iadd _)))) (pr_node (pr_node (pr_leaf (pr_iald _)) (pr_leaf (pr_i2l _))) (pr_node (pr_leaf (pr_lc _ _)) (pr_leaf (pr_land _))))) (pr_node (pr_node (pr_node (pr_leaf (pr_lor _)) (pr_leaf (pr_inv _ _ _ GX11_lives _))) (pr_node (pr_leaf (pr_al _ _)) (pr_leaf (pr_al _ _)))) (pr_node (pr_node (pr_leaf (pr_il _ _)) (pr_leaf (pr_ic _ _))) (pr_node (pr_leaf (pr_iadd _)) (pr_leaf (pr_iald _))))))) (pr_node (pr_node (pr_node (pr_node (pr_leaf (pr_al _ _)) (pr_node (pr_leaf (pr_il _ _)) (pr_leaf (pr_ic _ _)))) (pr_node (pr_node (pr_leaf (pr_iadd _)) (pr_leaf (pr_iald _))) (pr_node (pr_leaf (pr_i2l _)) (pr_leaf (pr_ic _ _))))) (pr_node (pr_node (pr_node (pr_leaf (pr_lshl _)) (pr_leaf (pr_al _ _))) (pr_node (pr_leaf (pr_il _ _)) (pr_leaf (pr_ic _ _)))) (pr_node (pr_node (pr_leaf (pr_iadd _)) (pr_leaf (pr_iald _))) (pr_node (pr_leaf (pr_i2l _)) (pr_leaf (pr_lc _ _)))))) (pr_node (pr_node (pr_node (pr_node (pr_leaf (pr_land _)) (pr_leaf (pr_lor _))) (pr_node (pr_leaf (pr_inv _ _ _ GX12_lives _)) (pr_leaf (pr_ceq _ _)))) (pr_node (pr_node (pr_leaf (pr_ic _ _)) (pr_leaf (pr_zret))) (pr_node (pr_leaf (pr_mask (pr_al _ _))) (pr_leaf (pr_inv _ _ _ GX11_undo _))))) (pr_node (pr_node (pr_node (pr_leaf (pr_al _ _)) (pr_leaf (pr_inv _ _ _ GX12_undo _))) (pr_node (pr_leaf (pr_ceq _ _)) (pr_leaf (pr_ic _ _)))) (pr_node (pr_node (pr_leaf (pr_zret)) (pr_leaf (pr_mask (pr_al _ _)))) (pr_node (pr_leaf (pr_al _ _)) (pr_leaf (pr_il _ _)))))))) (pr_node (pr_node (pr_node (pr_node (pr_node (pr_leaf (pr_ic _ _)) (pr_node (pr_leaf (pr_iadd _)) (pr_leaf (pr_iald _)))) (pr_node (pr_node (pr_leaf (pr_al _ _)) (pr_leaf (pr_il _ _))) (pr_node (pr_leaf (pr_ic _ _)) (pr_leaf (pr_iadd _))))) (pr_node (pr_node (pr_node (pr_leaf (pr_iald _)) (pr_leaf (pr_inv _ _ _ GX11_log _))) (pr_node (pr_leaf (pr_al _ _)) (pr_leaf (pr_al _ _)))) (pr_node (pr_node (pr_leaf (pr_il _ _)) (pr_leaf (pr_ic _ _))) (pr_node (pr_leaf (pr_iadd _)) (pr_leaf (pr_iald _)))))) (pr_node (pr_node (pr_node (pr_leaf (pr_al _ _)) (pr_node (pr_leaf (pr_il _ _)) (pr_leaf (pr_ic _ _)))) (pr_node (pr_node (pr_leaf (pr_iadd _)) (pr_leaf (pr_iald _))) (pr_node (pr_leaf (pr_inv _ _ _ GX12_log _)) (pr_leaf (pr_ceq _ _))))) (pr_node (pr_node (pr_node (pr_leaf (pr_ic _ _)) (pr_leaf (pr_zret))) (pr_node (pr_leaf (pr_mask (pr_al _ _))) (pr_leaf (pr_al _ _)))) (pr_node (pr_node (pr_leaf (pr_il _ _)) (pr_leaf (pr_ic _ _))) (pr_node (pr_leaf (pr_iadd _)) (pr_leaf (pr_iald _))))))) (pr_node (pr_node (pr_node (pr_node (pr_leaf (pr_al _ _)) (pr_node (pr_leaf (pr_il _ _)) (pr_leaf (pr_ic _ _)))) (pr_node (pr_node (pr_leaf (pr_iadd _)) (pr_leaf (pr_iald _))) (pr_node (pr_leaf (pr_inv _ _ _ GX11_book _)) (pr_leaf (pr_al _ _))))) (pr_node (pr_node (pr_node (pr_leaf (pr_al _ _)) (pr_leaf (pr_il _ _))) (pr_node (pr_leaf (pr_ic _ _)) (pr_leaf (pr_iadd _)))) (pr_node (pr_node (pr_leaf (pr_iald _)) (pr_leaf (pr_al _ _))) (pr_node (pr_leaf (pr_il _ _)) (pr_leaf (pr_ic _ _)))))) (pr_node (pr_node (pr_node (pr_node (pr_leaf (pr_iadd _)) (pr_leaf (pr_iald _))) (pr_node (pr_leaf (pr_inv _ _ _ GX12_book _)) (pr_leaf (pr_ceq _ _)))) (pr_node (pr_node (pr_leaf (pr_ic _ _)) (pr_leaf (pr_zret))) (pr_node (pr_leaf (pr_mask (pr_al _ _))) (pr_leaf (pr_al _ _))))) (pr_node (pr_node (pr_node (pr_leaf (pr_il _ _)) (pr_leaf (pr_ic _ _))) (pr_node (pr_leaf (pr_iadd _)) (pr_leaf (pr_iald _)))) (pr_node (pr_node (pr_leaf (pr_al _ _)) (pr_leaf (pr_il _ _))) (pr_node (pr_leaf (pr_ic _ _)) (pr_leaf (pr_iadd _))))))))))) (pr_node (pr_node (pr_node (pr_node (pr_node (pr_node (pr_node (pr_node (pr_leaf (pr_iald _)) (pr_node (pr_leaf (pr_al _ _)) (pr_leaf (pr_il _ _)))) (pr_node (pr_node (pr_leaf (pr_ic _ _)) (pr_leaf (pr_iadd _))) (pr_node (pr_leaf (pr_iald _)) (pr_leaf (pr_inv _ _ _ GX11_step _))))) (pr_node (pr_node (pr_node (pr_leaf (pr_al _ _)) (pr_leaf (pr_al _ _))) (pr_node (pr_leaf (pr_il _ _)) (pr_leaf (pr_ic _ _)))) (pr_node (pr_node (pr_leaf (pr_iadd _)) (pr_leaf (pr_iald _))) (pr_node (pr_leaf (pr_al _ _)) (pr_leaf (pr_il _ _)))))) (pr_node (pr_node (pr_node (pr_leaf (pr_ic _ _)) (pr_node (pr_leaf (pr_iadd _)) (pr_leaf (pr_iald _)))) (pr_node (pr_node (pr_leaf (pr_al _ _)) (pr_leaf (pr_il _ _))) (pr_node (pr_leaf (pr_ic _ _)) (pr_leaf (pr_iadd _))))) (pr_node (pr_node (pr_node (pr_leaf (pr_iald _)) (pr_leaf (pr_inv _ _ _ GX12_step _))) (pr_node (pr_leaf (pr_ceq _ _)) (pr_leaf (pr_ic _ _)))) (pr_node (pr_node (pr_leaf (pr_zret)) (pr_leaf (pr_mask (pr_al _ _)))) (pr_node (pr_leaf (pr_al _ _)) (pr_leaf (pr_il _ _))))))) (pr_node (pr_node (pr_node (pr_node (pr_leaf (pr_ic _ _)) (pr_node (pr_leaf (pr_iadd _)) (pr_leaf (pr_iald _)))) (pr_node (pr_node (pr_leaf (pr_al _ _)) (pr_leaf (pr_il _ _))) (pr_node (pr_leaf (pr_ic _ _)) (pr_leaf (pr_iadd _))))) (pr_node (pr_node (pr_node (pr_leaf (pr_iald _)) (pr_leaf (pr_inv _ _ _ GX11_run _))) (pr_node (pr_leaf (pr_al _ _)) (pr_leaf (pr_al _ _)))) (pr_node (pr_node (pr_leaf (pr_il _ _)) (pr_leaf (pr_ic _ _))) (pr_node (pr_leaf (pr_iadd _)) (pr_leaf (pr_iald _)))))) (pr_node (pr_node (pr_node (pr_node (pr_leaf (pr_al _ _)) (pr_leaf (pr_il _ _))) (pr_node (pr_leaf (pr_ic _ _)) (pr_leaf (pr_iadd _)))) (pr_node (pr_node (pr_leaf (pr_iald _)) (pr_leaf (pr_inv _ _ _ GX12_run _))) (pr_node (pr_leaf (pr_ceq _ _)) (pr_leaf (pr_ic _ _))))) (pr_node (pr_node (pr_node (pr_leaf (pr_zret)) (pr_leaf (pr_mask (pr_al _ _)))) (pr_node (pr_leaf (pr_al _ _)) (pr_leaf (pr_il _ _)))) (pr_node (pr_node (pr_leaf (pr_ic _ _)) (pr_leaf (pr_iadd _))) (pr_node (pr_leaf (pr_iald _)) (pr_leaf (pr_inv _ _ _ GX11_perform _)))))))) (pr_node (pr_node (pr_node (pr_node (pr_node (pr_leaf (pr_al _ _)) (pr_node (pr_leaf (pr_al _ _)) (pr_leaf (pr_il _ _)))) (pr_node (pr_node (pr_leaf (pr_ic _ _)) (pr_leaf (pr_iadd _))) (pr_node (pr_leaf (pr_iald _)) (pr_leaf (pr_inv _ _ _ GX12_perform _))))) (pr_node (pr_node (pr_node (pr_leaf (pr_ceq _ _)) (pr_leaf (pr_ic _ _))) (pr_node (pr_leaf (pr_zret)) (pr_leaf (pr_mask (pr_al _ _))))) (pr_node (pr_node (pr_leaf (pr_al _ _)) (pr_leaf (pr_il _ _))) (pr_node (pr_leaf (pr_ic _ _)) (pr_leaf (pr_iadd _)))))) (pr_node (pr_node (pr_node (pr_leaf (pr_iald _)) (pr_node (pr_leaf (pr_al _ _)) (pr_leaf (pr_il _ _)))) (pr_node (pr_node (pr_leaf (pr_ic _ _)) (pr_leaf (pr_iadd _))) (pr_node (pr_leaf (pr_iald _)) (pr_leaf (pr_al _ _))))) (pr_node (pr_node (pr_node (pr_leaf (pr_il _ _)) (pr_leaf (pr_ic _ _))) (pr_node (pr_leaf (pr_iadd _)) (pr_leaf (pr_iald _)))) (pr_node (pr_node (pr_leaf (pr_inv _ _ _ GX11_weaving _)) (pr_leaf (pr_al _ _))) (pr_node (pr_leaf (pr_al _ _)) (pr_leaf (pr_il _ _))))))) (pr_node (pr_node (pr_node (pr_node (pr_leaf (pr_ic _ _)) (pr_node (pr_leaf (pr_iadd _)) (pr_leaf (pr_iald _)))) (pr_node (pr_node (pr_leaf (pr_al _ _)) (pr_leaf (pr_il _ _))) (pr_node (pr_leaf (pr_ic _ _)) (pr_leaf (pr_iadd _))))) (pr_node (pr_node (pr_node (pr_leaf (pr_iald _)) (pr_leaf (pr_al _ _))) (pr_node (pr_leaf (pr_il _ _)) (pr_leaf (pr_ic _ _)))) (pr_node (pr_node (pr_leaf (pr_iadd _)) (pr_leaf (pr_iald _))) (pr_node (pr_leaf (pr_inv _ _ _ GX12_weaving _)) (pr_leaf (pr_ceq _ _)))))) (pr_node (pr_node (pr_node (pr_node (pr_leaf (pr_ic _ _)) (pr_leaf (pr_zret))) (pr_node (pr_leaf (pr_mask (pr_al _ _))) (pr_leaf (pr_inv _ _ _ GX11_stands _)))) (pr_node (pr_node (pr_leaf (pr_al _ _)) (pr_leaf (pr_inv _ _ _ GX12_stands _))) (pr_node (pr_leaf (pr_ceq _ _)) (pr_leaf (pr_ic _ _))))) (pr_node (pr_node (pr_node (pr_leaf (pr_zret)) (pr_leaf (pr_mask (pr_al _ _)))) (pr_node (pr_leaf (pr_al _ _)) (pr_leaf (pr_il _ _)))) (pr_node (pr_node (pr_leaf (pr_ic _ _)) (pr_leaf (pr_iadd _))) (pr_node (pr_leaf (pr_iald _)) (pr_leaf (pr_inv _ _ _ GX11_soonest _))))))))) (pr_node (pr_node (pr_node (pr_node (pr_node (pr_node (pr_leaf (pr_al _ _)) (pr_node (pr_leaf (pr_al _ _)) (pr_leaf (pr_il _ _)))) (pr_node (pr_node (pr_leaf (pr_ic _ _)) (pr_leaf (pr_iadd _))) (pr_node (pr_leaf (pr_iald _)) (pr_leaf (pr_inv _ _ _ GX12_soonest _))))) (pr_node (pr_node (pr_node (pr_leaf (pr_ceq _ _)) (pr_leaf (pr_ic _ _))) (pr_node (pr_leaf (pr_zret)) (pr_leaf (pr_mask (pr_al _ _))))) (pr_node (pr_node (pr_leaf (pr_al _ _)) (pr_leaf (pr_il _ _))) (pr_node (pr_leaf (pr_ic _ _)) (pr_leaf (pr_iadd _)))))) (pr_node (pr_node (pr_node (pr_leaf (pr_iald _)) (pr_node (pr_leaf (pr_inv _ _ _ GX11_paying _)) (pr_leaf (pr_al _ _)))) (pr_node (pr_node (pr_leaf (pr_al _ _)) (pr_leaf (pr_il _ _))) (pr_node (pr_leaf (pr_ic _ _)) (pr_leaf (pr_iadd _))))) (pr_node (pr_node (pr_node (pr_leaf (pr_iald _)) (pr_leaf (pr_inv _ _ _ GX12_paying _))) (pr_node (pr_leaf (pr_ceq _ _)) (pr_leaf (pr_ic _ _)))) (pr_node (pr_node (pr_leaf (pr_zret)) (pr_leaf (pr_mask (pr_al _ _)))) (pr_node (pr_leaf (pr_inv _ _ _ GX11_moon _)) (pr_leaf (pr_al _ _))))))) (pr_node (pr_node (pr_node (pr_node (pr_leaf (pr_inv _ _ _ GX12_moon _)) (pr_node (pr_leaf (pr_ceq _ _)) (pr_leaf (pr_ic _ _)))) (pr_node (pr_node (pr_leaf (pr_zret)) (pr_leaf (pr_mask (pr_al _ _)))) (pr_node (pr_leaf (pr_al _ _)) (pr_leaf (pr_il _ _))))) (pr_node (pr_node (pr_node (pr_leaf (pr_ic _ _)) (pr_leaf (pr_iadd _))) (pr_node (pr_leaf (pr_iald _)) (pr_leaf (pr_inv _ _ _ GX11_market _)))) (pr_node (pr_node (pr_leaf (pr_al _ _)) (pr_leaf (pr_al _ _))) (pr_node (pr_leaf (pr_il _ _)) (pr_leaf (pr_ic _ _)))))) (pr_node (pr_node (pr_node (pr_node (pr_leaf (pr_iadd _)) (pr_leaf (pr_iald _))) (pr_node (pr_leaf (pr_inv _ _ _ GX12_market _)) (pr_leaf (pr_ceq _ _)))) (pr_node (pr_node (pr_leaf (pr_ic _ _)) (pr_leaf (pr_zret))) (pr_node (pr_leaf (pr_mask (pr_al _ _))) (pr_leaf (pr_al _ _))))) (pr_node (pr_node (pr_node (pr_leaf (pr_il _ _)) (pr_leaf (pr_ic _ _))) (pr_node (pr_leaf (pr_iadd _)) (pr_leaf (pr_iald _)))) (pr_node (pr_node (pr_leaf (pr_inv _ _ _ GX11_ring _)) (pr_leaf (pr_al _ _))) (pr_node (pr_leaf (pr_al _ _)) (pr_leaf (pr_il _ _)))))))) (pr_node (pr_node (pr_node (pr_node (pr_node (pr_leaf (pr_ic _ _)) (pr_node (pr_leaf (pr_iadd _)) (pr_leaf (pr_iald _)))) (pr_node (pr_node (pr_leaf (pr_inv _ _ _ GX12_ring _)) (pr_leaf (pr_ceq _ _))) (pr_node (pr_leaf (pr_ic _ _)) (pr_leaf (pr_zret))))) (pr_node (pr_node (pr_node (pr_leaf (pr_mask (pr_al _ _))) (pr_leaf (pr_al _ _))) (pr_node (pr_leaf (pr_il _ _)) (pr_leaf (pr_ic _ _)))) (pr_node (pr_node (pr_leaf (pr_iadd _)) (pr_leaf (pr_iald _))) (pr_node (pr_leaf (pr_inv _ _ _ GX11_pieces _)) (pr_leaf (pr_al _ _)))))) (pr_node (pr_node (pr_node (pr_leaf (pr_al _ _)) (pr_node (pr_leaf (pr_il _ _)) (pr_leaf (pr_ic _ _)))) (pr_node (pr_node (pr_leaf (pr_iadd _)) (pr_leaf (pr_iald _))) (pr_node (pr_leaf (pr_inv _ _ _ GX12_pieces _)) (pr_leaf (pr_ceq _ _))))) (pr_node (pr_node (pr_node (pr_leaf (pr_ic _ _)) (pr_leaf (pr_zret))) (pr_node (pr_leaf (pr_mask (pr_al _ _))) (pr_leaf (pr_al _ _)))) (pr_node (pr_node (pr_leaf (pr_il _ _)) (pr_leaf (pr_ic _ _))) (pr_node (pr_leaf (pr_iadd _)) (pr_leaf (pr_iald _))))))) (pr_node (pr_node (pr_node (pr_node (pr_leaf (pr_al _ _)) (pr_node (pr_leaf (pr_il _ _)) (pr_leaf (pr_ic _ _)))) (pr_node (pr_node (pr_leaf (pr_iadd _)) (pr_leaf (pr_iald _))) (pr_node (pr_leaf (pr_al _ _)) (pr_leaf (pr_il _ _))))) (pr_node (pr_node (pr_node (pr_leaf (pr_ic _ _)) (pr_leaf (pr_iadd _))) (pr_node (pr_leaf (pr_iald _)) (pr_leaf (pr_inv _ _ _ GX11_game _)))) (pr_node (pr_node (pr_leaf (pr_al _ _)) (pr_leaf (pr_al _ _))) (pr_node (pr_leaf (pr_il _ _)) (pr_leaf (pr_ic _ _)))))) (pr_node (pr_node (pr_node (pr_node (pr_leaf (pr_iadd _)) (pr_leaf (pr_iald _))) (pr_node (pr_leaf (pr_al _ _)) (pr_leaf (pr_il _ _)))) (pr_node (pr_node (pr_leaf (pr_ic _ _)) (pr_leaf (pr_iadd _))) (pr_node (pr_leaf (pr_iald _)) (pr_leaf (pr_al _ _))))) (pr_node (pr_node (pr_node (pr_leaf (pr_il _ _)) (pr_leaf (pr_ic _ _))) (pr_node (pr_leaf (pr_iadd _)) (pr_leaf (pr_iald _)))) (pr_node (pr_node (pr_leaf (pr_inv _ _ _ GX12_game _)) (pr_leaf (pr_ceq _ _))) (pr_node (pr_leaf (pr_ic _ _)) (pr_leaf (pr_zret)))))))))) (pr_node (pr_node (pr_node (pr_node (pr_node (pr_node (pr_node (pr_leaf (pr_mask (pr_al _ _))) (pr_node (pr_leaf (pr_al _ _)) (pr_leaf (pr_il _ _)))) (pr_node (pr_node (pr_leaf (pr_ic _ _)) (pr_leaf (pr_iadd _))) (pr_node (pr_leaf (pr_iald _)) (pr_leaf (pr_inv _ _ _ GX11_rests _))))) (pr_node (pr_node (pr_node (pr_leaf (pr_al _ _)) (pr_leaf (pr_al _ _))) (pr_node (pr_leaf (pr_il _ _)) (pr_leaf (pr_ic _ _)))) (pr_node (pr_node (pr_leaf (pr_iadd _)) (pr_leaf (pr_iald _))) (pr_node (pr_leaf (pr_inv _ _ _ GX12_rests _)) (pr_leaf (pr_ceq _ _)))))) (pr_node (pr_node (pr_node (pr_leaf (pr_ic _ _)) (pr_node (pr_leaf (pr_zret)) (pr_leaf (pr_mask (pr_al _ _))))) (pr_node (pr_node (pr_leaf (pr_al _ _)) (pr_leaf (pr_il _ _))) (pr_node (pr_leaf (pr_ic _ _)) (pr_leaf (pr_iadd _))))) (pr_node (pr_node (pr_node (pr_leaf (pr_iald _)) (pr_leaf (pr_al _ _))) (pr_node (pr_leaf (pr_il _ _)) (pr_leaf (pr_ic _ _)))) (pr_node (pr_node (pr_leaf (pr_iadd _)) (pr_leaf (pr_iald _))) (pr_node (pr_leaf (pr_zeq _ _)) (pr_leaf (pr_ic _ _))))))) (pr_node (pr_node (pr_node (pr_node (pr_leaf (pr_goto _)) (pr_node (pr_leaf (pr_ic _ _)) (pr_leaf (pr_inv _ _ _ GX11_test _)))) (pr_node (pr_node (pr_leaf (pr_al _ _)) (pr_leaf (pr_al _ _))) (pr_node (pr_leaf (pr_il _ _)) (pr_leaf (pr_ic _ _))))) (pr_node (pr_node (pr_node (pr_leaf (pr_iadd _)) (pr_leaf (pr_iald _))) (pr_node (pr_leaf (pr_al _ _)) (pr_leaf (pr_il _ _)))) (pr_node (pr_node (pr_leaf (pr_ic _ _)) (pr_leaf (pr_iadd _))) (pr_node (pr_leaf (pr_iald _)) (pr_leaf (pr_zeq _ _)))))) (pr_node (pr_node (pr_node (pr_node (pr_leaf (pr_ic _ _)) (pr_leaf (pr_goto _))) (pr_node (pr_leaf (pr_ic _ _)) (pr_leaf (pr_inv _ _ _ GX12_test _)))) (pr_node (pr_node (pr_leaf (pr_ceq _ _)) (pr_leaf (pr_ic _ _))) (pr_node (pr_leaf (pr_zret)) (pr_leaf (pr_mask (pr_al _ _)))))) (pr_node (pr_node (pr_node (pr_leaf (pr_inv _ _ _ GX11_crane _)) (pr_leaf (pr_al _ _))) (pr_node (pr_leaf (pr_inv _ _ _ GX12_crane _)) (pr_leaf (pr_ceq _ _)))) (pr_node (pr_node (pr_leaf (pr_ic _ _)) (pr_leaf (pr_zret))) (pr_node (pr_leaf (pr_mask (pr_al _ _))) (pr_leaf (pr_al _ _)))))))) (pr_node (pr_node (pr_node (pr_node (pr_node (pr_leaf (pr_il _ _)) (pr_node (pr_leaf (pr_ic _ _)) (pr_leaf (pr_iadd _)))) (pr_node (pr_node (pr_leaf (pr_iald _)) (pr_leaf (pr_al _ _))) (pr_node (pr_leaf (pr_il _ _)) (pr_leaf (pr_ic _ _))))) (pr_node (pr_node (pr_node (pr_leaf (pr_iadd _)) (pr_leaf (pr_iald _))) (pr_node (pr_leaf (pr_al _ _)) (pr_leaf (pr_il _ _)))) (pr_node (pr_node (pr_leaf (pr_ic _ _)) (pr_leaf (pr_iadd _))) (pr_node (pr_leaf (pr_iald _)) (pr_leaf (pr_zeq _ _)))))) (pr_node (pr_node (pr_node (pr_leaf (pr_ic _ _)) (pr_node (pr_leaf (pr_goto _)) (pr_leaf (pr_ic _ _)))) (pr_node (pr_node (pr_leaf (pr_inv _ _ _ GX11_sign _)) (pr_leaf (pr_al _ _))) (pr_node (pr_leaf (pr_al _ _)) (pr_leaf (pr_il _ _))))) (pr_node (pr_node (pr_node (pr_leaf (pr_ic _ _)) (pr_leaf (pr_iadd _))) (pr_node (pr_leaf (pr_iald _)) (pr_leaf (pr_al _ _)))) (pr_node (pr_node (pr_leaf (pr_il _ _)) (pr_leaf (pr_ic _ _))) (pr_node (pr_leaf (pr_iadd _)) (pr_leaf (pr_iald _))))))) (pr_node (pr_node (pr_node (pr_node (pr_leaf (pr_al _ _)) (pr_node (pr_leaf (pr_il _ _)) (pr_leaf (pr_ic _ _)))) (pr_node (pr_node (pr_leaf (pr_iadd _)) (pr_leaf (pr_iald _))) (pr_node (pr_leaf (pr_zeq _ _)) (pr_leaf (pr_ic _ _))))) (pr_node (pr_node (pr_node (pr_leaf (pr_goto _)) (pr_leaf (pr_ic _ _))) (pr_node (pr_leaf (pr_inv _ _ _ GX12_sign _)) (pr_leaf (pr_ceq _ _)))) (pr_node (pr_node (pr_leaf (pr_ic _ _)) (pr_leaf (pr_zret))) (pr_node (pr_leaf (pr_mask (pr_al _ _))) (pr_leaf (pr_al _ _)))))) (pr_node (pr_node (pr_node (pr_node (pr_leaf (pr_il _ _)) (pr_leaf (pr_ic _ _))) (pr_node (pr_leaf (pr_iadd _)) (pr_leaf (pr_iald _)))) (pr_node (pr_node (pr_leaf (pr_inv _ _ _ GX11_from _)) (pr_leaf (pr_al _ _))) (pr_node (pr_leaf (pr_al _ _)) (pr_leaf (pr_il _ _))))) (pr_node (pr_node (pr_node (pr_leaf (pr_ic _ _)) (pr_leaf (pr_iadd _))) (pr_node (pr_leaf (pr_iald _)) (pr_leaf (pr_inv _ _ _ GX12_from _)))) (pr_node (pr_node (pr_leaf (pr_ceq _ _)) (pr_leaf (pr_ic _ _))) (pr_node (pr_leaf (pr_zret)) (pr_leaf (pr_mask (pr_al _ _)))))))))) (pr_node (pr_node (pr_node (pr_node (pr_node (pr_node (pr_leaf (pr_inv _ _ _ GX11_ask _)) (pr_node (pr_leaf (pr_al _ _)) (pr_leaf (pr_inv _ _ _ GX12_ask _)))) (pr_node (pr_node (pr_leaf (pr_ceq _ _)) (pr_leaf (pr_ic _ _))) (pr_node (pr_leaf (pr_zret)) (pr_leaf (pr_mask (pr_al _ _)))))) (pr_node (pr_node (pr_node (pr_leaf (pr_al _ _)) (pr_leaf (pr_il _ _))) (pr_node (pr_leaf (pr_ic _ _)) (pr_leaf (pr_iadd _)))) (pr_node (pr_node (pr_leaf (pr_iald _)) (pr_leaf (pr_al _ _))) (pr_node (pr_leaf (pr_il _ _)) (pr_leaf (pr_ic _ _)))))) (pr_node (pr_node (pr_node (pr_leaf (pr_iadd _)) (pr_node (pr_leaf (pr_iald _)) (pr_leaf (pr_inv _ _ _ GX11_odds _)))) (pr_node (pr_node (pr_leaf (pr_al _ _)) (pr_leaf (pr_al _ _))) (pr_node (pr_leaf (pr_il _ _)) (pr_leaf (pr_ic _ _))))) (pr_node (pr_node (pr_node (pr_leaf (pr_iadd _)) (pr_leaf (pr_iald _))) (pr_node (pr_leaf (pr_al _ _)) (pr_leaf (pr_il _ _)))) (pr_node (pr_node (pr_leaf (pr_ic _ _)) (pr_leaf (pr_iadd _))) (pr_node (pr_leaf (pr_iald _)) (pr_leaf (pr_inv _ _ _ GX12_odds _))))))) (pr_node (pr_node (pr_node (pr_node (pr_leaf (pr_ceq _ _)) (pr_node (pr_leaf (pr_ic _ _)) (pr_leaf (pr_zret)))) (pr_node (pr_node (pr_leaf (pr_mask (pr_al _ _))) (pr_leaf (pr_al _ _))) (pr_node (pr_leaf (pr_il _ _)) (pr_leaf (pr_ic _ _))))) (pr_node (pr_node (pr_node (pr_leaf (pr_iadd _)) (pr_leaf (pr_iald _))) (pr_node (pr_leaf (pr_inv _ _ _ GX11_owed _)) (pr_leaf (pr_al _ _)))) (pr_node (pr_node (pr_leaf (pr_al _ _)) (pr_leaf (pr_il _ _))) (pr_node (pr_leaf (pr_ic _ _)) (pr_leaf (pr_iadd _)))))) (pr_node (pr_node (pr_node (pr_node (pr_leaf (pr_iald _)) (pr_leaf (pr_inv _ _ _ GX12_owed _))) (pr_node (pr_leaf (pr_ceq _ _)) (pr_leaf (pr_ic _ _)))) (pr_node (pr_node (pr_leaf (pr_zret)) (pr_leaf (pr_mask (pr_al _ _)))) (pr_node (pr_leaf (pr_al _ _)) (pr_leaf (pr_il _ _))))) (pr_node (pr_node (pr_node (pr_leaf (pr_ic _ _)) (pr_leaf (pr_iadd _))) (pr_node (pr_leaf (pr_iald _)) (pr_leaf (pr_inv _ _ _ GX11_bears _)))) (pr_node (pr_node (pr_leaf (pr_al _ _)) (pr_leaf (pr_al _ _))) (pr_node (pr_leaf (pr_il _ _)) (pr_leaf (pr_ic _ _)))))))) (pr_node (pr_node (pr_node (pr_node (pr_node (pr_leaf (pr_iadd _)) (pr_node (pr_leaf (pr_iald _)) (pr_leaf (pr_inv _ _ _ GX12_bears _)))) (pr_node (pr_node (pr_leaf (pr_ceq _ _)) (pr_leaf (pr_ic _ _))) (pr_node (pr_leaf (pr_zret)) (pr_leaf (pr_mask (pr_al _ _)))))) (pr_node (pr_node (pr_node (pr_leaf (pr_inv _ _ _ GX11_best _)) (pr_leaf (pr_al _ _))) (pr_node (pr_leaf (pr_inv _ _ _ GX12_best _)) (pr_leaf (pr_ceq _ _)))) (pr_node (pr_node (pr_leaf (pr_ic _ _)) (pr_leaf (pr_zret))) (pr_node (pr_leaf (pr_mask (pr_al _ _))) (pr_leaf (pr_inv _ _ _ GX11_thin _)))))) (pr_node (pr_node (pr_node (pr_node (pr_leaf (pr_al _ _)) (pr_leaf (pr_inv _ _ _ GX12_thin _))) (pr_node (pr_leaf (pr_ceq _ _)) (pr_leaf (pr_ic _ _)))) (pr_node (pr_node (pr_leaf (pr_zret)) (pr_leaf (pr_mask (pr_al _ _)))) (pr_node (pr_leaf (pr_inv _ _ _ GX11_weaves _)) (pr_leaf (pr_al _ _))))) (pr_node (pr_node (pr_node (pr_leaf (pr_inv _ _ _ GX12_weaves _)) (pr_leaf (pr_ceq _ _))) (pr_node (pr_leaf (pr_ic _ _)) (pr_leaf (pr_zret)))) (pr_node (pr_node (pr_leaf (pr_mask (pr_al _ _))) (pr_leaf (pr_inv _ _ _ GX11_image _))) (pr_node (pr_leaf (pr_al _ _)) (pr_leaf (pr_inv _ _ _ GX12_image _))))))) (pr_node (pr_node (pr_node (pr_node (pr_leaf (pr_ceq _ _)) (pr_node (pr_leaf (pr_ic _ _)) (pr_leaf (pr_zret)))) (pr_node (pr_node (pr_leaf (pr_mask (pr_al _ _))) (pr_leaf (pr_inv _ _ _ GX11_back _))) (pr_node (pr_leaf (pr_al _ _)) (pr_leaf (pr_inv _ _ _ GX12_back _))))) (pr_node (pr_node (pr_node (pr_leaf (pr_ceq _ _)) (pr_leaf (pr_ic _ _))) (pr_node (pr_leaf (pr_zret)) (pr_leaf (pr_mask (pr_al _ _))))) (pr_node (pr_node (pr_leaf (pr_al _ _)) (pr_leaf (pr_il _ _))) (pr_node (pr_leaf (pr_ic _ _)) (pr_leaf (pr_iadd _)))))) (pr_node (pr_node (pr_node (pr_node (pr_leaf (pr_iald _)) (pr_leaf (pr_inv _ _ _ GX11_count _))) (pr_node (pr_leaf (pr_al _ _)) (pr_leaf (pr_al _ _)))) (pr_node (pr_node (pr_leaf (pr_il _ _)) (pr_leaf (pr_ic _ _))) (pr_node (pr_leaf (pr_iadd _)) (pr_leaf (pr_iald _))))) (pr_node (pr_node (pr_node (pr_leaf (pr_inv _ _ _ GX12_count _)) (pr_leaf (pr_ceq _ _))) (pr_node (pr_leaf (pr_ic _ _)) (pr_leaf (pr_zret)))) (pr_node (pr_node (pr_leaf (pr_mask (pr_inc _ _ _))) (pr_leaf (pr_goto _))) (pr_node (pr_leaf (pr_ic _ _)) (pr_leaf (pr_zret))))))))))))
noncomputable def FL_law : List EV → Hp → Option (RV × Hp) := Fm kL_law 7
