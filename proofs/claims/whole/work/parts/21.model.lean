/-! ===== the reference: the rest ===== -/
theorem wm_RX12_317 : Cond.methodLink RX12 317 Lib.Math.min.name ∈ bigW := big_mem 1639 (by decide +kernel) (by decide +kernel)
theorem wm_RX12_319 : Cond.methodLink RX12 319 Lib.Math.max.name ∈ bigW := big_mem 1640 (by decide +kernel) (by decide +kernel)
theorem wm_RX12_321 : Cond.methodLink RX12 321 yX12_takesBy ∈ bigW := big_mem 1635 (by decide +kernel) (by decide +kernel)
theorem wc_X12_takesBy : Cond.code yX12_takesBy cX12_takesBy 7 (some .int) ∈ bigW := big_mem 1638 (by decide +kernel) (by decide +kernel)
theorem win_X12_takesBy : Cond.instanceMethod yX12_takesBy ∈ bigW := big_mem 1637 (by decide +kernel) (by decide +kernel)
theorem wse_X12_takesBy : Cond.selects (clR 12) yX12_takesBy yX12_takesBy ∈ bigW := big_mem 63 (by decide +kernel) (by decide +kernel)
theorem wm_RX12_325 : Cond.methodLink RX12 325 yX12_takes_ ∈ bigW := big_mem 1631 (by decide +kernel) (by decide +kernel)
theorem wc_X12_takes_ : Cond.code yX12_takes_ cX12_takes_ 2 (some .int) ∈ bigW := big_mem 1634 (by decide +kernel) (by decide +kernel)
theorem win_X12_takes_ : Cond.instanceMethod yX12_takes_ ∈ bigW := big_mem 1633 (by decide +kernel) (by decide +kernel)
theorem wse_X12_takes_ : Cond.selects (clR 12) yX12_takes_ yX12_takes_ ∈ bigW := big_mem 62 (by decide +kernel) (by decide +kernel)
theorem wm_RX12_328 : Cond.methodLink RX12 328 yX12_canWeave ∈ bigW := big_mem 1692 (by decide +kernel) (by decide +kernel)
theorem wc_X12_canWeave : Cond.code yX12_canWeave cX12_canWeave 2 (some .boolean) ∈ bigW := big_mem 1695 (by decide +kernel) (by decide +kernel)
theorem win_X12_canWeave : Cond.instanceMethod yX12_canWeave ∈ bigW := big_mem 1694 (by decide +kernel) (by decide +kernel)
theorem wse_X12_canWeave : Cond.selects (clR 12) yX12_canWeave yX12_canWeave ∈ bigW := big_mem 71 (by decide +kernel) (by decide +kernel)
theorem wm_RX12_332 : Cond.methodLink RX12 332 yX12_weavesOne ∈ bigW := big_mem 1704 (by decide +kernel) (by decide +kernel)
theorem wc_X12_weavesOne : Cond.code yX12_weavesOne cX12_weavesOne 4 none ∈ bigW := big_mem 1707 (by decide +kernel) (by decide +kernel)
theorem win_X12_weavesOne : Cond.instanceMethod yX12_weavesOne ∈ bigW := big_mem 1706 (by decide +kernel) (by decide +kernel)
theorem wse_X12_weavesOne : Cond.selects (clR 12) yX12_weavesOne yX12_weavesOne ∈ bigW := big_mem 74 (by decide +kernel) (by decide +kernel)
theorem wm_RX12_336 : Cond.methodLink RX12 336 yX12_debtOn ∈ bigW := big_mem 1654 (by decide +kernel) (by decide +kernel)
theorem wc_X12_debtOn : Cond.code yX12_debtOn cX12_debtOn 3 (some .int) ∈ bigW := big_mem 1657 (by decide +kernel) (by decide +kernel)
theorem win_X12_debtOn : Cond.instanceMethod yX12_debtOn ∈ bigW := big_mem 1656 (by decide +kernel) (by decide +kernel)
theorem wse_X12_debtOn : Cond.selects (clR 12) yX12_debtOn yX12_debtOn ∈ bigW := big_mem 66 (by decide +kernel) (by decide +kernel)
theorem wk_RX12_339 : Cond.constantLong RX12 339 (6) ∈ bigW := big_mem 1630 (by decide +kernel) (by decide +kernel)
theorem wm_RX12_341 : Cond.methodLink RX12 341 yX12_isDebt ∈ bigW := big_mem 1645 (by decide +kernel) (by decide +kernel)
theorem wc_X12_isDebt : Cond.code yX12_isDebt cX12_isDebt 2 (some .boolean) ∈ bigW := big_mem 1648 (by decide +kernel) (by decide +kernel)
theorem win_X12_isDebt : Cond.instanceMethod yX12_isDebt ∈ bigW := big_mem 1647 (by decide +kernel) (by decide +kernel)
theorem wse_X12_isDebt : Cond.selects (clR 12) yX12_isDebt yX12_isDebt ∈ bigW := big_mem 64 (by decide +kernel) (by decide +kernel)
theorem wk_RX12_344 : Cond.constantLong RX12 344 (4) ∈ bigW := big_mem 1649 (by decide +kernel) (by decide +kernel)
theorem wm_RX12_346 : Cond.methodLink RX12 346 yX12_debtNow ∈ bigW := big_mem 1650 (by decide +kernel) (by decide +kernel)
theorem wc_X12_debtNow : Cond.code yX12_debtNow cX12_debtNow 3 (some .int) ∈ bigW := big_mem 1653 (by decide +kernel) (by decide +kernel)
theorem win_X12_debtNow : Cond.instanceMethod yX12_debtNow ∈ bigW := big_mem 1652 (by decide +kernel) (by decide +kernel)
theorem wse_X12_debtNow : Cond.selects (clR 12) yX12_debtNow yX12_debtNow ∈ bigW := big_mem 65 (by decide +kernel) (by decide +kernel)
theorem wm_RX12_350 : Cond.methodLink RX12 350 yX12_isBuyer ∈ bigW := big_mem 1662 (by decide +kernel) (by decide +kernel)
theorem wc_X12_isBuyer : Cond.code yX12_isBuyer cX12_isBuyer 2 (some .boolean) ∈ bigW := big_mem 1665 (by decide +kernel) (by decide +kernel)
theorem win_X12_isBuyer : Cond.instanceMethod yX12_isBuyer ∈ bigW := big_mem 1664 (by decide +kernel) (by decide +kernel)
theorem wse_X12_isBuyer : Cond.selects (clR 12) yX12_isBuyer yX12_isBuyer ∈ bigW := big_mem 67 (by decide +kernel) (by decide +kernel)
theorem wk_RX12_353 : Cond.constantLong RX12 353 (3) ∈ bigW := big_mem 1666 (by decide +kernel) (by decide +kernel)
theorem wm_RX12_355 : Cond.methodLink RX12 355 yX12_wants ∈ bigW := big_mem 1667 (by decide +kernel) (by decide +kernel)
theorem wc_X12_wants : Cond.code yX12_wants cX12_wants 3 (some .int) ∈ bigW := big_mem 1670 (by decide +kernel) (by decide +kernel)
theorem win_X12_wants : Cond.instanceMethod yX12_wants ∈ bigW := big_mem 1669 (by decide +kernel) (by decide +kernel)
theorem wse_X12_wants : Cond.selects (clR 12) yX12_wants yX12_wants ∈ bigW := big_mem 68 (by decide +kernel) (by decide +kernel)
theorem wk_RX12_358 : Cond.constantLong RX12 358 (9) ∈ bigW := big_mem 1679 (by decide +kernel) (by decide +kernel)
theorem wm_RX12_360 : Cond.methodLink RX12 360 yX12_mayPass ∈ bigW := big_mem 1684 (by decide +kernel) (by decide +kernel)
theorem wc_X12_mayPass : Cond.code yX12_mayPass cX12_mayPass 3 (some .boolean) ∈ bigW := big_mem 1687 (by decide +kernel) (by decide +kernel)
theorem win_X12_mayPass : Cond.instanceMethod yX12_mayPass ∈ bigW := big_mem 1686 (by decide +kernel) (by decide +kernel)
theorem wse_X12_mayPass : Cond.selects (clR 12) yX12_mayPass yX12_mayPass ∈ bigW := big_mem 69 (by decide +kernel) (by decide +kernel)
theorem wm_RX12_364 : Cond.methodLink RX12 364 yX12_canDo ∈ bigW := big_mem 1688 (by decide +kernel) (by decide +kernel)
theorem wc_X12_canDo : Cond.code yX12_canDo cX12_canDo 3 (some .boolean) ∈ bigW := big_mem 1691 (by decide +kernel) (by decide +kernel)
theorem win_X12_canDo : Cond.instanceMethod yX12_canDo ∈ bigW := big_mem 1690 (by decide +kernel) (by decide +kernel)
theorem wse_X12_canDo : Cond.selects (clR 12) yX12_canDo yX12_canDo ∈ bigW := big_mem 70 (by decide +kernel) (by decide +kernel)
theorem wm_RX12_367 : Cond.methodLink RX12 367 yX12_remember ∈ bigW := big_mem 1696 (by decide +kernel) (by decide +kernel)
theorem wc_X12_remember : Cond.code yX12_remember cX12_remember 2 none ∈ bigW := big_mem 1699 (by decide +kernel) (by decide +kernel)
theorem win_X12_remember : Cond.instanceMethod yX12_remember ∈ bigW := big_mem 1698 (by decide +kernel) (by decide +kernel)
theorem wse_X12_remember : Cond.selects (clR 12) yX12_remember yX12_remember ∈ bigW := big_mem 72 (by decide +kernel) (by decide +kernel)
theorem wm_RX12_370 : Cond.methodLink RX12 370 yX12_goWeek ∈ bigW := big_mem 1700 (by decide +kernel) (by decide +kernel)
theorem wc_X12_goWeek : Cond.code yX12_goWeek cX12_goWeek 4 none ∈ bigW := big_mem 1703 (by decide +kernel) (by decide +kernel)
theorem win_X12_goWeek : Cond.instanceMethod yX12_goWeek ∈ bigW := big_mem 1702 (by decide +kernel) (by decide +kernel)
theorem wse_X12_goWeek : Cond.selects (clR 12) yX12_goWeek yX12_goWeek ∈ bigW := big_mem 73 (by decide +kernel) (by decide +kernel)
theorem wm_RX12_374 : Cond.methodLink RX12 374 yX12_cuts ∈ bigW := big_mem 1712 (by decide +kernel) (by decide +kernel)
theorem wc_X12_cuts : Cond.code yX12_cuts cX12_cuts 1 none ∈ bigW := big_mem 1714 (by decide +kernel) (by decide +kernel)
theorem wst_X12_cuts : Cond.static yX12_cuts ∈ bigW := big_mem 1713 (by decide +kernel) (by decide +kernel)
theorem wny_X12_cuts : Cond.initialized yX12_cuts.cls ∈ bigW := big_mem 108 (by decide +kernel) (by decide +kernel)
theorem wm_RX12_377 : Cond.methodLink RX12 377 yX12_canSell ∈ bigW := big_mem 1719 (by decide +kernel) (by decide +kernel)
theorem wc_X12_canSell : Cond.code yX12_canSell cX12_canSell 4 (some .boolean) ∈ bigW := big_mem 1722 (by decide +kernel) (by decide +kernel)
theorem win_X12_canSell : Cond.instanceMethod yX12_canSell ∈ bigW := big_mem 1721 (by decide +kernel) (by decide +kernel)
theorem wse_X12_canSell : Cond.selects (clR 12) yX12_canSell yX12_canSell ∈ bigW := big_mem 75 (by decide +kernel) (by decide +kernel)
theorem wm_RX12_381 : Cond.methodLink RX12 381 yX12_sells ∈ bigW := big_mem 1723 (by decide +kernel) (by decide +kernel)
theorem wc_X12_sells : Cond.code yX12_sells cX12_sells 4 none ∈ bigW := big_mem 1726 (by decide +kernel) (by decide +kernel)
theorem win_X12_sells : Cond.instanceMethod yX12_sells ∈ bigW := big_mem 1725 (by decide +kernel) (by decide +kernel)
theorem wse_X12_sells : Cond.selects (clR 12) yX12_sells yX12_sells ∈ bigW := big_mem 76 (by decide +kernel) (by decide +kernel)
theorem wm_RX12_385 : Cond.methodLink RX12 385 yX12_canPay ∈ bigW := big_mem 1731 (by decide +kernel) (by decide +kernel)
theorem wc_X12_canPay : Cond.code yX12_canPay cX12_canPay 3 (some .boolean) ∈ bigW := big_mem 1734 (by decide +kernel) (by decide +kernel)
theorem win_X12_canPay : Cond.instanceMethod yX12_canPay ∈ bigW := big_mem 1733 (by decide +kernel) (by decide +kernel)
theorem wse_X12_canPay : Cond.selects (clR 12) yX12_canPay yX12_canPay ∈ bigW := big_mem 77 (by decide +kernel) (by decide +kernel)
theorem wm_RX12_388 : Cond.methodLink RX12 388 yX12_pays ∈ bigW := big_mem 1735 (by decide +kernel) (by decide +kernel)
theorem wc_X12_pays : Cond.code yX12_pays cX12_pays 3 none ∈ bigW := big_mem 1738 (by decide +kernel) (by decide +kernel)
theorem win_X12_pays : Cond.instanceMethod yX12_pays ∈ bigW := big_mem 1737 (by decide +kernel) (by decide +kernel)
theorem wse_X12_pays : Cond.selects (clR 12) yX12_pays yX12_pays ∈ bigW := big_mem 78 (by decide +kernel) (by decide +kernel)
theorem wk_RX12_391 : Cond.constantLong RX12 391 (99) ∈ bigW := big_mem 1747 (by decide +kernel) (by decide +kernel)
theorem wf_RX12_393 : Cond.fieldLink RX12 393 (clT 12 38).1 (clT 12 38).2.1 (clT 12 38).2.2.1 ∈ bigW := big_mem 1292 (by decide +kernel) (by decide +kernel)
theorem wk_RX12_397 : Cond.constantLong RX12 397 (6364136223846793005) ∈ bigW := big_mem 1757 (by decide +kernel) (by decide +kernel)
theorem wk_RX12_399 : Cond.constantLong RX12 399 (1442695040888963407) ∈ bigW := big_mem 1758 (by decide +kernel) (by decide +kernel)
theorem wk_RX12_401 : Cond.constantLong RX12 401 (60) ∈ bigW := big_mem 1752 (by decide +kernel) (by decide +kernel)
theorem wm_RX12_403 : Cond.methodLink RX12 403 yX12_draw ∈ bigW := big_mem 1753 (by decide +kernel) (by decide +kernel)
theorem wc_X12_draw : Cond.code yX12_draw cX12_draw 2 (some .int) ∈ bigW := big_mem 1756 (by decide +kernel) (by decide +kernel)
theorem win_X12_draw : Cond.instanceMethod yX12_draw ∈ bigW := big_mem 1755 (by decide +kernel) (by decide +kernel)
theorem wse_X12_draw : Cond.selects (clR 12) yX12_draw yX12_draw ∈ bigW := big_mem 79 (by decide +kernel) (by decide +kernel)
theorem wm_RX12_406 : Cond.methodLink RX12 406 yX12_page ∈ bigW := big_mem 1771 (by decide +kernel) (by decide +kernel)
theorem wc_X12_page : Cond.code yX12_page cX12_page 3 (some .int) ∈ bigW := big_mem 1774 (by decide +kernel) (by decide +kernel)
theorem win_X12_page : Cond.instanceMethod yX12_page ∈ bigW := big_mem 1773 (by decide +kernel) (by decide +kernel)
theorem wse_X12_page : Cond.selects (clR 12) yX12_page yX12_page ∈ bigW := big_mem 80 (by decide +kernel) (by decide +kernel)
theorem wm_RX12_409 : Cond.methodLink RX12 409 yX12_isPlan ∈ bigW := big_mem 1779 (by decide +kernel) (by decide +kernel)
theorem wc_X12_isPlan : Cond.code yX12_isPlan cX12_isPlan 2 (some .boolean) ∈ bigW := big_mem 1782 (by decide +kernel) (by decide +kernel)
theorem win_X12_isPlan : Cond.instanceMethod yX12_isPlan ∈ bigW := big_mem 1781 (by decide +kernel) (by decide +kernel)
theorem wse_X12_isPlan : Cond.selects (clR 12) yX12_isPlan yX12_isPlan ∈ bigW := big_mem 81 (by decide +kernel) (by decide +kernel)
theorem wk_RX12_412 : Cond.constant RX12 412 (-1000000) ∈ bigW := big_mem 1783 (by decide +kernel) (by decide +kernel)
theorem wm_RX12_413 : Cond.methodLink RX12 413 yX12_copy ∈ bigW := big_mem 1788 (by decide +kernel) (by decide +kernel)
theorem wc_X12_copy : Cond.code yX12_copy cX12_copy 4 none ∈ bigW := big_mem 1790 (by decide +kernel) (by decide +kernel)
theorem wst_X12_copy : Cond.static yX12_copy ∈ bigW := big_mem 1789 (by decide +kernel) (by decide +kernel)
theorem wny_X12_copy : Cond.initialized yX12_copy.cls ∈ bigW := big_mem 108 (by decide +kernel) (by decide +kernel)
theorem wm_RX12_417 : Cond.methodLink RX12 417 yX12_canStep ∈ bigW := big_mem 1791 (by decide +kernel) (by decide +kernel)
theorem wc_X12_canStep : Cond.code yX12_canStep cX12_canStep 4 (some .boolean) ∈ bigW := big_mem 1794 (by decide +kernel) (by decide +kernel)
theorem win_X12_canStep : Cond.instanceMethod yX12_canStep ∈ bigW := big_mem 1793 (by decide +kernel) (by decide +kernel)
theorem wse_X12_canStep : Cond.selects (clR 12) yX12_canStep yX12_canStep ∈ bigW := big_mem 82 (by decide +kernel) (by decide +kernel)
theorem wm_RX12_420 : Cond.methodLink RX12 420 yX12_steps ∈ bigW := big_mem 1795 (by decide +kernel) (by decide +kernel)
theorem wc_X12_steps : Cond.code yX12_steps cX12_steps 4 none ∈ bigW := big_mem 1798 (by decide +kernel) (by decide +kernel)
theorem win_X12_steps : Cond.instanceMethod yX12_steps ∈ bigW := big_mem 1797 (by decide +kernel) (by decide +kernel)
theorem wse_X12_steps : Cond.selects (clR 12) yX12_steps yX12_steps ∈ bigW := big_mem 83 (by decide +kernel) (by decide +kernel)
theorem wf_RX12_423 : Cond.fieldLink RX12 423 (clT 12 39).1 (clT 12 39).2.1 (clT 12 39).2.2.1 ∈ bigW := big_mem 1293 (by decide +kernel) (by decide +kernel)
theorem wf_RX12_426 : Cond.fieldLink RX12 426 (clT 12 40).1 (clT 12 40).2.1 (clT 12 40).2.2.1 ∈ bigW := big_mem 1294 (by decide +kernel) (by decide +kernel)
theorem wm_RX12_429 : Cond.methodLink RX12 429 yX12_goWeaving ∈ bigW := big_mem 1808 (by decide +kernel) (by decide +kernel)
theorem wc_X12_goWeaving : Cond.code yX12_goWeaving cX12_goWeaving 18 none ∈ bigW := big_mem 1811 (by decide +kernel) (by decide +kernel)
theorem win_X12_goWeaving : Cond.instanceMethod yX12_goWeaving ∈ bigW := big_mem 1810 (by decide +kernel) (by decide +kernel)
theorem wse_X12_goWeaving : Cond.selects (clR 12) yX12_goWeaving yX12_goWeaving ∈ bigW := big_mem 84 (by decide +kernel) (by decide +kernel)
theorem wk_RX12_433 : Cond.constantLong RX12 433 (8) ∈ bigW := big_mem 1807 (by decide +kernel) (by decide +kernel)
theorem wm_RX12_435 : Cond.methodLink RX12 435 yX12_spot ∈ bigW := big_mem 1820 (by decide +kernel) (by decide +kernel)
theorem wc_X12_spot : Cond.code yX12_spot cX12_spot 3 (some .int) ∈ bigW := big_mem 1822 (by decide +kernel) (by decide +kernel)
theorem wst_X12_spot : Cond.static yX12_spot ∈ bigW := big_mem 1821 (by decide +kernel) (by decide +kernel)
theorem wny_X12_spot : Cond.initialized yX12_spot.cls ∈ bigW := big_mem 108 (by decide +kernel) (by decide +kernel)
theorem wm_RX12_439 : Cond.methodLink RX12 439 yX12_reaches ∈ bigW := big_mem 1827 (by decide +kernel) (by decide +kernel)
theorem wc_X12_reaches : Cond.code yX12_reaches cX12_reaches 4 none ∈ bigW := big_mem 1830 (by decide +kernel) (by decide +kernel)
theorem win_X12_reaches : Cond.instanceMethod yX12_reaches ∈ bigW := big_mem 1829 (by decide +kernel) (by decide +kernel)
theorem wse_X12_reaches : Cond.selects (clR 12) yX12_reaches yX12_reaches ∈ bigW := big_mem 86 (by decide +kernel) (by decide +kernel)
theorem wm_RX12_443 : Cond.methodLink RX12 443 yX12_goSoon ∈ bigW := big_mem 1823 (by decide +kernel) (by decide +kernel)
theorem wc_X12_goSoon : Cond.code yX12_goSoon cX12_goSoon 7 none ∈ bigW := big_mem 1826 (by decide +kernel) (by decide +kernel)
theorem win_X12_goSoon : Cond.instanceMethod yX12_goSoon ∈ bigW := big_mem 1825 (by decide +kernel) (by decide +kernel)
theorem wse_X12_goSoon : Cond.selects (clR 12) yX12_goSoon yX12_goSoon ∈ bigW := big_mem 85 (by decide +kernel) (by decide +kernel)
theorem wm_RX12_447 : Cond.methodLink RX12 447 yX12_hasWoven ∈ bigW := big_mem 1831 (by decide +kernel) (by decide +kernel)
theorem wc_X12_hasWoven : Cond.code yX12_hasWoven cX12_hasWoven 4 (some .boolean) ∈ bigW := big_mem 1834 (by decide +kernel) (by decide +kernel)
theorem win_X12_hasWoven : Cond.instanceMethod yX12_hasWoven ∈ bigW := big_mem 1833 (by decide +kernel) (by decide +kernel)
theorem wse_X12_hasWoven : Cond.selects (clR 12) yX12_hasWoven yX12_hasWoven ∈ bigW := big_mem 87 (by decide +kernel) (by decide +kernel)
theorem wm_RX12_450 : Cond.methodLink RX12 450 yX12_isOpen ∈ bigW := big_mem 1839 (by decide +kernel) (by decide +kernel)
theorem wc_X12_isOpen : Cond.code yX12_isOpen cX12_isOpen 2 (some .boolean) ∈ bigW := big_mem 1842 (by decide +kernel) (by decide +kernel)
theorem win_X12_isOpen : Cond.instanceMethod yX12_isOpen ∈ bigW := big_mem 1841 (by decide +kernel) (by decide +kernel)
theorem wse_X12_isOpen : Cond.selects (clR 12) yX12_isOpen yX12_isOpen ∈ bigW := big_mem 88 (by decide +kernel) (by decide +kernel)
theorem wm_RX12_453 : Cond.methodLink RX12 453 yX12_betters ∈ bigW := big_mem 1859 (by decide +kernel) (by decide +kernel)
theorem wc_X12_betters : Cond.code yX12_betters cX12_betters 9 none ∈ bigW := big_mem 1862 (by decide +kernel) (by decide +kernel)
theorem win_X12_betters : Cond.instanceMethod yX12_betters ∈ bigW := big_mem 1861 (by decide +kernel) (by decide +kernel)
theorem wse_X12_betters : Cond.selects (clR 12) yX12_betters yX12_betters ∈ bigW := big_mem 91 (by decide +kernel) (by decide +kernel)
theorem wm_RX12_456 : Cond.methodLink RX12 456 yX12_layMarket ∈ bigW := big_mem 1855 (by decide +kernel) (by decide +kernel)
theorem wc_X12_layMarket : Cond.code yX12_layMarket cX12_layMarket 5 none ∈ bigW := big_mem 1858 (by decide +kernel) (by decide +kernel)
theorem win_X12_layMarket : Cond.instanceMethod yX12_layMarket ∈ bigW := big_mem 1857 (by decide +kernel) (by decide +kernel)
theorem wse_X12_layMarket : Cond.selects (clR 12) yX12_layMarket yX12_layMarket ∈ bigW := big_mem 90 (by decide +kernel) (by decide +kernel)
theorem wf_RX12_459 : Cond.fieldLink RX12 459 (clT 12 44).1 (clT 12 44).2.1 (clT 12 44).2.2.1 ∈ bigW := big_mem 1298 (by decide +kernel) (by decide +kernel)
theorem wm_RX12_462 : Cond.methodLink RX12 462 yX12_marketBy ∈ bigW := big_mem 1851 (by decide +kernel) (by decide +kernel)
theorem wc_X12_marketBy : Cond.code yX12_marketBy cX12_marketBy 5 (some .int) ∈ bigW := big_mem 1854 (by decide +kernel) (by decide +kernel)
theorem win_X12_marketBy : Cond.instanceMethod yX12_marketBy ∈ bigW := big_mem 1853 (by decide +kernel) (by decide +kernel)
theorem wse_X12_marketBy : Cond.selects (clR 12) yX12_marketBy yX12_marketBy ∈ bigW := big_mem 89 (by decide +kernel) (by decide +kernel)
theorem wm_RX12_465 : Cond.methodLink RX12 465 yX12_piece ∈ bigW := big_mem 1871 (by decide +kernel) (by decide +kernel)
theorem wc_X12_piece : Cond.code yX12_piece cX12_piece 2 (some .int) ∈ bigW := big_mem 1874 (by decide +kernel) (by decide +kernel)
theorem win_X12_piece : Cond.instanceMethod yX12_piece ∈ bigW := big_mem 1873 (by decide +kernel) (by decide +kernel)
theorem wse_X12_piece : Cond.selects (clR 12) yX12_piece yX12_piece ∈ bigW := big_mem 92 (by decide +kernel) (by decide +kernel)
theorem wm_RX12_468 : Cond.methodLink RX12 468 yX12_gameOf ∈ bigW := big_mem 1879 (by decide +kernel) (by decide +kernel)
theorem wc_X12_gameOf : Cond.code yX12_gameOf cX12_gameOf 4 (some .int) ∈ bigW := big_mem 1882 (by decide +kernel) (by decide +kernel)
theorem win_X12_gameOf : Cond.instanceMethod yX12_gameOf ∈ bigW := big_mem 1881 (by decide +kernel) (by decide +kernel)
theorem wse_X12_gameOf : Cond.selects (clR 12) yX12_gameOf yX12_gameOf ∈ bigW := big_mem 93 (by decide +kernel) (by decide +kernel)
theorem wm_RX12_471 : Cond.methodLink RX12 471 yX12_isFrom ∈ bigW := big_mem 1903 (by decide +kernel) (by decide +kernel)
theorem wc_X12_isFrom : Cond.code yX12_isFrom cX12_isFrom 3 (some .boolean) ∈ bigW := big_mem 1906 (by decide +kernel) (by decide +kernel)
theorem win_X12_isFrom : Cond.instanceMethod yX12_isFrom ∈ bigW := big_mem 1905 (by decide +kernel) (by decide +kernel)
theorem wse_X12_isFrom : Cond.selects (clR 12) yX12_isFrom yX12_isFrom ∈ bigW := big_mem 94 (by decide +kernel) (by decide +kernel)
theorem wm_RX12_474 : Cond.methodLink RX12 474 yX12_from ∈ bigW := big_mem 1911 (by decide +kernel) (by decide +kernel)
theorem wc_X12_from : Cond.code yX12_from cX12_from 4 (some .int) ∈ bigW := big_mem 1902 (by decide +kernel) (by decide +kernel)
theorem win_X12_from : Cond.instanceMethod yX12_from ∈ bigW := big_mem 1900 (by decide +kernel) (by decide +kernel)
theorem wse_X12_from : Cond.selects (clR 12) yX12_from yX12_from ∈ bigW := big_mem 1901 (by decide +kernel) (by decide +kernel)
theorem wm_RX12_477 : Cond.methodLink RX12 477 Lib.Math.abs.name ∈ bigW := big_mem 1912 (by decide +kernel) (by decide +kernel)
theorem wk_RX12_480 : Cond.constantLong RX12 480 (30) ∈ bigW := big_mem 1917 (by decide +kernel) (by decide +kernel)
theorem wk_RX12_482 : Cond.constantLong RX12 482 (100) ∈ bigW := big_mem 1918 (by decide +kernel) (by decide +kernel)
theorem wk_RX12_484 : Cond.constantLong RX12 484 (1000000000) ∈ bigW := big_mem 1919 (by decide +kernel) (by decide +kernel)
theorem wm_RX12_486 : Cond.methodLink RX12 486 yX12_bestBuyer ∈ bigW := big_mem 1932 (by decide +kernel) (by decide +kernel)
theorem wc_X12_bestBuyer : Cond.code yX12_bestBuyer cX12_bestBuyer 3 (some .int) ∈ bigW := big_mem 1935 (by decide +kernel) (by decide +kernel)
theorem win_X12_bestBuyer : Cond.instanceMethod yX12_bestBuyer ∈ bigW := big_mem 1934 (by decide +kernel) (by decide +kernel)
theorem wse_X12_bestBuyer : Cond.selects (clR 12) yX12_bestBuyer yX12_bestBuyer ∈ bigW := big_mem 95 (by decide +kernel) (by decide +kernel)
theorem dX12_copy_0 : decode cX12_copy 0 = .ok (.sipush 201, 3) := by decide +kernel
theorem dX12_copy_3 : decode cX12_copy 3 = .ok (.iconst 3, 1) := by decide +kernel
theorem dX12_copy_4 : decode cX12_copy 4 = .ok (.aload_n 0, 1) := by decide +kernel
theorem dX12_copy_5 : decode cX12_copy 5 = .ok (.sipush 200, 3) := by decide +kernel
theorem dX12_copy_8 : decode cX12_copy 8 = .ok (.iaload, 1) := by decide +kernel
theorem dX12_copy_9 : decode cX12_copy 9 = .ok (.imul, 1) := by decide +kernel
theorem dX12_copy_10 : decode cX12_copy 10 = .ok (.iadd, 1) := by decide +kernel
theorem dX12_copy_11 : decode cX12_copy 11 = .ok (.istore_n 2, 1) := by decide +kernel
theorem dX12_copy_12 : decode cX12_copy 12 = .ok (.iconst 0, 1) := by decide +kernel
theorem dX12_copy_13 : decode cX12_copy 13 = .ok (.istore_n 3, 1) := by decide +kernel
theorem dX12_copy_14 : decode cX12_copy 14 = .ok (.iload_n 3, 1) := by decide +kernel
theorem dX12_copy_15 : decode cX12_copy 15 = .ok (.iload_n 2, 1) := by decide +kernel
theorem dX12_copy_16 : decode cX12_copy 16 = .ok (.if_icmp .ge 15, 3) := by decide +kernel
theorem dX12_copy_19 : decode cX12_copy 19 = .ok (.aload_n 1, 1) := by decide +kernel
theorem dX12_copy_20 : decode cX12_copy 20 = .ok (.iload_n 3, 1) := by decide +kernel
theorem dX12_copy_21 : decode cX12_copy 21 = .ok (.aload_n 0, 1) := by decide +kernel
theorem dX12_copy_22 : decode cX12_copy 22 = .ok (.iload_n 3, 1) := by decide +kernel
theorem dX12_copy_23 : decode cX12_copy 23 = .ok (.iaload, 1) := by decide +kernel
theorem dX12_copy_24 : decode cX12_copy 24 = .ok (.iastore, 1) := by decide +kernel
theorem dX12_copy_25 : decode cX12_copy 25 = .ok (.iinc 3 1, 3) := by decide +kernel
theorem dX12_copy_28 : decode cX12_copy 28 = .ok (.goto (-14), 3) := by decide +kernel
theorem dX12_copy_31 : decode cX12_copy 31 = .ok (.return_, 1) := by decide +kernel
noncomputable def kX12_copy : Nat → Op := (nodeC 14 (nodeC 8 (nodeC 3 (nodeC 0 (leafC 0 (o_ic (201) 3)) (leafC 3 (o_ic (3) 4))) (nodeC 4 (leafC 4 (o_al 0 5)) (nodeC 5 (leafC 5 (o_ic (200) 8)) (leafC 8 (o_iald 9))))) (nodeC 11 (nodeC 9 (leafC 9 (o_imul 10)) (nodeC 10 (leafC 10 (o_iadd 11)) (leafC 11 (o_is 2 12)))) (nodeC 12 (leafC 12 (o_ic (0) 13)) (nodeC 13 (leafC 13 (o_is 3 14)) (leafC 14 (o_il 3 15)))))) (nodeC 21 (nodeC 16 (nodeC 15 (leafC 15 (o_il 2 16)) (leafC 16 (o_cge 31 19))) (nodeC 19 (leafC 19 (o_al 1 20)) (nodeC 20 (leafC 20 (o_il 3 21)) (leafC 21 (o_al 0 22))))) (nodeC 24 (nodeC 22 (leafC 22 (o_il 3 23)) (nodeC 23 (leafC 23 (o_iald 24)) (leafC 24 (o_iast 25)))) (nodeC 25 (leafC 25 (o_inc 3 (1) 28)) (nodeC 28 (leafC 28 (o_goto 14)) (leafC 31 (o_vret)))))))
theorem sX12_copy : ∀ pc, SoundOp cX12_copy RX12 4 none false 0 0 pc (kX12_copy pc) := (so_node (so_node (so_node (so_node (so_leaf (so_sipush dX12_copy_0 (by decide))) (so_leaf (so_iconst dX12_copy_3 (by decide)))) (so_node (so_leaf (so_aload_n dX12_copy_4 rfl)) (so_node (so_leaf (so_sipush dX12_copy_5 (by decide))) (so_leaf (so_iald dX12_copy_8))))) (so_node (so_node (so_leaf (so_imul dX12_copy_9)) (so_node (so_leaf (so_iadd dX12_copy_10)) (so_leaf (so_istore_n dX12_copy_11 rfl (by decide))))) (so_node (so_leaf (so_iconst dX12_copy_12 (by decide))) (so_node (so_leaf (so_istore_n dX12_copy_13 rfl (by decide))) (so_leaf (so_iload_n dX12_copy_14 rfl)))))) (so_node (so_node (so_node (so_leaf (so_iload_n dX12_copy_15 rfl)) (so_leaf (so_cge dX12_copy_16 (by decide)))) (so_node (so_leaf (so_aload_n dX12_copy_19 rfl)) (so_node (so_leaf (so_iload_n dX12_copy_20 rfl)) (so_leaf (so_aload_n dX12_copy_21 rfl))))) (so_node (so_node (so_leaf (so_iload_n dX12_copy_22 rfl)) (so_node (so_leaf (so_iald dX12_copy_23)) (so_leaf (so_iast dX12_copy_24)))) (so_node (so_leaf (so_iinc dX12_copy_25 (by decide) (by decide))) (so_node (so_leaf (so_goto dX12_copy_28 (by decide))) (so_leaf (so_vret dX12_copy_31 rfl)))))))
theorem pX12_copy : ∀ pc, Pr (kX12_copy pc) := (pr_node (pr_node (pr_node (pr_node (pr_leaf (pr_ic _ _)) (pr_leaf (pr_ic _ _))) (pr_node (pr_leaf (pr_al _ _)) (pr_node (pr_leaf (pr_ic _ _)) (pr_leaf (pr_iald _))))) (pr_node (pr_node (pr_leaf (pr_imul _)) (pr_node (pr_leaf (pr_iadd _)) (pr_leaf (pr_is _ _)))) (pr_node (pr_leaf (pr_ic _ _)) (pr_node (pr_leaf (pr_is _ _)) (pr_leaf (pr_il _ _)))))) (pr_node (pr_node (pr_node (pr_leaf (pr_il _ _)) (pr_leaf (pr_cge _ _))) (pr_node (pr_leaf (pr_al _ _)) (pr_node (pr_leaf (pr_il _ _)) (pr_leaf (pr_al _ _))))) (pr_node (pr_node (pr_leaf (pr_il _ _)) (pr_node (pr_leaf (pr_iald _)) (pr_leaf (pr_iast _)))) (pr_node (pr_leaf (pr_inc _ _ _)) (pr_node (pr_leaf (pr_goto _)) (pr_leaf (pr_vret)))))))
noncomputable def FX12_copy : List EV → Hp → Option (RV × Hp) := Fm kX12_copy 4
theorem CX12_copy : Con yX12_copy cX12_copy 4 none 0 0 FX12_copy := con_of (own := RX12) rfl (by decide +kernel) sX12_copy pX12_copy (fun z => by cases z)
theorem GX12_copy : Gr FX12_copy := Gr_Fm pX12_copy 4
theorem dX12_isDebt_0 : decode cX12_isDebt 0 = .ok (.iload_n 1, 1) := by decide +kernel
theorem dX12_isDebt_1 : decode cX12_isDebt 1 = .ok (.ifCond .lt 15, 3) := by decide +kernel
theorem dX12_isDebt_4 : decode cX12_isDebt 4 = .ok (.iload_n 1, 1) := by decide +kernel
theorem dX12_isDebt_5 : decode cX12_isDebt 5 = .ok (.aload_n 0, 1) := by decide +kernel
theorem dX12_isDebt_6 : decode cX12_isDebt 6 = .ok (.getfield 299, 3) := by decide +kernel
theorem dX12_isDebt_9 : decode cX12_isDebt 9 = .ok (.if_icmp .ge 7, 3) := by decide +kernel
theorem dX12_isDebt_12 : decode cX12_isDebt 12 = .ok (.iconst 1, 1) := by decide +kernel
theorem dX12_isDebt_13 : decode cX12_isDebt 13 = .ok (.goto 4, 3) := by decide +kernel
theorem dX12_isDebt_16 : decode cX12_isDebt 16 = .ok (.iconst 0, 1) := by decide +kernel
theorem dX12_isDebt_17 : decode cX12_isDebt 17 = .ok (.ireturn, 1) := by decide +kernel
noncomputable def kX12_isDebt : Nat → Op := (nodeC 6 (nodeC 1 (nodeC 0 (leafC 0 (o_il 1 1)) (leafC 1 (o_zlt 16 4))) (nodeC 4 (leafC 4 (o_il 1 5)) (nodeC 5 (leafC 5 (o_al 0 6)) (leafC 6 (o_gI 12 26 9))))) (nodeC 12 (nodeC 9 (leafC 9 (o_cge 16 12)) (leafC 12 (o_ic (1) 13))) (nodeC 13 (leafC 13 (o_goto 17)) (nodeC 16 (leafC 16 (o_ic (0) 17)) (leafC 17 (o_zret))))))
theorem sX12_isDebt : ∀ pc, SoundOp cX12_isDebt RX12 2 (some .boolean) false 0 0 pc (kX12_isDebt pc) := (so_node (so_node (so_node (so_leaf (so_iload_n dX12_isDebt_0 rfl)) (so_leaf (so_zlt dX12_isDebt_1 (by decide)))) (so_node (so_leaf (so_iload_n dX12_isDebt_4 rfl)) (so_node (so_leaf (so_aload_n dX12_isDebt_5 rfl)) (so_leaf (so_gI (by decide) (by decide) wC12 wf_RX12_299 (fun _ _ _ => rfl) dX12_isDebt_6))))) (so_node (so_node (so_leaf (so_cge dX12_isDebt_9 (by decide))) (so_leaf (so_iconst dX12_isDebt_12 (by decide)))) (so_node (so_leaf (so_goto dX12_isDebt_13 (by decide))) (so_node (so_leaf (so_iconst dX12_isDebt_16 (by decide))) (so_leaf (so_zret dX12_isDebt_17 rfl))))))
theorem pX12_isDebt : ∀ pc, Pr (kX12_isDebt pc) := (pr_node (pr_node (pr_node (pr_leaf (pr_il _ _)) (pr_leaf (pr_zlt _ _))) (pr_node (pr_leaf (pr_il _ _)) (pr_node (pr_leaf (pr_al _ _)) (pr_leaf (pr_gI _ _ _))))) (pr_node (pr_node (pr_leaf (pr_cge _ _)) (pr_leaf (pr_ic _ _))) (pr_node (pr_leaf (pr_goto _)) (pr_node (pr_leaf (pr_ic _ _)) (pr_leaf (pr_zret))))))
noncomputable def FX12_isDebt : List EV → Hp → Option (RV × Hp) := Fm kX12_isDebt 2
theorem CX12_isDebt : Con yX12_isDebt cX12_isDebt 2 (some .boolean) 0 0 FX12_isDebt := con_of (own := RX12) rfl (by decide +kernel) sX12_isDebt pX12_isDebt (fun z => by cases z)
theorem GX12_isDebt : Gr FX12_isDebt := Gr_Fm pX12_isDebt 2
theorem dX12_isBuyer_0 : decode cX12_isBuyer 0 = .ok (.iload_n 1, 1) := by decide +kernel
theorem dX12_isBuyer_1 : decode cX12_isBuyer 1 = .ok (.ifCond .lt 15, 3) := by decide +kernel
theorem dX12_isBuyer_4 : decode cX12_isBuyer 4 = .ok (.iload_n 1, 1) := by decide +kernel
theorem dX12_isBuyer_5 : decode cX12_isBuyer 5 = .ok (.aload_n 0, 1) := by decide +kernel
theorem dX12_isBuyer_6 : decode cX12_isBuyer 6 = .ok (.getfield 302, 3) := by decide +kernel
theorem dX12_isBuyer_9 : decode cX12_isBuyer 9 = .ok (.if_icmp .ge 7, 3) := by decide +kernel
theorem dX12_isBuyer_12 : decode cX12_isBuyer 12 = .ok (.iconst 1, 1) := by decide +kernel
theorem dX12_isBuyer_13 : decode cX12_isBuyer 13 = .ok (.goto 4, 3) := by decide +kernel
theorem dX12_isBuyer_16 : decode cX12_isBuyer 16 = .ok (.iconst 0, 1) := by decide +kernel
theorem dX12_isBuyer_17 : decode cX12_isBuyer 17 = .ok (.ireturn, 1) := by decide +kernel
noncomputable def kX12_isBuyer : Nat → Op := (nodeC 6 (nodeC 1 (nodeC 0 (leafC 0 (o_il 1 1)) (leafC 1 (o_zlt 16 4))) (nodeC 4 (leafC 4 (o_il 1 5)) (nodeC 5 (leafC 5 (o_al 0 6)) (leafC 6 (o_gI 12 27 9))))) (nodeC 12 (nodeC 9 (leafC 9 (o_cge 16 12)) (leafC 12 (o_ic (1) 13))) (nodeC 13 (leafC 13 (o_goto 17)) (nodeC 16 (leafC 16 (o_ic (0) 17)) (leafC 17 (o_zret))))))
theorem sX12_isBuyer : ∀ pc, SoundOp cX12_isBuyer RX12 2 (some .boolean) false 0 0 pc (kX12_isBuyer pc) := (so_node (so_node (so_node (so_leaf (so_iload_n dX12_isBuyer_0 rfl)) (so_leaf (so_zlt dX12_isBuyer_1 (by decide)))) (so_node (so_leaf (so_iload_n dX12_isBuyer_4 rfl)) (so_node (so_leaf (so_aload_n dX12_isBuyer_5 rfl)) (so_leaf (so_gI (by decide) (by decide) wC12 wf_RX12_302 (fun _ _ _ => rfl) dX12_isBuyer_6))))) (so_node (so_node (so_leaf (so_cge dX12_isBuyer_9 (by decide))) (so_leaf (so_iconst dX12_isBuyer_12 (by decide)))) (so_node (so_leaf (so_goto dX12_isBuyer_13 (by decide))) (so_node (so_leaf (so_iconst dX12_isBuyer_16 (by decide))) (so_leaf (so_zret dX12_isBuyer_17 rfl))))))
theorem pX12_isBuyer : ∀ pc, Pr (kX12_isBuyer pc) := (pr_node (pr_node (pr_node (pr_leaf (pr_il _ _)) (pr_leaf (pr_zlt _ _))) (pr_node (pr_leaf (pr_il _ _)) (pr_node (pr_leaf (pr_al _ _)) (pr_leaf (pr_gI _ _ _))))) (pr_node (pr_node (pr_leaf (pr_cge _ _)) (pr_leaf (pr_ic _ _))) (pr_node (pr_leaf (pr_goto _)) (pr_node (pr_leaf (pr_ic _ _)) (pr_leaf (pr_zret))))))
noncomputable def FX12_isBuyer : List EV → Hp → Option (RV × Hp) := Fm kX12_isBuyer 2
theorem CX12_isBuyer : Con yX12_isBuyer cX12_isBuyer 2 (some .boolean) 0 0 FX12_isBuyer := con_of (own := RX12) rfl (by decide +kernel) sX12_isBuyer pX12_isBuyer (fun z => by cases z)
theorem GX12_isBuyer : Gr FX12_isBuyer := Gr_Fm pX12_isBuyer 2
theorem dX12_takesBy_0 : decode cX12_takesBy 0 = .ok (.aload_n 0, 1) := by decide +kernel
theorem dX12_takesBy_1 : decode cX12_takesBy 1 = .ok (.getfield 37, 3) := by decide +kernel
theorem dX12_takesBy_4 : decode cX12_takesBy 4 = .ok (.iconst 3, 1) := by decide +kernel
theorem dX12_takesBy_5 : decode cX12_takesBy 5 = .ok (.iaload, 1) := by decide +kernel
theorem dX12_takesBy_6 : decode cX12_takesBy 6 = .ok (.istore 6, 2) := by decide +kernel
theorem dX12_takesBy_8 : decode cX12_takesBy 8 = .ok (.aload_n 0, 1) := by decide +kernel
theorem dX12_takesBy_9 : decode cX12_takesBy 9 = .ok (.getfield 67, 3) := by decide +kernel
theorem dX12_takesBy_12 : decode cX12_takesBy 12 = .ok (.iconst (-1), 1) := by decide +kernel
theorem dX12_takesBy_13 : decode cX12_takesBy 13 = .ok (.if_icmp .eq 89, 3) := by decide +kernel
theorem dX12_takesBy_16 : decode cX12_takesBy 16 = .ok (.aload_n 0, 1) := by decide +kernel
theorem dX12_takesBy_17 : decode cX12_takesBy 17 = .ok (.getfield 20, 3) := by decide +kernel
theorem dX12_takesBy_20 : decode cX12_takesBy 20 = .ok (.bipush 119, 2) := by decide +kernel
theorem dX12_takesBy_22 : decode cX12_takesBy 22 = .ok (.iload_n 1, 1) := by decide +kernel
theorem dX12_takesBy_23 : decode cX12_takesBy 23 = .ok (.iastore, 1) := by decide +kernel
theorem dX12_takesBy_24 : decode cX12_takesBy 24 = .ok (.aload_n 0, 1) := by decide +kernel
theorem dX12_takesBy_25 : decode cX12_takesBy 25 = .ok (.getfield 20, 3) := by decide +kernel
theorem dX12_takesBy_28 : decode cX12_takesBy 28 = .ok (.bipush 116, 2) := by decide +kernel
theorem dX12_takesBy_30 : decode cX12_takesBy 30 = .ok (.aload_n 0, 1) := by decide +kernel
theorem dX12_takesBy_31 : decode cX12_takesBy 31 = .ok (.getfield 37, 3) := by decide +kernel
theorem dX12_takesBy_34 : decode cX12_takesBy 34 = .ok (.iconst 3, 1) := by decide +kernel
theorem dX12_takesBy_35 : decode cX12_takesBy 35 = .ok (.iaload, 1) := by decide +kernel
theorem dX12_takesBy_36 : decode cX12_takesBy 36 = .ok (.iastore, 1) := by decide +kernel
theorem dX12_takesBy_37 : decode cX12_takesBy 37 = .ok (.aload_n 0, 1) := by decide +kernel
theorem dX12_takesBy_38 : decode cX12_takesBy 38 = .ok (.getfield 20, 3) := by decide +kernel
theorem dX12_takesBy_41 : decode cX12_takesBy 41 = .ok (.bipush 107, 2) := by decide +kernel
theorem dX12_takesBy_43 : decode cX12_takesBy 43 = .ok (.iload_n 2, 1) := by decide +kernel
theorem dX12_takesBy_44 : decode cX12_takesBy 44 = .ok (.iastore, 1) := by decide +kernel
theorem dX12_takesBy_45 : decode cX12_takesBy 45 = .ok (.aload_n 0, 1) := by decide +kernel
theorem dX12_takesBy_46 : decode cX12_takesBy 46 = .ok (.getfield 20, 3) := by decide +kernel
theorem dX12_takesBy_49 : decode cX12_takesBy 49 = .ok (.bipush 110, 2) := by decide +kernel
theorem dX12_takesBy_51 : decode cX12_takesBy 51 = .ok (.iload_n 3, 1) := by decide +kernel
theorem dX12_takesBy_52 : decode cX12_takesBy 52 = .ok (.iastore, 1) := by decide +kernel
theorem dX12_takesBy_53 : decode cX12_takesBy 53 = .ok (.aload_n 0, 1) := by decide +kernel
theorem dX12_takesBy_54 : decode cX12_takesBy 54 = .ok (.getfield 20, 3) := by decide +kernel
theorem dX12_takesBy_57 : decode cX12_takesBy 57 = .ok (.bipush 121, 2) := by decide +kernel
theorem dX12_takesBy_59 : decode cX12_takesBy 59 = .ok (.iload 4, 2) := by decide +kernel
theorem dX12_takesBy_61 : decode cX12_takesBy 61 = .ok (.iastore, 1) := by decide +kernel
theorem dX12_takesBy_62 : decode cX12_takesBy 62 = .ok (.aload_n 0, 1) := by decide +kernel
theorem dX12_takesBy_63 : decode cX12_takesBy 63 = .ok (.getfield 20, 3) := by decide +kernel
theorem dX12_takesBy_66 : decode cX12_takesBy 66 = .ok (.bipush 109, 2) := by decide +kernel
theorem dX12_takesBy_68 : decode cX12_takesBy 68 = .ok (.iload 5, 2) := by decide +kernel
theorem dX12_takesBy_70 : decode cX12_takesBy 70 = .ok (.iastore, 1) := by decide +kernel
theorem dX12_takesBy_71 : decode cX12_takesBy 71 = .ok (.aload_n 0, 1) := by decide +kernel
theorem dX12_takesBy_72 : decode cX12_takesBy 72 = .ok (.aload_n 0, 1) := by decide +kernel
theorem dX12_takesBy_73 : decode cX12_takesBy 73 = .ok (.getfield 13, 3) := by decide +kernel
theorem dX12_takesBy_76 : decode cX12_takesBy 76 = .ok (.sipush 240, 3) := by decide +kernel
theorem dX12_takesBy_79 : decode cX12_takesBy 79 = .ok (.aload_n 0, 1) := by decide +kernel
theorem dX12_takesBy_80 : decode cX12_takesBy 80 = .ok (.getfield 67, 3) := by decide +kernel
theorem dX12_takesBy_83 : decode cX12_takesBy 83 = .ok (.imul, 1) := by decide +kernel
theorem dX12_takesBy_84 : decode cX12_takesBy 84 = .ok (.aload_n 0, 1) := by decide +kernel
theorem dX12_takesBy_85 : decode cX12_takesBy 85 = .ok (.getfield 16, 3) := by decide +kernel
theorem dX12_takesBy_88 : decode cX12_takesBy 88 = .ok (.aload_n 0, 1) := by decide +kernel
theorem dX12_takesBy_89 : decode cX12_takesBy 89 = .ok (.getfield 67, 3) := by decide +kernel
theorem dX12_takesBy_92 : decode cX12_takesBy 92 = .ok (.iaload, 1) := by decide +kernel
theorem dX12_takesBy_93 : decode cX12_takesBy 93 = .ok (.invokevirtual 285, 3) := by decide +kernel
theorem dX12_takesBy_96 : decode cX12_takesBy 96 = .ok (.aload_n 0, 1) := by decide +kernel
theorem dX12_takesBy_97 : decode cX12_takesBy 97 = .ok (.getfield 213, 3) := by decide +kernel
theorem dX12_takesBy_100 : decode cX12_takesBy 100 = .ok (.istore 6, 2) := by decide +kernel
theorem dX12_takesBy_102 : decode cX12_takesBy 102 = .ok (.iconst 0, 1) := by decide +kernel
theorem dX12_takesBy_103 : decode cX12_takesBy 103 = .ok (.bipush 60, 2) := by decide +kernel
theorem dX12_takesBy_105 : decode cX12_takesBy 105 = .ok (.iload 6, 2) := by decide +kernel
theorem dX12_takesBy_107 : decode cX12_takesBy 107 = .ok (.invokestatic 317, 3) := by decide +kernel
theorem dX12_takesBy_110 : decode cX12_takesBy 110 = .ok (.invokestatic 319, 3) := by decide +kernel
theorem dX12_takesBy_113 : decode cX12_takesBy 113 = .ok (.ireturn, 1) := by decide +kernel
noncomputable def kX12_takesBy : Nat → Op := (nodeC 52 (nodeC 25 (nodeC 12 (nodeC 5 (nodeC 1 (nodeC 0 (leafC 0 (o_al 0 1)) (leafC 1 (o_gR 12 18 4))) (nodeC 4 (leafC 4 (o_ic (3) 5)) (leafC 5 (o_iald 6)))) (nodeC 8 (nodeC 6 (leafC 6 (o_is 6 8)) (leafC 8 (o_al 0 9))) (nodeC 9 (leafC 9 (o_gI 12 34 12)) (leafC 12 (o_ic (-1) 13))))) (nodeC 20 (nodeC 16 (nodeC 13 (leafC 13 (o_ceq 102 16)) (leafC 16 (o_al 0 17))) (nodeC 17 (leafC 17 (o_gR 12 4 20)) (leafC 20 (o_ic (119) 22)))) (nodeC 23 (nodeC 22 (leafC 22 (o_il 1 23)) (leafC 23 (o_iast 24))) (nodeC 24 (leafC 24 (o_al 0 25)) (leafC 25 (o_gR 12 4 28)))))) (nodeC 38 (nodeC 34 (nodeC 30 (nodeC 28 (leafC 28 (o_ic (116) 30)) (leafC 30 (o_al 0 31))) (nodeC 31 (leafC 31 (o_gR 12 18 34)) (leafC 34 (o_ic (3) 35)))) (nodeC 36 (nodeC 35 (leafC 35 (o_iald 36)) (leafC 36 (o_iast 37))) (nodeC 37 (leafC 37 (o_al 0 38)) (leafC 38 (o_gR 12 4 41))))) (nodeC 45 (nodeC 43 (nodeC 41 (leafC 41 (o_ic (107) 43)) (leafC 43 (o_il 2 44))) (nodeC 44 (leafC 44 (o_iast 45)) (leafC 45 (o_al 0 46)))) (nodeC 49 (nodeC 46 (leafC 46 (o_gR 12 4 49)) (leafC 49 (o_ic (110) 51))) (nodeC 51 (leafC 51 (o_il 3 52)) (leafC 52 (o_iast 53))))))) (nodeC 80 (nodeC 66 (nodeC 59 (nodeC 54 (nodeC 53 (leafC 53 (o_al 0 54)) (leafC 54 (o_gR 12 4 57))) (nodeC 57 (leafC 57 (o_ic (121) 59)) (leafC 59 (o_il 4 61)))) (nodeC 62 (nodeC 61 (leafC 61 (o_iast 62)) (leafC 62 (o_al 0 63))) (nodeC 63 (leafC 63 (o_gR 12 4 66)) (leafC 66 (o_ic (109) 68))))) (nodeC 72 (nodeC 70 (nodeC 68 (leafC 68 (o_il 5 70)) (leafC 70 (o_iast 71))) (nodeC 71 (leafC 71 (o_al 0 72)) (leafC 72 (o_al 0 73)))) (nodeC 76 (nodeC 73 (leafC 73 (o_gR 12 2 76)) (leafC 76 (o_ic (240) 79))) (nodeC 79 (leafC 79 (o_al 0 80)) (leafC 80 (o_gI 12 34 83)))))) (nodeC 96 (nodeC 88 (nodeC 84 (nodeC 83 (leafC 83 (o_imul 84)) (leafC 84 (o_al 0 85))) (nodeC 85 (leafC 85 (o_gR 12 3 88)) (leafC 88 (o_al 0 89)))) (nodeC 92 (nodeC 89 (leafC 89 (o_gI 12 34 92)) (leafC 92 (o_iald 93))) (nodeC 93 (leafC 93 (o_inv 3 12 0 FX12_goThrough 96)) (leafC 96 (o_al 0 97))))) (nodeC 103 (nodeC 100 (nodeC 97 (leafC 97 (o_gI 12 14 100)) (leafC 100 (o_is 6 102))) (nodeC 102 (leafC 102 (o_ic (0) 103)) (leafC 103 (o_ic (60) 105)))) (nodeC 107 (nodeC 105 (leafC 105 (o_il 6 107)) (leafC 107 (o_min 110))) (nodeC 110 (leafC 110 (o_max 113)) (leafC 113 (o_iret))))))))
theorem sX12_takesBy : ∀ pc, SoundOp cX12_takesBy RX12 7 (some .int) false 88 2178 pc (kX12_takesBy pc) := (so_node (so_node (so_node (so_node (so_node (so_node (so_leaf (so_aload_n dX12_takesBy_0 rfl)) (so_leaf (so_gR (by decide) (by decide) wC12 wf_RX12_37 (fun _ _ _ => rfl) dX12_takesBy_1))) (so_node (so_leaf (so_iconst dX12_takesBy_4 (by decide))) (so_leaf (so_iald dX12_takesBy_5)))) (so_node (so_node (so_leaf (so_istore dX12_takesBy_6 (by decide))) (so_leaf (so_aload_n dX12_takesBy_8 rfl))) (so_node (so_leaf (so_gI (by decide) (by decide) wC12 wf_RX12_67 (fun _ _ _ => rfl) dX12_takesBy_9)) (so_leaf (so_iconst dX12_takesBy_12 (by decide)))))) (so_node (so_node (so_node (so_leaf (so_ceq dX12_takesBy_13 (by decide))) (so_leaf (so_aload_n dX12_takesBy_16 rfl))) (so_node (so_leaf (so_gR (by decide) (by decide) wC12 wf_RX12_20 (fun _ _ _ => rfl) dX12_takesBy_17)) (so_leaf (so_bipush dX12_takesBy_20 (by decide))))) (so_node (so_node (so_leaf (so_iload_n dX12_takesBy_22 rfl)) (so_leaf (so_iast dX12_takesBy_23))) (so_node (so_leaf (so_aload_n dX12_takesBy_24 rfl)) (so_leaf (so_gR (by decide) (by decide) wC12 wf_RX12_20 (fun _ _ _ => rfl) dX12_takesBy_25)))))) (so_node (so_node (so_node (so_node (so_leaf (so_bipush dX12_takesBy_28 (by decide))) (so_leaf (so_aload_n dX12_takesBy_30 rfl))) (so_node (so_leaf (so_gR (by decide) (by decide) wC12 wf_RX12_37 (fun _ _ _ => rfl) dX12_takesBy_31)) (so_leaf (so_iconst dX12_takesBy_34 (by decide))))) (so_node (so_node (so_leaf (so_iald dX12_takesBy_35)) (so_leaf (so_iast dX12_takesBy_36))) (so_node (so_leaf (so_aload_n dX12_takesBy_37 rfl)) (so_leaf (so_gR (by decide) (by decide) wC12 wf_RX12_20 (fun _ _ _ => rfl) dX12_takesBy_38))))) (so_node (so_node (so_node (so_leaf (so_bipush dX12_takesBy_41 (by decide))) (so_leaf (so_iload_n dX12_takesBy_43 rfl))) (so_node (so_leaf (so_iast dX12_takesBy_44)) (so_leaf (so_aload_n dX12_takesBy_45 rfl)))) (so_node (so_node (so_leaf (so_gR (by decide) (by decide) wC12 wf_RX12_20 (fun _ _ _ => rfl) dX12_takesBy_46)) (so_leaf (so_bipush dX12_takesBy_49 (by decide)))) (so_node (so_leaf (so_iload_n dX12_takesBy_51 rfl)) (so_leaf (so_iast dX12_takesBy_52))))))) (so_node (so_node (so_node (so_node (so_node (so_leaf (so_aload_n dX12_takesBy_53 rfl)) (so_leaf (so_gR (by decide) (by decide) wC12 wf_RX12_20 (fun _ _ _ => rfl) dX12_takesBy_54))) (so_node (so_leaf (so_bipush dX12_takesBy_57 (by decide))) (so_leaf (so_iload dX12_takesBy_59)))) (so_node (so_node (so_leaf (so_iast dX12_takesBy_61)) (so_leaf (so_aload_n dX12_takesBy_62 rfl))) (so_node (so_leaf (so_gR (by decide) (by decide) wC12 wf_RX12_20 (fun _ _ _ => rfl) dX12_takesBy_63)) (so_leaf (so_bipush dX12_takesBy_66 (by decide)))))) (so_node (so_node (so_node (so_leaf (so_iload dX12_takesBy_68)) (so_leaf (so_iast dX12_takesBy_70))) (so_node (so_leaf (so_aload_n dX12_takesBy_71 rfl)) (so_leaf (so_aload_n dX12_takesBy_72 rfl)))) (so_node (so_node (so_leaf (so_gR (by decide) (by decide) wC12 wf_RX12_13 (fun _ _ _ => rfl) dX12_takesBy_73)) (so_leaf (so_sipush dX12_takesBy_76 (by decide)))) (so_node (so_leaf (so_aload_n dX12_takesBy_79 rfl)) (so_leaf (so_gI (by decide) (by decide) wC12 wf_RX12_67 (fun _ _ _ => rfl) dX12_takesBy_80)))))) (so_node (so_node (so_node (so_node (so_leaf (so_imul dX12_takesBy_83)) (so_leaf (so_aload_n dX12_takesBy_84 rfl))) (so_node (so_leaf (so_gR (by decide) (by decide) wC12 wf_RX12_16 (fun _ _ _ => rfl) dX12_takesBy_85)) (so_leaf (so_aload_n dX12_takesBy_88 rfl)))) (so_node (so_node (so_leaf (so_gI (by decide) (by decide) wC12 wf_RX12_67 (fun _ _ _ => rfl) dX12_takesBy_89)) (so_leaf (so_iald dX12_takesBy_92))) (so_node (so_leaf (so_inv CX12_goThrough (by decide) rfl wm_RX12_285 win_X12_goThrough wse_X12_goThrough wn_12 wc_X12_goThrough (by decide +kernel) (by decide) (by decide) dX12_takesBy_93)) (so_leaf (so_aload_n dX12_takesBy_96 rfl))))) (so_node (so_node (so_node (so_leaf (so_gI (by decide) (by decide) wC12 wf_RX12_213 (fun _ _ _ => rfl) dX12_takesBy_97)) (so_leaf (so_istore dX12_takesBy_100 (by decide)))) (so_node (so_leaf (so_iconst dX12_takesBy_102 (by decide))) (so_leaf (so_bipush dX12_takesBy_103 (by decide))))) (so_node (so_node (so_leaf (so_iload dX12_takesBy_105)) (so_leaf (so_min wm_RX12_317 wms_min wmi wmc_min (by decide) (by decide) dX12_takesBy_107))) (so_node (so_leaf (so_max wm_RX12_319 wms_max wmi wmc_max (by decide) (by decide) dX12_takesBy_110)) (so_leaf (so_iret dX12_takesBy_113 rfl))))))))
theorem pX12_takesBy : ∀ pc, Pr (kX12_takesBy pc) := (pr_node (pr_node (pr_node (pr_node (pr_node (pr_node (pr_leaf (pr_al _ _)) (pr_leaf (pr_gR _ _ _))) (pr_node (pr_leaf (pr_ic _ _)) (pr_leaf (pr_iald _)))) (pr_node (pr_node (pr_leaf (pr_is _ _)) (pr_leaf (pr_al _ _))) (pr_node (pr_leaf (pr_gI _ _ _)) (pr_leaf (pr_ic _ _))))) (pr_node (pr_node (pr_node (pr_leaf (pr_ceq _ _)) (pr_leaf (pr_al _ _))) (pr_node (pr_leaf (pr_gR _ _ _)) (pr_leaf (pr_ic _ _)))) (pr_node (pr_node (pr_leaf (pr_il _ _)) (pr_leaf (pr_iast _))) (pr_node (pr_leaf (pr_al _ _)) (pr_leaf (pr_gR _ _ _)))))) (pr_node (pr_node (pr_node (pr_node (pr_leaf (pr_ic _ _)) (pr_leaf (pr_al _ _))) (pr_node (pr_leaf (pr_gR _ _ _)) (pr_leaf (pr_ic _ _)))) (pr_node (pr_node (pr_leaf (pr_iald _)) (pr_leaf (pr_iast _))) (pr_node (pr_leaf (pr_al _ _)) (pr_leaf (pr_gR _ _ _))))) (pr_node (pr_node (pr_node (pr_leaf (pr_ic _ _)) (pr_leaf (pr_il _ _))) (pr_node (pr_leaf (pr_iast _)) (pr_leaf (pr_al _ _)))) (pr_node (pr_node (pr_leaf (pr_gR _ _ _)) (pr_leaf (pr_ic _ _))) (pr_node (pr_leaf (pr_il _ _)) (pr_leaf (pr_iast _))))))) (pr_node (pr_node (pr_node (pr_node (pr_node (pr_leaf (pr_al _ _)) (pr_leaf (pr_gR _ _ _))) (pr_node (pr_leaf (pr_ic _ _)) (pr_leaf (pr_il _ _)))) (pr_node (pr_node (pr_leaf (pr_iast _)) (pr_leaf (pr_al _ _))) (pr_node (pr_leaf (pr_gR _ _ _)) (pr_leaf (pr_ic _ _))))) (pr_node (pr_node (pr_node (pr_leaf (pr_il _ _)) (pr_leaf (pr_iast _))) (pr_node (pr_leaf (pr_al _ _)) (pr_leaf (pr_al _ _)))) (pr_node (pr_node (pr_leaf (pr_gR _ _ _)) (pr_leaf (pr_ic _ _))) (pr_node (pr_leaf (pr_al _ _)) (pr_leaf (pr_gI _ _ _)))))) (pr_node (pr_node (pr_node (pr_node (pr_leaf (pr_imul _)) (pr_leaf (pr_al _ _))) (pr_node (pr_leaf (pr_gR _ _ _)) (pr_leaf (pr_al _ _)))) (pr_node (pr_node (pr_leaf (pr_gI _ _ _)) (pr_leaf (pr_iald _))) (pr_node (pr_leaf (pr_inv _ _ _ GX12_goThrough _)) (pr_leaf (pr_al _ _))))) (pr_node (pr_node (pr_node (pr_leaf (pr_gI _ _ _)) (pr_leaf (pr_is _ _))) (pr_node (pr_leaf (pr_ic _ _)) (pr_leaf (pr_ic _ _)))) (pr_node (pr_node (pr_leaf (pr_il _ _)) (pr_leaf (pr_min _))) (pr_node (pr_leaf (pr_max _)) (pr_leaf (pr_iret))))))))
noncomputable def FX12_takesBy : List EV → Hp → Option (RV × Hp) := Fm kX12_takesBy 7
theorem CX12_takesBy : Con yX12_takesBy cX12_takesBy 7 (some .int) 88 2178 FX12_takesBy := con_of (own := RX12) rfl (by decide +kernel) sX12_takesBy pX12_takesBy (fun z => by cases z)
theorem GX12_takesBy : Gr FX12_takesBy := Gr_Fm pX12_takesBy 7
theorem dX12_takes__0 : decode cX12_takes_ 0 = .ok (.aload_n 0, 1) := by decide +kernel
theorem dX12_takes__1 : decode cX12_takes_ 1 = .ok (.aload_n 1, 1) := by decide +kernel
theorem dX12_takes__2 : decode cX12_takes_ 2 = .ok (.iconst 0, 1) := by decide +kernel
theorem dX12_takes__3 : decode cX12_takes_ 3 = .ok (.iaload, 1) := by decide +kernel
theorem dX12_takes__4 : decode cX12_takes_ 4 = .ok (.aload_n 1, 1) := by decide +kernel
theorem dX12_takes__5 : decode cX12_takes_ 5 = .ok (.iconst 2, 1) := by decide +kernel
theorem dX12_takes__6 : decode cX12_takes_ 6 = .ok (.iaload, 1) := by decide +kernel
theorem dX12_takes__7 : decode cX12_takes_ 7 = .ok (.aload_n 1, 1) := by decide +kernel
theorem dX12_takes__8 : decode cX12_takes_ 8 = .ok (.bipush 19, 2) := by decide +kernel
theorem dX12_takes__10 : decode cX12_takes_ 10 = .ok (.iaload, 1) := by decide +kernel
theorem dX12_takes__11 : decode cX12_takes_ 11 = .ok (.aload_n 1, 1) := by decide +kernel
theorem dX12_takes__12 : decode cX12_takes_ 12 = .ok (.bipush 7, 2) := by decide +kernel
theorem dX12_takes__14 : decode cX12_takes_ 14 = .ok (.iaload, 1) := by decide +kernel
theorem dX12_takes__15 : decode cX12_takes_ 15 = .ok (.aload_n 1, 1) := by decide +kernel
theorem dX12_takes__16 : decode cX12_takes_ 16 = .ok (.iconst 4, 1) := by decide +kernel
theorem dX12_takes__17 : decode cX12_takes_ 17 = .ok (.iaload, 1) := by decide +kernel
theorem dX12_takes__18 : decode cX12_takes_ 18 = .ok (.invokevirtual 321, 3) := by decide +kernel
theorem dX12_takes__21 : decode cX12_takes_ 21 = .ok (.ireturn, 1) := by decide +kernel
noncomputable def kX12_takes_ : Nat → Op := (nodeC 8 (nodeC 3 (nodeC 1 (nodeC 0 (leafC 0 (o_al 0 1)) (leafC 1 (o_al 1 2))) (nodeC 2 (leafC 2 (o_ic (0) 3)) (leafC 3 (o_iald 4)))) (nodeC 5 (nodeC 4 (leafC 4 (o_al 1 5)) (leafC 5 (o_ic (2) 6))) (nodeC 6 (leafC 6 (o_iald 7)) (nodeC 7 (leafC 7 (o_al 1 8)) (leafC 8 (o_ic (19) 10)))))) (nodeC 14 (nodeC 11 (nodeC 10 (leafC 10 (o_iald 11)) (leafC 11 (o_al 1 12))) (nodeC 12 (leafC 12 (o_ic (7) 14)) (leafC 14 (o_iald 15)))) (nodeC 16 (nodeC 15 (leafC 15 (o_al 1 16)) (leafC 16 (o_ic (4) 17))) (nodeC 17 (leafC 17 (o_iald 18)) (nodeC 18 (leafC 18 (o_inv 5 12 1 FX12_takesBy 21)) (leafC 21 (o_iret)))))))
theorem sX12_takes_ : ∀ pc, SoundOp cX12_takes_ RX12 2 (some .int) false 89 2204 pc (kX12_takes_ pc) := (so_node (so_node (so_node (so_node (so_leaf (so_aload_n dX12_takes__0 rfl)) (so_leaf (so_aload_n dX12_takes__1 rfl))) (so_node (so_leaf (so_iconst dX12_takes__2 (by decide))) (so_leaf (so_iald dX12_takes__3)))) (so_node (so_node (so_leaf (so_aload_n dX12_takes__4 rfl)) (so_leaf (so_iconst dX12_takes__5 (by decide)))) (so_node (so_leaf (so_iald dX12_takes__6)) (so_node (so_leaf (so_aload_n dX12_takes__7 rfl)) (so_leaf (so_bipush dX12_takes__8 (by decide))))))) (so_node (so_node (so_node (so_leaf (so_iald dX12_takes__10)) (so_leaf (so_aload_n dX12_takes__11 rfl))) (so_node (so_leaf (so_bipush dX12_takes__12 (by decide))) (so_leaf (so_iald dX12_takes__14)))) (so_node (so_node (so_leaf (so_aload_n dX12_takes__15 rfl)) (so_leaf (so_iconst dX12_takes__16 (by decide)))) (so_node (so_leaf (so_iald dX12_takes__17)) (so_node (so_leaf (so_inv CX12_takesBy (by decide) rfl wm_RX12_321 win_X12_takesBy wse_X12_takesBy wn_12 wc_X12_takesBy (by decide +kernel) (by decide) (by decide) dX12_takes__18)) (so_leaf (so_iret dX12_takes__21 rfl)))))))
theorem pX12_takes_ : ∀ pc, Pr (kX12_takes_ pc) := (pr_node (pr_node (pr_node (pr_node (pr_leaf (pr_al _ _)) (pr_leaf (pr_al _ _))) (pr_node (pr_leaf (pr_ic _ _)) (pr_leaf (pr_iald _)))) (pr_node (pr_node (pr_leaf (pr_al _ _)) (pr_leaf (pr_ic _ _))) (pr_node (pr_leaf (pr_iald _)) (pr_node (pr_leaf (pr_al _ _)) (pr_leaf (pr_ic _ _)))))) (pr_node (pr_node (pr_node (pr_leaf (pr_iald _)) (pr_leaf (pr_al _ _))) (pr_node (pr_leaf (pr_ic _ _)) (pr_leaf (pr_iald _)))) (pr_node (pr_node (pr_leaf (pr_al _ _)) (pr_leaf (pr_ic _ _))) (pr_node (pr_leaf (pr_iald _)) (pr_node (pr_leaf (pr_inv _ _ _ GX12_takesBy _)) (pr_leaf (pr_iret)))))))
noncomputable def FX12_takes_ : List EV → Hp → Option (RV × Hp) := Fm kX12_takes_ 2
theorem CX12_takes_ : Con yX12_takes_ cX12_takes_ 2 (some .int) 89 2204 FX12_takes_ := con_of (own := RX12) rfl (by decide +kernel) sX12_takes_ pX12_takes_ (fun z => by cases z)
theorem GX12_takes_ : Gr FX12_takes_ := Gr_Fm pX12_takes_ 2
theorem dX12_canWeave_0 : decode cX12_canWeave 0 = .ok (.aload_n 1, 1) := by decide +kernel
theorem dX12_canWeave_1 : decode cX12_canWeave 1 = .ok (.iconst 1, 1) := by decide +kernel
theorem dX12_canWeave_2 : decode cX12_canWeave 2 = .ok (.iaload, 1) := by decide +kernel
theorem dX12_canWeave_3 : decode cX12_canWeave 3 = .ok (.ifCond .ne 27, 3) := by decide +kernel
theorem dX12_canWeave_6 : decode cX12_canWeave 6 = .ok (.aload_n 1, 1) := by decide +kernel
theorem dX12_canWeave_7 : decode cX12_canWeave 7 = .ok (.bipush 19, 2) := by decide +kernel
theorem dX12_canWeave_9 : decode cX12_canWeave 9 = .ok (.iaload, 1) := by decide +kernel
theorem dX12_canWeave_10 : decode cX12_canWeave 10 = .ok (.bipush 60, 2) := by decide +kernel
theorem dX12_canWeave_12 : decode cX12_canWeave 12 = .ok (.if_icmp .ge 18, 3) := by decide +kernel
theorem dX12_canWeave_15 : decode cX12_canWeave 15 = .ok (.aload_n 1, 1) := by decide +kernel
theorem dX12_canWeave_16 : decode cX12_canWeave 16 = .ok (.iconst 0, 1) := by decide +kernel
theorem dX12_canWeave_17 : decode cX12_canWeave 17 = .ok (.iaload, 1) := by decide +kernel
theorem dX12_canWeave_18 : decode cX12_canWeave 18 = .ok (.aload_n 0, 1) := by decide +kernel
theorem dX12_canWeave_19 : decode cX12_canWeave 19 = .ok (.aload_n 1, 1) := by decide +kernel
theorem dX12_canWeave_20 : decode cX12_canWeave 20 = .ok (.invokevirtual 325, 3) := by decide +kernel
theorem dX12_canWeave_23 : decode cX12_canWeave 23 = .ok (.if_icmp .le 7, 3) := by decide +kernel
theorem dX12_canWeave_26 : decode cX12_canWeave 26 = .ok (.iconst 1, 1) := by decide +kernel
theorem dX12_canWeave_27 : decode cX12_canWeave 27 = .ok (.goto 4, 3) := by decide +kernel
theorem dX12_canWeave_30 : decode cX12_canWeave 30 = .ok (.iconst 0, 1) := by decide +kernel
theorem dX12_canWeave_31 : decode cX12_canWeave 31 = .ok (.ireturn, 1) := by decide +kernel
noncomputable def kX12_canWeave : Nat → Op := (nodeC 15 (nodeC 6 (nodeC 1 (nodeC 0 (leafC 0 (o_al 1 1)) (leafC 1 (o_ic (1) 2))) (nodeC 2 (leafC 2 (o_iald 3)) (nodeC 3 (leafC 3 (o_zne 30 6)) (leafC 6 (o_al 1 7))))) (nodeC 9 (nodeC 7 (leafC 7 (o_ic (19) 9)) (leafC 9 (o_iald 10))) (nodeC 10 (leafC 10 (o_ic (60) 12)) (nodeC 12 (leafC 12 (o_cge 30 15)) (leafC 15 (o_al 1 16)))))) (nodeC 20 (nodeC 17 (nodeC 16 (leafC 16 (o_ic (0) 17)) (leafC 17 (o_iald 18))) (nodeC 18 (leafC 18 (o_al 0 19)) (nodeC 19 (leafC 19 (o_al 1 20)) (leafC 20 (o_inv 1 12 1 FX12_takes_ 23))))) (nodeC 26 (nodeC 23 (leafC 23 (o_cle 30 26)) (leafC 26 (o_ic (1) 27))) (nodeC 27 (leafC 27 (o_goto 31)) (nodeC 30 (leafC 30 (o_ic (0) 31)) (leafC 31 (o_zret)))))))
theorem sX12_canWeave : ∀ pc, SoundOp cX12_canWeave RX12 2 (some .boolean) false 90 2225 pc (kX12_canWeave pc) := (so_node (so_node (so_node (so_node (so_leaf (so_aload_n dX12_canWeave_0 rfl)) (so_leaf (so_iconst dX12_canWeave_1 (by decide)))) (so_node (so_leaf (so_iald dX12_canWeave_2)) (so_node (so_leaf (so_zne dX12_canWeave_3 (by decide))) (so_leaf (so_aload_n dX12_canWeave_6 rfl))))) (so_node (so_node (so_leaf (so_bipush dX12_canWeave_7 (by decide))) (so_leaf (so_iald dX12_canWeave_9))) (so_node (so_leaf (so_bipush dX12_canWeave_10 (by decide))) (so_node (so_leaf (so_cge dX12_canWeave_12 (by decide))) (so_leaf (so_aload_n dX12_canWeave_15 rfl)))))) (so_node (so_node (so_node (so_leaf (so_iconst dX12_canWeave_16 (by decide))) (so_leaf (so_iald dX12_canWeave_17))) (so_node (so_leaf (so_aload_n dX12_canWeave_18 rfl)) (so_node (so_leaf (so_aload_n dX12_canWeave_19 rfl)) (so_leaf (so_inv CX12_takes_ (by decide) rfl wm_RX12_325 win_X12_takes_ wse_X12_takes_ wn_12 wc_X12_takes_ (by decide +kernel) (by decide) (by decide) dX12_canWeave_20))))) (so_node (so_node (so_leaf (so_cle dX12_canWeave_23 (by decide))) (so_leaf (so_iconst dX12_canWeave_26 (by decide)))) (so_node (so_leaf (so_goto dX12_canWeave_27 (by decide))) (so_node (so_leaf (so_iconst dX12_canWeave_30 (by decide))) (so_leaf (so_zret dX12_canWeave_31 rfl)))))))
theorem pX12_canWeave : ∀ pc, Pr (kX12_canWeave pc) := (pr_node (pr_node (pr_node (pr_node (pr_leaf (pr_al _ _)) (pr_leaf (pr_ic _ _))) (pr_node (pr_leaf (pr_iald _)) (pr_node (pr_leaf (pr_zne _ _)) (pr_leaf (pr_al _ _))))) (pr_node (pr_node (pr_leaf (pr_ic _ _)) (pr_leaf (pr_iald _))) (pr_node (pr_leaf (pr_ic _ _)) (pr_node (pr_leaf (pr_cge _ _)) (pr_leaf (pr_al _ _)))))) (pr_node (pr_node (pr_node (pr_leaf (pr_ic _ _)) (pr_leaf (pr_iald _))) (pr_node (pr_leaf (pr_al _ _)) (pr_node (pr_leaf (pr_al _ _)) (pr_leaf (pr_inv _ _ _ GX12_takes_ _))))) (pr_node (pr_node (pr_leaf (pr_cle _ _)) (pr_leaf (pr_ic _ _))) (pr_node (pr_leaf (pr_goto _)) (pr_node (pr_leaf (pr_ic _ _)) (pr_leaf (pr_zret)))))))
noncomputable def FX12_canWeave : List EV → Hp → Option (RV × Hp) := Fm kX12_canWeave 2
theorem CX12_canWeave : Con yX12_canWeave cX12_canWeave 2 (some .boolean) 90 2225 FX12_canWeave := con_of (own := RX12) rfl (by decide +kernel) sX12_canWeave pX12_canWeave (fun z => by cases z)
theorem GX12_canWeave : Gr FX12_canWeave := Gr_Fm pX12_canWeave 2
theorem dX12_canDo_0 : decode cX12_canDo 0 = .ok (.iload_n 2, 1) := by decide +kernel
theorem dX12_canDo_1 : decode cX12_canDo 1 = .ok (.iconst 1, 1) := by decide +kernel
theorem dX12_canDo_2 : decode cX12_canDo 2 = .ok (.if_icmp .ne 9, 3) := by decide +kernel
theorem dX12_canDo_5 : decode cX12_canDo 5 = .ok (.aload_n 0, 1) := by decide +kernel
theorem dX12_canDo_6 : decode cX12_canDo 6 = .ok (.aload_n 1, 1) := by decide +kernel
theorem dX12_canDo_7 : decode cX12_canDo 7 = .ok (.invokevirtual 328, 3) := by decide +kernel
theorem dX12_canDo_10 : decode cX12_canDo 10 = .ok (.ireturn, 1) := by decide +kernel
theorem dX12_canDo_11 : decode cX12_canDo 11 = .ok (.iload_n 2, 1) := by decide +kernel
theorem dX12_canDo_12 : decode cX12_canDo 12 = .ok (.iconst 3, 1) := by decide +kernel
theorem dX12_canDo_13 : decode cX12_canDo 13 = .ok (.if_icmp .ne 9, 3) := by decide +kernel
theorem dX12_canDo_16 : decode cX12_canDo 16 = .ok (.aload_n 1, 1) := by decide +kernel
theorem dX12_canDo_17 : decode cX12_canDo 17 = .ok (.iconst 1, 1) := by decide +kernel
theorem dX12_canDo_18 : decode cX12_canDo 18 = .ok (.iaload, 1) := by decide +kernel
theorem dX12_canDo_19 : decode cX12_canDo 19 = .ok (.ifCond .ne 7, 3) := by decide +kernel
theorem dX12_canDo_22 : decode cX12_canDo 22 = .ok (.iconst 1, 1) := by decide +kernel
theorem dX12_canDo_23 : decode cX12_canDo 23 = .ok (.goto 4, 3) := by decide +kernel
theorem dX12_canDo_26 : decode cX12_canDo 26 = .ok (.iconst 0, 1) := by decide +kernel
theorem dX12_canDo_27 : decode cX12_canDo 27 = .ok (.ireturn, 1) := by decide +kernel
noncomputable def kX12_canDo : Nat → Op := (nodeC 12 (nodeC 5 (nodeC 1 (nodeC 0 (leafC 0 (o_il 2 1)) (leafC 1 (o_ic (1) 2))) (nodeC 2 (leafC 2 (o_cne 11 5)) (leafC 5 (o_al 0 6)))) (nodeC 7 (nodeC 6 (leafC 6 (o_al 1 7)) (leafC 7 (o_inv 1 12 1 FX12_canWeave 10))) (nodeC 10 (leafC 10 (o_zret)) (nodeC 11 (leafC 11 (o_il 2 12)) (leafC 12 (o_ic (3) 13)))))) (nodeC 18 (nodeC 16 (nodeC 13 (leafC 13 (o_cne 22 16)) (leafC 16 (o_al 1 17))) (nodeC 17 (leafC 17 (o_ic (1) 18)) (leafC 18 (o_iald 19)))) (nodeC 22 (nodeC 19 (leafC 19 (o_zne 26 22)) (leafC 22 (o_ic (1) 23))) (nodeC 23 (leafC 23 (o_goto 27)) (nodeC 26 (leafC 26 (o_ic (0) 27)) (leafC 27 (o_zret)))))))
theorem sX12_canDo : ∀ pc, SoundOp cX12_canDo RX12 3 (some .boolean) false 91 2246 pc (kX12_canDo pc) := (so_node (so_node (so_node (so_node (so_leaf (so_iload_n dX12_canDo_0 rfl)) (so_leaf (so_iconst dX12_canDo_1 (by decide)))) (so_node (so_leaf (so_cne dX12_canDo_2 (by decide))) (so_leaf (so_aload_n dX12_canDo_5 rfl)))) (so_node (so_node (so_leaf (so_aload_n dX12_canDo_6 rfl)) (so_leaf (so_inv CX12_canWeave (by decide) rfl wm_RX12_328 win_X12_canWeave wse_X12_canWeave wn_12 wc_X12_canWeave (by decide +kernel) (by decide) (by decide) dX12_canDo_7))) (so_node (so_leaf (so_zret dX12_canDo_10 rfl)) (so_node (so_leaf (so_iload_n dX12_canDo_11 rfl)) (so_leaf (so_iconst dX12_canDo_12 (by decide))))))) (so_node (so_node (so_node (so_leaf (so_cne dX12_canDo_13 (by decide))) (so_leaf (so_aload_n dX12_canDo_16 rfl))) (so_node (so_leaf (so_iconst dX12_canDo_17 (by decide))) (so_leaf (so_iald dX12_canDo_18)))) (so_node (so_node (so_leaf (so_zne dX12_canDo_19 (by decide))) (so_leaf (so_iconst dX12_canDo_22 (by decide)))) (so_node (so_leaf (so_goto dX12_canDo_23 (by decide))) (so_node (so_leaf (so_iconst dX12_canDo_26 (by decide))) (so_leaf (so_zret dX12_canDo_27 rfl)))))))
theorem pX12_canDo : ∀ pc, Pr (kX12_canDo pc) := (pr_node (pr_node (pr_node (pr_node (pr_leaf (pr_il _ _)) (pr_leaf (pr_ic _ _))) (pr_node (pr_leaf (pr_cne _ _)) (pr_leaf (pr_al _ _)))) (pr_node (pr_node (pr_leaf (pr_al _ _)) (pr_leaf (pr_inv _ _ _ GX12_canWeave _))) (pr_node (pr_leaf (pr_zret)) (pr_node (pr_leaf (pr_il _ _)) (pr_leaf (pr_ic _ _)))))) (pr_node (pr_node (pr_node (pr_leaf (pr_cne _ _)) (pr_leaf (pr_al _ _))) (pr_node (pr_leaf (pr_ic _ _)) (pr_leaf (pr_iald _)))) (pr_node (pr_node (pr_leaf (pr_zne _ _)) (pr_leaf (pr_ic _ _))) (pr_node (pr_leaf (pr_goto _)) (pr_node (pr_leaf (pr_ic _ _)) (pr_leaf (pr_zret)))))))
noncomputable def FX12_canDo : List EV → Hp → Option (RV × Hp) := Fm kX12_canDo 3
theorem CX12_canDo : Con yX12_canDo cX12_canDo 3 (some .boolean) 91 2246 FX12_canDo := con_of (own := RX12) rfl (by decide +kernel) sX12_canDo pX12_canDo (fun z => by cases z)
theorem GX12_canDo : Gr FX12_canDo := Gr_Fm pX12_canDo 3
theorem dX12_weavesOne_0 : decode cX12_weavesOne 0 = .ok (.aload_n 0, 1) := by decide +kernel
theorem dX12_weavesOne_1 : decode cX12_weavesOne 1 = .ok (.aload_n 1, 1) := by decide +kernel
theorem dX12_weavesOne_2 : decode cX12_weavesOne 2 = .ok (.invokevirtual 325, 3) := by decide +kernel
theorem dX12_weavesOne_5 : decode cX12_weavesOne 5 = .ok (.istore_n 2, 1) := by decide +kernel
theorem dX12_weavesOne_6 : decode cX12_weavesOne 6 = .ok (.bipush 20, 2) := by decide +kernel
theorem dX12_weavesOne_8 : decode cX12_weavesOne 8 = .ok (.iconst 3, 1) := by decide +kernel
theorem dX12_weavesOne_9 : decode cX12_weavesOne 9 = .ok (.aload_n 1, 1) := by decide +kernel
theorem dX12_weavesOne_10 : decode cX12_weavesOne 10 = .ok (.bipush 19, 2) := by decide +kernel
theorem dX12_weavesOne_12 : decode cX12_weavesOne 12 = .ok (.iaload, 1) := by decide +kernel
theorem dX12_weavesOne_13 : decode cX12_weavesOne 13 = .ok (.imul, 1) := by decide +kernel
theorem dX12_weavesOne_14 : decode cX12_weavesOne 14 = .ok (.iadd, 1) := by decide +kernel
theorem dX12_weavesOne_15 : decode cX12_weavesOne 15 = .ok (.istore_n 3, 1) := by decide +kernel
theorem dX12_weavesOne_16 : decode cX12_weavesOne 16 = .ok (.aload_n 1, 1) := by decide +kernel
theorem dX12_weavesOne_17 : decode cX12_weavesOne 17 = .ok (.iload_n 3, 1) := by decide +kernel
theorem dX12_weavesOne_18 : decode cX12_weavesOne 18 = .ok (.aload_n 1, 1) := by decide +kernel
theorem dX12_weavesOne_19 : decode cX12_weavesOne 19 = .ok (.bipush 7, 2) := by decide +kernel
theorem dX12_weavesOne_21 : decode cX12_weavesOne 21 = .ok (.iaload, 1) := by decide +kernel
theorem dX12_weavesOne_22 : decode cX12_weavesOne 22 = .ok (.iastore, 1) := by decide +kernel
theorem dX12_weavesOne_23 : decode cX12_weavesOne 23 = .ok (.aload_n 1, 1) := by decide +kernel
theorem dX12_weavesOne_24 : decode cX12_weavesOne 24 = .ok (.iload_n 3, 1) := by decide +kernel
theorem dX12_weavesOne_25 : decode cX12_weavesOne 25 = .ok (.iconst 1, 1) := by decide +kernel
theorem dX12_weavesOne_26 : decode cX12_weavesOne 26 = .ok (.iadd, 1) := by decide +kernel
theorem dX12_weavesOne_27 : decode cX12_weavesOne 27 = .ok (.aload_n 1, 1) := by decide +kernel
theorem dX12_weavesOne_28 : decode cX12_weavesOne 28 = .ok (.iconst 0, 1) := by decide +kernel
theorem dX12_weavesOne_29 : decode cX12_weavesOne 29 = .ok (.iaload, 1) := by decide +kernel
theorem dX12_weavesOne_30 : decode cX12_weavesOne 30 = .ok (.iastore, 1) := by decide +kernel
theorem dX12_weavesOne_31 : decode cX12_weavesOne 31 = .ok (.aload_n 1, 1) := by decide +kernel
theorem dX12_weavesOne_32 : decode cX12_weavesOne 32 = .ok (.iload_n 3, 1) := by decide +kernel
theorem dX12_weavesOne_33 : decode cX12_weavesOne 33 = .ok (.iconst 2, 1) := by decide +kernel
theorem dX12_weavesOne_34 : decode cX12_weavesOne 34 = .ok (.iadd, 1) := by decide +kernel
theorem dX12_weavesOne_35 : decode cX12_weavesOne 35 = .ok (.iload_n 2, 1) := by decide +kernel
theorem dX12_weavesOne_36 : decode cX12_weavesOne 36 = .ok (.iastore, 1) := by decide +kernel
theorem dX12_weavesOne_37 : decode cX12_weavesOne 37 = .ok (.aload_n 1, 1) := by decide +kernel
theorem dX12_weavesOne_38 : decode cX12_weavesOne 38 = .ok (.bipush 19, 2) := by decide +kernel
theorem dX12_weavesOne_40 : decode cX12_weavesOne 40 = .ok (.dup2, 1) := by decide +kernel
theorem dX12_weavesOne_41 : decode cX12_weavesOne 41 = .ok (.iaload, 1) := by decide +kernel
theorem dX12_weavesOne_42 : decode cX12_weavesOne 42 = .ok (.iconst 1, 1) := by decide +kernel
theorem dX12_weavesOne_43 : decode cX12_weavesOne 43 = .ok (.iadd, 1) := by decide +kernel
theorem dX12_weavesOne_44 : decode cX12_weavesOne 44 = .ok (.iastore, 1) := by decide +kernel
theorem dX12_weavesOne_45 : decode cX12_weavesOne 45 = .ok (.aload_n 1, 1) := by decide +kernel
theorem dX12_weavesOne_46 : decode cX12_weavesOne 46 = .ok (.iconst 0, 1) := by decide +kernel
theorem dX12_weavesOne_47 : decode cX12_weavesOne 47 = .ok (.dup2, 1) := by decide +kernel
theorem dX12_weavesOne_48 : decode cX12_weavesOne 48 = .ok (.iaload, 1) := by decide +kernel
theorem dX12_weavesOne_49 : decode cX12_weavesOne 49 = .ok (.iload_n 2, 1) := by decide +kernel
theorem dX12_weavesOne_50 : decode cX12_weavesOne 50 = .ok (.isub, 1) := by decide +kernel
theorem dX12_weavesOne_51 : decode cX12_weavesOne 51 = .ok (.iastore, 1) := by decide +kernel
theorem dX12_weavesOne_52 : decode cX12_weavesOne 52 = .ok (.aload_n 1, 1) := by decide +kernel
theorem dX12_weavesOne_53 : decode cX12_weavesOne 53 = .ok (.iconst 5, 1) := by decide +kernel
theorem dX12_weavesOne_54 : decode cX12_weavesOne 54 = .ok (.dup2, 1) := by decide +kernel
theorem dX12_weavesOne_55 : decode cX12_weavesOne 55 = .ok (.iaload, 1) := by decide +kernel
theorem dX12_weavesOne_56 : decode cX12_weavesOne 56 = .ok (.iconst 1, 1) := by decide +kernel
theorem dX12_weavesOne_57 : decode cX12_weavesOne 57 = .ok (.iadd, 1) := by decide +kernel
theorem dX12_weavesOne_58 : decode cX12_weavesOne 58 = .ok (.iastore, 1) := by decide +kernel
theorem dX12_weavesOne_59 : decode cX12_weavesOne 59 = .ok (.aload_n 1, 1) := by decide +kernel
theorem dX12_weavesOne_60 : decode cX12_weavesOne 60 = .ok (.iconst 3, 1) := by decide +kernel
theorem dX12_weavesOne_61 : decode cX12_weavesOne 61 = .ok (.iaload, 1) := by decide +kernel
theorem dX12_weavesOne_62 : decode cX12_weavesOne 62 = .ok (.ifCond .ne 10, 3) := by decide +kernel
theorem dX12_weavesOne_65 : decode cX12_weavesOne 65 = .ok (.aload_n 1, 1) := by decide +kernel
theorem dX12_weavesOne_66 : decode cX12_weavesOne 66 = .ok (.iconst 2, 1) := by decide +kernel
theorem dX12_weavesOne_67 : decode cX12_weavesOne 67 = .ok (.dup2, 1) := by decide +kernel
theorem dX12_weavesOne_68 : decode cX12_weavesOne 68 = .ok (.iaload, 1) := by decide +kernel
theorem dX12_weavesOne_69 : decode cX12_weavesOne 69 = .ok (.iconst 1, 1) := by decide +kernel
theorem dX12_weavesOne_70 : decode cX12_weavesOne 70 = .ok (.iadd, 1) := by decide +kernel
theorem dX12_weavesOne_71 : decode cX12_weavesOne 71 = .ok (.iastore, 1) := by decide +kernel
theorem dX12_weavesOne_72 : decode cX12_weavesOne 72 = .ok (.return_, 1) := by decide +kernel
noncomputable def kX12_weavesOne : Nat → Op := (nodeC 36 (nodeC 19 (nodeC 10 (nodeC 5 (nodeC 1 (nodeC 0 (leafC 0 (o_al 0 1)) (leafC 1 (o_al 1 2))) (nodeC 2 (leafC 2 (o_inv 1 12 1 FX12_takes_ 5)) (leafC 5 (o_is 2 6)))) (nodeC 8 (nodeC 6 (leafC 6 (o_ic (20) 8)) (leafC 8 (o_ic (3) 9))) (nodeC 9 (leafC 9 (o_al 1 10)) (leafC 10 (o_ic (19) 12))))) (nodeC 15 (nodeC 13 (nodeC 12 (leafC 12 (o_iald 13)) (leafC 13 (o_imul 14))) (nodeC 14 (leafC 14 (o_iadd 15)) (leafC 15 (o_is 3 16)))) (nodeC 17 (nodeC 16 (leafC 16 (o_al 1 17)) (leafC 17 (o_il 3 18))) (nodeC 18 (leafC 18 (o_al 1 19)) (leafC 19 (o_ic (7) 21)))))) (nodeC 28 (nodeC 24 (nodeC 22 (nodeC 21 (leafC 21 (o_iald 22)) (leafC 22 (o_iast 23))) (nodeC 23 (leafC 23 (o_al 1 24)) (leafC 24 (o_il 3 25)))) (nodeC 26 (nodeC 25 (leafC 25 (o_ic (1) 26)) (leafC 26 (o_iadd 27))) (nodeC 27 (leafC 27 (o_al 1 28)) (leafC 28 (o_ic (0) 29))))) (nodeC 32 (nodeC 30 (nodeC 29 (leafC 29 (o_iald 30)) (leafC 30 (o_iast 31))) (nodeC 31 (leafC 31 (o_al 1 32)) (leafC 32 (o_il 3 33)))) (nodeC 34 (nodeC 33 (leafC 33 (o_ic (2) 34)) (leafC 34 (o_iadd 35))) (nodeC 35 (leafC 35 (o_il 2 36)) (leafC 36 (o_iast 37))))))) (nodeC 53 (nodeC 45 (nodeC 41 (nodeC 38 (nodeC 37 (leafC 37 (o_al 1 38)) (leafC 38 (o_ic (19) 40))) (nodeC 40 (leafC 40 (o_dup2A 41)) (leafC 41 (o_iald 42)))) (nodeC 43 (nodeC 42 (leafC 42 (o_ic (1) 43)) (leafC 43 (o_iadd 44))) (nodeC 44 (leafC 44 (o_iast 45)) (leafC 45 (o_al 1 46))))) (nodeC 49 (nodeC 47 (nodeC 46 (leafC 46 (o_ic (0) 47)) (leafC 47 (o_dup2A 48))) (nodeC 48 (leafC 48 (o_iald 49)) (leafC 49 (o_il 2 50)))) (nodeC 51 (nodeC 50 (leafC 50 (o_isub 51)) (leafC 51 (o_iast 52))) (nodeC 52 (leafC 52 (o_al 1 53)) (leafC 53 (o_ic (5) 54)))))) (nodeC 61 (nodeC 57 (nodeC 55 (nodeC 54 (leafC 54 (o_dup2A 55)) (leafC 55 (o_iald 56))) (nodeC 56 (leafC 56 (o_ic (1) 57)) (leafC 57 (o_iadd 58)))) (nodeC 59 (nodeC 58 (leafC 58 (o_iast 59)) (leafC 59 (o_al 1 60))) (nodeC 60 (leafC 60 (o_ic (3) 61)) (leafC 61 (o_iald 62))))) (nodeC 67 (nodeC 65 (nodeC 62 (leafC 62 (o_zne 72 65)) (leafC 65 (o_al 1 66))) (nodeC 66 (leafC 66 (o_ic (2) 67)) (leafC 67 (o_dup2A 68)))) (nodeC 69 (nodeC 68 (leafC 68 (o_iald 69)) (leafC 69 (o_ic (1) 70))) (nodeC 70 (leafC 70 (o_iadd 71)) (nodeC 71 (leafC 71 (o_iast 72)) (leafC 72 (o_vret)))))))))
theorem sX12_weavesOne : ∀ pc, SoundOp cX12_weavesOne RX12 4 none false 90 2225 pc (kX12_weavesOne pc) := (so_node (so_node (so_node (so_node (so_node (so_node (so_leaf (so_aload_n dX12_weavesOne_0 rfl)) (so_leaf (so_aload_n dX12_weavesOne_1 rfl))) (so_node (so_leaf (so_inv CX12_takes_ (by decide) rfl wm_RX12_325 win_X12_takes_ wse_X12_takes_ wn_12 wc_X12_takes_ (by decide +kernel) (by decide) (by decide) dX12_weavesOne_2)) (so_leaf (so_istore_n dX12_weavesOne_5 rfl (by decide))))) (so_node (so_node (so_leaf (so_bipush dX12_weavesOne_6 (by decide))) (so_leaf (so_iconst dX12_weavesOne_8 (by decide)))) (so_node (so_leaf (so_aload_n dX12_weavesOne_9 rfl)) (so_leaf (so_bipush dX12_weavesOne_10 (by decide)))))) (so_node (so_node (so_node (so_leaf (so_iald dX12_weavesOne_12)) (so_leaf (so_imul dX12_weavesOne_13))) (so_node (so_leaf (so_iadd dX12_weavesOne_14)) (so_leaf (so_istore_n dX12_weavesOne_15 rfl (by decide))))) (so_node (so_node (so_leaf (so_aload_n dX12_weavesOne_16 rfl)) (so_leaf (so_iload_n dX12_weavesOne_17 rfl))) (so_node (so_leaf (so_aload_n dX12_weavesOne_18 rfl)) (so_leaf (so_bipush dX12_weavesOne_19 (by decide))))))) (so_node (so_node (so_node (so_node (so_leaf (so_iald dX12_weavesOne_21)) (so_leaf (so_iast dX12_weavesOne_22))) (so_node (so_leaf (so_aload_n dX12_weavesOne_23 rfl)) (so_leaf (so_iload_n dX12_weavesOne_24 rfl)))) (so_node (so_node (so_leaf (so_iconst dX12_weavesOne_25 (by decide))) (so_leaf (so_iadd dX12_weavesOne_26))) (so_node (so_leaf (so_aload_n dX12_weavesOne_27 rfl)) (so_leaf (so_iconst dX12_weavesOne_28 (by decide)))))) (so_node (so_node (so_node (so_leaf (so_iald dX12_weavesOne_29)) (so_leaf (so_iast dX12_weavesOne_30))) (so_node (so_leaf (so_aload_n dX12_weavesOne_31 rfl)) (so_leaf (so_iload_n dX12_weavesOne_32 rfl)))) (so_node (so_node (so_leaf (so_iconst dX12_weavesOne_33 (by decide))) (so_leaf (so_iadd dX12_weavesOne_34))) (so_node (so_leaf (so_iload_n dX12_weavesOne_35 rfl)) (so_leaf (so_iast dX12_weavesOne_36))))))) (so_node (so_node (so_node (so_node (so_node (so_leaf (so_aload_n dX12_weavesOne_37 rfl)) (so_leaf (so_bipush dX12_weavesOne_38 (by decide)))) (so_node (so_leaf (so_dup2A dX12_weavesOne_40)) (so_leaf (so_iald dX12_weavesOne_41)))) (so_node (so_node (so_leaf (so_iconst dX12_weavesOne_42 (by decide))) (so_leaf (so_iadd dX12_weavesOne_43))) (so_node (so_leaf (so_iast dX12_weavesOne_44)) (so_leaf (so_aload_n dX12_weavesOne_45 rfl))))) (so_node (so_node (so_node (so_leaf (so_iconst dX12_weavesOne_46 (by decide))) (so_leaf (so_dup2A dX12_weavesOne_47))) (so_node (so_leaf (so_iald dX12_weavesOne_48)) (so_leaf (so_iload_n dX12_weavesOne_49 rfl)))) (so_node (so_node (so_leaf (so_isub dX12_weavesOne_50)) (so_leaf (so_iast dX12_weavesOne_51))) (so_node (so_leaf (so_aload_n dX12_weavesOne_52 rfl)) (so_leaf (so_iconst dX12_weavesOne_53 (by decide))))))) (so_node (so_node (so_node (so_node (so_leaf (so_dup2A dX12_weavesOne_54)) (so_leaf (so_iald dX12_weavesOne_55))) (so_node (so_leaf (so_iconst dX12_weavesOne_56 (by decide))) (so_leaf (so_iadd dX12_weavesOne_57)))) (so_node (so_node (so_leaf (so_iast dX12_weavesOne_58)) (so_leaf (so_aload_n dX12_weavesOne_59 rfl))) (so_node (so_leaf (so_iconst dX12_weavesOne_60 (by decide))) (so_leaf (so_iald dX12_weavesOne_61))))) (so_node (so_node (so_node (so_leaf (so_zne dX12_weavesOne_62 (by decide))) (so_leaf (so_aload_n dX12_weavesOne_65 rfl))) (so_node (so_leaf (so_iconst dX12_weavesOne_66 (by decide))) (so_leaf (so_dup2A dX12_weavesOne_67)))) (so_node (so_node (so_leaf (so_iald dX12_weavesOne_68)) (so_leaf (so_iconst dX12_weavesOne_69 (by decide)))) (so_node (so_leaf (so_iadd dX12_weavesOne_70)) (so_node (so_leaf (so_iast dX12_weavesOne_71)) (so_leaf (so_vret dX12_weavesOne_72 rfl)))))))))
theorem pX12_weavesOne : ∀ pc, Pr (kX12_weavesOne pc) := (pr_node (pr_node (pr_node (pr_node (pr_node (pr_node (pr_leaf (pr_al _ _)) (pr_leaf (pr_al _ _))) (pr_node (pr_leaf (pr_inv _ _ _ GX12_takes_ _)) (pr_leaf (pr_is _ _)))) (pr_node (pr_node (pr_leaf (pr_ic _ _)) (pr_leaf (pr_ic _ _))) (pr_node (pr_leaf (pr_al _ _)) (pr_leaf (pr_ic _ _))))) (pr_node (pr_node (pr_node (pr_leaf (pr_iald _)) (pr_leaf (pr_imul _))) (pr_node (pr_leaf (pr_iadd _)) (pr_leaf (pr_is _ _)))) (pr_node (pr_node (pr_leaf (pr_al _ _)) (pr_leaf (pr_il _ _))) (pr_node (pr_leaf (pr_al _ _)) (pr_leaf (pr_ic _ _)))))) (pr_node (pr_node (pr_node (pr_node (pr_leaf (pr_iald _)) (pr_leaf (pr_iast _))) (pr_node (pr_leaf (pr_al _ _)) (pr_leaf (pr_il _ _)))) (pr_node (pr_node (pr_leaf (pr_ic _ _)) (pr_leaf (pr_iadd _))) (pr_node (pr_leaf (pr_al _ _)) (pr_leaf (pr_ic _ _))))) (pr_node (pr_node (pr_node (pr_leaf (pr_iald _)) (pr_leaf (pr_iast _))) (pr_node (pr_leaf (pr_al _ _)) (pr_leaf (pr_il _ _)))) (pr_node (pr_node (pr_leaf (pr_ic _ _)) (pr_leaf (pr_iadd _))) (pr_node (pr_leaf (pr_il _ _)) (pr_leaf (pr_iast _))))))) (pr_node (pr_node (pr_node (pr_node (pr_node (pr_leaf (pr_al _ _)) (pr_leaf (pr_ic _ _))) (pr_node (pr_leaf (pr_dup2A _)) (pr_leaf (pr_iald _)))) (pr_node (pr_node (pr_leaf (pr_ic _ _)) (pr_leaf (pr_iadd _))) (pr_node (pr_leaf (pr_iast _)) (pr_leaf (pr_al _ _))))) (pr_node (pr_node (pr_node (pr_leaf (pr_ic _ _)) (pr_leaf (pr_dup2A _))) (pr_node (pr_leaf (pr_iald _)) (pr_leaf (pr_il _ _)))) (pr_node (pr_node (pr_leaf (pr_isub _)) (pr_leaf (pr_iast _))) (pr_node (pr_leaf (pr_al _ _)) (pr_leaf (pr_ic _ _)))))) (pr_node (pr_node (pr_node (pr_node (pr_leaf (pr_dup2A _)) (pr_leaf (pr_iald _))) (pr_node (pr_leaf (pr_ic _ _)) (pr_leaf (pr_iadd _)))) (pr_node (pr_node (pr_leaf (pr_iast _)) (pr_leaf (pr_al _ _))) (pr_node (pr_leaf (pr_ic _ _)) (pr_leaf (pr_iald _))))) (pr_node (pr_node (pr_node (pr_leaf (pr_zne _ _)) (pr_leaf (pr_al _ _))) (pr_node (pr_leaf (pr_ic _ _)) (pr_leaf (pr_dup2A _)))) (pr_node (pr_node (pr_leaf (pr_iald _)) (pr_leaf (pr_ic _ _))) (pr_node (pr_leaf (pr_iadd _)) (pr_node (pr_leaf (pr_iast _)) (pr_leaf (pr_vret)))))))))
noncomputable def FX12_weavesOne : List EV → Hp → Option (RV × Hp) := Fm kX12_weavesOne 4
theorem CX12_weavesOne : Con yX12_weavesOne cX12_weavesOne 4 none 90 2225 FX12_weavesOne := con_of (own := RX12) rfl (by decide +kernel) sX12_weavesOne pX12_weavesOne (fun z => by cases z)
theorem GX12_weavesOne : Gr FX12_weavesOne := Gr_Fm pX12_weavesOne 4
theorem dX12_goWeek_0 : decode cX12_goWeek 0 = .ok (.iload_n 2, 1) := by decide +kernel
theorem dX12_goWeek_1 : decode cX12_goWeek 1 = .ok (.ifCond .ne 15, 3) := by decide +kernel
theorem dX12_goWeek_4 : decode cX12_goWeek 4 = .ok (.aload_n 1, 1) := by decide +kernel
theorem dX12_goWeek_5 : decode cX12_goWeek 5 = .ok (.iconst 2, 1) := by decide +kernel
theorem dX12_goWeek_6 : decode cX12_goWeek 6 = .ok (.iconst 0, 1) := by decide +kernel
theorem dX12_goWeek_7 : decode cX12_goWeek 7 = .ok (.aload_n 1, 1) := by decide +kernel
theorem dX12_goWeek_8 : decode cX12_goWeek 8 = .ok (.iconst 2, 1) := by decide +kernel
theorem dX12_goWeek_9 : decode cX12_goWeek 9 = .ok (.iaload, 1) := by decide +kernel
theorem dX12_goWeek_10 : decode cX12_goWeek 10 = .ok (.iconst 1, 1) := by decide +kernel
theorem dX12_goWeek_11 : decode cX12_goWeek 11 = .ok (.isub, 1) := by decide +kernel
theorem dX12_goWeek_12 : decode cX12_goWeek 12 = .ok (.invokestatic 319, 3) := by decide +kernel
theorem dX12_goWeek_15 : decode cX12_goWeek 15 = .ok (.iastore, 1) := by decide +kernel
theorem dX12_goWeek_16 : decode cX12_goWeek 16 = .ok (.iload_n 2, 1) := by decide +kernel
theorem dX12_goWeek_17 : decode cX12_goWeek 17 = .ok (.iconst 1, 1) := by decide +kernel
theorem dX12_goWeek_18 : decode cX12_goWeek 18 = .ok (.if_icmp .ne 8, 3) := by decide +kernel
theorem dX12_goWeek_21 : decode cX12_goWeek 21 = .ok (.aload_n 0, 1) := by decide +kernel
theorem dX12_goWeek_22 : decode cX12_goWeek 22 = .ok (.aload_n 1, 1) := by decide +kernel
theorem dX12_goWeek_23 : decode cX12_goWeek 23 = .ok (.invokevirtual 332, 3) := by decide +kernel
theorem dX12_goWeek_26 : decode cX12_goWeek 26 = .ok (.iload_n 2, 1) := by decide +kernel
theorem dX12_goWeek_27 : decode cX12_goWeek 27 = .ok (.iconst 2, 1) := by decide +kernel
theorem dX12_goWeek_28 : decode cX12_goWeek 28 = .ok (.if_icmp .ne 22, 3) := by decide +kernel
theorem dX12_goWeek_31 : decode cX12_goWeek 31 = .ok (.aload_n 1, 1) := by decide +kernel
theorem dX12_goWeek_32 : decode cX12_goWeek 32 = .ok (.iconst 4, 1) := by decide +kernel
theorem dX12_goWeek_33 : decode cX12_goWeek 33 = .ok (.sipush 9999, 3) := by decide +kernel
theorem dX12_goWeek_36 : decode cX12_goWeek 36 = .ok (.aload_n 1, 1) := by decide +kernel
theorem dX12_goWeek_37 : decode cX12_goWeek 37 = .ok (.iconst 4, 1) := by decide +kernel
theorem dX12_goWeek_38 : decode cX12_goWeek 38 = .ok (.iaload, 1) := by decide +kernel
theorem dX12_goWeek_39 : decode cX12_goWeek 39 = .ok (.aload_n 0, 1) := by decide +kernel
theorem dX12_goWeek_40 : decode cX12_goWeek 40 = .ok (.getfield 37, 3) := by decide +kernel
theorem dX12_goWeek_43 : decode cX12_goWeek 43 = .ok (.iconst 4, 1) := by decide +kernel
theorem dX12_goWeek_44 : decode cX12_goWeek 44 = .ok (.iaload, 1) := by decide +kernel
theorem dX12_goWeek_45 : decode cX12_goWeek 45 = .ok (.iadd, 1) := by decide +kernel
theorem dX12_goWeek_46 : decode cX12_goWeek 46 = .ok (.invokestatic 317, 3) := by decide +kernel
theorem dX12_goWeek_49 : decode cX12_goWeek 49 = .ok (.iastore, 1) := by decide +kernel
theorem dX12_goWeek_50 : decode cX12_goWeek 50 = .ok (.aload_n 1, 1) := by decide +kernel
theorem dX12_goWeek_51 : decode cX12_goWeek 51 = .ok (.iconst 1, 1) := by decide +kernel
theorem dX12_goWeek_52 : decode cX12_goWeek 52 = .ok (.iaload, 1) := by decide +kernel
theorem dX12_goWeek_53 : decode cX12_goWeek 53 = .ok (.ifCond .ne 50, 3) := by decide +kernel
theorem dX12_goWeek_56 : decode cX12_goWeek 56 = .ok (.iload_n 2, 1) := by decide +kernel
theorem dX12_goWeek_57 : decode cX12_goWeek 57 = .ok (.iconst 3, 1) := by decide +kernel
theorem dX12_goWeek_58 : decode cX12_goWeek 58 = .ok (.if_icmp .eq 16, 3) := by decide +kernel
theorem dX12_goWeek_61 : decode cX12_goWeek 61 = .ok (.aload_n 1, 1) := by decide +kernel
theorem dX12_goWeek_62 : decode cX12_goWeek 62 = .ok (.iconst 2, 1) := by decide +kernel
theorem dX12_goWeek_63 : decode cX12_goWeek 63 = .ok (.iaload, 1) := by decide +kernel
theorem dX12_goWeek_64 : decode cX12_goWeek 64 = .ok (.aload_n 0, 1) := by decide +kernel
theorem dX12_goWeek_65 : decode cX12_goWeek 65 = .ok (.getfield 37, 3) := by decide +kernel
theorem dX12_goWeek_68 : decode cX12_goWeek 68 = .ok (.bipush 6, 2) := by decide +kernel
theorem dX12_goWeek_70 : decode cX12_goWeek 70 = .ok (.iaload, 1) := by decide +kernel
theorem dX12_goWeek_71 : decode cX12_goWeek 71 = .ok (.if_icmp .lt 10, 3) := by decide +kernel
theorem dX12_goWeek_74 : decode cX12_goWeek 74 = .ok (.aload_n 1, 1) := by decide +kernel
theorem dX12_goWeek_75 : decode cX12_goWeek 75 = .ok (.iconst 1, 1) := by decide +kernel
theorem dX12_goWeek_76 : decode cX12_goWeek 76 = .ok (.iconst 1, 1) := by decide +kernel
theorem dX12_goWeek_77 : decode cX12_goWeek 77 = .ok (.iastore, 1) := by decide +kernel
theorem dX12_goWeek_78 : decode cX12_goWeek 78 = .ok (.goto 25, 3) := by decide +kernel
theorem dX12_goWeek_81 : decode cX12_goWeek 81 = .ok (.aload_n 1, 1) := by decide +kernel
theorem dX12_goWeek_82 : decode cX12_goWeek 82 = .ok (.iconst 0, 1) := by decide +kernel
theorem dX12_goWeek_83 : decode cX12_goWeek 83 = .ok (.aload_n 0, 1) := by decide +kernel
theorem dX12_goWeek_84 : decode cX12_goWeek 84 = .ok (.getfield 37, 3) := by decide +kernel
theorem dX12_goWeek_87 : decode cX12_goWeek 87 = .ok (.iconst 1, 1) := by decide +kernel
theorem dX12_goWeek_88 : decode cX12_goWeek 88 = .ok (.iaload, 1) := by decide +kernel
theorem dX12_goWeek_89 : decode cX12_goWeek 89 = .ok (.aload_n 1, 1) := by decide +kernel
theorem dX12_goWeek_90 : decode cX12_goWeek 90 = .ok (.iconst 0, 1) := by decide +kernel
theorem dX12_goWeek_91 : decode cX12_goWeek 91 = .ok (.iaload, 1) := by decide +kernel
theorem dX12_goWeek_92 : decode cX12_goWeek 92 = .ok (.aload_n 0, 1) := by decide +kernel
theorem dX12_goWeek_93 : decode cX12_goWeek 93 = .ok (.getfield 37, 3) := by decide +kernel
theorem dX12_goWeek_96 : decode cX12_goWeek 96 = .ok (.iconst 2, 1) := by decide +kernel
theorem dX12_goWeek_97 : decode cX12_goWeek 97 = .ok (.iaload, 1) := by decide +kernel
theorem dX12_goWeek_98 : decode cX12_goWeek 98 = .ok (.iadd, 1) := by decide +kernel
theorem dX12_goWeek_99 : decode cX12_goWeek 99 = .ok (.invokestatic 317, 3) := by decide +kernel
theorem dX12_goWeek_102 : decode cX12_goWeek 102 = .ok (.iastore, 1) := by decide +kernel
theorem dX12_goWeek_103 : decode cX12_goWeek 103 = .ok (.aload_n 1, 1) := by decide +kernel
theorem dX12_goWeek_104 : decode cX12_goWeek 104 = .ok (.bipush 7, 2) := by decide +kernel
theorem dX12_goWeek_106 : decode cX12_goWeek 106 = .ok (.dup2, 1) := by decide +kernel
theorem dX12_goWeek_107 : decode cX12_goWeek 107 = .ok (.iaload, 1) := by decide +kernel
theorem dX12_goWeek_108 : decode cX12_goWeek 108 = .ok (.iconst 1, 1) := by decide +kernel
theorem dX12_goWeek_109 : decode cX12_goWeek 109 = .ok (.iadd, 1) := by decide +kernel
theorem dX12_goWeek_110 : decode cX12_goWeek 110 = .ok (.iastore, 1) := by decide +kernel
theorem dX12_goWeek_111 : decode cX12_goWeek 111 = .ok (.aload_n 1, 1) := by decide +kernel
theorem dX12_goWeek_112 : decode cX12_goWeek 112 = .ok (.sipush 200, 3) := by decide +kernel
theorem dX12_goWeek_115 : decode cX12_goWeek 115 = .ok (.iaload, 1) := by decide +kernel
theorem dX12_goWeek_116 : decode cX12_goWeek 116 = .ok (.bipush 60, 2) := by decide +kernel
theorem dX12_goWeek_118 : decode cX12_goWeek 118 = .ok (.if_icmp .ne 43, 3) := by decide +kernel
theorem dX12_goWeek_121 : decode cX12_goWeek 121 = .ok (.iconst 1, 1) := by decide +kernel
theorem dX12_goWeek_122 : decode cX12_goWeek 122 = .ok (.istore_n 3, 1) := by decide +kernel
theorem dX12_goWeek_123 : decode cX12_goWeek 123 = .ok (.iload_n 3, 1) := by decide +kernel
theorem dX12_goWeek_124 : decode cX12_goWeek 124 = .ok (.sipush 177, 3) := by decide +kernel
theorem dX12_goWeek_127 : decode cX12_goWeek 127 = .ok (.if_icmp .gt 25, 3) := by decide +kernel
theorem dX12_goWeek_130 : decode cX12_goWeek 130 = .ok (.aload_n 1, 1) := by decide +kernel
theorem dX12_goWeek_131 : decode cX12_goWeek 131 = .ok (.sipush 200, 3) := by decide +kernel
theorem dX12_goWeek_134 : decode cX12_goWeek 134 = .ok (.iload_n 3, 1) := by decide +kernel
theorem dX12_goWeek_135 : decode cX12_goWeek 135 = .ok (.iadd, 1) := by decide +kernel
theorem dX12_goWeek_136 : decode cX12_goWeek 136 = .ok (.aload_n 1, 1) := by decide +kernel
theorem dX12_goWeek_137 : decode cX12_goWeek 137 = .ok (.sipush 200, 3) := by decide +kernel
theorem dX12_goWeek_140 : decode cX12_goWeek 140 = .ok (.iload_n 3, 1) := by decide +kernel
theorem dX12_goWeek_141 : decode cX12_goWeek 141 = .ok (.iadd, 1) := by decide +kernel
theorem dX12_goWeek_142 : decode cX12_goWeek 142 = .ok (.iconst 3, 1) := by decide +kernel
theorem dX12_goWeek_143 : decode cX12_goWeek 143 = .ok (.iadd, 1) := by decide +kernel
theorem dX12_goWeek_144 : decode cX12_goWeek 144 = .ok (.iaload, 1) := by decide +kernel
theorem dX12_goWeek_145 : decode cX12_goWeek 145 = .ok (.iastore, 1) := by decide +kernel
theorem dX12_goWeek_146 : decode cX12_goWeek 146 = .ok (.iinc 3 1, 3) := by decide +kernel
theorem dX12_goWeek_149 : decode cX12_goWeek 149 = .ok (.goto (-26), 3) := by decide +kernel
theorem dX12_goWeek_152 : decode cX12_goWeek 152 = .ok (.aload_n 1, 1) := by decide +kernel
theorem dX12_goWeek_153 : decode cX12_goWeek 153 = .ok (.sipush 200, 3) := by decide +kernel
theorem dX12_goWeek_156 : decode cX12_goWeek 156 = .ok (.dup2, 1) := by decide +kernel
theorem dX12_goWeek_157 : decode cX12_goWeek 157 = .ok (.iaload, 1) := by decide +kernel
theorem dX12_goWeek_158 : decode cX12_goWeek 158 = .ok (.iconst 1, 1) := by decide +kernel
theorem dX12_goWeek_159 : decode cX12_goWeek 159 = .ok (.isub, 1) := by decide +kernel
theorem dX12_goWeek_160 : decode cX12_goWeek 160 = .ok (.iastore, 1) := by decide +kernel
theorem dX12_goWeek_161 : decode cX12_goWeek 161 = .ok (.sipush 201, 3) := by decide +kernel
theorem dX12_goWeek_164 : decode cX12_goWeek 164 = .ok (.iconst 3, 1) := by decide +kernel
theorem dX12_goWeek_165 : decode cX12_goWeek 165 = .ok (.aload_n 1, 1) := by decide +kernel
theorem dX12_goWeek_166 : decode cX12_goWeek 166 = .ok (.sipush 200, 3) := by decide +kernel
theorem dX12_goWeek_169 : decode cX12_goWeek 169 = .ok (.iaload, 1) := by decide +kernel
theorem dX12_goWeek_170 : decode cX12_goWeek 170 = .ok (.imul, 1) := by decide +kernel
theorem dX12_goWeek_171 : decode cX12_goWeek 171 = .ok (.iadd, 1) := by decide +kernel
theorem dX12_goWeek_172 : decode cX12_goWeek 172 = .ok (.istore_n 3, 1) := by decide +kernel
theorem dX12_goWeek_173 : decode cX12_goWeek 173 = .ok (.aload_n 1, 1) := by decide +kernel
theorem dX12_goWeek_174 : decode cX12_goWeek 174 = .ok (.iload_n 3, 1) := by decide +kernel
theorem dX12_goWeek_175 : decode cX12_goWeek 175 = .ok (.iload_n 2, 1) := by decide +kernel
theorem dX12_goWeek_176 : decode cX12_goWeek 176 = .ok (.iastore, 1) := by decide +kernel
theorem dX12_goWeek_177 : decode cX12_goWeek 177 = .ok (.aload_n 1, 1) := by decide +kernel
theorem dX12_goWeek_178 : decode cX12_goWeek 178 = .ok (.iload_n 3, 1) := by decide +kernel
theorem dX12_goWeek_179 : decode cX12_goWeek 179 = .ok (.iconst 1, 1) := by decide +kernel
theorem dX12_goWeek_180 : decode cX12_goWeek 180 = .ok (.iadd, 1) := by decide +kernel
theorem dX12_goWeek_181 : decode cX12_goWeek 181 = .ok (.aload_n 1, 1) := by decide +kernel
theorem dX12_goWeek_182 : decode cX12_goWeek 182 = .ok (.iconst 4, 1) := by decide +kernel
theorem dX12_goWeek_183 : decode cX12_goWeek 183 = .ok (.iaload, 1) := by decide +kernel
theorem dX12_goWeek_184 : decode cX12_goWeek 184 = .ok (.iastore, 1) := by decide +kernel
theorem dX12_goWeek_185 : decode cX12_goWeek 185 = .ok (.aload_n 1, 1) := by decide +kernel
theorem dX12_goWeek_186 : decode cX12_goWeek 186 = .ok (.iload_n 3, 1) := by decide +kernel
theorem dX12_goWeek_187 : decode cX12_goWeek 187 = .ok (.iconst 2, 1) := by decide +kernel
theorem dX12_goWeek_188 : decode cX12_goWeek 188 = .ok (.iadd, 1) := by decide +kernel
theorem dX12_goWeek_189 : decode cX12_goWeek 189 = .ok (.aload_n 1, 1) := by decide +kernel
theorem dX12_goWeek_190 : decode cX12_goWeek 190 = .ok (.iconst 0, 1) := by decide +kernel
theorem dX12_goWeek_191 : decode cX12_goWeek 191 = .ok (.iaload, 1) := by decide +kernel
theorem dX12_goWeek_192 : decode cX12_goWeek 192 = .ok (.iastore, 1) := by decide +kernel
theorem dX12_goWeek_193 : decode cX12_goWeek 193 = .ok (.aload_n 1, 1) := by decide +kernel
theorem dX12_goWeek_194 : decode cX12_goWeek 194 = .ok (.sipush 200, 3) := by decide +kernel
theorem dX12_goWeek_197 : decode cX12_goWeek 197 = .ok (.dup2, 1) := by decide +kernel
theorem dX12_goWeek_198 : decode cX12_goWeek 198 = .ok (.iaload, 1) := by decide +kernel
theorem dX12_goWeek_199 : decode cX12_goWeek 199 = .ok (.iconst 1, 1) := by decide +kernel
theorem dX12_goWeek_200 : decode cX12_goWeek 200 = .ok (.iadd, 1) := by decide +kernel
theorem dX12_goWeek_201 : decode cX12_goWeek 201 = .ok (.iastore, 1) := by decide +kernel
theorem dX12_goWeek_202 : decode cX12_goWeek 202 = .ok (.return_, 1) := by decide +kernel
noncomputable def kX12_goWeek : Nat → Op := (nodeC 104 (nodeC 51 (nodeC 23 (nodeC 10 (nodeC 5 (nodeC 1 (nodeC 0 (leafC 0 (o_il 2 1)) (leafC 1 (o_zne 16 4))) (nodeC 4 (leafC 4 (o_al 1 5)) (leafC 5 (o_ic (2) 6)))) (nodeC 7 (nodeC 6 (leafC 6 (o_ic (0) 7)) (leafC 7 (o_al 1 8))) (nodeC 8 (leafC 8 (o_ic (2) 9)) (nodeC 9 (leafC 9 (o_iald 10)) (leafC 10 (o_ic (1) 11)))))) (nodeC 16 (nodeC 12 (nodeC 11 (leafC 11 (o_isub 12)) (leafC 12 (o_max 15))) (nodeC 15 (leafC 15 (o_iast 16)) (leafC 16 (o_il 2 17)))) (nodeC 18 (nodeC 17 (leafC 17 (o_ic (1) 18)) (leafC 18 (o_cne 26 21))) (nodeC 21 (leafC 21 (o_al 0 22)) (nodeC 22 (leafC 22 (o_al 1 23)) (leafC 23 (o_inv 1 12 0 FX12_weavesOne 26))))))) (nodeC 38 (nodeC 31 (nodeC 27 (nodeC 26 (leafC 26 (o_il 2 27)) (leafC 27 (o_ic (2) 28))) (nodeC 28 (leafC 28 (o_cne 50 31)) (leafC 31 (o_al 1 32)))) (nodeC 33 (nodeC 32 (leafC 32 (o_ic (4) 33)) (leafC 33 (o_ic (9999) 36))) (nodeC 36 (leafC 36 (o_al 1 37)) (nodeC 37 (leafC 37 (o_ic (4) 38)) (leafC 38 (o_iald 39)))))) (nodeC 44 (nodeC 40 (nodeC 39 (leafC 39 (o_al 0 40)) (leafC 40 (o_gR 12 18 43))) (nodeC 43 (leafC 43 (o_ic (4) 44)) (leafC 44 (o_iald 45)))) (nodeC 46 (nodeC 45 (leafC 45 (o_iadd 46)) (leafC 46 (o_min 49))) (nodeC 49 (leafC 49 (o_iast 50)) (nodeC 50 (leafC 50 (o_mask [3] (o_al 1 51))) (leafC 51 (o_ic (1) 52)))))))) (nodeC 78 (nodeC 64 (nodeC 57 (nodeC 53 (nodeC 52 (leafC 52 (o_iald 53)) (leafC 53 (o_zne 103 56))) (nodeC 56 (leafC 56 (o_il 2 57)) (leafC 57 (o_ic (3) 58)))) (nodeC 61 (nodeC 58 (leafC 58 (o_ceq 74 61)) (leafC 61 (o_al 1 62))) (nodeC 62 (leafC 62 (o_ic (2) 63)) (nodeC 63 (leafC 63 (o_iald 64)) (leafC 64 (o_al 0 65)))))) (nodeC 71 (nodeC 68 (nodeC 65 (leafC 65 (o_gR 12 18 68)) (leafC 68 (o_ic (6) 70))) (nodeC 70 (leafC 70 (o_iald 71)) (leafC 71 (o_clt 81 74)))) (nodeC 75 (nodeC 74 (leafC 74 (o_al 1 75)) (leafC 75 (o_ic (1) 76))) (nodeC 76 (leafC 76 (o_ic (1) 77)) (nodeC 77 (leafC 77 (o_iast 78)) (leafC 78 (o_goto 103))))))) (nodeC 91 (nodeC 84 (nodeC 82 (nodeC 81 (leafC 81 (o_al 1 82)) (leafC 82 (o_ic (0) 83))) (nodeC 83 (leafC 83 (o_al 0 84)) (leafC 84 (o_gR 12 18 87)))) (nodeC 88 (nodeC 87 (leafC 87 (o_ic (1) 88)) (leafC 88 (o_iald 89))) (nodeC 89 (leafC 89 (o_al 1 90)) (nodeC 90 (leafC 90 (o_ic (0) 91)) (leafC 91 (o_iald 92)))))) (nodeC 97 (nodeC 93 (nodeC 92 (leafC 92 (o_al 0 93)) (leafC 93 (o_gR 12 18 96))) (nodeC 96 (leafC 96 (o_ic (2) 97)) (leafC 97 (o_iald 98)))) (nodeC 99 (nodeC 98 (leafC 98 (o_iadd 99)) (leafC 99 (o_min 102))) (nodeC 102 (leafC 102 (o_iast 103)) (nodeC 103 (leafC 103 (o_al 1 104)) (leafC 104 (o_ic (7) 106))))))))) (nodeC 160 (nodeC 134 (nodeC 116 (nodeC 109 (nodeC 107 (nodeC 106 (leafC 106 (o_dup2A 107)) (leafC 107 (o_iald 108))) (nodeC 108 (leafC 108 (o_ic (1) 109)) (leafC 109 (o_iadd 110)))) (nodeC 111 (nodeC 110 (leafC 110 (o_iast 111)) (leafC 111 (o_al 1 112))) (nodeC 112 (leafC 112 (o_ic (200) 115)) (nodeC 115 (leafC 115 (o_iald 116)) (leafC 116 (o_ic (60) 118)))))) (nodeC 123 (nodeC 121 (nodeC 118 (leafC 118 (o_cne 161 121)) (leafC 121 (o_ic (1) 122))) (nodeC 122 (leafC 122 (o_is 3 123)) (leafC 123 (o_mask [0] (o_il 3 124))))) (nodeC 127 (nodeC 124 (leafC 124 (o_ic (177) 127)) (leafC 127 (o_cgt 152 130))) (nodeC 130 (leafC 130 (o_al 1 131)) (nodeC 131 (leafC 131 (o_ic (200) 134)) (leafC 134 (o_il 3 135))))))) (nodeC 145 (nodeC 140 (nodeC 136 (nodeC 135 (leafC 135 (o_iadd 136)) (leafC 136 (o_al 1 137))) (nodeC 137 (leafC 137 (o_ic (200) 140)) (leafC 140 (o_il 3 141)))) (nodeC 142 (nodeC 141 (leafC 141 (o_iadd 142)) (leafC 142 (o_ic (3) 143))) (nodeC 143 (leafC 143 (o_iadd 144)) (nodeC 144 (leafC 144 (o_iald 145)) (leafC 145 (o_iast 146)))))) (nodeC 153 (nodeC 149 (nodeC 146 (leafC 146 (o_inc 3 (1) 149)) (leafC 149 (o_goto 123))) (nodeC 152 (leafC 152 (o_al 1 153)) (leafC 153 (o_ic (200) 156)))) (nodeC 157 (nodeC 156 (leafC 156 (o_dup2A 157)) (leafC 157 (o_iald 158))) (nodeC 158 (leafC 158 (o_ic (1) 159)) (nodeC 159 (leafC 159 (o_isub 160)) (leafC 160 (o_iast 161)))))))) (nodeC 182 (nodeC 173 (nodeC 166 (nodeC 164 (nodeC 161 (leafC 161 (o_ic (201) 164)) (leafC 164 (o_ic (3) 165))) (nodeC 165 (leafC 165 (o_al 1 166)) (leafC 166 (o_ic (200) 169)))) (nodeC 170 (nodeC 169 (leafC 169 (o_iald 170)) (leafC 170 (o_imul 171))) (nodeC 171 (leafC 171 (o_iadd 172)) (nodeC 172 (leafC 172 (o_is 3 173)) (leafC 173 (o_al 1 174)))))) (nodeC 177 (nodeC 175 (nodeC 174 (leafC 174 (o_il 3 175)) (leafC 175 (o_il 2 176))) (nodeC 176 (leafC 176 (o_iast 177)) (leafC 177 (o_al 1 178)))) (nodeC 179 (nodeC 178 (leafC 178 (o_il 3 179)) (leafC 179 (o_ic (1) 180))) (nodeC 180 (leafC 180 (o_iadd 181)) (nodeC 181 (leafC 181 (o_al 1 182)) (leafC 182 (o_ic (4) 183))))))) (nodeC 191 (nodeC 186 (nodeC 184 (nodeC 183 (leafC 183 (o_iald 184)) (leafC 184 (o_iast 185))) (nodeC 185 (leafC 185 (o_al 1 186)) (leafC 186 (o_il 3 187)))) (nodeC 188 (nodeC 187 (leafC 187 (o_ic (2) 188)) (leafC 188 (o_iadd 189))) (nodeC 189 (leafC 189 (o_al 1 190)) (nodeC 190 (leafC 190 (o_ic (0) 191)) (leafC 191 (o_iald 192)))))) (nodeC 197 (nodeC 193 (nodeC 192 (leafC 192 (o_iast 193)) (leafC 193 (o_al 1 194))) (nodeC 194 (leafC 194 (o_ic (200) 197)) (leafC 197 (o_dup2A 198)))) (nodeC 199 (nodeC 198 (leafC 198 (o_iald 199)) (leafC 199 (o_ic (1) 200))) (nodeC 200 (leafC 200 (o_iadd 201)) (nodeC 201 (leafC 201 (o_iast 202)) (leafC 202 (o_vret))))))))))
theorem sX12_goWeek : ∀ pc, SoundOp cX12_goWeek RX12 4 none false 91 2248 pc (kX12_goWeek pc) := (so_node (so_node (so_node (so_node (so_node (so_node (so_node (so_leaf (so_iload_n dX12_goWeek_0 rfl)) (so_leaf (so_zne dX12_goWeek_1 (by decide)))) (so_node (so_leaf (so_aload_n dX12_goWeek_4 rfl)) (so_leaf (so_iconst dX12_goWeek_5 (by decide))))) (so_node (so_node (so_leaf (so_iconst dX12_goWeek_6 (by decide))) (so_leaf (so_aload_n dX12_goWeek_7 rfl))) (so_node (so_leaf (so_iconst dX12_goWeek_8 (by decide))) (so_node (so_leaf (so_iald dX12_goWeek_9)) (so_leaf (so_iconst dX12_goWeek_10 (by decide))))))) (so_node (so_node (so_node (so_leaf (so_isub dX12_goWeek_11)) (so_leaf (so_max wm_RX12_319 wms_max wmi wmc_max (by decide) (by decide) dX12_goWeek_12))) (so_node (so_leaf (so_iast dX12_goWeek_15)) (so_leaf (so_iload_n dX12_goWeek_16 rfl)))) (so_node (so_node (so_leaf (so_iconst dX12_goWeek_17 (by decide))) (so_leaf (so_cne dX12_goWeek_18 (by decide)))) (so_node (so_leaf (so_aload_n dX12_goWeek_21 rfl)) (so_node (so_leaf (so_aload_n dX12_goWeek_22 rfl)) (so_leaf (so_inv CX12_weavesOne (by decide) rfl wm_RX12_332 win_X12_weavesOne wse_X12_weavesOne wn_12 wc_X12_weavesOne (by decide +kernel) (by decide) (by decide) dX12_goWeek_23))))))) (so_node (so_node (so_node (so_node (so_leaf (so_iload_n dX12_goWeek_26 rfl)) (so_leaf (so_iconst dX12_goWeek_27 (by decide)))) (so_node (so_leaf (so_cne dX12_goWeek_28 (by decide))) (so_leaf (so_aload_n dX12_goWeek_31 rfl)))) (so_node (so_node (so_leaf (so_iconst dX12_goWeek_32 (by decide))) (so_leaf (so_sipush dX12_goWeek_33 (by decide)))) (so_node (so_leaf (so_aload_n dX12_goWeek_36 rfl)) (so_node (so_leaf (so_iconst dX12_goWeek_37 (by decide))) (so_leaf (so_iald dX12_goWeek_38)))))) (so_node (so_node (so_node (so_leaf (so_aload_n dX12_goWeek_39 rfl)) (so_leaf (so_gR (by decide) (by decide) wC12 wf_RX12_37 (fun _ _ _ => rfl) dX12_goWeek_40))) (so_node (so_leaf (so_iconst dX12_goWeek_43 (by decide))) (so_leaf (so_iald dX12_goWeek_44)))) (so_node (so_node (so_leaf (so_iadd dX12_goWeek_45)) (so_leaf (so_min wm_RX12_317 wms_min wmi wmc_min (by decide) (by decide) dX12_goWeek_46))) (so_node (so_leaf (so_iast dX12_goWeek_49)) (so_node (so_leaf (so_mask (so_aload_n dX12_goWeek_50 rfl))) (so_leaf (so_iconst dX12_goWeek_51 (by decide))))))))) (so_node (so_node (so_node (so_node (so_node (so_leaf (so_iald dX12_goWeek_52)) (so_leaf (so_zne dX12_goWeek_53 (by decide)))) (so_node (so_leaf (so_iload_n dX12_goWeek_56 rfl)) (so_leaf (so_iconst dX12_goWeek_57 (by decide))))) (so_node (so_node (so_leaf (so_ceq dX12_goWeek_58 (by decide))) (so_leaf (so_aload_n dX12_goWeek_61 rfl))) (so_node (so_leaf (so_iconst dX12_goWeek_62 (by decide))) (so_node (so_leaf (so_iald dX12_goWeek_63)) (so_leaf (so_aload_n dX12_goWeek_64 rfl)))))) (so_node (so_node (so_node (so_leaf (so_gR (by decide) (by decide) wC12 wf_RX12_37 (fun _ _ _ => rfl) dX12_goWeek_65)) (so_leaf (so_bipush dX12_goWeek_68 (by decide)))) (so_node (so_leaf (so_iald dX12_goWeek_70)) (so_leaf (so_clt dX12_goWeek_71 (by decide))))) (so_node (so_node (so_leaf (so_aload_n dX12_goWeek_74 rfl)) (so_leaf (so_iconst dX12_goWeek_75 (by decide)))) (so_node (so_leaf (so_iconst dX12_goWeek_76 (by decide))) (so_node (so_leaf (so_iast dX12_goWeek_77)) (so_leaf (so_goto dX12_goWeek_78 (by decide)))))))) (so_node (so_node (so_node (so_node (so_leaf (so_aload_n dX12_goWeek_81 rfl)) (so_leaf (so_iconst dX12_goWeek_82 (by decide)))) (so_node (so_leaf (so_aload_n dX12_goWeek_83 rfl)) (so_leaf (so_gR (by decide) (by decide) wC12 wf_RX12_37 (fun _ _ _ => rfl) dX12_goWeek_84)))) (so_node (so_node (so_leaf (so_iconst dX12_goWeek_87 (by decide))) (so_leaf (so_iald dX12_goWeek_88))) (so_node (so_leaf (so_aload_n dX12_goWeek_89 rfl)) (so_node (so_leaf (so_iconst dX12_goWeek_90 (by decide))) (so_leaf (so_iald dX12_goWeek_91)))))) (so_node (so_node (so_node (so_leaf (so_aload_n dX12_goWeek_92 rfl)) (so_leaf (so_gR (by decide) (by decide) wC12 wf_RX12_37 (fun _ _ _ => rfl) dX12_goWeek_93))) (so_node (so_leaf (so_iconst dX12_goWeek_96 (by decide))) (so_leaf (so_iald dX12_goWeek_97)))) (so_node (so_node (so_leaf (so_iadd dX12_goWeek_98)) (so_leaf (so_min wm_RX12_317 wms_min wmi wmc_min (by decide) (by decide) dX12_goWeek_99))) (so_node (so_leaf (so_iast dX12_goWeek_102)) (so_node (so_leaf (so_aload_n dX12_goWeek_103 rfl)) (so_leaf (so_bipush dX12_goWeek_104 (by decide)))))))))) (so_node (so_node (so_node (so_node (so_node (so_node (so_leaf (so_dup2A dX12_goWeek_106)) (so_leaf (so_iald dX12_goWeek_107))) (so_node (so_leaf (so_iconst dX12_goWeek_108 (by decide))) (so_leaf (so_iadd dX12_goWeek_109)))) (so_node (so_node (so_leaf (so_iast dX12_goWeek_110)) (so_leaf (so_aload_n dX12_goWeek_111 rfl))) (so_node (so_leaf (so_sipush dX12_goWeek_112 (by decide))) (so_node (so_leaf (so_iald dX12_goWeek_115)) (so_leaf (so_bipush dX12_goWeek_116 (by decide))))))) (so_node (so_node (so_node (so_leaf (so_cne dX12_goWeek_118 (by decide))) (so_leaf (so_iconst dX12_goWeek_121 (by decide)))) (so_node (so_leaf (so_istore_n dX12_goWeek_122 rfl (by decide))) (so_leaf (so_mask (so_iload_n dX12_goWeek_123 rfl))))) (so_node (so_node (so_leaf (so_sipush dX12_goWeek_124 (by decide))) (so_leaf (so_cgt dX12_goWeek_127 (by decide)))) (so_node (so_leaf (so_aload_n dX12_goWeek_130 rfl)) (so_node (so_leaf (so_sipush dX12_goWeek_131 (by decide))) (so_leaf (so_iload_n dX12_goWeek_134 rfl))))))) (so_node (so_node (so_node (so_node (so_leaf (so_iadd dX12_goWeek_135)) (so_leaf (so_aload_n dX12_goWeek_136 rfl))) (so_node (so_leaf (so_sipush dX12_goWeek_137 (by decide))) (so_leaf (so_iload_n dX12_goWeek_140 rfl)))) (so_node (so_node (so_leaf (so_iadd dX12_goWeek_141)) (so_leaf (so_iconst dX12_goWeek_142 (by decide)))) (so_node (so_leaf (so_iadd dX12_goWeek_143)) (so_node (so_leaf (so_iald dX12_goWeek_144)) (so_leaf (so_iast dX12_goWeek_145)))))) (so_node (so_node (so_node (so_leaf (so_iinc dX12_goWeek_146 (by decide) (by decide))) (so_leaf (so_goto dX12_goWeek_149 (by decide)))) (so_node (so_leaf (so_aload_n dX12_goWeek_152 rfl)) (so_leaf (so_sipush dX12_goWeek_153 (by decide))))) (so_node (so_node (so_leaf (so_dup2A dX12_goWeek_156)) (so_leaf (so_iald dX12_goWeek_157))) (so_node (so_leaf (so_iconst dX12_goWeek_158 (by decide))) (so_node (so_leaf (so_isub dX12_goWeek_159)) (so_leaf (so_iast dX12_goWeek_160)))))))) (so_node (so_node (so_node (so_node (so_node (so_leaf (so_sipush dX12_goWeek_161 (by decide))) (so_leaf (so_iconst dX12_goWeek_164 (by decide)))) (so_node (so_leaf (so_aload_n dX12_goWeek_165 rfl)) (so_leaf (so_sipush dX12_goWeek_166 (by decide))))) (so_node (so_node (so_leaf (so_iald dX12_goWeek_169)) (so_leaf (so_imul dX12_goWeek_170))) (so_node (so_leaf (so_iadd dX12_goWeek_171)) (so_node (so_leaf (so_istore_n dX12_goWeek_172 rfl (by decide))) (so_leaf (so_aload_n dX12_goWeek_173 rfl)))))) (so_node (so_node (so_node (so_leaf (so_iload_n dX12_goWeek_174 rfl)) (so_leaf (so_iload_n dX12_goWeek_175 rfl))) (so_node (so_leaf (so_iast dX12_goWeek_176)) (so_leaf (so_aload_n dX12_goWeek_177 rfl)))) (so_node (so_node (so_leaf (so_iload_n dX12_goWeek_178 rfl)) (so_leaf (so_iconst dX12_goWeek_179 (by decide)))) (so_node (so_leaf (so_iadd dX12_goWeek_180)) (so_node (so_leaf (so_aload_n dX12_goWeek_181 rfl)) (so_leaf (so_iconst dX12_goWeek_182 (by decide)))))))) (so_node (so_node (so_node (so_node (so_leaf (so_iald dX12_goWeek_183)) (so_leaf (so_iast dX12_goWeek_184))) (so_node (so_leaf (so_aload_n dX12_goWeek_185 rfl)) (so_leaf (so_iload_n dX12_goWeek_186 rfl)))) (so_node (so_node (so_leaf (so_iconst dX12_goWeek_187 (by decide))) (so_leaf (so_iadd dX12_goWeek_188))) (so_node (so_leaf (so_aload_n dX12_goWeek_189 rfl)) (so_node (so_leaf (so_iconst dX12_goWeek_190 (by decide))) (so_leaf (so_iald dX12_goWeek_191)))))) (so_node (so_node (so_node (so_leaf (so_iast dX12_goWeek_192)) (so_leaf (so_aload_n dX12_goWeek_193 rfl))) (so_node (so_leaf (so_sipush dX12_goWeek_194 (by decide))) (so_leaf (so_dup2A dX12_goWeek_197)))) (so_node (so_node (so_leaf (so_iald dX12_goWeek_198)) (so_leaf (so_iconst dX12_goWeek_199 (by decide)))) (so_node (so_leaf (so_iadd dX12_goWeek_200)) (so_node (so_leaf (so_iast dX12_goWeek_201)) (so_leaf (so_vret dX12_goWeek_202 rfl))))))))))
theorem pX12_goWeek : ∀ pc, Pr (kX12_goWeek pc) := (pr_node (pr_node (pr_node (pr_node (pr_node (pr_node (pr_node (pr_leaf (pr_il _ _)) (pr_leaf (pr_zne _ _))) (pr_node (pr_leaf (pr_al _ _)) (pr_leaf (pr_ic _ _)))) (pr_node (pr_node (pr_leaf (pr_ic _ _)) (pr_leaf (pr_al _ _))) (pr_node (pr_leaf (pr_ic _ _)) (pr_node (pr_leaf (pr_iald _)) (pr_leaf (pr_ic _ _)))))) (pr_node (pr_node (pr_node (pr_leaf (pr_isub _)) (pr_leaf (pr_max _))) (pr_node (pr_leaf (pr_iast _)) (pr_leaf (pr_il _ _)))) (pr_node (pr_node (pr_leaf (pr_ic _ _)) (pr_leaf (pr_cne _ _))) (pr_node (pr_leaf (pr_al _ _)) (pr_node (pr_leaf (pr_al _ _)) (pr_leaf (pr_inv _ _ _ GX12_weavesOne _))))))) (pr_node (pr_node (pr_node (pr_node (pr_leaf (pr_il _ _)) (pr_leaf (pr_ic _ _))) (pr_node (pr_leaf (pr_cne _ _)) (pr_leaf (pr_al _ _)))) (pr_node (pr_node (pr_leaf (pr_ic _ _)) (pr_leaf (pr_ic _ _))) (pr_node (pr_leaf (pr_al _ _)) (pr_node (pr_leaf (pr_ic _ _)) (pr_leaf (pr_iald _)))))) (pr_node (pr_node (pr_node (pr_leaf (pr_al _ _)) (pr_leaf (pr_gR _ _ _))) (pr_node (pr_leaf (pr_ic _ _)) (pr_leaf (pr_iald _)))) (pr_node (pr_node (pr_leaf (pr_iadd _)) (pr_leaf (pr_min _))) (pr_node (pr_leaf (pr_iast _)) (pr_node (pr_leaf (pr_mask (pr_al _ _))) (pr_leaf (pr_ic _ _)))))))) (pr_node (pr_node (pr_node (pr_node (pr_node (pr_leaf (pr_iald _)) (pr_leaf (pr_zne _ _))) (pr_node (pr_leaf (pr_il _ _)) (pr_leaf (pr_ic _ _)))) (pr_node (pr_node (pr_leaf (pr_ceq _ _)) (pr_leaf (pr_al _ _))) (pr_node (pr_leaf (pr_ic _ _)) (pr_node (pr_leaf (pr_iald _)) (pr_leaf (pr_al _ _)))))) (pr_node (pr_node (pr_node (pr_leaf (pr_gR _ _ _)) (pr_leaf (pr_ic _ _))) (pr_node (pr_leaf (pr_iald _)) (pr_leaf (pr_clt _ _)))) (pr_node (pr_node (pr_leaf (pr_al _ _)) (pr_leaf (pr_ic _ _))) (pr_node (pr_leaf (pr_ic _ _)) (pr_node (pr_leaf (pr_iast _)) (pr_leaf (pr_goto _))))))) (pr_node (pr_node (pr_node (pr_node (pr_leaf (pr_al _ _)) (pr_leaf (pr_ic _ _))) (pr_node (pr_leaf (pr_al _ _)) (pr_leaf (pr_gR _ _ _)))) (pr_node (pr_node (pr_leaf (pr_ic _ _)) (pr_leaf (pr_iald _))) (pr_node (pr_leaf (pr_al _ _)) (pr_node (pr_leaf (pr_ic _ _)) (pr_leaf (pr_iald _)))))) (pr_node (pr_node (pr_node (pr_leaf (pr_al _ _)) (pr_leaf (pr_gR _ _ _))) (pr_node (pr_leaf (pr_ic _ _)) (pr_leaf (pr_iald _)))) (pr_node (pr_node (pr_leaf (pr_iadd _)) (pr_leaf (pr_min _))) (pr_node (pr_leaf (pr_iast _)) (pr_node (pr_leaf (pr_al _ _)) (pr_leaf (pr_ic _ _))))))))) (pr_node (pr_node (pr_node (pr_node (pr_node (pr_node (pr_leaf (pr_dup2A _)) (pr_leaf (pr_iald _))) (pr_node (pr_leaf (pr_ic _ _)) (pr_leaf (pr_iadd _)))) (pr_node (pr_node (pr_leaf (pr_iast _)) (pr_leaf (pr_al _ _))) (pr_node (pr_leaf (pr_ic _ _)) (pr_node (pr_leaf (pr_iald _)) (pr_leaf (pr_ic _ _)))))) (pr_node (pr_node (pr_node (pr_leaf (pr_cne _ _)) (pr_leaf (pr_ic _ _))) (pr_node (pr_leaf (pr_is _ _)) (pr_leaf (pr_mask (pr_il _ _))))) (pr_node (pr_node (pr_leaf (pr_ic _ _)) (pr_leaf (pr_cgt _ _))) (pr_node (pr_leaf (pr_al _ _)) (pr_node (pr_leaf (pr_ic _ _)) (pr_leaf (pr_il _ _))))))) (pr_node (pr_node (pr_node (pr_node (pr_leaf (pr_iadd _)) (pr_leaf (pr_al _ _))) (pr_node (pr_leaf (pr_ic _ _)) (pr_leaf (pr_il _ _)))) (pr_node (pr_node (pr_leaf (pr_iadd _)) (pr_leaf (pr_ic _ _))) (pr_node (pr_leaf (pr_iadd _)) (pr_node (pr_leaf (pr_iald _)) (pr_leaf (pr_iast _)))))) (pr_node (pr_node (pr_node (pr_leaf (pr_inc _ _ _)) (pr_leaf (pr_goto _))) (pr_node (pr_leaf (pr_al _ _)) (pr_leaf (pr_ic _ _)))) (pr_node (pr_node (pr_leaf (pr_dup2A _)) (pr_leaf (pr_iald _))) (pr_node (pr_leaf (pr_ic _ _)) (pr_node (pr_leaf (pr_isub _)) (pr_leaf (pr_iast _)))))))) (pr_node (pr_node (pr_node (pr_node (pr_node (pr_leaf (pr_ic _ _)) (pr_leaf (pr_ic _ _))) (pr_node (pr_leaf (pr_al _ _)) (pr_leaf (pr_ic _ _)))) (pr_node (pr_node (pr_leaf (pr_iald _)) (pr_leaf (pr_imul _))) (pr_node (pr_leaf (pr_iadd _)) (pr_node (pr_leaf (pr_is _ _)) (pr_leaf (pr_al _ _)))))) (pr_node (pr_node (pr_node (pr_leaf (pr_il _ _)) (pr_leaf (pr_il _ _))) (pr_node (pr_leaf (pr_iast _)) (pr_leaf (pr_al _ _)))) (pr_node (pr_node (pr_leaf (pr_il _ _)) (pr_leaf (pr_ic _ _))) (pr_node (pr_leaf (pr_iadd _)) (pr_node (pr_leaf (pr_al _ _)) (pr_leaf (pr_ic _ _))))))) (pr_node (pr_node (pr_node (pr_node (pr_leaf (pr_iald _)) (pr_leaf (pr_iast _))) (pr_node (pr_leaf (pr_al _ _)) (pr_leaf (pr_il _ _)))) (pr_node (pr_node (pr_leaf (pr_ic _ _)) (pr_leaf (pr_iadd _))) (pr_node (pr_leaf (pr_al _ _)) (pr_node (pr_leaf (pr_ic _ _)) (pr_leaf (pr_iald _)))))) (pr_node (pr_node (pr_node (pr_leaf (pr_iast _)) (pr_leaf (pr_al _ _))) (pr_node (pr_leaf (pr_ic _ _)) (pr_leaf (pr_dup2A _)))) (pr_node (pr_node (pr_leaf (pr_iald _)) (pr_leaf (pr_ic _ _))) (pr_node (pr_leaf (pr_iadd _)) (pr_node (pr_leaf (pr_iast _)) (pr_leaf (pr_vret))))))))))
noncomputable def FX12_goWeek : List EV → Hp → Option (RV × Hp) := Fm kX12_goWeek 4
theorem CX12_goWeek : Con yX12_goWeek cX12_goWeek 4 none 91 2248 FX12_goWeek := con_of (own := RX12) rfl (by decide +kernel) sX12_goWeek pX12_goWeek (fun z => by cases z)
theorem GX12_goWeek : Gr FX12_goWeek := Gr_Fm pX12_goWeek 4
theorem dX12_debtOn_0 : decode cX12_debtOn 0 = .ok (.aload_n 0, 1) := by decide +kernel
theorem dX12_debtOn_1 : decode cX12_debtOn 1 = .ok (.getfield 43, 3) := by decide +kernel
theorem dX12_debtOn_4 : decode cX12_debtOn 4 = .ok (.iconst 3, 1) := by decide +kernel
theorem dX12_debtOn_5 : decode cX12_debtOn 5 = .ok (.iload_n 1, 1) := by decide +kernel
theorem dX12_debtOn_6 : decode cX12_debtOn 6 = .ok (.imul, 1) := by decide +kernel
theorem dX12_debtOn_7 : decode cX12_debtOn 7 = .ok (.iconst 1, 1) := by decide +kernel
theorem dX12_debtOn_8 : decode cX12_debtOn 8 = .ok (.iadd, 1) := by decide +kernel
theorem dX12_debtOn_9 : decode cX12_debtOn 9 = .ok (.iaload, 1) := by decide +kernel
theorem dX12_debtOn_10 : decode cX12_debtOn 10 = .ok (.aload_n 0, 1) := by decide +kernel
theorem dX12_debtOn_11 : decode cX12_debtOn 11 = .ok (.getfield 43, 3) := by decide +kernel
theorem dX12_debtOn_14 : decode cX12_debtOn 14 = .ok (.iconst 3, 1) := by decide +kernel
theorem dX12_debtOn_15 : decode cX12_debtOn 15 = .ok (.iload_n 1, 1) := by decide +kernel
theorem dX12_debtOn_16 : decode cX12_debtOn 16 = .ok (.imul, 1) := by decide +kernel
theorem dX12_debtOn_17 : decode cX12_debtOn 17 = .ok (.iconst 2, 1) := by decide +kernel
theorem dX12_debtOn_18 : decode cX12_debtOn 18 = .ok (.iadd, 1) := by decide +kernel
theorem dX12_debtOn_19 : decode cX12_debtOn 19 = .ok (.iaload, 1) := by decide +kernel
theorem dX12_debtOn_20 : decode cX12_debtOn 20 = .ok (.iconst 0, 1) := by decide +kernel
theorem dX12_debtOn_21 : decode cX12_debtOn 21 = .ok (.iload_n 2, 1) := by decide +kernel
theorem dX12_debtOn_22 : decode cX12_debtOn 22 = .ok (.aload_n 0, 1) := by decide +kernel
theorem dX12_debtOn_23 : decode cX12_debtOn 23 = .ok (.getfield 43, 3) := by decide +kernel
theorem dX12_debtOn_26 : decode cX12_debtOn 26 = .ok (.iconst 3, 1) := by decide +kernel
theorem dX12_debtOn_27 : decode cX12_debtOn 27 = .ok (.iload_n 1, 1) := by decide +kernel
theorem dX12_debtOn_28 : decode cX12_debtOn 28 = .ok (.imul, 1) := by decide +kernel
theorem dX12_debtOn_29 : decode cX12_debtOn 29 = .ok (.iaload, 1) := by decide +kernel
theorem dX12_debtOn_30 : decode cX12_debtOn 30 = .ok (.isub, 1) := by decide +kernel
theorem dX12_debtOn_31 : decode cX12_debtOn 31 = .ok (.invokestatic 319, 3) := by decide +kernel
theorem dX12_debtOn_34 : decode cX12_debtOn 34 = .ok (.imul, 1) := by decide +kernel
theorem dX12_debtOn_35 : decode cX12_debtOn 35 = .ok (.iadd, 1) := by decide +kernel
theorem dX12_debtOn_36 : decode cX12_debtOn 36 = .ok (.ireturn, 1) := by decide +kernel
noncomputable def kX12_debtOn : Nat → Op := (nodeC 17 (nodeC 8 (nodeC 4 (nodeC 0 (leafC 0 (o_al 0 1)) (nodeC 1 (leafC 1 (o_gR 12 20 4)) (leafC 4 (o_ic (3) 5)))) (nodeC 6 (nodeC 5 (leafC 5 (o_il 1 6)) (leafC 6 (o_imul 7))) (nodeC 7 (leafC 7 (o_ic (1) 8)) (leafC 8 (o_iadd 9))))) (nodeC 11 (nodeC 9 (leafC 9 (o_iald 10)) (nodeC 10 (leafC 10 (o_al 0 11)) (leafC 11 (o_gR 12 20 14)))) (nodeC 15 (nodeC 14 (leafC 14 (o_ic (3) 15)) (leafC 15 (o_il 1 16))) (nodeC 16 (leafC 16 (o_imul 17)) (leafC 17 (o_ic (2) 18)))))) (nodeC 26 (nodeC 20 (nodeC 18 (leafC 18 (o_iadd 19)) (nodeC 19 (leafC 19 (o_iald 20)) (leafC 20 (o_ic (0) 21)))) (nodeC 22 (nodeC 21 (leafC 21 (o_il 2 22)) (leafC 22 (o_al 0 23))) (nodeC 23 (leafC 23 (o_gR 12 20 26)) (leafC 26 (o_ic (3) 27))))) (nodeC 30 (nodeC 28 (nodeC 27 (leafC 27 (o_il 1 28)) (leafC 28 (o_imul 29))) (nodeC 29 (leafC 29 (o_iald 30)) (leafC 30 (o_isub 31)))) (nodeC 34 (nodeC 31 (leafC 31 (o_max 34)) (leafC 34 (o_imul 35))) (nodeC 35 (leafC 35 (o_iadd 36)) (leafC 36 (o_iret)))))))
theorem sX12_debtOn : ∀ pc, SoundOp cX12_debtOn RX12 3 (some .int) false 1 23 pc (kX12_debtOn pc) := (so_node (so_node (so_node (so_node (so_leaf (so_aload_n dX12_debtOn_0 rfl)) (so_node (so_leaf (so_gR (by decide) (by decide) wC12 wf_RX12_43 (fun _ _ _ => rfl) dX12_debtOn_1)) (so_leaf (so_iconst dX12_debtOn_4 (by decide))))) (so_node (so_node (so_leaf (so_iload_n dX12_debtOn_5 rfl)) (so_leaf (so_imul dX12_debtOn_6))) (so_node (so_leaf (so_iconst dX12_debtOn_7 (by decide))) (so_leaf (so_iadd dX12_debtOn_8))))) (so_node (so_node (so_leaf (so_iald dX12_debtOn_9)) (so_node (so_leaf (so_aload_n dX12_debtOn_10 rfl)) (so_leaf (so_gR (by decide) (by decide) wC12 wf_RX12_43 (fun _ _ _ => rfl) dX12_debtOn_11)))) (so_node (so_node (so_leaf (so_iconst dX12_debtOn_14 (by decide))) (so_leaf (so_iload_n dX12_debtOn_15 rfl))) (so_node (so_leaf (so_imul dX12_debtOn_16)) (so_leaf (so_iconst dX12_debtOn_17 (by decide))))))) (so_node (so_node (so_node (so_leaf (so_iadd dX12_debtOn_18)) (so_node (so_leaf (so_iald dX12_debtOn_19)) (so_leaf (so_iconst dX12_debtOn_20 (by decide))))) (so_node (so_node (so_leaf (so_iload_n dX12_debtOn_21 rfl)) (so_leaf (so_aload_n dX12_debtOn_22 rfl))) (so_node (so_leaf (so_gR (by decide) (by decide) wC12 wf_RX12_43 (fun _ _ _ => rfl) dX12_debtOn_23)) (so_leaf (so_iconst dX12_debtOn_26 (by decide)))))) (so_node (so_node (so_node (so_leaf (so_iload_n dX12_debtOn_27 rfl)) (so_leaf (so_imul dX12_debtOn_28))) (so_node (so_leaf (so_iald dX12_debtOn_29)) (so_leaf (so_isub dX12_debtOn_30)))) (so_node (so_node (so_leaf (so_max wm_RX12_319 wms_max wmi wmc_max (by decide) (by decide) dX12_debtOn_31)) (so_leaf (so_imul dX12_debtOn_34))) (so_node (so_leaf (so_iadd dX12_debtOn_35)) (so_leaf (so_iret dX12_debtOn_36 rfl)))))))
theorem pX12_debtOn : ∀ pc, Pr (kX12_debtOn pc) := (pr_node (pr_node (pr_node (pr_node (pr_leaf (pr_al _ _)) (pr_node (pr_leaf (pr_gR _ _ _)) (pr_leaf (pr_ic _ _)))) (pr_node (pr_node (pr_leaf (pr_il _ _)) (pr_leaf (pr_imul _))) (pr_node (pr_leaf (pr_ic _ _)) (pr_leaf (pr_iadd _))))) (pr_node (pr_node (pr_leaf (pr_iald _)) (pr_node (pr_leaf (pr_al _ _)) (pr_leaf (pr_gR _ _ _)))) (pr_node (pr_node (pr_leaf (pr_ic _ _)) (pr_leaf (pr_il _ _))) (pr_node (pr_leaf (pr_imul _)) (pr_leaf (pr_ic _ _)))))) (pr_node (pr_node (pr_node (pr_leaf (pr_iadd _)) (pr_node (pr_leaf (pr_iald _)) (pr_leaf (pr_ic _ _)))) (pr_node (pr_node (pr_leaf (pr_il _ _)) (pr_leaf (pr_al _ _))) (pr_node (pr_leaf (pr_gR _ _ _)) (pr_leaf (pr_ic _ _))))) (pr_node (pr_node (pr_node (pr_leaf (pr_il _ _)) (pr_leaf (pr_imul _))) (pr_node (pr_leaf (pr_iald _)) (pr_leaf (pr_isub _)))) (pr_node (pr_node (pr_leaf (pr_max _)) (pr_leaf (pr_imul _))) (pr_node (pr_leaf (pr_iadd _)) (pr_leaf (pr_iret)))))))
noncomputable def FX12_debtOn : List EV → Hp → Option (RV × Hp) := Fm kX12_debtOn 3
theorem CX12_debtOn : Con yX12_debtOn cX12_debtOn 3 (some .int) 1 23 FX12_debtOn := con_of (own := RX12) rfl (by decide +kernel) sX12_debtOn pX12_debtOn (fun z => by cases z)
theorem GX12_debtOn : Gr FX12_debtOn := Gr_Fm pX12_debtOn 3
theorem dX12_debtNow_0 : decode cX12_debtNow 0 = .ok (.aload_n 0, 1) := by decide +kernel
theorem dX12_debtNow_1 : decode cX12_debtNow 1 = .ok (.iload_n 2, 1) := by decide +kernel
theorem dX12_debtNow_2 : decode cX12_debtNow 2 = .ok (.aload_n 1, 1) := by decide +kernel
theorem dX12_debtNow_3 : decode cX12_debtNow 3 = .ok (.bipush 7, 2) := by decide +kernel
theorem dX12_debtNow_5 : decode cX12_debtNow 5 = .ok (.iaload, 1) := by decide +kernel
theorem dX12_debtNow_6 : decode cX12_debtNow 6 = .ok (.invokevirtual 336, 3) := by decide +kernel
theorem dX12_debtNow_9 : decode cX12_debtNow 9 = .ok (.ireturn, 1) := by decide +kernel
noncomputable def kX12_debtNow : Nat → Op := (nodeC 2 (nodeC 0 (leafC 0 (o_al 0 1)) (nodeC 1 (leafC 1 (o_il 2 2)) (leafC 2 (o_al 1 3)))) (nodeC 5 (nodeC 3 (leafC 3 (o_ic (7) 5)) (leafC 5 (o_iald 6))) (nodeC 6 (leafC 6 (o_inv 2 12 1 FX12_debtOn 9)) (leafC 9 (o_iret)))))
theorem sX12_debtNow : ∀ pc, SoundOp cX12_debtNow RX12 3 (some .int) false 2 45 pc (kX12_debtNow pc) := (so_node (so_node (so_leaf (so_aload_n dX12_debtNow_0 rfl)) (so_node (so_leaf (so_iload_n dX12_debtNow_1 rfl)) (so_leaf (so_aload_n dX12_debtNow_2 rfl)))) (so_node (so_node (so_leaf (so_bipush dX12_debtNow_3 (by decide))) (so_leaf (so_iald dX12_debtNow_5))) (so_node (so_leaf (so_inv CX12_debtOn (by decide) rfl wm_RX12_336 win_X12_debtOn wse_X12_debtOn wn_12 wc_X12_debtOn (by decide +kernel) (by decide) (by decide) dX12_debtNow_6)) (so_leaf (so_iret dX12_debtNow_9 rfl)))))
theorem pX12_debtNow : ∀ pc, Pr (kX12_debtNow pc) := (pr_node (pr_node (pr_leaf (pr_al _ _)) (pr_node (pr_leaf (pr_il _ _)) (pr_leaf (pr_al _ _)))) (pr_node (pr_node (pr_leaf (pr_ic _ _)) (pr_leaf (pr_iald _))) (pr_node (pr_leaf (pr_inv _ _ _ GX12_debtOn _)) (pr_leaf (pr_iret)))))
noncomputable def FX12_debtNow : List EV → Hp → Option (RV × Hp) := Fm kX12_debtNow 3
theorem CX12_debtNow : Con yX12_debtNow cX12_debtNow 3 (some .int) 2 45 FX12_debtNow := con_of (own := RX12) rfl (by decide +kernel) sX12_debtNow pX12_debtNow (fun z => by cases z)
theorem GX12_debtNow : Gr FX12_debtNow := Gr_Fm pX12_debtNow 3
theorem dX12_wants_0 : decode cX12_wants 0 = .ok (.aload_n 0, 1) := by decide +kernel
theorem dX12_wants_1 : decode cX12_wants 1 = .ok (.getfield 49, 3) := by decide +kernel
theorem dX12_wants_4 : decode cX12_wants 4 = .ok (.iconst 3, 1) := by decide +kernel
theorem dX12_wants_5 : decode cX12_wants 5 = .ok (.iload_n 2, 1) := by decide +kernel
theorem dX12_wants_6 : decode cX12_wants 6 = .ok (.imul, 1) := by decide +kernel
theorem dX12_wants_7 : decode cX12_wants 7 = .ok (.iconst 2, 1) := by decide +kernel
theorem dX12_wants_8 : decode cX12_wants 8 = .ok (.iadd, 1) := by decide +kernel
theorem dX12_wants_9 : decode cX12_wants 9 = .ok (.iaload, 1) := by decide +kernel
theorem dX12_wants_10 : decode cX12_wants 10 = .ok (.aload_n 1, 1) := by decide +kernel
theorem dX12_wants_11 : decode cX12_wants 11 = .ok (.bipush 14, 2) := by decide +kernel
theorem dX12_wants_13 : decode cX12_wants 13 = .ok (.iload_n 2, 1) := by decide +kernel
theorem dX12_wants_14 : decode cX12_wants 14 = .ok (.iadd, 1) := by decide +kernel
theorem dX12_wants_15 : decode cX12_wants 15 = .ok (.iaload, 1) := by decide +kernel
theorem dX12_wants_16 : decode cX12_wants 16 = .ok (.isub, 1) := by decide +kernel
theorem dX12_wants_17 : decode cX12_wants 17 = .ok (.ireturn, 1) := by decide +kernel
noncomputable def kX12_wants : Nat → Op := (nodeC 8 (nodeC 4 (nodeC 0 (leafC 0 (o_al 0 1)) (nodeC 1 (leafC 1 (o_gR 12 22 4)) (leafC 4 (o_ic (3) 5)))) (nodeC 6 (nodeC 5 (leafC 5 (o_il 2 6)) (leafC 6 (o_imul 7))) (nodeC 7 (leafC 7 (o_ic (2) 8)) (leafC 8 (o_iadd 9))))) (nodeC 13 (nodeC 10 (nodeC 9 (leafC 9 (o_iald 10)) (leafC 10 (o_al 1 11))) (nodeC 11 (leafC 11 (o_ic (14) 13)) (leafC 13 (o_il 2 14)))) (nodeC 15 (nodeC 14 (leafC 14 (o_iadd 15)) (leafC 15 (o_iald 16))) (nodeC 16 (leafC 16 (o_isub 17)) (leafC 17 (o_iret))))))
theorem sX12_wants : ∀ pc, SoundOp cX12_wants RX12 3 (some .int) false 0 0 pc (kX12_wants pc) := (so_node (so_node (so_node (so_leaf (so_aload_n dX12_wants_0 rfl)) (so_node (so_leaf (so_gR (by decide) (by decide) wC12 wf_RX12_49 (fun _ _ _ => rfl) dX12_wants_1)) (so_leaf (so_iconst dX12_wants_4 (by decide))))) (so_node (so_node (so_leaf (so_iload_n dX12_wants_5 rfl)) (so_leaf (so_imul dX12_wants_6))) (so_node (so_leaf (so_iconst dX12_wants_7 (by decide))) (so_leaf (so_iadd dX12_wants_8))))) (so_node (so_node (so_node (so_leaf (so_iald dX12_wants_9)) (so_leaf (so_aload_n dX12_wants_10 rfl))) (so_node (so_leaf (so_bipush dX12_wants_11 (by decide))) (so_leaf (so_iload_n dX12_wants_13 rfl)))) (so_node (so_node (so_leaf (so_iadd dX12_wants_14)) (so_leaf (so_iald dX12_wants_15))) (so_node (so_leaf (so_isub dX12_wants_16)) (so_leaf (so_iret dX12_wants_17 rfl))))))
theorem pX12_wants : ∀ pc, Pr (kX12_wants pc) := (pr_node (pr_node (pr_node (pr_leaf (pr_al _ _)) (pr_node (pr_leaf (pr_gR _ _ _)) (pr_leaf (pr_ic _ _)))) (pr_node (pr_node (pr_leaf (pr_il _ _)) (pr_leaf (pr_imul _))) (pr_node (pr_leaf (pr_ic _ _)) (pr_leaf (pr_iadd _))))) (pr_node (pr_node (pr_node (pr_leaf (pr_iald _)) (pr_leaf (pr_al _ _))) (pr_node (pr_leaf (pr_ic _ _)) (pr_leaf (pr_il _ _)))) (pr_node (pr_node (pr_leaf (pr_iadd _)) (pr_leaf (pr_iald _))) (pr_node (pr_leaf (pr_isub _)) (pr_leaf (pr_iret))))))
noncomputable def FX12_wants : List EV → Hp → Option (RV × Hp) := Fm kX12_wants 3
theorem CX12_wants : Con yX12_wants cX12_wants 3 (some .int) 0 0 FX12_wants := con_of (own := RX12) rfl (by decide +kernel) sX12_wants pX12_wants (fun z => by cases z)
theorem GX12_wants : Gr FX12_wants := Gr_Fm pX12_wants 3
theorem dX12_rule_0 : decode cX12_rule 0 = .ok (.aload_n 0, 1) := by decide +kernel
theorem dX12_rule_1 : decode cX12_rule 1 = .ok (.iconst 0, 1) := by decide +kernel
theorem dX12_rule_2 : decode cX12_rule 2 = .ok (.putfield 105, 3) := by decide +kernel
theorem dX12_rule_5 : decode cX12_rule 5 = .ok (.aload_n 0, 1) := by decide +kernel
theorem dX12_rule_6 : decode cX12_rule 6 = .ok (.getfield 302, 3) := by decide +kernel
theorem dX12_rule_9 : decode cX12_rule 9 = .ok (.ifCond .eq 15, 3) := by decide +kernel
theorem dX12_rule_12 : decode cX12_rule 12 = .ok (.iload_n 1, 1) := by decide +kernel
theorem dX12_rule_13 : decode cX12_rule 13 = .ok (.i2l, 1) := by decide +kernel
theorem dX12_rule_14 : decode cX12_rule 14 = .ok (.lconst 0, 1) := by decide +kernel
theorem dX12_rule_15 : decode cX12_rule 15 = .ok (.ldc2_w 339, 3) := by decide +kernel
theorem dX12_rule_18 : decode cX12_rule 18 = .ok (.invokestatic 225, 3) := by decide +kernel
theorem dX12_rule_21 : decode cX12_rule 21 = .ok (.ifCond .ne 5, 3) := by decide +kernel
theorem dX12_rule_24 : decode cX12_rule 24 = .ok (.iconst (-1), 1) := by decide +kernel
theorem dX12_rule_25 : decode cX12_rule 25 = .ok (.ireturn, 1) := by decide +kernel
theorem dX12_rule_26 : decode cX12_rule 26 = .ok (.iload_n 1, 1) := by decide +kernel
theorem dX12_rule_27 : decode cX12_rule 27 = .ok (.lookupswitch 56 #[(0, 33), (3, 40), (5, 49)], 33) := by decide +kernel
theorem dX12_rule_60 : decode cX12_rule 60 = .ok (.aload_n 0, 1) := by decide +kernel
theorem dX12_rule_61 : decode cX12_rule 61 = .ok (.getfield 61, 3) := by decide +kernel
theorem dX12_rule_64 : decode cX12_rule 64 = .ok (.iconst 0, 1) := by decide +kernel
theorem dX12_rule_65 : decode cX12_rule 65 = .ok (.iaload, 1) := by decide +kernel
theorem dX12_rule_66 : decode cX12_rule 66 = .ok (.ireturn, 1) := by decide +kernel
theorem dX12_rule_67 : decode cX12_rule 67 = .ok (.aload_n 0, 1) := by decide +kernel
theorem dX12_rule_68 : decode cX12_rule 68 = .ok (.aload_n 0, 1) := by decide +kernel
theorem dX12_rule_69 : decode cX12_rule 69 = .ok (.getfield 61, 3) := by decide +kernel
theorem dX12_rule_72 : decode cX12_rule 72 = .ok (.invokevirtual 325, 3) := by decide +kernel
theorem dX12_rule_75 : decode cX12_rule 75 = .ok (.ireturn, 1) := by decide +kernel
theorem dX12_rule_76 : decode cX12_rule 76 = .ok (.aload_n 0, 1) := by decide +kernel
theorem dX12_rule_77 : decode cX12_rule 77 = .ok (.getfield 61, 3) := by decide +kernel
theorem dX12_rule_80 : decode cX12_rule 80 = .ok (.iconst 2, 1) := by decide +kernel
theorem dX12_rule_81 : decode cX12_rule 81 = .ok (.iaload, 1) := by decide +kernel
theorem dX12_rule_82 : decode cX12_rule 82 = .ok (.ireturn, 1) := by decide +kernel
theorem dX12_rule_83 : decode cX12_rule 83 = .ok (.aload_n 0, 1) := by decide +kernel
theorem dX12_rule_84 : decode cX12_rule 84 = .ok (.getfield 37, 3) := by decide +kernel
theorem dX12_rule_87 : decode cX12_rule 87 = .ok (.iload_n 1, 1) := by decide +kernel
theorem dX12_rule_88 : decode cX12_rule 88 = .ok (.iaload, 1) := by decide +kernel
theorem dX12_rule_89 : decode cX12_rule 89 = .ok (.ireturn, 1) := by decide +kernel
noncomputable def kX12_rule : Nat → Op := (nodeC 61 (nodeC 14 (nodeC 5 (nodeC 1 (nodeC 0 (leafC 0 (o_al 0 1)) (leafC 1 (o_ic (0) 2))) (nodeC 2 (leafC 2 (o_pI 12 0 5)) (leafC 5 (o_al 0 6)))) (nodeC 9 (nodeC 6 (leafC 6 (o_gI 12 27 9)) (leafC 9 (o_zeq 24 12))) (nodeC 12 (leafC 12 (o_il 1 13)) (nodeC 13 (leafC 13 (o_i2l 14)) (leafC 14 (o_lc (0) 15)))))) (nodeC 24 (nodeC 18 (nodeC 15 (leafC 15 (o_lc (6) 18)) (leafC 18 (o_ist 3 1 FX12_isIn 21))) (nodeC 21 (leafC 21 (o_zne 26 24)) (leafC 24 (o_ic (-1) 25)))) (nodeC 26 (nodeC 25 (leafC 25 (o_iret)) (leafC 26 (o_il 1 27))) (nodeC 27 (leafC 27 (o_sw [(0, 60), (3, 67), (5, 76)] 83)) (nodeC 60 (leafC 60 (o_al 0 61)) (leafC 61 (o_gR 12 32 64))))))) (nodeC 76 (nodeC 67 (nodeC 65 (nodeC 64 (leafC 64 (o_ic (0) 65)) (leafC 65 (o_iald 66))) (nodeC 66 (leafC 66 (o_iret)) (leafC 67 (o_al 0 68)))) (nodeC 69 (nodeC 68 (leafC 68 (o_al 0 69)) (leafC 69 (o_gR 12 32 72))) (nodeC 72 (leafC 72 (o_inv 1 12 1 FX12_takes_ 75)) (nodeC 75 (leafC 75 (o_iret)) (leafC 76 (o_al 0 77)))))) (nodeC 82 (nodeC 80 (nodeC 77 (leafC 77 (o_gR 12 32 80)) (leafC 80 (o_ic (2) 81))) (nodeC 81 (leafC 81 (o_iald 82)) (leafC 82 (o_iret)))) (nodeC 84 (nodeC 83 (leafC 83 (o_al 0 84)) (leafC 84 (o_gR 12 18 87))) (nodeC 87 (leafC 87 (o_il 1 88)) (nodeC 88 (leafC 88 (o_iald 89)) (leafC 89 (o_iret))))))))
theorem sX12_rule : ∀ pc, SoundOp cX12_rule RX12 2 (some .int) false 90 2225 pc (kX12_rule pc) := (so_node (so_node (so_node (so_node (so_node (so_leaf (so_aload_n dX12_rule_0 rfl)) (so_leaf (so_iconst dX12_rule_1 (by decide)))) (so_node (so_leaf (so_pI (by decide) (by decide) wC12 wf_RX12_105 (Or.inl rfl) rfl dX12_rule_2)) (so_leaf (so_aload_n dX12_rule_5 rfl)))) (so_node (so_node (so_leaf (so_gI (by decide) (by decide) wC12 wf_RX12_302 (fun _ _ _ => rfl) dX12_rule_6)) (so_leaf (so_zeq dX12_rule_9 (by decide)))) (so_node (so_leaf (so_iload_n dX12_rule_12 rfl)) (so_node (so_leaf (so_i2l dX12_rule_13)) (so_leaf (so_lconst dX12_rule_14 (by decide))))))) (so_node (so_node (so_node (so_leaf (so_ldc2 wk_RX12_339 dX12_rule_15)) (so_leaf (so_ist CX12_isIn rfl wm_RX12_225 wst_X12_isIn wny_X12_isIn wc_X12_isIn (by decide +kernel) (by decide) (by decide) dX12_rule_18))) (so_node (so_leaf (so_zne dX12_rule_21 (by decide))) (so_leaf (so_iconst dX12_rule_24 (by decide))))) (so_node (so_node (so_leaf (so_iret dX12_rule_25 rfl)) (so_leaf (so_iload_n dX12_rule_26 rfl))) (so_node (so_leaf (so_lookup dX12_rule_27 (by decide) (by decide) (by decide) (by decide))) (so_node (so_leaf (so_aload_n dX12_rule_60 rfl)) (so_leaf (so_gR (by decide) (by decide) wC12 wf_RX12_61 (fun _ _ _ => rfl) dX12_rule_61))))))) (so_node (so_node (so_node (so_node (so_leaf (so_iconst dX12_rule_64 (by decide))) (so_leaf (so_iald dX12_rule_65))) (so_node (so_leaf (so_iret dX12_rule_66 rfl)) (so_leaf (so_aload_n dX12_rule_67 rfl)))) (so_node (so_node (so_leaf (so_aload_n dX12_rule_68 rfl)) (so_leaf (so_gR (by decide) (by decide) wC12 wf_RX12_61 (fun _ _ _ => rfl) dX12_rule_69))) (so_node (so_leaf (so_inv CX12_takes_ (by decide) rfl wm_RX12_325 win_X12_takes_ wse_X12_takes_ wn_12 wc_X12_takes_ (by decide +kernel) (by decide) (by decide) dX12_rule_72)) (so_node (so_leaf (so_iret dX12_rule_75 rfl)) (so_leaf (so_aload_n dX12_rule_76 rfl)))))) (so_node (so_node (so_node (so_leaf (so_gR (by decide) (by decide) wC12 wf_RX12_61 (fun _ _ _ => rfl) dX12_rule_77)) (so_leaf (so_iconst dX12_rule_80 (by decide)))) (so_node (so_leaf (so_iald dX12_rule_81)) (so_leaf (so_iret dX12_rule_82 rfl)))) (so_node (so_node (so_leaf (so_aload_n dX12_rule_83 rfl)) (so_leaf (so_gR (by decide) (by decide) wC12 wf_RX12_37 (fun _ _ _ => rfl) dX12_rule_84))) (so_node (so_leaf (so_iload_n dX12_rule_87 rfl)) (so_node (so_leaf (so_iald dX12_rule_88)) (so_leaf (so_iret dX12_rule_89 rfl))))))))
theorem pX12_rule : ∀ pc, Pr (kX12_rule pc) := (pr_node (pr_node (pr_node (pr_node (pr_node (pr_leaf (pr_al _ _)) (pr_leaf (pr_ic _ _))) (pr_node (pr_leaf (pr_pI _ _ _)) (pr_leaf (pr_al _ _)))) (pr_node (pr_node (pr_leaf (pr_gI _ _ _)) (pr_leaf (pr_zeq _ _))) (pr_node (pr_leaf (pr_il _ _)) (pr_node (pr_leaf (pr_i2l _)) (pr_leaf (pr_lc _ _)))))) (pr_node (pr_node (pr_node (pr_leaf (pr_lc _ _)) (pr_leaf (pr_ist _ _ GX12_isIn _))) (pr_node (pr_leaf (pr_zne _ _)) (pr_leaf (pr_ic _ _)))) (pr_node (pr_node (pr_leaf (pr_iret)) (pr_leaf (pr_il _ _))) (pr_node (pr_leaf (pr_sw _ _)) (pr_node (pr_leaf (pr_al _ _)) (pr_leaf (pr_gR _ _ _))))))) (pr_node (pr_node (pr_node (pr_node (pr_leaf (pr_ic _ _)) (pr_leaf (pr_iald _))) (pr_node (pr_leaf (pr_iret)) (pr_leaf (pr_al _ _)))) (pr_node (pr_node (pr_leaf (pr_al _ _)) (pr_leaf (pr_gR _ _ _))) (pr_node (pr_leaf (pr_inv _ _ _ GX12_takes_ _)) (pr_node (pr_leaf (pr_iret)) (pr_leaf (pr_al _ _)))))) (pr_node (pr_node (pr_node (pr_leaf (pr_gR _ _ _)) (pr_leaf (pr_ic _ _))) (pr_node (pr_leaf (pr_iald _)) (pr_leaf (pr_iret)))) (pr_node (pr_node (pr_leaf (pr_al _ _)) (pr_leaf (pr_gR _ _ _))) (pr_node (pr_leaf (pr_il _ _)) (pr_node (pr_leaf (pr_iald _)) (pr_leaf (pr_iret))))))))
noncomputable def FX12_rule : List EV → Hp → Option (RV × Hp) := Fm kX12_rule 2
theorem CX12_rule : Con yX12_rule cX12_rule 2 (some .int) 90 2225 FX12_rule := con_of (own := RX12) rfl (by decide +kernel) sX12_rule pX12_rule (fun z => by cases z)
theorem GX12_rule : Gr FX12_rule := Gr_Fm pX12_rule 2
theorem dX12_debt_0 : decode cX12_debt 0 = .ok (.aload_n 0, 1) := by decide +kernel
theorem dX12_debt_1 : decode cX12_debt 1 = .ok (.iconst 0, 1) := by decide +kernel
theorem dX12_debt_2 : decode cX12_debt 2 = .ok (.putfield 105, 3) := by decide +kernel
theorem dX12_debt_5 : decode cX12_debt 5 = .ok (.aload_n 0, 1) := by decide +kernel
theorem dX12_debt_6 : decode cX12_debt 6 = .ok (.iload_n 1, 1) := by decide +kernel
theorem dX12_debt_7 : decode cX12_debt 7 = .ok (.invokevirtual 341, 3) := by decide +kernel
theorem dX12_debt_10 : decode cX12_debt 10 = .ok (.ifCond .eq 15, 3) := by decide +kernel
theorem dX12_debt_13 : decode cX12_debt 13 = .ok (.iload_n 2, 1) := by decide +kernel
theorem dX12_debt_14 : decode cX12_debt 14 = .ok (.i2l, 1) := by decide +kernel
theorem dX12_debt_15 : decode cX12_debt 15 = .ok (.lconst 0, 1) := by decide +kernel
theorem dX12_debt_16 : decode cX12_debt 16 = .ok (.ldc2_w 344, 3) := by decide +kernel
theorem dX12_debt_19 : decode cX12_debt 19 = .ok (.invokestatic 225, 3) := by decide +kernel
theorem dX12_debt_22 : decode cX12_debt 22 = .ok (.ifCond .ne 5, 3) := by decide +kernel
theorem dX12_debt_25 : decode cX12_debt 25 = .ok (.iconst (-1), 1) := by decide +kernel
theorem dX12_debt_26 : decode cX12_debt 26 = .ok (.ireturn, 1) := by decide +kernel
theorem dX12_debt_27 : decode cX12_debt 27 = .ok (.iload_n 2, 1) := by decide +kernel
theorem dX12_debt_28 : decode cX12_debt 28 = .ok (.iconst 3, 1) := by decide +kernel
theorem dX12_debt_29 : decode cX12_debt 29 = .ok (.if_icmp .ne 15, 3) := by decide +kernel
theorem dX12_debt_32 : decode cX12_debt 32 = .ok (.aload_n 0, 1) := by decide +kernel
theorem dX12_debt_33 : decode cX12_debt 33 = .ok (.aload_n 0, 1) := by decide +kernel
theorem dX12_debt_34 : decode cX12_debt 34 = .ok (.getfield 61, 3) := by decide +kernel
theorem dX12_debt_37 : decode cX12_debt 37 = .ok (.iload_n 1, 1) := by decide +kernel
theorem dX12_debt_38 : decode cX12_debt 38 = .ok (.invokevirtual 346, 3) := by decide +kernel
theorem dX12_debt_41 : decode cX12_debt 41 = .ok (.goto 30, 3) := by decide +kernel
theorem dX12_debt_44 : decode cX12_debt 44 = .ok (.iload_n 2, 1) := by decide +kernel
theorem dX12_debt_45 : decode cX12_debt 45 = .ok (.iconst 4, 1) := by decide +kernel
theorem dX12_debt_46 : decode cX12_debt 46 = .ok (.if_icmp .ne 15, 3) := by decide +kernel
theorem dX12_debt_49 : decode cX12_debt 49 = .ok (.aload_n 0, 1) := by decide +kernel
theorem dX12_debt_50 : decode cX12_debt 50 = .ok (.getfield 61, 3) := by decide +kernel
theorem dX12_debt_53 : decode cX12_debt 53 = .ok (.bipush 8, 2) := by decide +kernel
theorem dX12_debt_55 : decode cX12_debt 55 = .ok (.iload_n 1, 1) := by decide +kernel
theorem dX12_debt_56 : decode cX12_debt 56 = .ok (.iadd, 1) := by decide +kernel
theorem dX12_debt_57 : decode cX12_debt 57 = .ok (.iaload, 1) := by decide +kernel
theorem dX12_debt_58 : decode cX12_debt 58 = .ok (.goto 13, 3) := by decide +kernel
theorem dX12_debt_61 : decode cX12_debt 61 = .ok (.aload_n 0, 1) := by decide +kernel
theorem dX12_debt_62 : decode cX12_debt 62 = .ok (.getfield 43, 3) := by decide +kernel
theorem dX12_debt_65 : decode cX12_debt 65 = .ok (.iconst 3, 1) := by decide +kernel
theorem dX12_debt_66 : decode cX12_debt 66 = .ok (.iload_n 1, 1) := by decide +kernel
theorem dX12_debt_67 : decode cX12_debt 67 = .ok (.imul, 1) := by decide +kernel
theorem dX12_debt_68 : decode cX12_debt 68 = .ok (.iload_n 2, 1) := by decide +kernel
theorem dX12_debt_69 : decode cX12_debt 69 = .ok (.iadd, 1) := by decide +kernel
theorem dX12_debt_70 : decode cX12_debt 70 = .ok (.iaload, 1) := by decide +kernel
theorem dX12_debt_71 : decode cX12_debt 71 = .ok (.ireturn, 1) := by decide +kernel
noncomputable def kX12_debt : Nat → Op := (nodeC 34 (nodeC 15 (nodeC 6 (nodeC 1 (nodeC 0 (leafC 0 (o_al 0 1)) (leafC 1 (o_ic (0) 2))) (nodeC 2 (leafC 2 (o_pI 12 0 5)) (nodeC 5 (leafC 5 (o_al 0 6)) (leafC 6 (o_il 1 7))))) (nodeC 10 (nodeC 7 (leafC 7 (o_inv 1 12 1 FX12_isDebt 10)) (leafC 10 (o_zeq 25 13))) (nodeC 13 (leafC 13 (o_il 2 14)) (nodeC 14 (leafC 14 (o_i2l 15)) (leafC 15 (o_lc (0) 16)))))) (nodeC 26 (nodeC 19 (nodeC 16 (leafC 16 (o_lc (4) 19)) (leafC 19 (o_ist 3 1 FX12_isIn 22))) (nodeC 22 (leafC 22 (o_zne 27 25)) (nodeC 25 (leafC 25 (o_ic (-1) 26)) (leafC 26 (o_iret))))) (nodeC 29 (nodeC 27 (leafC 27 (o_il 2 28)) (nodeC 28 (leafC 28 (o_ic (3) 29)) (leafC 29 (o_cne 44 32)))) (nodeC 32 (leafC 32 (o_al 0 33)) (nodeC 33 (leafC 33 (o_al 0 34)) (leafC 34 (o_gR 12 32 37))))))) (nodeC 56 (nodeC 45 (nodeC 38 (nodeC 37 (leafC 37 (o_il 1 38)) (leafC 38 (o_inv 2 12 1 FX12_debtNow 41))) (nodeC 41 (leafC 41 (o_goto 71)) (nodeC 44 (leafC 44 (o_il 2 45)) (leafC 45 (o_ic (4) 46))))) (nodeC 50 (nodeC 46 (leafC 46 (o_cne 61 49)) (nodeC 49 (leafC 49 (o_al 0 50)) (leafC 50 (o_gR 12 32 53)))) (nodeC 53 (leafC 53 (o_ic (8) 55)) (nodeC 55 (leafC 55 (o_il 1 56)) (leafC 56 (o_iadd 57)))))) (nodeC 65 (nodeC 58 (nodeC 57 (leafC 57 (o_iald 58)) (leafC 58 (o_goto 71))) (nodeC 61 (leafC 61 (o_al 0 62)) (nodeC 62 (leafC 62 (o_gR 12 20 65)) (leafC 65 (o_ic (3) 66))))) (nodeC 68 (nodeC 66 (leafC 66 (o_il 1 67)) (nodeC 67 (leafC 67 (o_imul 68)) (leafC 68 (o_il 2 69)))) (nodeC 69 (leafC 69 (o_iadd 70)) (nodeC 70 (leafC 70 (o_iald 71)) (leafC 71 (o_iret))))))))
theorem sX12_debt : ∀ pc, SoundOp cX12_debt RX12 3 (some .int) false 3 67 pc (kX12_debt pc) := (so_node (so_node (so_node (so_node (so_node (so_leaf (so_aload_n dX12_debt_0 rfl)) (so_leaf (so_iconst dX12_debt_1 (by decide)))) (so_node (so_leaf (so_pI (by decide) (by decide) wC12 wf_RX12_105 (Or.inl rfl) rfl dX12_debt_2)) (so_node (so_leaf (so_aload_n dX12_debt_5 rfl)) (so_leaf (so_iload_n dX12_debt_6 rfl))))) (so_node (so_node (so_leaf (so_inv CX12_isDebt (by decide) rfl wm_RX12_341 win_X12_isDebt wse_X12_isDebt wn_12 wc_X12_isDebt (by decide +kernel) (by decide) (by decide) dX12_debt_7)) (so_leaf (so_zeq dX12_debt_10 (by decide)))) (so_node (so_leaf (so_iload_n dX12_debt_13 rfl)) (so_node (so_leaf (so_i2l dX12_debt_14)) (so_leaf (so_lconst dX12_debt_15 (by decide))))))) (so_node (so_node (so_node (so_leaf (so_ldc2 wk_RX12_344 dX12_debt_16)) (so_leaf (so_ist CX12_isIn rfl wm_RX12_225 wst_X12_isIn wny_X12_isIn wc_X12_isIn (by decide +kernel) (by decide) (by decide) dX12_debt_19))) (so_node (so_leaf (so_zne dX12_debt_22 (by decide))) (so_node (so_leaf (so_iconst dX12_debt_25 (by decide))) (so_leaf (so_iret dX12_debt_26 rfl))))) (so_node (so_node (so_leaf (so_iload_n dX12_debt_27 rfl)) (so_node (so_leaf (so_iconst dX12_debt_28 (by decide))) (so_leaf (so_cne dX12_debt_29 (by decide))))) (so_node (so_leaf (so_aload_n dX12_debt_32 rfl)) (so_node (so_leaf (so_aload_n dX12_debt_33 rfl)) (so_leaf (so_gR (by decide) (by decide) wC12 wf_RX12_61 (fun _ _ _ => rfl) dX12_debt_34))))))) (so_node (so_node (so_node (so_node (so_leaf (so_iload_n dX12_debt_37 rfl)) (so_leaf (so_inv CX12_debtNow (by decide) rfl wm_RX12_346 win_X12_debtNow wse_X12_debtNow wn_12 wc_X12_debtNow (by decide +kernel) (by decide) (by decide) dX12_debt_38))) (so_node (so_leaf (so_goto dX12_debt_41 (by decide))) (so_node (so_leaf (so_iload_n dX12_debt_44 rfl)) (so_leaf (so_iconst dX12_debt_45 (by decide)))))) (so_node (so_node (so_leaf (so_cne dX12_debt_46 (by decide))) (so_node (so_leaf (so_aload_n dX12_debt_49 rfl)) (so_leaf (so_gR (by decide) (by decide) wC12 wf_RX12_61 (fun _ _ _ => rfl) dX12_debt_50)))) (so_node (so_leaf (so_bipush dX12_debt_53 (by decide))) (so_node (so_leaf (so_iload_n dX12_debt_55 rfl)) (so_leaf (so_iadd dX12_debt_56)))))) (so_node (so_node (so_node (so_leaf (so_iald dX12_debt_57)) (so_leaf (so_goto dX12_debt_58 (by decide)))) (so_node (so_leaf (so_aload_n dX12_debt_61 rfl)) (so_node (so_leaf (so_gR (by decide) (by decide) wC12 wf_RX12_43 (fun _ _ _ => rfl) dX12_debt_62)) (so_leaf (so_iconst dX12_debt_65 (by decide)))))) (so_node (so_node (so_leaf (so_iload_n dX12_debt_66 rfl)) (so_node (so_leaf (so_imul dX12_debt_67)) (so_leaf (so_iload_n dX12_debt_68 rfl)))) (so_node (so_leaf (so_iadd dX12_debt_69)) (so_node (so_leaf (so_iald dX12_debt_70)) (so_leaf (so_iret dX12_debt_71 rfl))))))))
theorem pX12_debt : ∀ pc, Pr (kX12_debt pc) := (pr_node (pr_node (pr_node (pr_node (pr_node (pr_leaf (pr_al _ _)) (pr_leaf (pr_ic _ _))) (pr_node (pr_leaf (pr_pI _ _ _)) (pr_node (pr_leaf (pr_al _ _)) (pr_leaf (pr_il _ _))))) (pr_node (pr_node (pr_leaf (pr_inv _ _ _ GX12_isDebt _)) (pr_leaf (pr_zeq _ _))) (pr_node (pr_leaf (pr_il _ _)) (pr_node (pr_leaf (pr_i2l _)) (pr_leaf (pr_lc _ _)))))) (pr_node (pr_node (pr_node (pr_leaf (pr_lc _ _)) (pr_leaf (pr_ist _ _ GX12_isIn _))) (pr_node (pr_leaf (pr_zne _ _)) (pr_node (pr_leaf (pr_ic _ _)) (pr_leaf (pr_iret))))) (pr_node (pr_node (pr_leaf (pr_il _ _)) (pr_node (pr_leaf (pr_ic _ _)) (pr_leaf (pr_cne _ _)))) (pr_node (pr_leaf (pr_al _ _)) (pr_node (pr_leaf (pr_al _ _)) (pr_leaf (pr_gR _ _ _))))))) (pr_node (pr_node (pr_node (pr_node (pr_leaf (pr_il _ _)) (pr_leaf (pr_inv _ _ _ GX12_debtNow _))) (pr_node (pr_leaf (pr_goto _)) (pr_node (pr_leaf (pr_il _ _)) (pr_leaf (pr_ic _ _))))) (pr_node (pr_node (pr_leaf (pr_cne _ _)) (pr_node (pr_leaf (pr_al _ _)) (pr_leaf (pr_gR _ _ _)))) (pr_node (pr_leaf (pr_ic _ _)) (pr_node (pr_leaf (pr_il _ _)) (pr_leaf (pr_iadd _)))))) (pr_node (pr_node (pr_node (pr_leaf (pr_iald _)) (pr_leaf (pr_goto _))) (pr_node (pr_leaf (pr_al _ _)) (pr_node (pr_leaf (pr_gR _ _ _)) (pr_leaf (pr_ic _ _))))) (pr_node (pr_node (pr_leaf (pr_il _ _)) (pr_node (pr_leaf (pr_imul _)) (pr_leaf (pr_il _ _)))) (pr_node (pr_leaf (pr_iadd _)) (pr_node (pr_leaf (pr_iald _)) (pr_leaf (pr_iret))))))))
noncomputable def FX12_debt : List EV → Hp → Option (RV × Hp) := Fm kX12_debt 3
theorem CX12_debt : Con yX12_debt cX12_debt 3 (some .int) 3 67 FX12_debt := con_of (own := RX12) rfl (by decide +kernel) sX12_debt pX12_debt (fun z => by cases z)
theorem GX12_debt : Gr FX12_debt := Gr_Fm pX12_debt 3
theorem dX12_buyer_0 : decode cX12_buyer 0 = .ok (.aload_n 0, 1) := by decide +kernel
theorem dX12_buyer_1 : decode cX12_buyer 1 = .ok (.aload_n 0, 1) := by decide +kernel
theorem dX12_buyer_2 : decode cX12_buyer 2 = .ok (.iload_n 1, 1) := by decide +kernel
theorem dX12_buyer_3 : decode cX12_buyer 3 = .ok (.invokevirtual 350, 3) := by decide +kernel
theorem dX12_buyer_6 : decode cX12_buyer 6 = .ok (.ifCond .eq 19, 3) := by decide +kernel
theorem dX12_buyer_9 : decode cX12_buyer 9 = .ok (.iload_n 2, 1) := by decide +kernel
theorem dX12_buyer_10 : decode cX12_buyer 10 = .ok (.i2l, 1) := by decide +kernel
theorem dX12_buyer_11 : decode cX12_buyer 11 = .ok (.lconst 0, 1) := by decide +kernel
theorem dX12_buyer_12 : decode cX12_buyer 12 = .ok (.ldc2_w 353, 3) := by decide +kernel
theorem dX12_buyer_15 : decode cX12_buyer 15 = .ok (.invokestatic 225, 3) := by decide +kernel
theorem dX12_buyer_18 : decode cX12_buyer 18 = .ok (.ifCond .eq 7, 3) := by decide +kernel
theorem dX12_buyer_21 : decode cX12_buyer 21 = .ok (.iconst 0, 1) := by decide +kernel
theorem dX12_buyer_22 : decode cX12_buyer 22 = .ok (.goto 4, 3) := by decide +kernel
theorem dX12_buyer_25 : decode cX12_buyer 25 = .ok (.iconst 1, 1) := by decide +kernel
theorem dX12_buyer_26 : decode cX12_buyer 26 = .ok (.putfield 105, 3) := by decide +kernel
theorem dX12_buyer_29 : decode cX12_buyer 29 = .ok (.aload_n 0, 1) := by decide +kernel
theorem dX12_buyer_30 : decode cX12_buyer 30 = .ok (.getfield 105, 3) := by decide +kernel
theorem dX12_buyer_33 : decode cX12_buyer 33 = .ok (.ifCond .le 5, 3) := by decide +kernel
theorem dX12_buyer_36 : decode cX12_buyer 36 = .ok (.iconst 0, 1) := by decide +kernel
theorem dX12_buyer_37 : decode cX12_buyer 37 = .ok (.ireturn, 1) := by decide +kernel
theorem dX12_buyer_38 : decode cX12_buyer 38 = .ok (.iload_n 2, 1) := by decide +kernel
theorem dX12_buyer_39 : decode cX12_buyer 39 = .ok (.iconst 2, 1) := by decide +kernel
theorem dX12_buyer_40 : decode cX12_buyer 40 = .ok (.if_icmp .ne 15, 3) := by decide +kernel
theorem dX12_buyer_43 : decode cX12_buyer 43 = .ok (.aload_n 0, 1) := by decide +kernel
theorem dX12_buyer_44 : decode cX12_buyer 44 = .ok (.aload_n 0, 1) := by decide +kernel
theorem dX12_buyer_45 : decode cX12_buyer 45 = .ok (.getfield 61, 3) := by decide +kernel
theorem dX12_buyer_48 : decode cX12_buyer 48 = .ok (.iload_n 1, 1) := by decide +kernel
theorem dX12_buyer_49 : decode cX12_buyer 49 = .ok (.invokevirtual 355, 3) := by decide +kernel
theorem dX12_buyer_52 : decode cX12_buyer 52 = .ok (.goto 30, 3) := by decide +kernel
theorem dX12_buyer_55 : decode cX12_buyer 55 = .ok (.iload_n 2, 1) := by decide +kernel
theorem dX12_buyer_56 : decode cX12_buyer 56 = .ok (.iconst 3, 1) := by decide +kernel
theorem dX12_buyer_57 : decode cX12_buyer 57 = .ok (.if_icmp .ne 15, 3) := by decide +kernel
theorem dX12_buyer_60 : decode cX12_buyer 60 = .ok (.aload_n 0, 1) := by decide +kernel
theorem dX12_buyer_61 : decode cX12_buyer 61 = .ok (.getfield 61, 3) := by decide +kernel
theorem dX12_buyer_64 : decode cX12_buyer 64 = .ok (.bipush 14, 2) := by decide +kernel
theorem dX12_buyer_66 : decode cX12_buyer 66 = .ok (.iload_n 1, 1) := by decide +kernel
theorem dX12_buyer_67 : decode cX12_buyer 67 = .ok (.iadd, 1) := by decide +kernel
theorem dX12_buyer_68 : decode cX12_buyer 68 = .ok (.iaload, 1) := by decide +kernel
theorem dX12_buyer_69 : decode cX12_buyer 69 = .ok (.goto 13, 3) := by decide +kernel
theorem dX12_buyer_72 : decode cX12_buyer 72 = .ok (.aload_n 0, 1) := by decide +kernel
theorem dX12_buyer_73 : decode cX12_buyer 73 = .ok (.getfield 49, 3) := by decide +kernel
theorem dX12_buyer_76 : decode cX12_buyer 76 = .ok (.iconst 3, 1) := by decide +kernel
theorem dX12_buyer_77 : decode cX12_buyer 77 = .ok (.iload_n 1, 1) := by decide +kernel
theorem dX12_buyer_78 : decode cX12_buyer 78 = .ok (.imul, 1) := by decide +kernel
theorem dX12_buyer_79 : decode cX12_buyer 79 = .ok (.iload_n 2, 1) := by decide +kernel
theorem dX12_buyer_80 : decode cX12_buyer 80 = .ok (.iadd, 1) := by decide +kernel
theorem dX12_buyer_81 : decode cX12_buyer 81 = .ok (.iaload, 1) := by decide +kernel
theorem dX12_buyer_82 : decode cX12_buyer 82 = .ok (.ireturn, 1) := by decide +kernel
noncomputable def kX12_buyer : Nat → Op := (nodeC 43 (nodeC 21 (nodeC 9 (nodeC 2 (nodeC 0 (leafC 0 (o_al 0 1)) (nodeC 1 (leafC 1 (o_al 0 2)) (leafC 2 (o_il 1 3)))) (nodeC 3 (leafC 3 (o_inv 1 12 1 FX12_isBuyer 6)) (nodeC 6 (leafC 6 (o_zeq 25 9)) (leafC 9 (o_il 2 10))))) (nodeC 12 (nodeC 10 (leafC 10 (o_i2l 11)) (nodeC 11 (leafC 11 (o_lc (0) 12)) (leafC 12 (o_lc (3) 15)))) (nodeC 15 (leafC 15 (o_ist 3 1 FX12_isIn 18)) (nodeC 18 (leafC 18 (o_zeq 25 21)) (leafC 21 (o_ic (0) 22)))))) (nodeC 33 (nodeC 26 (nodeC 22 (leafC 22 (o_goto 26)) (nodeC 25 (leafC 25 (o_ic (1) 26)) (leafC 26 (o_pI 12 0 29)))) (nodeC 29 (leafC 29 (o_al 0 30)) (nodeC 30 (leafC 30 (o_gI 12 0 33)) (leafC 33 (o_zle 38 36))))) (nodeC 38 (nodeC 36 (leafC 36 (o_ic (0) 37)) (nodeC 37 (leafC 37 (o_iret)) (leafC 38 (o_il 2 39)))) (nodeC 39 (leafC 39 (o_ic (2) 40)) (nodeC 40 (leafC 40 (o_cne 55 43)) (leafC 43 (o_al 0 44))))))) (nodeC 66 (nodeC 55 (nodeC 48 (nodeC 44 (leafC 44 (o_al 0 45)) (nodeC 45 (leafC 45 (o_gR 12 32 48)) (leafC 48 (o_il 1 49)))) (nodeC 49 (leafC 49 (o_inv 2 12 1 FX12_wants 52)) (nodeC 52 (leafC 52 (o_goto 82)) (leafC 55 (o_il 2 56))))) (nodeC 60 (nodeC 56 (leafC 56 (o_ic (3) 57)) (nodeC 57 (leafC 57 (o_cne 72 60)) (leafC 60 (o_al 0 61)))) (nodeC 61 (leafC 61 (o_gR 12 32 64)) (nodeC 64 (leafC 64 (o_ic (14) 66)) (leafC 66 (o_il 1 67)))))) (nodeC 76 (nodeC 69 (nodeC 67 (leafC 67 (o_iadd 68)) (nodeC 68 (leafC 68 (o_iald 69)) (leafC 69 (o_goto 82)))) (nodeC 72 (leafC 72 (o_al 0 73)) (nodeC 73 (leafC 73 (o_gR 12 22 76)) (leafC 76 (o_ic (3) 77))))) (nodeC 79 (nodeC 77 (leafC 77 (o_il 1 78)) (nodeC 78 (leafC 78 (o_imul 79)) (leafC 79 (o_il 2 80)))) (nodeC 80 (leafC 80 (o_iadd 81)) (nodeC 81 (leafC 81 (o_iald 82)) (leafC 82 (o_iret))))))))
theorem sX12_buyer : ∀ pc, SoundOp cX12_buyer RX12 3 (some .int) false 1 25 pc (kX12_buyer pc) := (so_node (so_node (so_node (so_node (so_node (so_leaf (so_aload_n dX12_buyer_0 rfl)) (so_node (so_leaf (so_aload_n dX12_buyer_1 rfl)) (so_leaf (so_iload_n dX12_buyer_2 rfl)))) (so_node (so_leaf (so_inv CX12_isBuyer (by decide) rfl wm_RX12_350 win_X12_isBuyer wse_X12_isBuyer wn_12 wc_X12_isBuyer (by decide +kernel) (by decide) (by decide) dX12_buyer_3)) (so_node (so_leaf (so_zeq dX12_buyer_6 (by decide))) (so_leaf (so_iload_n dX12_buyer_9 rfl))))) (so_node (so_node (so_leaf (so_i2l dX12_buyer_10)) (so_node (so_leaf (so_lconst dX12_buyer_11 (by decide))) (so_leaf (so_ldc2 wk_RX12_353 dX12_buyer_12)))) (so_node (so_leaf (so_ist CX12_isIn rfl wm_RX12_225 wst_X12_isIn wny_X12_isIn wc_X12_isIn (by decide +kernel) (by decide) (by decide) dX12_buyer_15)) (so_node (so_leaf (so_zeq dX12_buyer_18 (by decide))) (so_leaf (so_iconst dX12_buyer_21 (by decide))))))) (so_node (so_node (so_node (so_leaf (so_goto dX12_buyer_22 (by decide))) (so_node (so_leaf (so_iconst dX12_buyer_25 (by decide))) (so_leaf (so_pI (by decide) (by decide) wC12 wf_RX12_105 (Or.inl rfl) rfl dX12_buyer_26)))) (so_node (so_leaf (so_aload_n dX12_buyer_29 rfl)) (so_node (so_leaf (so_gI (by decide) (by decide) wC12 wf_RX12_105 (fun _ _ _ => rfl) dX12_buyer_30)) (so_leaf (so_zle dX12_buyer_33 (by decide)))))) (so_node (so_node (so_leaf (so_iconst dX12_buyer_36 (by decide))) (so_node (so_leaf (so_iret dX12_buyer_37 rfl)) (so_leaf (so_iload_n dX12_buyer_38 rfl)))) (so_node (so_leaf (so_iconst dX12_buyer_39 (by decide))) (so_node (so_leaf (so_cne dX12_buyer_40 (by decide))) (so_leaf (so_aload_n dX12_buyer_43 rfl))))))) (so_node (so_node (so_node (so_node (so_leaf (so_aload_n dX12_buyer_44 rfl)) (so_node (so_leaf (so_gR (by decide) (by decide) wC12 wf_RX12_61 (fun _ _ _ => rfl) dX12_buyer_45)) (so_leaf (so_iload_n dX12_buyer_48 rfl)))) (so_node (so_leaf (so_inv CX12_wants (by decide) rfl wm_RX12_355 win_X12_wants wse_X12_wants wn_12 wc_X12_wants (by decide +kernel) (by decide) (by decide) dX12_buyer_49)) (so_node (so_leaf (so_goto dX12_buyer_52 (by decide))) (so_leaf (so_iload_n dX12_buyer_55 rfl))))) (so_node (so_node (so_leaf (so_iconst dX12_buyer_56 (by decide))) (so_node (so_leaf (so_cne dX12_buyer_57 (by decide))) (so_leaf (so_aload_n dX12_buyer_60 rfl)))) (so_node (so_leaf (so_gR (by decide) (by decide) wC12 wf_RX12_61 (fun _ _ _ => rfl) dX12_buyer_61)) (so_node (so_leaf (so_bipush dX12_buyer_64 (by decide))) (so_leaf (so_iload_n dX12_buyer_66 rfl)))))) (so_node (so_node (so_node (so_leaf (so_iadd dX12_buyer_67)) (so_node (so_leaf (so_iald dX12_buyer_68)) (so_leaf (so_goto dX12_buyer_69 (by decide))))) (so_node (so_leaf (so_aload_n dX12_buyer_72 rfl)) (so_node (so_leaf (so_gR (by decide) (by decide) wC12 wf_RX12_49 (fun _ _ _ => rfl) dX12_buyer_73)) (so_leaf (so_iconst dX12_buyer_76 (by decide)))))) (so_node (so_node (so_leaf (so_iload_n dX12_buyer_77 rfl)) (so_node (so_leaf (so_imul dX12_buyer_78)) (so_leaf (so_iload_n dX12_buyer_79 rfl)))) (so_node (so_leaf (so_iadd dX12_buyer_80)) (so_node (so_leaf (so_iald dX12_buyer_81)) (so_leaf (so_iret dX12_buyer_82 rfl))))))))
theorem pX12_buyer : ∀ pc, Pr (kX12_buyer pc) := (pr_node (pr_node (pr_node (pr_node (pr_node (pr_leaf (pr_al _ _)) (pr_node (pr_leaf (pr_al _ _)) (pr_leaf (pr_il _ _)))) (pr_node (pr_leaf (pr_inv _ _ _ GX12_isBuyer _)) (pr_node (pr_leaf (pr_zeq _ _)) (pr_leaf (pr_il _ _))))) (pr_node (pr_node (pr_leaf (pr_i2l _)) (pr_node (pr_leaf (pr_lc _ _)) (pr_leaf (pr_lc _ _)))) (pr_node (pr_leaf (pr_ist _ _ GX12_isIn _)) (pr_node (pr_leaf (pr_zeq _ _)) (pr_leaf (pr_ic _ _)))))) (pr_node (pr_node (pr_node (pr_leaf (pr_goto _)) (pr_node (pr_leaf (pr_ic _ _)) (pr_leaf (pr_pI _ _ _)))) (pr_node (pr_leaf (pr_al _ _)) (pr_node (pr_leaf (pr_gI _ _ _)) (pr_leaf (pr_zle _ _))))) (pr_node (pr_node (pr_leaf (pr_ic _ _)) (pr_node (pr_leaf (pr_iret)) (pr_leaf (pr_il _ _)))) (pr_node (pr_leaf (pr_ic _ _)) (pr_node (pr_leaf (pr_cne _ _)) (pr_leaf (pr_al _ _))))))) (pr_node (pr_node (pr_node (pr_node (pr_leaf (pr_al _ _)) (pr_node (pr_leaf (pr_gR _ _ _)) (pr_leaf (pr_il _ _)))) (pr_node (pr_leaf (pr_inv _ _ _ GX12_wants _)) (pr_node (pr_leaf (pr_goto _)) (pr_leaf (pr_il _ _))))) (pr_node (pr_node (pr_leaf (pr_ic _ _)) (pr_node (pr_leaf (pr_cne _ _)) (pr_leaf (pr_al _ _)))) (pr_node (pr_leaf (pr_gR _ _ _)) (pr_node (pr_leaf (pr_ic _ _)) (pr_leaf (pr_il _ _)))))) (pr_node (pr_node (pr_node (pr_leaf (pr_iadd _)) (pr_node (pr_leaf (pr_iald _)) (pr_leaf (pr_goto _)))) (pr_node (pr_leaf (pr_al _ _)) (pr_node (pr_leaf (pr_gR _ _ _)) (pr_leaf (pr_ic _ _))))) (pr_node (pr_node (pr_leaf (pr_il _ _)) (pr_node (pr_leaf (pr_imul _)) (pr_leaf (pr_il _ _)))) (pr_node (pr_leaf (pr_iadd _)) (pr_node (pr_leaf (pr_iald _)) (pr_leaf (pr_iret))))))))
noncomputable def FX12_buyer : List EV → Hp → Option (RV × Hp) := Fm kX12_buyer 3
theorem CX12_buyer : Con yX12_buyer cX12_buyer 3 (some .int) 1 25 FX12_buyer := con_of (own := RX12) rfl (by decide +kernel) sX12_buyer pX12_buyer (fun z => by cases z)
theorem GX12_buyer : Gr FX12_buyer := Gr_Fm pX12_buyer 3
theorem dX12_law_0 : decode cX12_law 0 = .ok (.aload_n 0, 1) := by decide +kernel
theorem dX12_law_1 : decode cX12_law 1 = .ok (.iconst 0, 1) := by decide +kernel
theorem dX12_law_2 : decode cX12_law 2 = .ok (.putfield 105, 3) := by decide +kernel
theorem dX12_law_5 : decode cX12_law 5 = .ok (.iload_n 1, 1) := by decide +kernel
theorem dX12_law_6 : decode cX12_law 6 = .ok (.iconst (-1), 1) := by decide +kernel
theorem dX12_law_7 : decode cX12_law 7 = .ok (.if_icmp .eq 21, 3) := by decide +kernel
theorem dX12_law_10 : decode cX12_law 10 = .ok (.iload_n 1, 1) := by decide +kernel
theorem dX12_law_11 : decode cX12_law 11 = .ok (.i2l, 1) := by decide +kernel
theorem dX12_law_12 : decode cX12_law 12 = .ok (.lconst 0, 1) := by decide +kernel
theorem dX12_law_13 : decode cX12_law 13 = .ok (.aload_n 0, 1) := by decide +kernel
theorem dX12_law_14 : decode cX12_law 14 = .ok (.getfield 291, 3) := by decide +kernel
theorem dX12_law_17 : decode cX12_law 17 = .ok (.iconst 1, 1) := by decide +kernel
theorem dX12_law_18 : decode cX12_law 18 = .ok (.isub, 1) := by decide +kernel
theorem dX12_law_19 : decode cX12_law 19 = .ok (.i2l, 1) := by decide +kernel
theorem dX12_law_20 : decode cX12_law 20 = .ok (.invokestatic 225, 3) := by decide +kernel
theorem dX12_law_23 : decode cX12_law 23 = .ok (.ifCond .ne 5, 3) := by decide +kernel
theorem dX12_law_26 : decode cX12_law 26 = .ok (.iconst 0, 1) := by decide +kernel
theorem dX12_law_27 : decode cX12_law 27 = .ok (.ireturn, 1) := by decide +kernel
theorem dX12_law_28 : decode cX12_law 28 = .ok (.aload_n 0, 1) := by decide +kernel
theorem dX12_law_29 : decode cX12_law 29 = .ok (.iload_n 1, 1) := by decide +kernel
theorem dX12_law_30 : decode cX12_law 30 = .ok (.putfield 67, 3) := by decide +kernel
theorem dX12_law_33 : decode cX12_law 33 = .ok (.iconst 1, 1) := by decide +kernel
theorem dX12_law_34 : decode cX12_law 34 = .ok (.ireturn, 1) := by decide +kernel
noncomputable def kX12_law : Nat → Op := (nodeC 14 (nodeC 6 (nodeC 1 (nodeC 0 (leafC 0 (o_al 0 1)) (leafC 1 (o_ic (0) 2))) (nodeC 2 (leafC 2 (o_pI 12 0 5)) (nodeC 5 (leafC 5 (o_il 1 6)) (leafC 6 (o_ic (-1) 7))))) (nodeC 11 (nodeC 7 (leafC 7 (o_ceq 28 10)) (nodeC 10 (leafC 10 (o_il 1 11)) (leafC 11 (o_i2l 12)))) (nodeC 12 (leafC 12 (o_lc (0) 13)) (nodeC 13 (leafC 13 (o_al 0 14)) (leafC 14 (o_gI 12 7 17)))))) (nodeC 26 (nodeC 19 (nodeC 17 (leafC 17 (o_ic (1) 18)) (nodeC 18 (leafC 18 (o_isub 19)) (leafC 19 (o_i2l 20)))) (nodeC 20 (leafC 20 (o_ist 3 1 FX12_isIn 23)) (nodeC 23 (leafC 23 (o_zne 28 26)) (leafC 26 (o_ic (0) 27))))) (nodeC 29 (nodeC 27 (leafC 27 (o_zret)) (nodeC 28 (leafC 28 (o_al 0 29)) (leafC 29 (o_il 1 30)))) (nodeC 30 (leafC 30 (o_pI 12 34 33)) (nodeC 33 (leafC 33 (o_ic (1) 34)) (leafC 34 (o_zret)))))))
theorem sX12_law : ∀ pc, SoundOp cX12_law RX12 2 (some .boolean) false 1 25 pc (kX12_law pc) := (so_node (so_node (so_node (so_node (so_leaf (so_aload_n dX12_law_0 rfl)) (so_leaf (so_iconst dX12_law_1 (by decide)))) (so_node (so_leaf (so_pI (by decide) (by decide) wC12 wf_RX12_105 (Or.inl rfl) rfl dX12_law_2)) (so_node (so_leaf (so_iload_n dX12_law_5 rfl)) (so_leaf (so_iconst dX12_law_6 (by decide)))))) (so_node (so_node (so_leaf (so_ceq dX12_law_7 (by decide))) (so_node (so_leaf (so_iload_n dX12_law_10 rfl)) (so_leaf (so_i2l dX12_law_11)))) (so_node (so_leaf (so_lconst dX12_law_12 (by decide))) (so_node (so_leaf (so_aload_n dX12_law_13 rfl)) (so_leaf (so_gI (by decide) (by decide) wC12 wf_RX12_291 (fun _ _ _ => rfl) dX12_law_14)))))) (so_node (so_node (so_node (so_leaf (so_iconst dX12_law_17 (by decide))) (so_node (so_leaf (so_isub dX12_law_18)) (so_leaf (so_i2l dX12_law_19)))) (so_node (so_leaf (so_ist CX12_isIn rfl wm_RX12_225 wst_X12_isIn wny_X12_isIn wc_X12_isIn (by decide +kernel) (by decide) (by decide) dX12_law_20)) (so_node (so_leaf (so_zne dX12_law_23 (by decide))) (so_leaf (so_iconst dX12_law_26 (by decide)))))) (so_node (so_node (so_leaf (so_zret dX12_law_27 rfl)) (so_node (so_leaf (so_aload_n dX12_law_28 rfl)) (so_leaf (so_iload_n dX12_law_29 rfl)))) (so_node (so_leaf (so_pI (by decide) (by decide) wC12 wf_RX12_67 (Or.inl rfl) rfl dX12_law_30)) (so_node (so_leaf (so_iconst dX12_law_33 (by decide))) (so_leaf (so_zret dX12_law_34 rfl)))))))
theorem pX12_law : ∀ pc, Pr (kX12_law pc) := (pr_node (pr_node (pr_node (pr_node (pr_leaf (pr_al _ _)) (pr_leaf (pr_ic _ _))) (pr_node (pr_leaf (pr_pI _ _ _)) (pr_node (pr_leaf (pr_il _ _)) (pr_leaf (pr_ic _ _))))) (pr_node (pr_node (pr_leaf (pr_ceq _ _)) (pr_node (pr_leaf (pr_il _ _)) (pr_leaf (pr_i2l _)))) (pr_node (pr_leaf (pr_lc _ _)) (pr_node (pr_leaf (pr_al _ _)) (pr_leaf (pr_gI _ _ _)))))) (pr_node (pr_node (pr_node (pr_leaf (pr_ic _ _)) (pr_node (pr_leaf (pr_isub _)) (pr_leaf (pr_i2l _)))) (pr_node (pr_leaf (pr_ist _ _ GX12_isIn _)) (pr_node (pr_leaf (pr_zne _ _)) (pr_leaf (pr_ic _ _))))) (pr_node (pr_node (pr_leaf (pr_zret)) (pr_node (pr_leaf (pr_al _ _)) (pr_leaf (pr_il _ _)))) (pr_node (pr_leaf (pr_pI _ _ _)) (pr_node (pr_leaf (pr_ic _ _)) (pr_leaf (pr_zret)))))))
noncomputable def FX12_law : List EV → Hp → Option (RV × Hp) := Fm kX12_law 2
theorem CX12_law : Con yX12_law cX12_law 2 (some .boolean) 1 25 FX12_law := con_of (own := RX12) rfl (by decide +kernel) sX12_law pX12_law (fun z => by cases z)
theorem GX12_law : Gr FX12_law := Gr_Fm pX12_law 2
theorem dX12_lazy_0 : decode cX12_lazy 0 = .ok (.aload_n 0, 1) := by decide +kernel
theorem dX12_lazy_1 : decode cX12_lazy 1 = .ok (.iconst 0, 1) := by decide +kernel
theorem dX12_lazy_2 : decode cX12_lazy 2 = .ok (.putfield 105, 3) := by decide +kernel
theorem dX12_lazy_5 : decode cX12_lazy 5 = .ok (.iload_n 1, 1) := by decide +kernel
theorem dX12_lazy_6 : decode cX12_lazy 6 = .ok (.i2l, 1) := by decide +kernel
theorem dX12_lazy_7 : decode cX12_lazy 7 = .ok (.lconst 0, 1) := by decide +kernel
theorem dX12_lazy_8 : decode cX12_lazy 8 = .ok (.ldc2_w 358, 3) := by decide +kernel
theorem dX12_lazy_11 : decode cX12_lazy 11 = .ok (.invokestatic 225, 3) := by decide +kernel
theorem dX12_lazy_14 : decode cX12_lazy 14 = .ok (.ifCond .eq 11, 3) := by decide +kernel
theorem dX12_lazy_17 : decode cX12_lazy 17 = .ok (.iload_n 1, 1) := by decide +kernel
theorem dX12_lazy_18 : decode cX12_lazy 18 = .ok (.aload_n 0, 1) := by decide +kernel
theorem dX12_lazy_19 : decode cX12_lazy 19 = .ok (.getfield 71, 3) := by decide +kernel
theorem dX12_lazy_22 : decode cX12_lazy 22 = .ok (.if_icmp .ne 5, 3) := by decide +kernel
theorem dX12_lazy_25 : decode cX12_lazy 25 = .ok (.iconst 0, 1) := by decide +kernel
theorem dX12_lazy_26 : decode cX12_lazy 26 = .ok (.ireturn, 1) := by decide +kernel
theorem dX12_lazy_27 : decode cX12_lazy 27 = .ok (.aload_n 0, 1) := by decide +kernel
theorem dX12_lazy_28 : decode cX12_lazy 28 = .ok (.iload_n 1, 1) := by decide +kernel
theorem dX12_lazy_29 : decode cX12_lazy 29 = .ok (.putfield 71, 3) := by decide +kernel
theorem dX12_lazy_32 : decode cX12_lazy 32 = .ok (.iconst 1, 1) := by decide +kernel
theorem dX12_lazy_33 : decode cX12_lazy 33 = .ok (.ireturn, 1) := by decide +kernel
noncomputable def kX12_lazy : Nat → Op := (nodeC 17 (nodeC 6 (nodeC 1 (nodeC 0 (leafC 0 (o_al 0 1)) (leafC 1 (o_ic (0) 2))) (nodeC 2 (leafC 2 (o_pI 12 0 5)) (nodeC 5 (leafC 5 (o_il 1 6)) (leafC 6 (o_i2l 7))))) (nodeC 8 (nodeC 7 (leafC 7 (o_lc (0) 8)) (leafC 8 (o_lc (9) 11))) (nodeC 11 (leafC 11 (o_ist 3 1 FX12_isIn 14)) (nodeC 14 (leafC 14 (o_zeq 25 17)) (leafC 17 (o_il 1 18)))))) (nodeC 26 (nodeC 19 (nodeC 18 (leafC 18 (o_al 0 19)) (leafC 19 (o_gI 12 35 22))) (nodeC 22 (leafC 22 (o_cne 27 25)) (nodeC 25 (leafC 25 (o_ic (0) 26)) (leafC 26 (o_zret))))) (nodeC 28 (nodeC 27 (leafC 27 (o_al 0 28)) (leafC 28 (o_il 1 29))) (nodeC 29 (leafC 29 (o_pI 12 35 32)) (nodeC 32 (leafC 32 (o_ic (1) 33)) (leafC 33 (o_zret)))))))
theorem sX12_lazy : ∀ pc, SoundOp cX12_lazy RX12 2 (some .boolean) false 1 25 pc (kX12_lazy pc) := (so_node (so_node (so_node (so_node (so_leaf (so_aload_n dX12_lazy_0 rfl)) (so_leaf (so_iconst dX12_lazy_1 (by decide)))) (so_node (so_leaf (so_pI (by decide) (by decide) wC12 wf_RX12_105 (Or.inl rfl) rfl dX12_lazy_2)) (so_node (so_leaf (so_iload_n dX12_lazy_5 rfl)) (so_leaf (so_i2l dX12_lazy_6))))) (so_node (so_node (so_leaf (so_lconst dX12_lazy_7 (by decide))) (so_leaf (so_ldc2 wk_RX12_358 dX12_lazy_8))) (so_node (so_leaf (so_ist CX12_isIn rfl wm_RX12_225 wst_X12_isIn wny_X12_isIn wc_X12_isIn (by decide +kernel) (by decide) (by decide) dX12_lazy_11)) (so_node (so_leaf (so_zeq dX12_lazy_14 (by decide))) (so_leaf (so_iload_n dX12_lazy_17 rfl)))))) (so_node (so_node (so_node (so_leaf (so_aload_n dX12_lazy_18 rfl)) (so_leaf (so_gI (by decide) (by decide) wC12 wf_RX12_71 (fun _ _ _ => rfl) dX12_lazy_19))) (so_node (so_leaf (so_cne dX12_lazy_22 (by decide))) (so_node (so_leaf (so_iconst dX12_lazy_25 (by decide))) (so_leaf (so_zret dX12_lazy_26 rfl))))) (so_node (so_node (so_leaf (so_aload_n dX12_lazy_27 rfl)) (so_leaf (so_iload_n dX12_lazy_28 rfl))) (so_node (so_leaf (so_pI (by decide) (by decide) wC12 wf_RX12_71 (Or.inl rfl) rfl dX12_lazy_29)) (so_node (so_leaf (so_iconst dX12_lazy_32 (by decide))) (so_leaf (so_zret dX12_lazy_33 rfl)))))))
theorem pX12_lazy : ∀ pc, Pr (kX12_lazy pc) := (pr_node (pr_node (pr_node (pr_node (pr_leaf (pr_al _ _)) (pr_leaf (pr_ic _ _))) (pr_node (pr_leaf (pr_pI _ _ _)) (pr_node (pr_leaf (pr_il _ _)) (pr_leaf (pr_i2l _))))) (pr_node (pr_node (pr_leaf (pr_lc _ _)) (pr_leaf (pr_lc _ _))) (pr_node (pr_leaf (pr_ist _ _ GX12_isIn _)) (pr_node (pr_leaf (pr_zeq _ _)) (pr_leaf (pr_il _ _)))))) (pr_node (pr_node (pr_node (pr_leaf (pr_al _ _)) (pr_leaf (pr_gI _ _ _))) (pr_node (pr_leaf (pr_cne _ _)) (pr_node (pr_leaf (pr_ic _ _)) (pr_leaf (pr_zret))))) (pr_node (pr_node (pr_leaf (pr_al _ _)) (pr_leaf (pr_il _ _))) (pr_node (pr_leaf (pr_pI _ _ _)) (pr_node (pr_leaf (pr_ic _ _)) (pr_leaf (pr_zret)))))))
noncomputable def FX12_lazy : List EV → Hp → Option (RV × Hp) := Fm kX12_lazy 2
theorem CX12_lazy : Con yX12_lazy cX12_lazy 2 (some .boolean) 1 25 FX12_lazy := con_of (own := RX12) rfl (by decide +kernel) sX12_lazy pX12_lazy (fun z => by cases z)
theorem GX12_lazy : Gr FX12_lazy := Gr_Fm pX12_lazy 2
theorem dX12_remember_0 : decode cX12_remember 0 = .ok (.aload_n 0, 1) := by decide +kernel
theorem dX12_remember_1 : decode cX12_remember 1 = .ok (.getfield 311, 3) := by decide +kernel
theorem dX12_remember_4 : decode cX12_remember 4 = .ok (.bipush 40, 2) := by decide +kernel
theorem dX12_remember_6 : decode cX12_remember 6 = .ok (.if_icmp .ne 44, 3) := by decide +kernel
theorem dX12_remember_9 : decode cX12_remember 9 = .ok (.iconst 0, 1) := by decide +kernel
theorem dX12_remember_10 : decode cX12_remember 10 = .ok (.istore_n 1, 1) := by decide +kernel
theorem dX12_remember_11 : decode cX12_remember 11 = .ok (.iload_n 1, 1) := by decide +kernel
theorem dX12_remember_12 : decode cX12_remember 12 = .ok (.sipush 14859, 3) := by decide +kernel
theorem dX12_remember_15 : decode cX12_remember 15 = .ok (.if_icmp .ge 25, 3) := by decide +kernel
theorem dX12_remember_18 : decode cX12_remember 18 = .ok (.aload_n 0, 1) := by decide +kernel
theorem dX12_remember_19 : decode cX12_remember 19 = .ok (.getfield 74, 3) := by decide +kernel
theorem dX12_remember_22 : decode cX12_remember 22 = .ok (.iload_n 1, 1) := by decide +kernel
theorem dX12_remember_23 : decode cX12_remember 23 = .ok (.aload_n 0, 1) := by decide +kernel
theorem dX12_remember_24 : decode cX12_remember 24 = .ok (.getfield 74, 3) := by decide +kernel
theorem dX12_remember_27 : decode cX12_remember 27 = .ok (.iload_n 1, 1) := by decide +kernel
theorem dX12_remember_28 : decode cX12_remember 28 = .ok (.sipush 381, 3) := by decide +kernel
theorem dX12_remember_31 : decode cX12_remember 31 = .ok (.iadd, 1) := by decide +kernel
theorem dX12_remember_32 : decode cX12_remember 32 = .ok (.iaload, 1) := by decide +kernel
theorem dX12_remember_33 : decode cX12_remember 33 = .ok (.iastore, 1) := by decide +kernel
theorem dX12_remember_34 : decode cX12_remember 34 = .ok (.iinc 1 1, 3) := by decide +kernel
theorem dX12_remember_37 : decode cX12_remember 37 = .ok (.goto (-26), 3) := by decide +kernel
theorem dX12_remember_40 : decode cX12_remember 40 = .ok (.aload_n 0, 1) := by decide +kernel
theorem dX12_remember_41 : decode cX12_remember 41 = .ok (.dup, 1) := by decide +kernel
theorem dX12_remember_42 : decode cX12_remember 42 = .ok (.getfield 311, 3) := by decide +kernel
theorem dX12_remember_45 : decode cX12_remember 45 = .ok (.iconst 1, 1) := by decide +kernel
theorem dX12_remember_46 : decode cX12_remember 46 = .ok (.isub, 1) := by decide +kernel
theorem dX12_remember_47 : decode cX12_remember 47 = .ok (.putfield 311, 3) := by decide +kernel
theorem dX12_remember_50 : decode cX12_remember 50 = .ok (.iconst 0, 1) := by decide +kernel
theorem dX12_remember_51 : decode cX12_remember 51 = .ok (.istore_n 1, 1) := by decide +kernel
theorem dX12_remember_52 : decode cX12_remember 52 = .ok (.iload_n 1, 1) := by decide +kernel
theorem dX12_remember_53 : decode cX12_remember 53 = .ok (.sipush 381, 3) := by decide +kernel
theorem dX12_remember_56 : decode cX12_remember 56 = .ok (.if_icmp .ge 30, 3) := by decide +kernel
theorem dX12_remember_59 : decode cX12_remember 59 = .ok (.aload_n 0, 1) := by decide +kernel
theorem dX12_remember_60 : decode cX12_remember 60 = .ok (.getfield 74, 3) := by decide +kernel
theorem dX12_remember_63 : decode cX12_remember 63 = .ok (.sipush 381, 3) := by decide +kernel
theorem dX12_remember_66 : decode cX12_remember 66 = .ok (.aload_n 0, 1) := by decide +kernel
theorem dX12_remember_67 : decode cX12_remember 67 = .ok (.getfield 311, 3) := by decide +kernel
theorem dX12_remember_70 : decode cX12_remember 70 = .ok (.imul, 1) := by decide +kernel
theorem dX12_remember_71 : decode cX12_remember 71 = .ok (.iload_n 1, 1) := by decide +kernel
theorem dX12_remember_72 : decode cX12_remember 72 = .ok (.iadd, 1) := by decide +kernel
theorem dX12_remember_73 : decode cX12_remember 73 = .ok (.aload_n 0, 1) := by decide +kernel
theorem dX12_remember_74 : decode cX12_remember 74 = .ok (.getfield 61, 3) := by decide +kernel
theorem dX12_remember_77 : decode cX12_remember 77 = .ok (.iload_n 1, 1) := by decide +kernel
theorem dX12_remember_78 : decode cX12_remember 78 = .ok (.iaload, 1) := by decide +kernel
theorem dX12_remember_79 : decode cX12_remember 79 = .ok (.iastore, 1) := by decide +kernel
theorem dX12_remember_80 : decode cX12_remember 80 = .ok (.iinc 1 1, 3) := by decide +kernel
theorem dX12_remember_83 : decode cX12_remember 83 = .ok (.goto (-31), 3) := by decide +kernel
theorem dX12_remember_86 : decode cX12_remember 86 = .ok (.aload_n 0, 1) := by decide +kernel
theorem dX12_remember_87 : decode cX12_remember 87 = .ok (.dup, 1) := by decide +kernel
theorem dX12_remember_88 : decode cX12_remember 88 = .ok (.getfield 311, 3) := by decide +kernel
theorem dX12_remember_91 : decode cX12_remember 91 = .ok (.iconst 1, 1) := by decide +kernel
theorem dX12_remember_92 : decode cX12_remember 92 = .ok (.iadd, 1) := by decide +kernel
theorem dX12_remember_93 : decode cX12_remember 93 = .ok (.putfield 311, 3) := by decide +kernel
theorem dX12_remember_96 : decode cX12_remember 96 = .ok (.return_, 1) := by decide +kernel
noncomputable def kX12_remember : Nat → Op := (nodeC 47 (nodeC 23 (nodeC 10 (nodeC 4 (nodeC 0 (leafC 0 (o_al 0 1)) (nodeC 1 (leafC 1 (o_gI 12 37 4)) (leafC 4 (o_ic (40) 6)))) (nodeC 6 (leafC 6 (o_cne 50 9)) (nodeC 9 (leafC 9 (o_ic (0) 10)) (leafC 10 (o_is 1 11))))) (nodeC 15 (nodeC 11 (leafC 11 (o_il 1 12)) (nodeC 12 (leafC 12 (o_ic (14859) 15)) (leafC 15 (o_cge 40 18)))) (nodeC 19 (nodeC 18 (leafC 18 (o_al 0 19)) (leafC 19 (o_gR 12 36 22))) (nodeC 22 (leafC 22 (o_il 1 23)) (leafC 23 (o_al 0 24)))))) (nodeC 34 (nodeC 28 (nodeC 24 (leafC 24 (o_gR 12 36 27)) (nodeC 27 (leafC 27 (o_il 1 28)) (leafC 28 (o_ic (381) 31)))) (nodeC 32 (nodeC 31 (leafC 31 (o_iadd 32)) (leafC 32 (o_iald 33))) (nodeC 33 (leafC 33 (o_iast 34)) (leafC 34 (o_inc 1 (1) 37))))) (nodeC 41 (nodeC 37 (leafC 37 (o_goto 11)) (nodeC 40 (leafC 40 (o_al 0 41)) (leafC 41 (o_dupR 42)))) (nodeC 45 (nodeC 42 (leafC 42 (o_gI 12 37 45)) (leafC 45 (o_ic (1) 46))) (nodeC 46 (leafC 46 (o_isub 47)) (leafC 47 (o_pI 12 37 50))))))) (nodeC 72 (nodeC 59 (nodeC 52 (nodeC 50 (leafC 50 (o_ic (0) 51)) (nodeC 51 (leafC 51 (o_is 1 52)) (leafC 52 (o_il 1 53)))) (nodeC 53 (leafC 53 (o_ic (381) 56)) (nodeC 56 (leafC 56 (o_cge 86 59)) (leafC 59 (o_al 0 60))))) (nodeC 66 (nodeC 60 (leafC 60 (o_gR 12 36 63)) (nodeC 63 (leafC 63 (o_ic (381) 66)) (leafC 66 (o_al 0 67)))) (nodeC 70 (nodeC 67 (leafC 67 (o_gI 12 37 70)) (leafC 70 (o_imul 71))) (nodeC 71 (leafC 71 (o_il 1 72)) (leafC 72 (o_iadd 73)))))) (nodeC 83 (nodeC 77 (nodeC 73 (leafC 73 (o_al 0 74)) (nodeC 74 (leafC 74 (o_gR 12 32 77)) (leafC 77 (o_il 1 78)))) (nodeC 79 (nodeC 78 (leafC 78 (o_iald 79)) (leafC 79 (o_iast 80))) (nodeC 80 (leafC 80 (o_inc 1 (1) 83)) (leafC 83 (o_goto 52))))) (nodeC 88 (nodeC 86 (leafC 86 (o_al 0 87)) (nodeC 87 (leafC 87 (o_dupR 88)) (leafC 88 (o_gI 12 37 91)))) (nodeC 92 (nodeC 91 (leafC 91 (o_ic (1) 92)) (leafC 92 (o_iadd 93))) (nodeC 93 (leafC 93 (o_pI 12 37 96)) (leafC 96 (o_vret))))))))
theorem sX12_remember : ∀ pc, SoundOp cX12_remember RX12 2 none false 0 0 pc (kX12_remember pc) := (so_node (so_node (so_node (so_node (so_node (so_leaf (so_aload_n dX12_remember_0 rfl)) (so_node (so_leaf (so_gI (by decide) (by decide) wC12 wf_RX12_311 (fun _ _ _ => rfl) dX12_remember_1)) (so_leaf (so_bipush dX12_remember_4 (by decide))))) (so_node (so_leaf (so_cne dX12_remember_6 (by decide))) (so_node (so_leaf (so_iconst dX12_remember_9 (by decide))) (so_leaf (so_istore_n dX12_remember_10 rfl (by decide)))))) (so_node (so_node (so_leaf (so_iload_n dX12_remember_11 rfl)) (so_node (so_leaf (so_sipush dX12_remember_12 (by decide))) (so_leaf (so_cge dX12_remember_15 (by decide))))) (so_node (so_node (so_leaf (so_aload_n dX12_remember_18 rfl)) (so_leaf (so_gR (by decide) (by decide) wC12 wf_RX12_74 (fun _ _ _ => rfl) dX12_remember_19))) (so_node (so_leaf (so_iload_n dX12_remember_22 rfl)) (so_leaf (so_aload_n dX12_remember_23 rfl)))))) (so_node (so_node (so_node (so_leaf (so_gR (by decide) (by decide) wC12 wf_RX12_74 (fun _ _ _ => rfl) dX12_remember_24)) (so_node (so_leaf (so_iload_n dX12_remember_27 rfl)) (so_leaf (so_sipush dX12_remember_28 (by decide))))) (so_node (so_node (so_leaf (so_iadd dX12_remember_31)) (so_leaf (so_iald dX12_remember_32))) (so_node (so_leaf (so_iast dX12_remember_33)) (so_leaf (so_iinc dX12_remember_34 (by decide) (by decide)))))) (so_node (so_node (so_leaf (so_goto dX12_remember_37 (by decide))) (so_node (so_leaf (so_aload_n dX12_remember_40 rfl)) (so_leaf (so_dupR dX12_remember_41)))) (so_node (so_node (so_leaf (so_gI (by decide) (by decide) wC12 wf_RX12_311 (fun _ _ _ => rfl) dX12_remember_42)) (so_leaf (so_iconst dX12_remember_45 (by decide)))) (so_node (so_leaf (so_isub dX12_remember_46)) (so_leaf (so_pI (by decide) (by decide) wC12 wf_RX12_311 (Or.inl rfl) rfl dX12_remember_47))))))) (so_node (so_node (so_node (so_node (so_leaf (so_iconst dX12_remember_50 (by decide))) (so_node (so_leaf (so_istore_n dX12_remember_51 rfl (by decide))) (so_leaf (so_iload_n dX12_remember_52 rfl)))) (so_node (so_leaf (so_sipush dX12_remember_53 (by decide))) (so_node (so_leaf (so_cge dX12_remember_56 (by decide))) (so_leaf (so_aload_n dX12_remember_59 rfl))))) (so_node (so_node (so_leaf (so_gR (by decide) (by decide) wC12 wf_RX12_74 (fun _ _ _ => rfl) dX12_remember_60)) (so_node (so_leaf (so_sipush dX12_remember_63 (by decide))) (so_leaf (so_aload_n dX12_remember_66 rfl)))) (so_node (so_node (so_leaf (so_gI (by decide) (by decide) wC12 wf_RX12_311 (fun _ _ _ => rfl) dX12_remember_67)) (so_leaf (so_imul dX12_remember_70))) (so_node (so_leaf (so_iload_n dX12_remember_71 rfl)) (so_leaf (so_iadd dX12_remember_72)))))) (so_node (so_node (so_node (so_leaf (so_aload_n dX12_remember_73 rfl)) (so_node (so_leaf (so_gR (by decide) (by decide) wC12 wf_RX12_61 (fun _ _ _ => rfl) dX12_remember_74)) (so_leaf (so_iload_n dX12_remember_77 rfl)))) (so_node (so_node (so_leaf (so_iald dX12_remember_78)) (so_leaf (so_iast dX12_remember_79))) (so_node (so_leaf (so_iinc dX12_remember_80 (by decide) (by decide))) (so_leaf (so_goto dX12_remember_83 (by decide)))))) (so_node (so_node (so_leaf (so_aload_n dX12_remember_86 rfl)) (so_node (so_leaf (so_dupR dX12_remember_87)) (so_leaf (so_gI (by decide) (by decide) wC12 wf_RX12_311 (fun _ _ _ => rfl) dX12_remember_88)))) (so_node (so_node (so_leaf (so_iconst dX12_remember_91 (by decide))) (so_leaf (so_iadd dX12_remember_92))) (so_node (so_leaf (so_pI (by decide) (by decide) wC12 wf_RX12_311 (Or.inl rfl) rfl dX12_remember_93)) (so_leaf (so_vret dX12_remember_96 rfl))))))))
theorem pX12_remember : ∀ pc, Pr (kX12_remember pc) := (pr_node (pr_node (pr_node (pr_node (pr_node (pr_leaf (pr_al _ _)) (pr_node (pr_leaf (pr_gI _ _ _)) (pr_leaf (pr_ic _ _)))) (pr_node (pr_leaf (pr_cne _ _)) (pr_node (pr_leaf (pr_ic _ _)) (pr_leaf (pr_is _ _))))) (pr_node (pr_node (pr_leaf (pr_il _ _)) (pr_node (pr_leaf (pr_ic _ _)) (pr_leaf (pr_cge _ _)))) (pr_node (pr_node (pr_leaf (pr_al _ _)) (pr_leaf (pr_gR _ _ _))) (pr_node (pr_leaf (pr_il _ _)) (pr_leaf (pr_al _ _)))))) (pr_node (pr_node (pr_node (pr_leaf (pr_gR _ _ _)) (pr_node (pr_leaf (pr_il _ _)) (pr_leaf (pr_ic _ _)))) (pr_node (pr_node (pr_leaf (pr_iadd _)) (pr_leaf (pr_iald _))) (pr_node (pr_leaf (pr_iast _)) (pr_leaf (pr_inc _ _ _))))) (pr_node (pr_node (pr_leaf (pr_goto _)) (pr_node (pr_leaf (pr_al _ _)) (pr_leaf (pr_dupR _)))) (pr_node (pr_node (pr_leaf (pr_gI _ _ _)) (pr_leaf (pr_ic _ _))) (pr_node (pr_leaf (pr_isub _)) (pr_leaf (pr_pI _ _ _))))))) (pr_node (pr_node (pr_node (pr_node (pr_leaf (pr_ic _ _)) (pr_node (pr_leaf (pr_is _ _)) (pr_leaf (pr_il _ _)))) (pr_node (pr_leaf (pr_ic _ _)) (pr_node (pr_leaf (pr_cge _ _)) (pr_leaf (pr_al _ _))))) (pr_node (pr_node (pr_leaf (pr_gR _ _ _)) (pr_node (pr_leaf (pr_ic _ _)) (pr_leaf (pr_al _ _)))) (pr_node (pr_node (pr_leaf (pr_gI _ _ _)) (pr_leaf (pr_imul _))) (pr_node (pr_leaf (pr_il _ _)) (pr_leaf (pr_iadd _)))))) (pr_node (pr_node (pr_node (pr_leaf (pr_al _ _)) (pr_node (pr_leaf (pr_gR _ _ _)) (pr_leaf (pr_il _ _)))) (pr_node (pr_node (pr_leaf (pr_iald _)) (pr_leaf (pr_iast _))) (pr_node (pr_leaf (pr_inc _ _ _)) (pr_leaf (pr_goto _))))) (pr_node (pr_node (pr_leaf (pr_al _ _)) (pr_node (pr_leaf (pr_dupR _)) (pr_leaf (pr_gI _ _ _)))) (pr_node (pr_node (pr_leaf (pr_ic _ _)) (pr_leaf (pr_iadd _))) (pr_node (pr_leaf (pr_pI _ _ _)) (pr_leaf (pr_vret))))))))
noncomputable def FX12_remember : List EV → Hp → Option (RV × Hp) := Fm kX12_remember 2
theorem CX12_remember : Con yX12_remember cX12_remember 2 none 0 0 FX12_remember := con_of (own := RX12) rfl (by decide +kernel) sX12_remember pX12_remember (fun z => by cases z)
theorem GX12_remember : Gr FX12_remember := Gr_Fm pX12_remember 2
theorem dX12_mayPass_0 : decode cX12_mayPass 0 = .ok (.aload_n 0, 1) := by decide +kernel
theorem dX12_mayPass_1 : decode cX12_mayPass 1 = .ok (.getfield 302, 3) := by decide +kernel
theorem dX12_mayPass_4 : decode cX12_mayPass 4 = .ok (.ifCond .le 19, 3) := by decide +kernel
theorem dX12_mayPass_7 : decode cX12_mayPass 7 = .ok (.aload_n 1, 1) := by decide +kernel
theorem dX12_mayPass_8 : decode cX12_mayPass 8 = .ok (.bipush 7, 2) := by decide +kernel
theorem dX12_mayPass_10 : decode cX12_mayPass 10 = .ok (.iaload, 1) := by decide +kernel
theorem dX12_mayPass_11 : decode cX12_mayPass 11 = .ok (.iload_n 2, 1) := by decide +kernel
theorem dX12_mayPass_12 : decode cX12_mayPass 12 = .ok (.iadd, 1) := by decide +kernel
theorem dX12_mayPass_13 : decode cX12_mayPass 13 = .ok (.sipush 999, 3) := by decide +kernel
theorem dX12_mayPass_16 : decode cX12_mayPass 16 = .ok (.if_icmp .gt 7, 3) := by decide +kernel
theorem dX12_mayPass_19 : decode cX12_mayPass 19 = .ok (.iconst 1, 1) := by decide +kernel
theorem dX12_mayPass_20 : decode cX12_mayPass 20 = .ok (.goto 4, 3) := by decide +kernel
theorem dX12_mayPass_23 : decode cX12_mayPass 23 = .ok (.iconst 0, 1) := by decide +kernel
theorem dX12_mayPass_24 : decode cX12_mayPass 24 = .ok (.ireturn, 1) := by decide +kernel
noncomputable def kX12_mayPass : Nat → Op := (nodeC 11 (nodeC 4 (nodeC 0 (leafC 0 (o_al 0 1)) (nodeC 1 (leafC 1 (o_gI 12 27 4)) (leafC 4 (o_zle 23 7)))) (nodeC 8 (nodeC 7 (leafC 7 (o_al 1 8)) (leafC 8 (o_ic (7) 10))) (nodeC 10 (leafC 10 (o_iald 11)) (leafC 11 (o_il 2 12))))) (nodeC 16 (nodeC 12 (leafC 12 (o_iadd 13)) (nodeC 13 (leafC 13 (o_ic (999) 16)) (leafC 16 (o_cgt 23 19)))) (nodeC 20 (nodeC 19 (leafC 19 (o_ic (1) 20)) (leafC 20 (o_goto 24))) (nodeC 23 (leafC 23 (o_ic (0) 24)) (leafC 24 (o_zret))))))
theorem sX12_mayPass : ∀ pc, SoundOp cX12_mayPass RX12 3 (some .boolean) false 0 0 pc (kX12_mayPass pc) := (so_node (so_node (so_node (so_leaf (so_aload_n dX12_mayPass_0 rfl)) (so_node (so_leaf (so_gI (by decide) (by decide) wC12 wf_RX12_302 (fun _ _ _ => rfl) dX12_mayPass_1)) (so_leaf (so_zle dX12_mayPass_4 (by decide))))) (so_node (so_node (so_leaf (so_aload_n dX12_mayPass_7 rfl)) (so_leaf (so_bipush dX12_mayPass_8 (by decide)))) (so_node (so_leaf (so_iald dX12_mayPass_10)) (so_leaf (so_iload_n dX12_mayPass_11 rfl))))) (so_node (so_node (so_leaf (so_iadd dX12_mayPass_12)) (so_node (so_leaf (so_sipush dX12_mayPass_13 (by decide))) (so_leaf (so_cgt dX12_mayPass_16 (by decide))))) (so_node (so_node (so_leaf (so_iconst dX12_mayPass_19 (by decide))) (so_leaf (so_goto dX12_mayPass_20 (by decide)))) (so_node (so_leaf (so_iconst dX12_mayPass_23 (by decide))) (so_leaf (so_zret dX12_mayPass_24 rfl))))))
theorem pX12_mayPass : ∀ pc, Pr (kX12_mayPass pc) := (pr_node (pr_node (pr_node (pr_leaf (pr_al _ _)) (pr_node (pr_leaf (pr_gI _ _ _)) (pr_leaf (pr_zle _ _)))) (pr_node (pr_node (pr_leaf (pr_al _ _)) (pr_leaf (pr_ic _ _))) (pr_node (pr_leaf (pr_iald _)) (pr_leaf (pr_il _ _))))) (pr_node (pr_node (pr_leaf (pr_iadd _)) (pr_node (pr_leaf (pr_ic _ _)) (pr_leaf (pr_cgt _ _)))) (pr_node (pr_node (pr_leaf (pr_ic _ _)) (pr_leaf (pr_goto _))) (pr_node (pr_leaf (pr_ic _ _)) (pr_leaf (pr_zret))))))
noncomputable def FX12_mayPass : List EV → Hp → Option (RV × Hp) := Fm kX12_mayPass 3
theorem CX12_mayPass : Con yX12_mayPass cX12_mayPass 3 (some .boolean) 0 0 FX12_mayPass := con_of (own := RX12) rfl (by decide +kernel) sX12_mayPass pX12_mayPass (fun z => by cases z)
theorem GX12_mayPass : Gr FX12_mayPass := Gr_Fm pX12_mayPass 3
theorem dX12_week_0 : decode cX12_week 0 = .ok (.aload_n 0, 1) := by decide +kernel
theorem dX12_week_1 : decode cX12_week 1 = .ok (.iconst 0, 1) := by decide +kernel
theorem dX12_week_2 : decode cX12_week 2 = .ok (.putfield 105, 3) := by decide +kernel
theorem dX12_week_5 : decode cX12_week 5 = .ok (.iload_n 1, 1) := by decide +kernel
theorem dX12_week_6 : decode cX12_week 6 = .ok (.i2l, 1) := by decide +kernel
theorem dX12_week_7 : decode cX12_week 7 = .ok (.lconst 0, 1) := by decide +kernel
theorem dX12_week_8 : decode cX12_week 8 = .ok (.ldc2_w 353, 3) := by decide +kernel
theorem dX12_week_11 : decode cX12_week 11 = .ok (.invokestatic 225, 3) := by decide +kernel
theorem dX12_week_14 : decode cX12_week 14 = .ok (.ifCond .eq 27, 3) := by decide +kernel
theorem dX12_week_17 : decode cX12_week 17 = .ok (.aload_n 0, 1) := by decide +kernel
theorem dX12_week_18 : decode cX12_week 18 = .ok (.aload_n 0, 1) := by decide +kernel
theorem dX12_week_19 : decode cX12_week 19 = .ok (.getfield 61, 3) := by decide +kernel
theorem dX12_week_22 : decode cX12_week 22 = .ok (.iconst 1, 1) := by decide +kernel
theorem dX12_week_23 : decode cX12_week 23 = .ok (.invokevirtual 360, 3) := by decide +kernel
theorem dX12_week_26 : decode cX12_week 26 = .ok (.ifCond .eq 15, 3) := by decide +kernel
theorem dX12_week_29 : decode cX12_week 29 = .ok (.aload_n 0, 1) := by decide +kernel
theorem dX12_week_30 : decode cX12_week 30 = .ok (.aload_n 0, 1) := by decide +kernel
theorem dX12_week_31 : decode cX12_week 31 = .ok (.getfield 61, 3) := by decide +kernel
theorem dX12_week_34 : decode cX12_week 34 = .ok (.iload_n 1, 1) := by decide +kernel
theorem dX12_week_35 : decode cX12_week 35 = .ok (.invokevirtual 364, 3) := by decide +kernel
theorem dX12_week_38 : decode cX12_week 38 = .ok (.ifCond .ne 5, 3) := by decide +kernel
theorem dX12_week_41 : decode cX12_week 41 = .ok (.iconst (-1), 1) := by decide +kernel
theorem dX12_week_42 : decode cX12_week 42 = .ok (.ireturn, 1) := by decide +kernel
theorem dX12_week_43 : decode cX12_week 43 = .ok (.aload_n 0, 1) := by decide +kernel
theorem dX12_week_44 : decode cX12_week 44 = .ok (.invokevirtual 367, 3) := by decide +kernel
theorem dX12_week_47 : decode cX12_week 47 = .ok (.aload_n 0, 1) := by decide +kernel
theorem dX12_week_48 : decode cX12_week 48 = .ok (.aload_n 0, 1) := by decide +kernel
theorem dX12_week_49 : decode cX12_week 49 = .ok (.getfield 61, 3) := by decide +kernel
theorem dX12_week_52 : decode cX12_week 52 = .ok (.iload_n 1, 1) := by decide +kernel
theorem dX12_week_53 : decode cX12_week 53 = .ok (.invokevirtual 370, 3) := by decide +kernel
theorem dX12_week_56 : decode cX12_week 56 = .ok (.aload_n 0, 1) := by decide +kernel
theorem dX12_week_57 : decode cX12_week 57 = .ok (.getfield 61, 3) := by decide +kernel
theorem dX12_week_60 : decode cX12_week 60 = .ok (.bipush 7, 2) := by decide +kernel
theorem dX12_week_62 : decode cX12_week 62 = .ok (.iaload, 1) := by decide +kernel
theorem dX12_week_63 : decode cX12_week 63 = .ok (.ireturn, 1) := by decide +kernel
noncomputable def kX12_week : Nat → Op := (nodeC 30 (nodeC 11 (nodeC 5 (nodeC 1 (nodeC 0 (leafC 0 (o_al 0 1)) (leafC 1 (o_ic (0) 2))) (nodeC 2 (leafC 2 (o_pI 12 0 5)) (leafC 5 (o_il 1 6)))) (nodeC 7 (nodeC 6 (leafC 6 (o_i2l 7)) (leafC 7 (o_lc (0) 8))) (nodeC 8 (leafC 8 (o_lc (3) 11)) (leafC 11 (o_ist 3 1 FX12_isIn 14))))) (nodeC 19 (nodeC 17 (nodeC 14 (leafC 14 (o_zeq 41 17)) (leafC 17 (o_al 0 18))) (nodeC 18 (leafC 18 (o_al 0 19)) (leafC 19 (o_gR 12 32 22)))) (nodeC 23 (nodeC 22 (leafC 22 (o_ic (1) 23)) (leafC 23 (o_inv 2 12 1 FX12_mayPass 26))) (nodeC 26 (leafC 26 (o_zeq 41 29)) (nodeC 29 (leafC 29 (o_al 0 30)) (leafC 30 (o_al 0 31))))))) (nodeC 47 (nodeC 38 (nodeC 34 (nodeC 31 (leafC 31 (o_gR 12 32 34)) (leafC 34 (o_il 1 35))) (nodeC 35 (leafC 35 (o_inv 2 12 1 FX12_canDo 38)) (leafC 38 (o_zne 43 41)))) (nodeC 42 (nodeC 41 (leafC 41 (o_ic (-1) 42)) (leafC 42 (o_iret))) (nodeC 43 (leafC 43 (o_al 0 44)) (nodeC 44 (leafC 44 (o_inv 0 12 0 FX12_remember 47)) (leafC 47 (o_al 0 48)))))) (nodeC 53 (nodeC 49 (nodeC 48 (leafC 48 (o_al 0 49)) (leafC 49 (o_gR 12 32 52))) (nodeC 52 (leafC 52 (o_il 1 53)) (leafC 53 (o_inv 2 12 0 FX12_goWeek 56)))) (nodeC 57 (nodeC 56 (leafC 56 (o_al 0 57)) (leafC 57 (o_gR 12 32 60))) (nodeC 60 (leafC 60 (o_ic (7) 62)) (nodeC 62 (leafC 62 (o_iald 63)) (leafC 63 (o_iret))))))))
theorem sX12_week : ∀ pc, SoundOp cX12_week RX12 2 (some .int) false 92 2271 pc (kX12_week pc) := (so_node (so_node (so_node (so_node (so_node (so_leaf (so_aload_n dX12_week_0 rfl)) (so_leaf (so_iconst dX12_week_1 (by decide)))) (so_node (so_leaf (so_pI (by decide) (by decide) wC12 wf_RX12_105 (Or.inl rfl) rfl dX12_week_2)) (so_leaf (so_iload_n dX12_week_5 rfl)))) (so_node (so_node (so_leaf (so_i2l dX12_week_6)) (so_leaf (so_lconst dX12_week_7 (by decide)))) (so_node (so_leaf (so_ldc2 wk_RX12_353 dX12_week_8)) (so_leaf (so_ist CX12_isIn rfl wm_RX12_225 wst_X12_isIn wny_X12_isIn wc_X12_isIn (by decide +kernel) (by decide) (by decide) dX12_week_11))))) (so_node (so_node (so_node (so_leaf (so_zeq dX12_week_14 (by decide))) (so_leaf (so_aload_n dX12_week_17 rfl))) (so_node (so_leaf (so_aload_n dX12_week_18 rfl)) (so_leaf (so_gR (by decide) (by decide) wC12 wf_RX12_61 (fun _ _ _ => rfl) dX12_week_19)))) (so_node (so_node (so_leaf (so_iconst dX12_week_22 (by decide))) (so_leaf (so_inv CX12_mayPass (by decide) rfl wm_RX12_360 win_X12_mayPass wse_X12_mayPass wn_12 wc_X12_mayPass (by decide +kernel) (by decide) (by decide) dX12_week_23))) (so_node (so_leaf (so_zeq dX12_week_26 (by decide))) (so_node (so_leaf (so_aload_n dX12_week_29 rfl)) (so_leaf (so_aload_n dX12_week_30 rfl))))))) (so_node (so_node (so_node (so_node (so_leaf (so_gR (by decide) (by decide) wC12 wf_RX12_61 (fun _ _ _ => rfl) dX12_week_31)) (so_leaf (so_iload_n dX12_week_34 rfl))) (so_node (so_leaf (so_inv CX12_canDo (by decide) rfl wm_RX12_364 win_X12_canDo wse_X12_canDo wn_12 wc_X12_canDo (by decide +kernel) (by decide) (by decide) dX12_week_35)) (so_leaf (so_zne dX12_week_38 (by decide))))) (so_node (so_node (so_leaf (so_iconst dX12_week_41 (by decide))) (so_leaf (so_iret dX12_week_42 rfl))) (so_node (so_leaf (so_aload_n dX12_week_43 rfl)) (so_node (so_leaf (so_inv CX12_remember (by decide) rfl wm_RX12_367 win_X12_remember wse_X12_remember wn_12 wc_X12_remember (by decide +kernel) (by decide) (by decide) dX12_week_44)) (so_leaf (so_aload_n dX12_week_47 rfl)))))) (so_node (so_node (so_node (so_leaf (so_aload_n dX12_week_48 rfl)) (so_leaf (so_gR (by decide) (by decide) wC12 wf_RX12_61 (fun _ _ _ => rfl) dX12_week_49))) (so_node (so_leaf (so_iload_n dX12_week_52 rfl)) (so_leaf (so_inv CX12_goWeek (by decide) rfl wm_RX12_370 win_X12_goWeek wse_X12_goWeek wn_12 wc_X12_goWeek (by decide +kernel) (by decide) (by decide) dX12_week_53)))) (so_node (so_node (so_leaf (so_aload_n dX12_week_56 rfl)) (so_leaf (so_gR (by decide) (by decide) wC12 wf_RX12_61 (fun _ _ _ => rfl) dX12_week_57))) (so_node (so_leaf (so_bipush dX12_week_60 (by decide))) (so_node (so_leaf (so_iald dX12_week_62)) (so_leaf (so_iret dX12_week_63 rfl))))))))
theorem pX12_week : ∀ pc, Pr (kX12_week pc) := (pr_node (pr_node (pr_node (pr_node (pr_node (pr_leaf (pr_al _ _)) (pr_leaf (pr_ic _ _))) (pr_node (pr_leaf (pr_pI _ _ _)) (pr_leaf (pr_il _ _)))) (pr_node (pr_node (pr_leaf (pr_i2l _)) (pr_leaf (pr_lc _ _))) (pr_node (pr_leaf (pr_lc _ _)) (pr_leaf (pr_ist _ _ GX12_isIn _))))) (pr_node (pr_node (pr_node (pr_leaf (pr_zeq _ _)) (pr_leaf (pr_al _ _))) (pr_node (pr_leaf (pr_al _ _)) (pr_leaf (pr_gR _ _ _)))) (pr_node (pr_node (pr_leaf (pr_ic _ _)) (pr_leaf (pr_inv _ _ _ GX12_mayPass _))) (pr_node (pr_leaf (pr_zeq _ _)) (pr_node (pr_leaf (pr_al _ _)) (pr_leaf (pr_al _ _))))))) (pr_node (pr_node (pr_node (pr_node (pr_leaf (pr_gR _ _ _)) (pr_leaf (pr_il _ _))) (pr_node (pr_leaf (pr_inv _ _ _ GX12_canDo _)) (pr_leaf (pr_zne _ _)))) (pr_node (pr_node (pr_leaf (pr_ic _ _)) (pr_leaf (pr_iret))) (pr_node (pr_leaf (pr_al _ _)) (pr_node (pr_leaf (pr_inv _ _ _ GX12_remember _)) (pr_leaf (pr_al _ _)))))) (pr_node (pr_node (pr_node (pr_leaf (pr_al _ _)) (pr_leaf (pr_gR _ _ _))) (pr_node (pr_leaf (pr_il _ _)) (pr_leaf (pr_inv _ _ _ GX12_goWeek _)))) (pr_node (pr_node (pr_leaf (pr_al _ _)) (pr_leaf (pr_gR _ _ _))) (pr_node (pr_leaf (pr_ic _ _)) (pr_node (pr_leaf (pr_iald _)) (pr_leaf (pr_iret))))))))
noncomputable def FX12_week : List EV → Hp → Option (RV × Hp) := Fm kX12_week 2
theorem CX12_week : Con yX12_week cX12_week 2 (some .int) 92 2271 FX12_week := con_of (own := RX12) rfl (by decide +kernel) sX12_week pX12_week (fun z => by cases z)
theorem GX12_week : Gr FX12_week := Gr_Fm pX12_week 2
theorem dX12_cuts_0 : decode cX12_cuts 0 = .ok (.aload_n 0, 1) := by decide +kernel
theorem dX12_cuts_1 : decode cX12_cuts 1 = .ok (.iconst 5, 1) := by decide +kernel
theorem dX12_cuts_2 : decode cX12_cuts 2 = .ok (.dup2, 1) := by decide +kernel
theorem dX12_cuts_3 : decode cX12_cuts 3 = .ok (.iaload, 1) := by decide +kernel
theorem dX12_cuts_4 : decode cX12_cuts 4 = .ok (.iconst 1, 1) := by decide +kernel
theorem dX12_cuts_5 : decode cX12_cuts 5 = .ok (.isub, 1) := by decide +kernel
theorem dX12_cuts_6 : decode cX12_cuts 6 = .ok (.iastore, 1) := by decide +kernel
theorem dX12_cuts_7 : decode cX12_cuts 7 = .ok (.aload_n 0, 1) := by decide +kernel
theorem dX12_cuts_8 : decode cX12_cuts 8 = .ok (.bipush 6, 2) := by decide +kernel
theorem dX12_cuts_10 : decode cX12_cuts 10 = .ok (.dup2, 1) := by decide +kernel
theorem dX12_cuts_11 : decode cX12_cuts 11 = .ok (.iaload, 1) := by decide +kernel
theorem dX12_cuts_12 : decode cX12_cuts 12 = .ok (.iconst 3, 1) := by decide +kernel
theorem dX12_cuts_13 : decode cX12_cuts 13 = .ok (.iadd, 1) := by decide +kernel
theorem dX12_cuts_14 : decode cX12_cuts 14 = .ok (.iastore, 1) := by decide +kernel
theorem dX12_cuts_15 : decode cX12_cuts 15 = .ok (.return_, 1) := by decide +kernel
noncomputable def kX12_cuts : Nat → Op := (nodeC 6 (nodeC 2 (nodeC 0 (leafC 0 (o_al 0 1)) (nodeC 1 (leafC 1 (o_ic (5) 2)) (leafC 2 (o_dup2A 3)))) (nodeC 4 (nodeC 3 (leafC 3 (o_iald 4)) (leafC 4 (o_ic (1) 5))) (nodeC 5 (leafC 5 (o_isub 6)) (leafC 6 (o_iast 7))))) (nodeC 11 (nodeC 8 (nodeC 7 (leafC 7 (o_al 0 8)) (leafC 8 (o_ic (6) 10))) (nodeC 10 (leafC 10 (o_dup2A 11)) (leafC 11 (o_iald 12)))) (nodeC 13 (nodeC 12 (leafC 12 (o_ic (3) 13)) (leafC 13 (o_iadd 14))) (nodeC 14 (leafC 14 (o_iast 15)) (leafC 15 (o_vret))))))
theorem sX12_cuts : ∀ pc, SoundOp cX12_cuts RX12 1 none false 0 0 pc (kX12_cuts pc) := (so_node (so_node (so_node (so_leaf (so_aload_n dX12_cuts_0 rfl)) (so_node (so_leaf (so_iconst dX12_cuts_1 (by decide))) (so_leaf (so_dup2A dX12_cuts_2)))) (so_node (so_node (so_leaf (so_iald dX12_cuts_3)) (so_leaf (so_iconst dX12_cuts_4 (by decide)))) (so_node (so_leaf (so_isub dX12_cuts_5)) (so_leaf (so_iast dX12_cuts_6))))) (so_node (so_node (so_node (so_leaf (so_aload_n dX12_cuts_7 rfl)) (so_leaf (so_bipush dX12_cuts_8 (by decide)))) (so_node (so_leaf (so_dup2A dX12_cuts_10)) (so_leaf (so_iald dX12_cuts_11)))) (so_node (so_node (so_leaf (so_iconst dX12_cuts_12 (by decide))) (so_leaf (so_iadd dX12_cuts_13))) (so_node (so_leaf (so_iast dX12_cuts_14)) (so_leaf (so_vret dX12_cuts_15 rfl))))))
theorem pX12_cuts : ∀ pc, Pr (kX12_cuts pc) := (pr_node (pr_node (pr_node (pr_leaf (pr_al _ _)) (pr_node (pr_leaf (pr_ic _ _)) (pr_leaf (pr_dup2A _)))) (pr_node (pr_node (pr_leaf (pr_iald _)) (pr_leaf (pr_ic _ _))) (pr_node (pr_leaf (pr_isub _)) (pr_leaf (pr_iast _))))) (pr_node (pr_node (pr_node (pr_leaf (pr_al _ _)) (pr_leaf (pr_ic _ _))) (pr_node (pr_leaf (pr_dup2A _)) (pr_leaf (pr_iald _)))) (pr_node (pr_node (pr_leaf (pr_ic _ _)) (pr_leaf (pr_iadd _))) (pr_node (pr_leaf (pr_iast _)) (pr_leaf (pr_vret))))))
noncomputable def FX12_cuts : List EV → Hp → Option (RV × Hp) := Fm kX12_cuts 1
theorem CX12_cuts : Con yX12_cuts cX12_cuts 1 none 0 0 FX12_cuts := con_of (own := RX12) rfl (by decide +kernel) sX12_cuts pX12_cuts (fun z => by cases z)
theorem GX12_cuts : Gr FX12_cuts := Gr_Fm pX12_cuts 1
theorem dX12_cut_0 : decode cX12_cut 0 = .ok (.aload_n 0, 1) := by decide +kernel
theorem dX12_cut_1 : decode cX12_cut 1 = .ok (.iconst 0, 1) := by decide +kernel
theorem dX12_cut_2 : decode cX12_cut 2 = .ok (.putfield 105, 3) := by decide +kernel
theorem dX12_cut_5 : decode cX12_cut 5 = .ok (.aload_n 0, 1) := by decide +kernel
theorem dX12_cut_6 : decode cX12_cut 6 = .ok (.getfield 302, 3) := by decide +kernel
theorem dX12_cut_9 : decode cX12_cut 9 = .ok (.ifCond .eq 12, 3) := by decide +kernel
theorem dX12_cut_12 : decode cX12_cut 12 = .ok (.aload_n 0, 1) := by decide +kernel
theorem dX12_cut_13 : decode cX12_cut 13 = .ok (.getfield 61, 3) := by decide +kernel
theorem dX12_cut_16 : decode cX12_cut 16 = .ok (.iconst 5, 1) := by decide +kernel
theorem dX12_cut_17 : decode cX12_cut 17 = .ok (.iaload, 1) := by decide +kernel
theorem dX12_cut_18 : decode cX12_cut 18 = .ok (.ifCond .ne 5, 3) := by decide +kernel
theorem dX12_cut_21 : decode cX12_cut 21 = .ok (.iconst (-1), 1) := by decide +kernel
theorem dX12_cut_22 : decode cX12_cut 22 = .ok (.ireturn, 1) := by decide +kernel
theorem dX12_cut_23 : decode cX12_cut 23 = .ok (.aload_n 0, 1) := by decide +kernel
theorem dX12_cut_24 : decode cX12_cut 24 = .ok (.invokevirtual 367, 3) := by decide +kernel
theorem dX12_cut_27 : decode cX12_cut 27 = .ok (.aload_n 0, 1) := by decide +kernel
theorem dX12_cut_28 : decode cX12_cut 28 = .ok (.getfield 61, 3) := by decide +kernel
theorem dX12_cut_31 : decode cX12_cut 31 = .ok (.invokestatic 374, 3) := by decide +kernel
theorem dX12_cut_34 : decode cX12_cut 34 = .ok (.aload_n 0, 1) := by decide +kernel
theorem dX12_cut_35 : decode cX12_cut 35 = .ok (.getfield 61, 3) := by decide +kernel
theorem dX12_cut_38 : decode cX12_cut 38 = .ok (.bipush 6, 2) := by decide +kernel
theorem dX12_cut_40 : decode cX12_cut 40 = .ok (.iaload, 1) := by decide +kernel
theorem dX12_cut_41 : decode cX12_cut 41 = .ok (.ireturn, 1) := by decide +kernel
noncomputable def kX12_cut : Nat → Op := (nodeC 18 (nodeC 6 (nodeC 1 (nodeC 0 (leafC 0 (o_al 0 1)) (leafC 1 (o_ic (0) 2))) (nodeC 2 (leafC 2 (o_pI 12 0 5)) (nodeC 5 (leafC 5 (o_al 0 6)) (leafC 6 (o_gI 12 27 9))))) (nodeC 13 (nodeC 9 (leafC 9 (o_zeq 21 12)) (nodeC 12 (leafC 12 (o_al 0 13)) (leafC 13 (o_gR 12 32 16)))) (nodeC 16 (leafC 16 (o_ic (5) 17)) (nodeC 17 (leafC 17 (o_iald 18)) (leafC 18 (o_zne 23 21)))))) (nodeC 28 (nodeC 23 (nodeC 21 (leafC 21 (o_ic (-1) 22)) (nodeC 22 (leafC 22 (o_iret)) (leafC 23 (o_al 0 24)))) (nodeC 24 (leafC 24 (o_inv 0 12 0 FX12_remember 27)) (nodeC 27 (leafC 27 (o_al 0 28)) (leafC 28 (o_gR 12 32 31))))) (nodeC 35 (nodeC 31 (leafC 31 (o_ist 1 0 FX12_cuts 34)) (nodeC 34 (leafC 34 (o_al 0 35)) (leafC 35 (o_gR 12 32 38)))) (nodeC 38 (leafC 38 (o_ic (6) 40)) (nodeC 40 (leafC 40 (o_iald 41)) (leafC 41 (o_iret)))))))
theorem sX12_cut : ∀ pc, SoundOp cX12_cut RX12 1 (some .int) false 1 21 pc (kX12_cut pc) := (so_node (so_node (so_node (so_node (so_leaf (so_aload_n dX12_cut_0 rfl)) (so_leaf (so_iconst dX12_cut_1 (by decide)))) (so_node (so_leaf (so_pI (by decide) (by decide) wC12 wf_RX12_105 (Or.inl rfl) rfl dX12_cut_2)) (so_node (so_leaf (so_aload_n dX12_cut_5 rfl)) (so_leaf (so_gI (by decide) (by decide) wC12 wf_RX12_302 (fun _ _ _ => rfl) dX12_cut_6))))) (so_node (so_node (so_leaf (so_zeq dX12_cut_9 (by decide))) (so_node (so_leaf (so_aload_n dX12_cut_12 rfl)) (so_leaf (so_gR (by decide) (by decide) wC12 wf_RX12_61 (fun _ _ _ => rfl) dX12_cut_13)))) (so_node (so_leaf (so_iconst dX12_cut_16 (by decide))) (so_node (so_leaf (so_iald dX12_cut_17)) (so_leaf (so_zne dX12_cut_18 (by decide))))))) (so_node (so_node (so_node (so_leaf (so_iconst dX12_cut_21 (by decide))) (so_node (so_leaf (so_iret dX12_cut_22 rfl)) (so_leaf (so_aload_n dX12_cut_23 rfl)))) (so_node (so_leaf (so_inv CX12_remember (by decide) rfl wm_RX12_367 win_X12_remember wse_X12_remember wn_12 wc_X12_remember (by decide +kernel) (by decide) (by decide) dX12_cut_24)) (so_node (so_leaf (so_aload_n dX12_cut_27 rfl)) (so_leaf (so_gR (by decide) (by decide) wC12 wf_RX12_61 (fun _ _ _ => rfl) dX12_cut_28))))) (so_node (so_node (so_leaf (so_ist CX12_cuts rfl wm_RX12_374 wst_X12_cuts wny_X12_cuts wc_X12_cuts (by decide +kernel) (by decide) (by decide) dX12_cut_31)) (so_node (so_leaf (so_aload_n dX12_cut_34 rfl)) (so_leaf (so_gR (by decide) (by decide) wC12 wf_RX12_61 (fun _ _ _ => rfl) dX12_cut_35)))) (so_node (so_leaf (so_bipush dX12_cut_38 (by decide))) (so_node (so_leaf (so_iald dX12_cut_40)) (so_leaf (so_iret dX12_cut_41 rfl)))))))
theorem pX12_cut : ∀ pc, Pr (kX12_cut pc) := (pr_node (pr_node (pr_node (pr_node (pr_leaf (pr_al _ _)) (pr_leaf (pr_ic _ _))) (pr_node (pr_leaf (pr_pI _ _ _)) (pr_node (pr_leaf (pr_al _ _)) (pr_leaf (pr_gI _ _ _))))) (pr_node (pr_node (pr_leaf (pr_zeq _ _)) (pr_node (pr_leaf (pr_al _ _)) (pr_leaf (pr_gR _ _ _)))) (pr_node (pr_leaf (pr_ic _ _)) (pr_node (pr_leaf (pr_iald _)) (pr_leaf (pr_zne _ _)))))) (pr_node (pr_node (pr_node (pr_leaf (pr_ic _ _)) (pr_node (pr_leaf (pr_iret)) (pr_leaf (pr_al _ _)))) (pr_node (pr_leaf (pr_inv _ _ _ GX12_remember _)) (pr_node (pr_leaf (pr_al _ _)) (pr_leaf (pr_gR _ _ _))))) (pr_node (pr_node (pr_leaf (pr_ist _ _ GX12_cuts _)) (pr_node (pr_leaf (pr_al _ _)) (pr_leaf (pr_gR _ _ _)))) (pr_node (pr_leaf (pr_ic _ _)) (pr_node (pr_leaf (pr_iald _)) (pr_leaf (pr_iret)))))))
noncomputable def FX12_cut : List EV → Hp → Option (RV × Hp) := Fm kX12_cut 1
theorem CX12_cut : Con yX12_cut cX12_cut 1 (some .int) 1 21 FX12_cut := con_of (own := RX12) rfl (by decide +kernel) sX12_cut pX12_cut (fun z => by cases z)
theorem GX12_cut : Gr FX12_cut := Gr_Fm pX12_cut 1
theorem dX12_canSell_0 : decode cX12_canSell 0 = .ok (.aload_n 0, 1) := by decide +kernel
theorem dX12_canSell_1 : decode cX12_canSell 1 = .ok (.iload_n 2, 1) := by decide +kernel
theorem dX12_canSell_2 : decode cX12_canSell 2 = .ok (.invokevirtual 350, 3) := by decide +kernel
theorem dX12_canSell_5 : decode cX12_canSell 5 = .ok (.ifCond .eq 54, 3) := by decide +kernel
theorem dX12_canSell_8 : decode cX12_canSell 8 = .ok (.iload_n 3, 1) := by decide +kernel
theorem dX12_canSell_9 : decode cX12_canSell 9 = .ok (.i2l, 1) := by decide +kernel
theorem dX12_canSell_10 : decode cX12_canSell 10 = .ok (.lconst 0, 1) := by decide +kernel
theorem dX12_canSell_11 : decode cX12_canSell 11 = .ok (.lconst 1, 1) := by decide +kernel
theorem dX12_canSell_12 : decode cX12_canSell 12 = .ok (.invokestatic 225, 3) := by decide +kernel
theorem dX12_canSell_15 : decode cX12_canSell 15 = .ok (.ifCond .eq 44, 3) := by decide +kernel
theorem dX12_canSell_18 : decode cX12_canSell 18 = .ok (.aload_n 1, 1) := by decide +kernel
theorem dX12_canSell_19 : decode cX12_canSell 19 = .ok (.iconst 5, 1) := by decide +kernel
theorem dX12_canSell_20 : decode cX12_canSell 20 = .ok (.iload_n 3, 1) := by decide +kernel
theorem dX12_canSell_21 : decode cX12_canSell 21 = .ok (.iadd, 1) := by decide +kernel
theorem dX12_canSell_22 : decode cX12_canSell 22 = .ok (.iaload, 1) := by decide +kernel
theorem dX12_canSell_23 : decode cX12_canSell 23 = .ok (.ifCond .le 36, 3) := by decide +kernel
theorem dX12_canSell_26 : decode cX12_canSell 26 = .ok (.aload_n 0, 1) := by decide +kernel
theorem dX12_canSell_27 : decode cX12_canSell 27 = .ok (.aload_n 1, 1) := by decide +kernel
theorem dX12_canSell_28 : decode cX12_canSell 28 = .ok (.iload_n 2, 1) := by decide +kernel
theorem dX12_canSell_29 : decode cX12_canSell 29 = .ok (.invokevirtual 355, 3) := by decide +kernel
theorem dX12_canSell_32 : decode cX12_canSell 32 = .ok (.ifCond .le 27, 3) := by decide +kernel
theorem dX12_canSell_35 : decode cX12_canSell 35 = .ok (.aload_n 1, 1) := by decide +kernel
theorem dX12_canSell_36 : decode cX12_canSell 36 = .ok (.iconst 4, 1) := by decide +kernel
theorem dX12_canSell_37 : decode cX12_canSell 37 = .ok (.iaload, 1) := by decide +kernel
theorem dX12_canSell_38 : decode cX12_canSell 38 = .ok (.aload_n 0, 1) := by decide +kernel
theorem dX12_canSell_39 : decode cX12_canSell 39 = .ok (.getfield 49, 3) := by decide +kernel
theorem dX12_canSell_42 : decode cX12_canSell 42 = .ok (.iconst 3, 1) := by decide +kernel
theorem dX12_canSell_43 : decode cX12_canSell 43 = .ok (.iload_n 2, 1) := by decide +kernel
theorem dX12_canSell_44 : decode cX12_canSell 44 = .ok (.imul, 1) := by decide +kernel
theorem dX12_canSell_45 : decode cX12_canSell 45 = .ok (.iload_n 3, 1) := by decide +kernel
theorem dX12_canSell_46 : decode cX12_canSell 46 = .ok (.iadd, 1) := by decide +kernel
theorem dX12_canSell_47 : decode cX12_canSell 47 = .ok (.iaload, 1) := by decide +kernel
theorem dX12_canSell_48 : decode cX12_canSell 48 = .ok (.iadd, 1) := by decide +kernel
theorem dX12_canSell_49 : decode cX12_canSell 49 = .ok (.sipush 9999, 3) := by decide +kernel
theorem dX12_canSell_52 : decode cX12_canSell 52 = .ok (.if_icmp .gt 7, 3) := by decide +kernel
theorem dX12_canSell_55 : decode cX12_canSell 55 = .ok (.iconst 1, 1) := by decide +kernel
theorem dX12_canSell_56 : decode cX12_canSell 56 = .ok (.goto 4, 3) := by decide +kernel
theorem dX12_canSell_59 : decode cX12_canSell 59 = .ok (.iconst 0, 1) := by decide +kernel
theorem dX12_canSell_60 : decode cX12_canSell 60 = .ok (.ireturn, 1) := by decide +kernel
noncomputable def kX12_canSell : Nat → Op := (nodeC 28 (nodeC 12 (nodeC 5 (nodeC 1 (nodeC 0 (leafC 0 (o_al 0 1)) (leafC 1 (o_il 2 2))) (nodeC 2 (leafC 2 (o_inv 1 12 1 FX12_isBuyer 5)) (leafC 5 (o_zeq 59 8)))) (nodeC 9 (nodeC 8 (leafC 8 (o_il 3 9)) (leafC 9 (o_i2l 10))) (nodeC 10 (leafC 10 (o_lc (0) 11)) (nodeC 11 (leafC 11 (o_lc (1) 12)) (leafC 12 (o_ist 3 1 FX12_isIn 15)))))) (nodeC 21 (nodeC 18 (nodeC 15 (leafC 15 (o_zeq 59 18)) (leafC 18 (o_al 1 19))) (nodeC 19 (leafC 19 (o_ic (5) 20)) (nodeC 20 (leafC 20 (o_il 3 21)) (leafC 21 (o_iadd 22))))) (nodeC 23 (nodeC 22 (leafC 22 (o_iald 23)) (leafC 23 (o_zle 59 26))) (nodeC 26 (leafC 26 (o_al 0 27)) (nodeC 27 (leafC 27 (o_al 1 28)) (leafC 28 (o_il 2 29))))))) (nodeC 44 (nodeC 37 (nodeC 32 (nodeC 29 (leafC 29 (o_inv 2 12 1 FX12_wants 32)) (leafC 32 (o_zle 59 35))) (nodeC 35 (leafC 35 (o_al 1 36)) (nodeC 36 (leafC 36 (o_ic (4) 37)) (leafC 37 (o_iald 38))))) (nodeC 39 (nodeC 38 (leafC 38 (o_al 0 39)) (leafC 39 (o_gR 12 22 42))) (nodeC 42 (leafC 42 (o_ic (3) 43)) (nodeC 43 (leafC 43 (o_il 2 44)) (leafC 44 (o_imul 45)))))) (nodeC 49 (nodeC 46 (nodeC 45 (leafC 45 (o_il 3 46)) (leafC 46 (o_iadd 47))) (nodeC 47 (leafC 47 (o_iald 48)) (nodeC 48 (leafC 48 (o_iadd 49)) (leafC 49 (o_ic (9999) 52))))) (nodeC 55 (nodeC 52 (leafC 52 (o_cgt 59 55)) (leafC 55 (o_ic (1) 56))) (nodeC 56 (leafC 56 (o_goto 60)) (nodeC 59 (leafC 59 (o_ic (0) 60)) (leafC 60 (o_zret))))))))
theorem sX12_canSell : ∀ pc, SoundOp cX12_canSell RX12 4 (some .boolean) false 1 25 pc (kX12_canSell pc) := (so_node (so_node (so_node (so_node (so_node (so_leaf (so_aload_n dX12_canSell_0 rfl)) (so_leaf (so_iload_n dX12_canSell_1 rfl))) (so_node (so_leaf (so_inv CX12_isBuyer (by decide) rfl wm_RX12_350 win_X12_isBuyer wse_X12_isBuyer wn_12 wc_X12_isBuyer (by decide +kernel) (by decide) (by decide) dX12_canSell_2)) (so_leaf (so_zeq dX12_canSell_5 (by decide))))) (so_node (so_node (so_leaf (so_iload_n dX12_canSell_8 rfl)) (so_leaf (so_i2l dX12_canSell_9))) (so_node (so_leaf (so_lconst dX12_canSell_10 (by decide))) (so_node (so_leaf (so_lconst dX12_canSell_11 (by decide))) (so_leaf (so_ist CX12_isIn rfl wm_RX12_225 wst_X12_isIn wny_X12_isIn wc_X12_isIn (by decide +kernel) (by decide) (by decide) dX12_canSell_12)))))) (so_node (so_node (so_node (so_leaf (so_zeq dX12_canSell_15 (by decide))) (so_leaf (so_aload_n dX12_canSell_18 rfl))) (so_node (so_leaf (so_iconst dX12_canSell_19 (by decide))) (so_node (so_leaf (so_iload_n dX12_canSell_20 rfl)) (so_leaf (so_iadd dX12_canSell_21))))) (so_node (so_node (so_leaf (so_iald dX12_canSell_22)) (so_leaf (so_zle dX12_canSell_23 (by decide)))) (so_node (so_leaf (so_aload_n dX12_canSell_26 rfl)) (so_node (so_leaf (so_aload_n dX12_canSell_27 rfl)) (so_leaf (so_iload_n dX12_canSell_28 rfl))))))) (so_node (so_node (so_node (so_node (so_leaf (so_inv CX12_wants (by decide) rfl wm_RX12_355 win_X12_wants wse_X12_wants wn_12 wc_X12_wants (by decide +kernel) (by decide) (by decide) dX12_canSell_29)) (so_leaf (so_zle dX12_canSell_32 (by decide)))) (so_node (so_leaf (so_aload_n dX12_canSell_35 rfl)) (so_node (so_leaf (so_iconst dX12_canSell_36 (by decide))) (so_leaf (so_iald dX12_canSell_37))))) (so_node (so_node (so_leaf (so_aload_n dX12_canSell_38 rfl)) (so_leaf (so_gR (by decide) (by decide) wC12 wf_RX12_49 (fun _ _ _ => rfl) dX12_canSell_39))) (so_node (so_leaf (so_iconst dX12_canSell_42 (by decide))) (so_node (so_leaf (so_iload_n dX12_canSell_43 rfl)) (so_leaf (so_imul dX12_canSell_44)))))) (so_node (so_node (so_node (so_leaf (so_iload_n dX12_canSell_45 rfl)) (so_leaf (so_iadd dX12_canSell_46))) (so_node (so_leaf (so_iald dX12_canSell_47)) (so_node (so_leaf (so_iadd dX12_canSell_48)) (so_leaf (so_sipush dX12_canSell_49 (by decide)))))) (so_node (so_node (so_leaf (so_cgt dX12_canSell_52 (by decide))) (so_leaf (so_iconst dX12_canSell_55 (by decide)))) (so_node (so_leaf (so_goto dX12_canSell_56 (by decide))) (so_node (so_leaf (so_iconst dX12_canSell_59 (by decide))) (so_leaf (so_zret dX12_canSell_60 rfl))))))))
theorem pX12_canSell : ∀ pc, Pr (kX12_canSell pc) := (pr_node (pr_node (pr_node (pr_node (pr_node (pr_leaf (pr_al _ _)) (pr_leaf (pr_il _ _))) (pr_node (pr_leaf (pr_inv _ _ _ GX12_isBuyer _)) (pr_leaf (pr_zeq _ _)))) (pr_node (pr_node (pr_leaf (pr_il _ _)) (pr_leaf (pr_i2l _))) (pr_node (pr_leaf (pr_lc _ _)) (pr_node (pr_leaf (pr_lc _ _)) (pr_leaf (pr_ist _ _ GX12_isIn _)))))) (pr_node (pr_node (pr_node (pr_leaf (pr_zeq _ _)) (pr_leaf (pr_al _ _))) (pr_node (pr_leaf (pr_ic _ _)) (pr_node (pr_leaf (pr_il _ _)) (pr_leaf (pr_iadd _))))) (pr_node (pr_node (pr_leaf (pr_iald _)) (pr_leaf (pr_zle _ _))) (pr_node (pr_leaf (pr_al _ _)) (pr_node (pr_leaf (pr_al _ _)) (pr_leaf (pr_il _ _))))))) (pr_node (pr_node (pr_node (pr_node (pr_leaf (pr_inv _ _ _ GX12_wants _)) (pr_leaf (pr_zle _ _))) (pr_node (pr_leaf (pr_al _ _)) (pr_node (pr_leaf (pr_ic _ _)) (pr_leaf (pr_iald _))))) (pr_node (pr_node (pr_leaf (pr_al _ _)) (pr_leaf (pr_gR _ _ _))) (pr_node (pr_leaf (pr_ic _ _)) (pr_node (pr_leaf (pr_il _ _)) (pr_leaf (pr_imul _)))))) (pr_node (pr_node (pr_node (pr_leaf (pr_il _ _)) (pr_leaf (pr_iadd _))) (pr_node (pr_leaf (pr_iald _)) (pr_node (pr_leaf (pr_iadd _)) (pr_leaf (pr_ic _ _))))) (pr_node (pr_node (pr_leaf (pr_cgt _ _)) (pr_leaf (pr_ic _ _))) (pr_node (pr_leaf (pr_goto _)) (pr_node (pr_leaf (pr_ic _ _)) (pr_leaf (pr_zret))))))))
noncomputable def FX12_canSell : List EV → Hp → Option (RV × Hp) := Fm kX12_canSell 4
theorem CX12_canSell : Con yX12_canSell cX12_canSell 4 (some .boolean) 1 25 FX12_canSell := con_of (own := RX12) rfl (by decide +kernel) sX12_canSell pX12_canSell (fun z => by cases z)
theorem GX12_canSell : Gr FX12_canSell := Gr_Fm pX12_canSell 4
theorem dX12_sells_0 : decode cX12_sells 0 = .ok (.aload_n 1, 1) := by decide +kernel
theorem dX12_sells_1 : decode cX12_sells 1 = .ok (.iconst 5, 1) := by decide +kernel
theorem dX12_sells_2 : decode cX12_sells 2 = .ok (.iload_n 3, 1) := by decide +kernel
theorem dX12_sells_3 : decode cX12_sells 3 = .ok (.iadd, 1) := by decide +kernel
theorem dX12_sells_4 : decode cX12_sells 4 = .ok (.dup2, 1) := by decide +kernel
theorem dX12_sells_5 : decode cX12_sells 5 = .ok (.iaload, 1) := by decide +kernel
theorem dX12_sells_6 : decode cX12_sells 6 = .ok (.iconst 1, 1) := by decide +kernel
theorem dX12_sells_7 : decode cX12_sells 7 = .ok (.isub, 1) := by decide +kernel
theorem dX12_sells_8 : decode cX12_sells 8 = .ok (.iastore, 1) := by decide +kernel
theorem dX12_sells_9 : decode cX12_sells 9 = .ok (.aload_n 1, 1) := by decide +kernel
theorem dX12_sells_10 : decode cX12_sells 10 = .ok (.bipush 14, 2) := by decide +kernel
theorem dX12_sells_12 : decode cX12_sells 12 = .ok (.iload_n 2, 1) := by decide +kernel
theorem dX12_sells_13 : decode cX12_sells 13 = .ok (.iadd, 1) := by decide +kernel
theorem dX12_sells_14 : decode cX12_sells 14 = .ok (.dup2, 1) := by decide +kernel
theorem dX12_sells_15 : decode cX12_sells 15 = .ok (.iaload, 1) := by decide +kernel
theorem dX12_sells_16 : decode cX12_sells 16 = .ok (.iconst 1, 1) := by decide +kernel
theorem dX12_sells_17 : decode cX12_sells 17 = .ok (.iadd, 1) := by decide +kernel
theorem dX12_sells_18 : decode cX12_sells 18 = .ok (.iastore, 1) := by decide +kernel
theorem dX12_sells_19 : decode cX12_sells 19 = .ok (.aload_n 1, 1) := by decide +kernel
theorem dX12_sells_20 : decode cX12_sells 20 = .ok (.iconst 4, 1) := by decide +kernel
theorem dX12_sells_21 : decode cX12_sells 21 = .ok (.dup2, 1) := by decide +kernel
theorem dX12_sells_22 : decode cX12_sells 22 = .ok (.iaload, 1) := by decide +kernel
theorem dX12_sells_23 : decode cX12_sells 23 = .ok (.aload_n 0, 1) := by decide +kernel
theorem dX12_sells_24 : decode cX12_sells 24 = .ok (.getfield 49, 3) := by decide +kernel
theorem dX12_sells_27 : decode cX12_sells 27 = .ok (.iconst 3, 1) := by decide +kernel
theorem dX12_sells_28 : decode cX12_sells 28 = .ok (.iload_n 2, 1) := by decide +kernel
theorem dX12_sells_29 : decode cX12_sells 29 = .ok (.imul, 1) := by decide +kernel
theorem dX12_sells_30 : decode cX12_sells 30 = .ok (.iload_n 3, 1) := by decide +kernel
theorem dX12_sells_31 : decode cX12_sells 31 = .ok (.iadd, 1) := by decide +kernel
theorem dX12_sells_32 : decode cX12_sells 32 = .ok (.iaload, 1) := by decide +kernel
theorem dX12_sells_33 : decode cX12_sells 33 = .ok (.iadd, 1) := by decide +kernel
theorem dX12_sells_34 : decode cX12_sells 34 = .ok (.iastore, 1) := by decide +kernel
theorem dX12_sells_35 : decode cX12_sells 35 = .ok (.return_, 1) := by decide +kernel
noncomputable def kX12_sells : Nat → Op := (nodeC 16 (nodeC 7 (nodeC 3 (nodeC 1 (nodeC 0 (leafC 0 (o_al 1 1)) (leafC 1 (o_ic (5) 2))) (nodeC 2 (leafC 2 (o_il 3 3)) (leafC 3 (o_iadd 4)))) (nodeC 5 (nodeC 4 (leafC 4 (o_dup2A 5)) (leafC 5 (o_iald 6))) (nodeC 6 (leafC 6 (o_ic (1) 7)) (leafC 7 (o_isub 8))))) (nodeC 12 (nodeC 9 (nodeC 8 (leafC 8 (o_iast 9)) (leafC 9 (o_al 1 10))) (nodeC 10 (leafC 10 (o_ic (14) 12)) (leafC 12 (o_il 2 13)))) (nodeC 14 (nodeC 13 (leafC 13 (o_iadd 14)) (leafC 14 (o_dup2A 15))) (nodeC 15 (leafC 15 (o_iald 16)) (leafC 16 (o_ic (1) 17)))))) (nodeC 24 (nodeC 20 (nodeC 18 (nodeC 17 (leafC 17 (o_iadd 18)) (leafC 18 (o_iast 19))) (nodeC 19 (leafC 19 (o_al 1 20)) (leafC 20 (o_ic (4) 21)))) (nodeC 22 (nodeC 21 (leafC 21 (o_dup2A 22)) (leafC 22 (o_iald 23))) (nodeC 23 (leafC 23 (o_al 0 24)) (leafC 24 (o_gR 12 22 27))))) (nodeC 30 (nodeC 28 (nodeC 27 (leafC 27 (o_ic (3) 28)) (leafC 28 (o_il 2 29))) (nodeC 29 (leafC 29 (o_imul 30)) (leafC 30 (o_il 3 31)))) (nodeC 32 (nodeC 31 (leafC 31 (o_iadd 32)) (leafC 32 (o_iald 33))) (nodeC 33 (leafC 33 (o_iadd 34)) (nodeC 34 (leafC 34 (o_iast 35)) (leafC 35 (o_vret))))))))
theorem sX12_sells : ∀ pc, SoundOp cX12_sells RX12 4 none false 0 0 pc (kX12_sells pc) := (so_node (so_node (so_node (so_node (so_node (so_leaf (so_aload_n dX12_sells_0 rfl)) (so_leaf (so_iconst dX12_sells_1 (by decide)))) (so_node (so_leaf (so_iload_n dX12_sells_2 rfl)) (so_leaf (so_iadd dX12_sells_3)))) (so_node (so_node (so_leaf (so_dup2A dX12_sells_4)) (so_leaf (so_iald dX12_sells_5))) (so_node (so_leaf (so_iconst dX12_sells_6 (by decide))) (so_leaf (so_isub dX12_sells_7))))) (so_node (so_node (so_node (so_leaf (so_iast dX12_sells_8)) (so_leaf (so_aload_n dX12_sells_9 rfl))) (so_node (so_leaf (so_bipush dX12_sells_10 (by decide))) (so_leaf (so_iload_n dX12_sells_12 rfl)))) (so_node (so_node (so_leaf (so_iadd dX12_sells_13)) (so_leaf (so_dup2A dX12_sells_14))) (so_node (so_leaf (so_iald dX12_sells_15)) (so_leaf (so_iconst dX12_sells_16 (by decide))))))) (so_node (so_node (so_node (so_node (so_leaf (so_iadd dX12_sells_17)) (so_leaf (so_iast dX12_sells_18))) (so_node (so_leaf (so_aload_n dX12_sells_19 rfl)) (so_leaf (so_iconst dX12_sells_20 (by decide))))) (so_node (so_node (so_leaf (so_dup2A dX12_sells_21)) (so_leaf (so_iald dX12_sells_22))) (so_node (so_leaf (so_aload_n dX12_sells_23 rfl)) (so_leaf (so_gR (by decide) (by decide) wC12 wf_RX12_49 (fun _ _ _ => rfl) dX12_sells_24))))) (so_node (so_node (so_node (so_leaf (so_iconst dX12_sells_27 (by decide))) (so_leaf (so_iload_n dX12_sells_28 rfl))) (so_node (so_leaf (so_imul dX12_sells_29)) (so_leaf (so_iload_n dX12_sells_30 rfl)))) (so_node (so_node (so_leaf (so_iadd dX12_sells_31)) (so_leaf (so_iald dX12_sells_32))) (so_node (so_leaf (so_iadd dX12_sells_33)) (so_node (so_leaf (so_iast dX12_sells_34)) (so_leaf (so_vret dX12_sells_35 rfl))))))))
theorem pX12_sells : ∀ pc, Pr (kX12_sells pc) := (pr_node (pr_node (pr_node (pr_node (pr_node (pr_leaf (pr_al _ _)) (pr_leaf (pr_ic _ _))) (pr_node (pr_leaf (pr_il _ _)) (pr_leaf (pr_iadd _)))) (pr_node (pr_node (pr_leaf (pr_dup2A _)) (pr_leaf (pr_iald _))) (pr_node (pr_leaf (pr_ic _ _)) (pr_leaf (pr_isub _))))) (pr_node (pr_node (pr_node (pr_leaf (pr_iast _)) (pr_leaf (pr_al _ _))) (pr_node (pr_leaf (pr_ic _ _)) (pr_leaf (pr_il _ _)))) (pr_node (pr_node (pr_leaf (pr_iadd _)) (pr_leaf (pr_dup2A _))) (pr_node (pr_leaf (pr_iald _)) (pr_leaf (pr_ic _ _)))))) (pr_node (pr_node (pr_node (pr_node (pr_leaf (pr_iadd _)) (pr_leaf (pr_iast _))) (pr_node (pr_leaf (pr_al _ _)) (pr_leaf (pr_ic _ _)))) (pr_node (pr_node (pr_leaf (pr_dup2A _)) (pr_leaf (pr_iald _))) (pr_node (pr_leaf (pr_al _ _)) (pr_leaf (pr_gR _ _ _))))) (pr_node (pr_node (pr_node (pr_leaf (pr_ic _ _)) (pr_leaf (pr_il _ _))) (pr_node (pr_leaf (pr_imul _)) (pr_leaf (pr_il _ _)))) (pr_node (pr_node (pr_leaf (pr_iadd _)) (pr_leaf (pr_iald _))) (pr_node (pr_leaf (pr_iadd _)) (pr_node (pr_leaf (pr_iast _)) (pr_leaf (pr_vret))))))))
noncomputable def FX12_sells : List EV → Hp → Option (RV × Hp) := Fm kX12_sells 4
theorem CX12_sells : Con yX12_sells cX12_sells 4 none 0 0 FX12_sells := con_of (own := RX12) rfl (by decide +kernel) sX12_sells pX12_sells (fun z => by cases z)
theorem GX12_sells : Gr FX12_sells := Gr_Fm pX12_sells 4
theorem dX12_sell_0 : decode cX12_sell 0 = .ok (.aload_n 0, 1) := by decide +kernel
theorem dX12_sell_1 : decode cX12_sell 1 = .ok (.iconst 0, 1) := by decide +kernel
theorem dX12_sell_2 : decode cX12_sell 2 = .ok (.putfield 105, 3) := by decide +kernel
theorem dX12_sell_5 : decode cX12_sell 5 = .ok (.aload_n 0, 1) := by decide +kernel
theorem dX12_sell_6 : decode cX12_sell 6 = .ok (.aload_n 0, 1) := by decide +kernel
theorem dX12_sell_7 : decode cX12_sell 7 = .ok (.getfield 61, 3) := by decide +kernel
theorem dX12_sell_10 : decode cX12_sell 10 = .ok (.iload_n 1, 1) := by decide +kernel
theorem dX12_sell_11 : decode cX12_sell 11 = .ok (.iload_n 2, 1) := by decide +kernel
theorem dX12_sell_12 : decode cX12_sell 12 = .ok (.invokevirtual 377, 3) := by decide +kernel
theorem dX12_sell_15 : decode cX12_sell 15 = .ok (.ifCond .ne 5, 3) := by decide +kernel
theorem dX12_sell_18 : decode cX12_sell 18 = .ok (.iconst (-1), 1) := by decide +kernel
theorem dX12_sell_19 : decode cX12_sell 19 = .ok (.ireturn, 1) := by decide +kernel
theorem dX12_sell_20 : decode cX12_sell 20 = .ok (.aload_n 0, 1) := by decide +kernel
theorem dX12_sell_21 : decode cX12_sell 21 = .ok (.invokevirtual 367, 3) := by decide +kernel
theorem dX12_sell_24 : decode cX12_sell 24 = .ok (.aload_n 0, 1) := by decide +kernel
theorem dX12_sell_25 : decode cX12_sell 25 = .ok (.aload_n 0, 1) := by decide +kernel
theorem dX12_sell_26 : decode cX12_sell 26 = .ok (.getfield 61, 3) := by decide +kernel
theorem dX12_sell_29 : decode cX12_sell 29 = .ok (.iload_n 1, 1) := by decide +kernel
theorem dX12_sell_30 : decode cX12_sell 30 = .ok (.iload_n 2, 1) := by decide +kernel
theorem dX12_sell_31 : decode cX12_sell 31 = .ok (.invokevirtual 381, 3) := by decide +kernel
theorem dX12_sell_34 : decode cX12_sell 34 = .ok (.aload_n 0, 1) := by decide +kernel
theorem dX12_sell_35 : decode cX12_sell 35 = .ok (.getfield 61, 3) := by decide +kernel
theorem dX12_sell_38 : decode cX12_sell 38 = .ok (.iconst 4, 1) := by decide +kernel
theorem dX12_sell_39 : decode cX12_sell 39 = .ok (.iaload, 1) := by decide +kernel
theorem dX12_sell_40 : decode cX12_sell 40 = .ok (.ireturn, 1) := by decide +kernel
noncomputable def kX12_sell : Nat → Op := (nodeC 19 (nodeC 7 (nodeC 2 (nodeC 0 (leafC 0 (o_al 0 1)) (nodeC 1 (leafC 1 (o_ic (0) 2)) (leafC 2 (o_pI 12 0 5)))) (nodeC 5 (leafC 5 (o_al 0 6)) (nodeC 6 (leafC 6 (o_al 0 7)) (leafC 7 (o_gR 12 32 10))))) (nodeC 12 (nodeC 10 (leafC 10 (o_il 1 11)) (nodeC 11 (leafC 11 (o_il 2 12)) (leafC 12 (o_inv 3 12 1 FX12_canSell 15)))) (nodeC 15 (leafC 15 (o_zne 20 18)) (nodeC 18 (leafC 18 (o_ic (-1) 19)) (leafC 19 (o_iret)))))) (nodeC 29 (nodeC 24 (nodeC 20 (leafC 20 (o_al 0 21)) (nodeC 21 (leafC 21 (o_inv 0 12 0 FX12_remember 24)) (leafC 24 (o_al 0 25)))) (nodeC 25 (leafC 25 (o_al 0 26)) (nodeC 26 (leafC 26 (o_gR 12 32 29)) (leafC 29 (o_il 1 30))))) (nodeC 34 (nodeC 30 (leafC 30 (o_il 2 31)) (nodeC 31 (leafC 31 (o_inv 3 12 0 FX12_sells 34)) (leafC 34 (o_al 0 35)))) (nodeC 38 (nodeC 35 (leafC 35 (o_gR 12 32 38)) (leafC 38 (o_ic (4) 39))) (nodeC 39 (leafC 39 (o_iald 40)) (leafC 40 (o_iret)))))))
theorem sX12_sell : ∀ pc, SoundOp cX12_sell RX12 3 (some .int) false 2 48 pc (kX12_sell pc) := (so_node (so_node (so_node (so_node (so_leaf (so_aload_n dX12_sell_0 rfl)) (so_node (so_leaf (so_iconst dX12_sell_1 (by decide))) (so_leaf (so_pI (by decide) (by decide) wC12 wf_RX12_105 (Or.inl rfl) rfl dX12_sell_2)))) (so_node (so_leaf (so_aload_n dX12_sell_5 rfl)) (so_node (so_leaf (so_aload_n dX12_sell_6 rfl)) (so_leaf (so_gR (by decide) (by decide) wC12 wf_RX12_61 (fun _ _ _ => rfl) dX12_sell_7))))) (so_node (so_node (so_leaf (so_iload_n dX12_sell_10 rfl)) (so_node (so_leaf (so_iload_n dX12_sell_11 rfl)) (so_leaf (so_inv CX12_canSell (by decide) rfl wm_RX12_377 win_X12_canSell wse_X12_canSell wn_12 wc_X12_canSell (by decide +kernel) (by decide) (by decide) dX12_sell_12)))) (so_node (so_leaf (so_zne dX12_sell_15 (by decide))) (so_node (so_leaf (so_iconst dX12_sell_18 (by decide))) (so_leaf (so_iret dX12_sell_19 rfl)))))) (so_node (so_node (so_node (so_leaf (so_aload_n dX12_sell_20 rfl)) (so_node (so_leaf (so_inv CX12_remember (by decide) rfl wm_RX12_367 win_X12_remember wse_X12_remember wn_12 wc_X12_remember (by decide +kernel) (by decide) (by decide) dX12_sell_21)) (so_leaf (so_aload_n dX12_sell_24 rfl)))) (so_node (so_leaf (so_aload_n dX12_sell_25 rfl)) (so_node (so_leaf (so_gR (by decide) (by decide) wC12 wf_RX12_61 (fun _ _ _ => rfl) dX12_sell_26)) (so_leaf (so_iload_n dX12_sell_29 rfl))))) (so_node (so_node (so_leaf (so_iload_n dX12_sell_30 rfl)) (so_node (so_leaf (so_inv CX12_sells (by decide) rfl wm_RX12_381 win_X12_sells wse_X12_sells wn_12 wc_X12_sells (by decide +kernel) (by decide) (by decide) dX12_sell_31)) (so_leaf (so_aload_n dX12_sell_34 rfl)))) (so_node (so_node (so_leaf (so_gR (by decide) (by decide) wC12 wf_RX12_61 (fun _ _ _ => rfl) dX12_sell_35)) (so_leaf (so_iconst dX12_sell_38 (by decide)))) (so_node (so_leaf (so_iald dX12_sell_39)) (so_leaf (so_iret dX12_sell_40 rfl)))))))
theorem pX12_sell : ∀ pc, Pr (kX12_sell pc) := (pr_node (pr_node (pr_node (pr_node (pr_leaf (pr_al _ _)) (pr_node (pr_leaf (pr_ic _ _)) (pr_leaf (pr_pI _ _ _)))) (pr_node (pr_leaf (pr_al _ _)) (pr_node (pr_leaf (pr_al _ _)) (pr_leaf (pr_gR _ _ _))))) (pr_node (pr_node (pr_leaf (pr_il _ _)) (pr_node (pr_leaf (pr_il _ _)) (pr_leaf (pr_inv _ _ _ GX12_canSell _)))) (pr_node (pr_leaf (pr_zne _ _)) (pr_node (pr_leaf (pr_ic _ _)) (pr_leaf (pr_iret)))))) (pr_node (pr_node (pr_node (pr_leaf (pr_al _ _)) (pr_node (pr_leaf (pr_inv _ _ _ GX12_remember _)) (pr_leaf (pr_al _ _)))) (pr_node (pr_leaf (pr_al _ _)) (pr_node (pr_leaf (pr_gR _ _ _)) (pr_leaf (pr_il _ _))))) (pr_node (pr_node (pr_leaf (pr_il _ _)) (pr_node (pr_leaf (pr_inv _ _ _ GX12_sells _)) (pr_leaf (pr_al _ _)))) (pr_node (pr_node (pr_leaf (pr_gR _ _ _)) (pr_leaf (pr_ic _ _))) (pr_node (pr_leaf (pr_iald _)) (pr_leaf (pr_iret)))))))
noncomputable def FX12_sell : List EV → Hp → Option (RV × Hp) := Fm kX12_sell 3
theorem CX12_sell : Con yX12_sell cX12_sell 3 (some .int) 2 48 FX12_sell := con_of (own := RX12) rfl (by decide +kernel) sX12_sell pX12_sell (fun z => by cases z)
theorem GX12_sell : Gr FX12_sell := Gr_Fm pX12_sell 3
theorem dX12_canPay_0 : decode cX12_canPay 0 = .ok (.aload_n 0, 1) := by decide +kernel
theorem dX12_canPay_1 : decode cX12_canPay 1 = .ok (.iload_n 2, 1) := by decide +kernel
theorem dX12_canPay_2 : decode cX12_canPay 2 = .ok (.invokevirtual 341, 3) := by decide +kernel
theorem dX12_canPay_5 : decode cX12_canPay 5 = .ok (.ifCond .eq 28, 3) := by decide +kernel
theorem dX12_canPay_8 : decode cX12_canPay 8 = .ok (.aload_n 1, 1) := by decide +kernel
theorem dX12_canPay_9 : decode cX12_canPay 9 = .ok (.bipush 8, 2) := by decide +kernel
theorem dX12_canPay_11 : decode cX12_canPay 11 = .ok (.iload_n 2, 1) := by decide +kernel
theorem dX12_canPay_12 : decode cX12_canPay 12 = .ok (.iadd, 1) := by decide +kernel
theorem dX12_canPay_13 : decode cX12_canPay 13 = .ok (.iaload, 1) := by decide +kernel
theorem dX12_canPay_14 : decode cX12_canPay 14 = .ok (.ifCond .ne 19, 3) := by decide +kernel
theorem dX12_canPay_17 : decode cX12_canPay 17 = .ok (.aload_n 1, 1) := by decide +kernel
theorem dX12_canPay_18 : decode cX12_canPay 18 = .ok (.iconst 4, 1) := by decide +kernel
theorem dX12_canPay_19 : decode cX12_canPay 19 = .ok (.iaload, 1) := by decide +kernel
theorem dX12_canPay_20 : decode cX12_canPay 20 = .ok (.aload_n 0, 1) := by decide +kernel
theorem dX12_canPay_21 : decode cX12_canPay 21 = .ok (.aload_n 1, 1) := by decide +kernel
theorem dX12_canPay_22 : decode cX12_canPay 22 = .ok (.iload_n 2, 1) := by decide +kernel
theorem dX12_canPay_23 : decode cX12_canPay 23 = .ok (.invokevirtual 346, 3) := by decide +kernel
theorem dX12_canPay_26 : decode cX12_canPay 26 = .ok (.if_icmp .lt 7, 3) := by decide +kernel
theorem dX12_canPay_29 : decode cX12_canPay 29 = .ok (.iconst 1, 1) := by decide +kernel
theorem dX12_canPay_30 : decode cX12_canPay 30 = .ok (.goto 4, 3) := by decide +kernel
theorem dX12_canPay_33 : decode cX12_canPay 33 = .ok (.iconst 0, 1) := by decide +kernel
theorem dX12_canPay_34 : decode cX12_canPay 34 = .ok (.ireturn, 1) := by decide +kernel
noncomputable def kX12_canPay : Nat → Op := (nodeC 17 (nodeC 8 (nodeC 1 (nodeC 0 (leafC 0 (o_al 0 1)) (leafC 1 (o_il 2 2))) (nodeC 2 (leafC 2 (o_inv 1 12 1 FX12_isDebt 5)) (nodeC 5 (leafC 5 (o_zeq 33 8)) (leafC 8 (o_al 1 9))))) (nodeC 12 (nodeC 9 (leafC 9 (o_ic (8) 11)) (nodeC 11 (leafC 11 (o_il 2 12)) (leafC 12 (o_iadd 13)))) (nodeC 13 (leafC 13 (o_iald 14)) (nodeC 14 (leafC 14 (o_zne 33 17)) (leafC 17 (o_al 1 18)))))) (nodeC 22 (nodeC 19 (nodeC 18 (leafC 18 (o_ic (4) 19)) (leafC 19 (o_iald 20))) (nodeC 20 (leafC 20 (o_al 0 21)) (nodeC 21 (leafC 21 (o_al 1 22)) (leafC 22 (o_il 2 23))))) (nodeC 29 (nodeC 23 (leafC 23 (o_inv 2 12 1 FX12_debtNow 26)) (nodeC 26 (leafC 26 (o_clt 33 29)) (leafC 29 (o_ic (1) 30)))) (nodeC 30 (leafC 30 (o_goto 34)) (nodeC 33 (leafC 33 (o_ic (0) 34)) (leafC 34 (o_zret)))))))
theorem sX12_canPay : ∀ pc, SoundOp cX12_canPay RX12 3 (some .boolean) false 3 67 pc (kX12_canPay pc) := (so_node (so_node (so_node (so_node (so_leaf (so_aload_n dX12_canPay_0 rfl)) (so_leaf (so_iload_n dX12_canPay_1 rfl))) (so_node (so_leaf (so_inv CX12_isDebt (by decide) rfl wm_RX12_341 win_X12_isDebt wse_X12_isDebt wn_12 wc_X12_isDebt (by decide +kernel) (by decide) (by decide) dX12_canPay_2)) (so_node (so_leaf (so_zeq dX12_canPay_5 (by decide))) (so_leaf (so_aload_n dX12_canPay_8 rfl))))) (so_node (so_node (so_leaf (so_bipush dX12_canPay_9 (by decide))) (so_node (so_leaf (so_iload_n dX12_canPay_11 rfl)) (so_leaf (so_iadd dX12_canPay_12)))) (so_node (so_leaf (so_iald dX12_canPay_13)) (so_node (so_leaf (so_zne dX12_canPay_14 (by decide))) (so_leaf (so_aload_n dX12_canPay_17 rfl)))))) (so_node (so_node (so_node (so_leaf (so_iconst dX12_canPay_18 (by decide))) (so_leaf (so_iald dX12_canPay_19))) (so_node (so_leaf (so_aload_n dX12_canPay_20 rfl)) (so_node (so_leaf (so_aload_n dX12_canPay_21 rfl)) (so_leaf (so_iload_n dX12_canPay_22 rfl))))) (so_node (so_node (so_leaf (so_inv CX12_debtNow (by decide) rfl wm_RX12_346 win_X12_debtNow wse_X12_debtNow wn_12 wc_X12_debtNow (by decide +kernel) (by decide) (by decide) dX12_canPay_23)) (so_node (so_leaf (so_clt dX12_canPay_26 (by decide))) (so_leaf (so_iconst dX12_canPay_29 (by decide))))) (so_node (so_leaf (so_goto dX12_canPay_30 (by decide))) (so_node (so_leaf (so_iconst dX12_canPay_33 (by decide))) (so_leaf (so_zret dX12_canPay_34 rfl)))))))
theorem pX12_canPay : ∀ pc, Pr (kX12_canPay pc) := (pr_node (pr_node (pr_node (pr_node (pr_leaf (pr_al _ _)) (pr_leaf (pr_il _ _))) (pr_node (pr_leaf (pr_inv _ _ _ GX12_isDebt _)) (pr_node (pr_leaf (pr_zeq _ _)) (pr_leaf (pr_al _ _))))) (pr_node (pr_node (pr_leaf (pr_ic _ _)) (pr_node (pr_leaf (pr_il _ _)) (pr_leaf (pr_iadd _)))) (pr_node (pr_leaf (pr_iald _)) (pr_node (pr_leaf (pr_zne _ _)) (pr_leaf (pr_al _ _)))))) (pr_node (pr_node (pr_node (pr_leaf (pr_ic _ _)) (pr_leaf (pr_iald _))) (pr_node (pr_leaf (pr_al _ _)) (pr_node (pr_leaf (pr_al _ _)) (pr_leaf (pr_il _ _))))) (pr_node (pr_node (pr_leaf (pr_inv _ _ _ GX12_debtNow _)) (pr_node (pr_leaf (pr_clt _ _)) (pr_leaf (pr_ic _ _)))) (pr_node (pr_leaf (pr_goto _)) (pr_node (pr_leaf (pr_ic _ _)) (pr_leaf (pr_zret)))))))
noncomputable def FX12_canPay : List EV → Hp → Option (RV × Hp) := Fm kX12_canPay 3
theorem CX12_canPay : Con yX12_canPay cX12_canPay 3 (some .boolean) 3 67 FX12_canPay := con_of (own := RX12) rfl (by decide +kernel) sX12_canPay pX12_canPay (fun z => by cases z)
theorem GX12_canPay : Gr FX12_canPay := Gr_Fm pX12_canPay 3
theorem dX12_pays_0 : decode cX12_pays 0 = .ok (.aload_n 1, 1) := by decide +kernel
theorem dX12_pays_1 : decode cX12_pays 1 = .ok (.iconst 4, 1) := by decide +kernel
theorem dX12_pays_2 : decode cX12_pays 2 = .ok (.dup2, 1) := by decide +kernel
theorem dX12_pays_3 : decode cX12_pays 3 = .ok (.iaload, 1) := by decide +kernel
theorem dX12_pays_4 : decode cX12_pays 4 = .ok (.aload_n 0, 1) := by decide +kernel
theorem dX12_pays_5 : decode cX12_pays 5 = .ok (.aload_n 1, 1) := by decide +kernel
theorem dX12_pays_6 : decode cX12_pays 6 = .ok (.iload_n 2, 1) := by decide +kernel
theorem dX12_pays_7 : decode cX12_pays 7 = .ok (.invokevirtual 346, 3) := by decide +kernel
theorem dX12_pays_10 : decode cX12_pays 10 = .ok (.isub, 1) := by decide +kernel
theorem dX12_pays_11 : decode cX12_pays 11 = .ok (.iastore, 1) := by decide +kernel
theorem dX12_pays_12 : decode cX12_pays 12 = .ok (.aload_n 1, 1) := by decide +kernel
theorem dX12_pays_13 : decode cX12_pays 13 = .ok (.bipush 8, 2) := by decide +kernel
theorem dX12_pays_15 : decode cX12_pays 15 = .ok (.iload_n 2, 1) := by decide +kernel
theorem dX12_pays_16 : decode cX12_pays 16 = .ok (.iadd, 1) := by decide +kernel
theorem dX12_pays_17 : decode cX12_pays 17 = .ok (.iconst 1, 1) := by decide +kernel
theorem dX12_pays_18 : decode cX12_pays 18 = .ok (.iastore, 1) := by decide +kernel
theorem dX12_pays_19 : decode cX12_pays 19 = .ok (.return_, 1) := by decide +kernel
noncomputable def kX12_pays : Nat → Op := (nodeC 7 (nodeC 3 (nodeC 1 (nodeC 0 (leafC 0 (o_al 1 1)) (leafC 1 (o_ic (4) 2))) (nodeC 2 (leafC 2 (o_dup2A 3)) (leafC 3 (o_iald 4)))) (nodeC 5 (nodeC 4 (leafC 4 (o_al 0 5)) (leafC 5 (o_al 1 6))) (nodeC 6 (leafC 6 (o_il 2 7)) (leafC 7 (o_inv 2 12 1 FX12_debtNow 10))))) (nodeC 13 (nodeC 11 (nodeC 10 (leafC 10 (o_isub 11)) (leafC 11 (o_iast 12))) (nodeC 12 (leafC 12 (o_al 1 13)) (leafC 13 (o_ic (8) 15)))) (nodeC 16 (nodeC 15 (leafC 15 (o_il 2 16)) (leafC 16 (o_iadd 17))) (nodeC 17 (leafC 17 (o_ic (1) 18)) (nodeC 18 (leafC 18 (o_iast 19)) (leafC 19 (o_vret)))))))
theorem sX12_pays : ∀ pc, SoundOp cX12_pays RX12 3 none false 3 67 pc (kX12_pays pc) := (so_node (so_node (so_node (so_node (so_leaf (so_aload_n dX12_pays_0 rfl)) (so_leaf (so_iconst dX12_pays_1 (by decide)))) (so_node (so_leaf (so_dup2A dX12_pays_2)) (so_leaf (so_iald dX12_pays_3)))) (so_node (so_node (so_leaf (so_aload_n dX12_pays_4 rfl)) (so_leaf (so_aload_n dX12_pays_5 rfl))) (so_node (so_leaf (so_iload_n dX12_pays_6 rfl)) (so_leaf (so_inv CX12_debtNow (by decide) rfl wm_RX12_346 win_X12_debtNow wse_X12_debtNow wn_12 wc_X12_debtNow (by decide +kernel) (by decide) (by decide) dX12_pays_7))))) (so_node (so_node (so_node (so_leaf (so_isub dX12_pays_10)) (so_leaf (so_iast dX12_pays_11))) (so_node (so_leaf (so_aload_n dX12_pays_12 rfl)) (so_leaf (so_bipush dX12_pays_13 (by decide))))) (so_node (so_node (so_leaf (so_iload_n dX12_pays_15 rfl)) (so_leaf (so_iadd dX12_pays_16))) (so_node (so_leaf (so_iconst dX12_pays_17 (by decide))) (so_node (so_leaf (so_iast dX12_pays_18)) (so_leaf (so_vret dX12_pays_19 rfl)))))))
theorem pX12_pays : ∀ pc, Pr (kX12_pays pc) := (pr_node (pr_node (pr_node (pr_node (pr_leaf (pr_al _ _)) (pr_leaf (pr_ic _ _))) (pr_node (pr_leaf (pr_dup2A _)) (pr_leaf (pr_iald _)))) (pr_node (pr_node (pr_leaf (pr_al _ _)) (pr_leaf (pr_al _ _))) (pr_node (pr_leaf (pr_il _ _)) (pr_leaf (pr_inv _ _ _ GX12_debtNow _))))) (pr_node (pr_node (pr_node (pr_leaf (pr_isub _)) (pr_leaf (pr_iast _))) (pr_node (pr_leaf (pr_al _ _)) (pr_leaf (pr_ic _ _)))) (pr_node (pr_node (pr_leaf (pr_il _ _)) (pr_leaf (pr_iadd _))) (pr_node (pr_leaf (pr_ic _ _)) (pr_node (pr_leaf (pr_iast _)) (pr_leaf (pr_vret)))))))
noncomputable def FX12_pays : List EV → Hp → Option (RV × Hp) := Fm kX12_pays 3
theorem CX12_pays : Con yX12_pays cX12_pays 3 none 3 67 FX12_pays := con_of (own := RX12) rfl (by decide +kernel) sX12_pays pX12_pays (fun z => by cases z)
theorem GX12_pays : Gr FX12_pays := Gr_Fm pX12_pays 3
theorem dX12_pay_0 : decode cX12_pay 0 = .ok (.aload_n 0, 1) := by decide +kernel
theorem dX12_pay_1 : decode cX12_pay 1 = .ok (.iconst 0, 1) := by decide +kernel
theorem dX12_pay_2 : decode cX12_pay 2 = .ok (.putfield 105, 3) := by decide +kernel
theorem dX12_pay_5 : decode cX12_pay 5 = .ok (.aload_n 0, 1) := by decide +kernel
theorem dX12_pay_6 : decode cX12_pay 6 = .ok (.aload_n 0, 1) := by decide +kernel
theorem dX12_pay_7 : decode cX12_pay 7 = .ok (.getfield 61, 3) := by decide +kernel
theorem dX12_pay_10 : decode cX12_pay 10 = .ok (.iload_n 1, 1) := by decide +kernel
theorem dX12_pay_11 : decode cX12_pay 11 = .ok (.invokevirtual 385, 3) := by decide +kernel
theorem dX12_pay_14 : decode cX12_pay 14 = .ok (.ifCond .ne 5, 3) := by decide +kernel
theorem dX12_pay_17 : decode cX12_pay 17 = .ok (.iconst (-1), 1) := by decide +kernel
theorem dX12_pay_18 : decode cX12_pay 18 = .ok (.ireturn, 1) := by decide +kernel
theorem dX12_pay_19 : decode cX12_pay 19 = .ok (.aload_n 0, 1) := by decide +kernel
theorem dX12_pay_20 : decode cX12_pay 20 = .ok (.invokevirtual 367, 3) := by decide +kernel
theorem dX12_pay_23 : decode cX12_pay 23 = .ok (.aload_n 0, 1) := by decide +kernel
theorem dX12_pay_24 : decode cX12_pay 24 = .ok (.aload_n 0, 1) := by decide +kernel
theorem dX12_pay_25 : decode cX12_pay 25 = .ok (.getfield 61, 3) := by decide +kernel
theorem dX12_pay_28 : decode cX12_pay 28 = .ok (.iload_n 1, 1) := by decide +kernel
theorem dX12_pay_29 : decode cX12_pay 29 = .ok (.invokevirtual 388, 3) := by decide +kernel
theorem dX12_pay_32 : decode cX12_pay 32 = .ok (.aload_n 0, 1) := by decide +kernel
theorem dX12_pay_33 : decode cX12_pay 33 = .ok (.getfield 61, 3) := by decide +kernel
theorem dX12_pay_36 : decode cX12_pay 36 = .ok (.iconst 4, 1) := by decide +kernel
theorem dX12_pay_37 : decode cX12_pay 37 = .ok (.iaload, 1) := by decide +kernel
theorem dX12_pay_38 : decode cX12_pay 38 = .ok (.ireturn, 1) := by decide +kernel
noncomputable def kX12_pay : Nat → Op := (nodeC 18 (nodeC 6 (nodeC 1 (nodeC 0 (leafC 0 (o_al 0 1)) (leafC 1 (o_ic (0) 2))) (nodeC 2 (leafC 2 (o_pI 12 0 5)) (nodeC 5 (leafC 5 (o_al 0 6)) (leafC 6 (o_al 0 7))))) (nodeC 11 (nodeC 7 (leafC 7 (o_gR 12 32 10)) (nodeC 10 (leafC 10 (o_il 1 11)) (leafC 11 (o_inv 2 12 1 FX12_canPay 14)))) (nodeC 14 (leafC 14 (o_zne 19 17)) (nodeC 17 (leafC 17 (o_ic (-1) 18)) (leafC 18 (o_iret)))))) (nodeC 28 (nodeC 23 (nodeC 19 (leafC 19 (o_al 0 20)) (nodeC 20 (leafC 20 (o_inv 0 12 0 FX12_remember 23)) (leafC 23 (o_al 0 24)))) (nodeC 24 (leafC 24 (o_al 0 25)) (nodeC 25 (leafC 25 (o_gR 12 32 28)) (leafC 28 (o_il 1 29))))) (nodeC 33 (nodeC 29 (leafC 29 (o_inv 2 12 0 FX12_pays 32)) (nodeC 32 (leafC 32 (o_al 0 33)) (leafC 33 (o_gR 12 32 36)))) (nodeC 36 (leafC 36 (o_ic (4) 37)) (nodeC 37 (leafC 37 (o_iald 38)) (leafC 38 (o_iret)))))))
theorem sX12_pay : ∀ pc, SoundOp cX12_pay RX12 2 (some .int) false 4 89 pc (kX12_pay pc) := (so_node (so_node (so_node (so_node (so_leaf (so_aload_n dX12_pay_0 rfl)) (so_leaf (so_iconst dX12_pay_1 (by decide)))) (so_node (so_leaf (so_pI (by decide) (by decide) wC12 wf_RX12_105 (Or.inl rfl) rfl dX12_pay_2)) (so_node (so_leaf (so_aload_n dX12_pay_5 rfl)) (so_leaf (so_aload_n dX12_pay_6 rfl))))) (so_node (so_node (so_leaf (so_gR (by decide) (by decide) wC12 wf_RX12_61 (fun _ _ _ => rfl) dX12_pay_7)) (so_node (so_leaf (so_iload_n dX12_pay_10 rfl)) (so_leaf (so_inv CX12_canPay (by decide) rfl wm_RX12_385 win_X12_canPay wse_X12_canPay wn_12 wc_X12_canPay (by decide +kernel) (by decide) (by decide) dX12_pay_11)))) (so_node (so_leaf (so_zne dX12_pay_14 (by decide))) (so_node (so_leaf (so_iconst dX12_pay_17 (by decide))) (so_leaf (so_iret dX12_pay_18 rfl)))))) (so_node (so_node (so_node (so_leaf (so_aload_n dX12_pay_19 rfl)) (so_node (so_leaf (so_inv CX12_remember (by decide) rfl wm_RX12_367 win_X12_remember wse_X12_remember wn_12 wc_X12_remember (by decide +kernel) (by decide) (by decide) dX12_pay_20)) (so_leaf (so_aload_n dX12_pay_23 rfl)))) (so_node (so_leaf (so_aload_n dX12_pay_24 rfl)) (so_node (so_leaf (so_gR (by decide) (by decide) wC12 wf_RX12_61 (fun _ _ _ => rfl) dX12_pay_25)) (so_leaf (so_iload_n dX12_pay_28 rfl))))) (so_node (so_node (so_leaf (so_inv CX12_pays (by decide) rfl wm_RX12_388 win_X12_pays wse_X12_pays wn_12 wc_X12_pays (by decide +kernel) (by decide) (by decide) dX12_pay_29)) (so_node (so_leaf (so_aload_n dX12_pay_32 rfl)) (so_leaf (so_gR (by decide) (by decide) wC12 wf_RX12_61 (fun _ _ _ => rfl) dX12_pay_33)))) (so_node (so_leaf (so_iconst dX12_pay_36 (by decide))) (so_node (so_leaf (so_iald dX12_pay_37)) (so_leaf (so_iret dX12_pay_38 rfl)))))))
theorem pX12_pay : ∀ pc, Pr (kX12_pay pc) := (pr_node (pr_node (pr_node (pr_node (pr_leaf (pr_al _ _)) (pr_leaf (pr_ic _ _))) (pr_node (pr_leaf (pr_pI _ _ _)) (pr_node (pr_leaf (pr_al _ _)) (pr_leaf (pr_al _ _))))) (pr_node (pr_node (pr_leaf (pr_gR _ _ _)) (pr_node (pr_leaf (pr_il _ _)) (pr_leaf (pr_inv _ _ _ GX12_canPay _)))) (pr_node (pr_leaf (pr_zne _ _)) (pr_node (pr_leaf (pr_ic _ _)) (pr_leaf (pr_iret)))))) (pr_node (pr_node (pr_node (pr_leaf (pr_al _ _)) (pr_node (pr_leaf (pr_inv _ _ _ GX12_remember _)) (pr_leaf (pr_al _ _)))) (pr_node (pr_leaf (pr_al _ _)) (pr_node (pr_leaf (pr_gR _ _ _)) (pr_leaf (pr_il _ _))))) (pr_node (pr_node (pr_leaf (pr_inv _ _ _ GX12_pays _)) (pr_node (pr_leaf (pr_al _ _)) (pr_leaf (pr_gR _ _ _)))) (pr_node (pr_leaf (pr_ic _ _)) (pr_node (pr_leaf (pr_iald _)) (pr_leaf (pr_iret)))))))
noncomputable def FX12_pay : List EV → Hp → Option (RV × Hp) := Fm kX12_pay 2
theorem CX12_pay : Con yX12_pay cX12_pay 2 (some .int) 4 89 FX12_pay := con_of (own := RX12) rfl (by decide +kernel) sX12_pay pX12_pay (fun z => by cases z)
theorem GX12_pay : Gr FX12_pay := Gr_Fm pX12_pay 2
theorem dX12_iron_0 : decode cX12_iron 0 = .ok (.aload_n 0, 1) := by decide +kernel
theorem dX12_iron_1 : decode cX12_iron 1 = .ok (.iconst 0, 1) := by decide +kernel
theorem dX12_iron_2 : decode cX12_iron 2 = .ok (.putfield 105, 3) := by decide +kernel
theorem dX12_iron_5 : decode cX12_iron 5 = .ok (.aload_n 0, 1) := by decide +kernel
theorem dX12_iron_6 : decode cX12_iron 6 = .ok (.getfield 302, 3) := by decide +kernel
theorem dX12_iron_9 : decode cX12_iron 9 = .ok (.ifCond .eq 22, 3) := by decide +kernel
theorem dX12_iron_12 : decode cX12_iron 12 = .ok (.aload_n 0, 1) := by decide +kernel
theorem dX12_iron_13 : decode cX12_iron 13 = .ok (.getfield 61, 3) := by decide +kernel
theorem dX12_iron_16 : decode cX12_iron 16 = .ok (.iconst 3, 1) := by decide +kernel
theorem dX12_iron_17 : decode cX12_iron 17 = .ok (.iaload, 1) := by decide +kernel
theorem dX12_iron_18 : decode cX12_iron 18 = .ok (.iconst 1, 1) := by decide +kernel
theorem dX12_iron_19 : decode cX12_iron 19 = .ok (.if_icmp .ne 7, 3) := by decide +kernel
theorem dX12_iron_22 : decode cX12_iron 22 = .ok (.iconst 1, 1) := by decide +kernel
theorem dX12_iron_23 : decode cX12_iron 23 = .ok (.goto 4, 3) := by decide +kernel
theorem dX12_iron_26 : decode cX12_iron 26 = .ok (.iconst 0, 1) := by decide +kernel
theorem dX12_iron_27 : decode cX12_iron 27 = .ok (.iload_n 1, 1) := by decide +kernel
theorem dX12_iron_28 : decode cX12_iron 28 = .ok (.if_icmp .ne 5, 3) := by decide +kernel
theorem dX12_iron_31 : decode cX12_iron 31 = .ok (.iconst 0, 1) := by decide +kernel
theorem dX12_iron_32 : decode cX12_iron 32 = .ok (.ireturn, 1) := by decide +kernel
theorem dX12_iron_33 : decode cX12_iron 33 = .ok (.aload_n 0, 1) := by decide +kernel
theorem dX12_iron_34 : decode cX12_iron 34 = .ok (.invokevirtual 367, 3) := by decide +kernel
theorem dX12_iron_37 : decode cX12_iron 37 = .ok (.aload_n 0, 1) := by decide +kernel
theorem dX12_iron_38 : decode cX12_iron 38 = .ok (.getfield 61, 3) := by decide +kernel
theorem dX12_iron_41 : decode cX12_iron 41 = .ok (.iconst 3, 1) := by decide +kernel
theorem dX12_iron_42 : decode cX12_iron 42 = .ok (.iload_n 1, 1) := by decide +kernel
theorem dX12_iron_43 : decode cX12_iron 43 = .ok (.ifCond .eq 7, 3) := by decide +kernel
theorem dX12_iron_46 : decode cX12_iron 46 = .ok (.iconst 1, 1) := by decide +kernel
theorem dX12_iron_47 : decode cX12_iron 47 = .ok (.goto 4, 3) := by decide +kernel
theorem dX12_iron_50 : decode cX12_iron 50 = .ok (.iconst 0, 1) := by decide +kernel
theorem dX12_iron_51 : decode cX12_iron 51 = .ok (.iastore, 1) := by decide +kernel
theorem dX12_iron_52 : decode cX12_iron 52 = .ok (.iconst 1, 1) := by decide +kernel
theorem dX12_iron_53 : decode cX12_iron 53 = .ok (.ireturn, 1) := by decide +kernel
noncomputable def kX12_iron : Nat → Op := (nodeC 27 (nodeC 13 (nodeC 5 (nodeC 1 (nodeC 0 (leafC 0 (o_al 0 1)) (leafC 1 (o_ic (0) 2))) (nodeC 2 (leafC 2 (o_pI 12 0 5)) (leafC 5 (o_al 0 6)))) (nodeC 9 (nodeC 6 (leafC 6 (o_gI 12 27 9)) (leafC 9 (o_zeq 31 12))) (nodeC 12 (leafC 12 (o_al 0 13)) (leafC 13 (o_gR 12 32 16))))) (nodeC 19 (nodeC 17 (nodeC 16 (leafC 16 (o_ic (3) 17)) (leafC 17 (o_iald 18))) (nodeC 18 (leafC 18 (o_ic (1) 19)) (leafC 19 (o_cne 26 22)))) (nodeC 23 (nodeC 22 (leafC 22 (o_ic (1) 23)) (leafC 23 (o_goto 27))) (nodeC 26 (leafC 26 (o_ic (0) 27)) (leafC 27 (o_il 1 28)))))) (nodeC 41 (nodeC 33 (nodeC 31 (nodeC 28 (leafC 28 (o_cne 33 31)) (leafC 31 (o_ic (0) 32))) (nodeC 32 (leafC 32 (o_zret)) (leafC 33 (o_al 0 34)))) (nodeC 37 (nodeC 34 (leafC 34 (o_inv 0 12 0 FX12_remember 37)) (leafC 37 (o_al 0 38))) (nodeC 38 (leafC 38 (o_gR 12 32 41)) (leafC 41 (o_ic (3) 42))))) (nodeC 47 (nodeC 43 (nodeC 42 (leafC 42 (o_il 1 43)) (leafC 43 (o_zeq 50 46))) (nodeC 46 (leafC 46 (o_ic (1) 47)) (leafC 47 (o_goto 51)))) (nodeC 51 (nodeC 50 (leafC 50 (o_ic (0) 51)) (leafC 51 (o_iast 52))) (nodeC 52 (leafC 52 (o_ic (1) 53)) (leafC 53 (o_zret)))))))
theorem sX12_iron : ∀ pc, SoundOp cX12_iron RX12 2 (some .boolean) false 1 21 pc (kX12_iron pc) := (so_node (so_node (so_node (so_node (so_node (so_leaf (so_aload_n dX12_iron_0 rfl)) (so_leaf (so_iconst dX12_iron_1 (by decide)))) (so_node (so_leaf (so_pI (by decide) (by decide) wC12 wf_RX12_105 (Or.inl rfl) rfl dX12_iron_2)) (so_leaf (so_aload_n dX12_iron_5 rfl)))) (so_node (so_node (so_leaf (so_gI (by decide) (by decide) wC12 wf_RX12_302 (fun _ _ _ => rfl) dX12_iron_6)) (so_leaf (so_zeq dX12_iron_9 (by decide)))) (so_node (so_leaf (so_aload_n dX12_iron_12 rfl)) (so_leaf (so_gR (by decide) (by decide) wC12 wf_RX12_61 (fun _ _ _ => rfl) dX12_iron_13))))) (so_node (so_node (so_node (so_leaf (so_iconst dX12_iron_16 (by decide))) (so_leaf (so_iald dX12_iron_17))) (so_node (so_leaf (so_iconst dX12_iron_18 (by decide))) (so_leaf (so_cne dX12_iron_19 (by decide))))) (so_node (so_node (so_leaf (so_iconst dX12_iron_22 (by decide))) (so_leaf (so_goto dX12_iron_23 (by decide)))) (so_node (so_leaf (so_iconst dX12_iron_26 (by decide))) (so_leaf (so_iload_n dX12_iron_27 rfl)))))) (so_node (so_node (so_node (so_node (so_leaf (so_cne dX12_iron_28 (by decide))) (so_leaf (so_iconst dX12_iron_31 (by decide)))) (so_node (so_leaf (so_zret dX12_iron_32 rfl)) (so_leaf (so_aload_n dX12_iron_33 rfl)))) (so_node (so_node (so_leaf (so_inv CX12_remember (by decide) rfl wm_RX12_367 win_X12_remember wse_X12_remember wn_12 wc_X12_remember (by decide +kernel) (by decide) (by decide) dX12_iron_34)) (so_leaf (so_aload_n dX12_iron_37 rfl))) (so_node (so_leaf (so_gR (by decide) (by decide) wC12 wf_RX12_61 (fun _ _ _ => rfl) dX12_iron_38)) (so_leaf (so_iconst dX12_iron_41 (by decide)))))) (so_node (so_node (so_node (so_leaf (so_iload_n dX12_iron_42 rfl)) (so_leaf (so_zeq dX12_iron_43 (by decide)))) (so_node (so_leaf (so_iconst dX12_iron_46 (by decide))) (so_leaf (so_goto dX12_iron_47 (by decide))))) (so_node (so_node (so_leaf (so_iconst dX12_iron_50 (by decide))) (so_leaf (so_iast dX12_iron_51))) (so_node (so_leaf (so_iconst dX12_iron_52 (by decide))) (so_leaf (so_zret dX12_iron_53 rfl)))))))
theorem pX12_iron : ∀ pc, Pr (kX12_iron pc) := (pr_node (pr_node (pr_node (pr_node (pr_node (pr_leaf (pr_al _ _)) (pr_leaf (pr_ic _ _))) (pr_node (pr_leaf (pr_pI _ _ _)) (pr_leaf (pr_al _ _)))) (pr_node (pr_node (pr_leaf (pr_gI _ _ _)) (pr_leaf (pr_zeq _ _))) (pr_node (pr_leaf (pr_al _ _)) (pr_leaf (pr_gR _ _ _))))) (pr_node (pr_node (pr_node (pr_leaf (pr_ic _ _)) (pr_leaf (pr_iald _))) (pr_node (pr_leaf (pr_ic _ _)) (pr_leaf (pr_cne _ _)))) (pr_node (pr_node (pr_leaf (pr_ic _ _)) (pr_leaf (pr_goto _))) (pr_node (pr_leaf (pr_ic _ _)) (pr_leaf (pr_il _ _)))))) (pr_node (pr_node (pr_node (pr_node (pr_leaf (pr_cne _ _)) (pr_leaf (pr_ic _ _))) (pr_node (pr_leaf (pr_zret)) (pr_leaf (pr_al _ _)))) (pr_node (pr_node (pr_leaf (pr_inv _ _ _ GX12_remember _)) (pr_leaf (pr_al _ _))) (pr_node (pr_leaf (pr_gR _ _ _)) (pr_leaf (pr_ic _ _))))) (pr_node (pr_node (pr_node (pr_leaf (pr_il _ _)) (pr_leaf (pr_zeq _ _))) (pr_node (pr_leaf (pr_ic _ _)) (pr_leaf (pr_goto _)))) (pr_node (pr_node (pr_leaf (pr_ic _ _)) (pr_leaf (pr_iast _))) (pr_node (pr_leaf (pr_ic _ _)) (pr_leaf (pr_zret)))))))
noncomputable def FX12_iron : List EV → Hp → Option (RV × Hp) := Fm kX12_iron 2
theorem CX12_iron : Con yX12_iron cX12_iron 2 (some .boolean) 1 21 FX12_iron := con_of (own := RX12) rfl (by decide +kernel) sX12_iron pX12_iron (fun z => by cases z)
theorem GX12_iron : Gr FX12_iron := Gr_Fm pX12_iron 2
theorem dX12_give_0 : decode cX12_give 0 = .ok (.aload_n 0, 1) := by decide +kernel
theorem dX12_give_1 : decode cX12_give 1 = .ok (.iconst 0, 1) := by decide +kernel
theorem dX12_give_2 : decode cX12_give 2 = .ok (.putfield 105, 3) := by decide +kernel
theorem dX12_give_5 : decode cX12_give 5 = .ok (.aload_n 0, 1) := by decide +kernel
theorem dX12_give_6 : decode cX12_give 6 = .ok (.getfield 302, 3) := by decide +kernel
theorem dX12_give_9 : decode cX12_give 9 = .ok (.ifCond .eq 29, 3) := by decide +kernel
theorem dX12_give_12 : decode cX12_give 12 = .ok (.iload_n 1, 1) := by decide +kernel
theorem dX12_give_13 : decode cX12_give 13 = .ok (.i2l, 1) := by decide +kernel
theorem dX12_give_14 : decode cX12_give 14 = .ok (.lconst 1, 1) := by decide +kernel
theorem dX12_give_15 : decode cX12_give 15 = .ok (.ldc2_w 391, 3) := by decide +kernel
theorem dX12_give_18 : decode cX12_give 18 = .ok (.invokestatic 225, 3) := by decide +kernel
theorem dX12_give_21 : decode cX12_give 21 = .ok (.ifCond .eq 17, 3) := by decide +kernel
theorem dX12_give_24 : decode cX12_give 24 = .ok (.aload_n 0, 1) := by decide +kernel
theorem dX12_give_25 : decode cX12_give 25 = .ok (.getfield 61, 3) := by decide +kernel
theorem dX12_give_28 : decode cX12_give 28 = .ok (.iconst 4, 1) := by decide +kernel
theorem dX12_give_29 : decode cX12_give 29 = .ok (.iaload, 1) := by decide +kernel
theorem dX12_give_30 : decode cX12_give 30 = .ok (.iload_n 1, 1) := by decide +kernel
theorem dX12_give_31 : decode cX12_give 31 = .ok (.iadd, 1) := by decide +kernel
theorem dX12_give_32 : decode cX12_give 32 = .ok (.sipush 9999, 3) := by decide +kernel
theorem dX12_give_35 : decode cX12_give 35 = .ok (.if_icmp .le 5, 3) := by decide +kernel
theorem dX12_give_38 : decode cX12_give 38 = .ok (.iconst (-1), 1) := by decide +kernel
theorem dX12_give_39 : decode cX12_give 39 = .ok (.ireturn, 1) := by decide +kernel
theorem dX12_give_40 : decode cX12_give 40 = .ok (.aload_n 0, 1) := by decide +kernel
theorem dX12_give_41 : decode cX12_give 41 = .ok (.invokevirtual 367, 3) := by decide +kernel
theorem dX12_give_44 : decode cX12_give 44 = .ok (.aload_n 0, 1) := by decide +kernel
theorem dX12_give_45 : decode cX12_give 45 = .ok (.getfield 61, 3) := by decide +kernel
theorem dX12_give_48 : decode cX12_give 48 = .ok (.iconst 4, 1) := by decide +kernel
theorem dX12_give_49 : decode cX12_give 49 = .ok (.dup2, 1) := by decide +kernel
theorem dX12_give_50 : decode cX12_give 50 = .ok (.iaload, 1) := by decide +kernel
theorem dX12_give_51 : decode cX12_give 51 = .ok (.iload_n 1, 1) := by decide +kernel
theorem dX12_give_52 : decode cX12_give 52 = .ok (.iadd, 1) := by decide +kernel
theorem dX12_give_53 : decode cX12_give 53 = .ok (.iastore, 1) := by decide +kernel
theorem dX12_give_54 : decode cX12_give 54 = .ok (.aload_n 0, 1) := by decide +kernel
theorem dX12_give_55 : decode cX12_give 55 = .ok (.getfield 61, 3) := by decide +kernel
theorem dX12_give_58 : decode cX12_give 58 = .ok (.iconst 4, 1) := by decide +kernel
theorem dX12_give_59 : decode cX12_give 59 = .ok (.iaload, 1) := by decide +kernel
theorem dX12_give_60 : decode cX12_give 60 = .ok (.ireturn, 1) := by decide +kernel
noncomputable def kX12_give : Nat → Op := (nodeC 31 (nodeC 14 (nodeC 5 (nodeC 1 (nodeC 0 (leafC 0 (o_al 0 1)) (leafC 1 (o_ic (0) 2))) (nodeC 2 (leafC 2 (o_pI 12 0 5)) (leafC 5 (o_al 0 6)))) (nodeC 9 (nodeC 6 (leafC 6 (o_gI 12 27 9)) (leafC 9 (o_zeq 38 12))) (nodeC 12 (leafC 12 (o_il 1 13)) (nodeC 13 (leafC 13 (o_i2l 14)) (leafC 14 (o_lc (1) 15)))))) (nodeC 24 (nodeC 18 (nodeC 15 (leafC 15 (o_lc (99) 18)) (leafC 18 (o_ist 3 1 FX12_isIn 21))) (nodeC 21 (leafC 21 (o_zeq 38 24)) (leafC 24 (o_al 0 25)))) (nodeC 28 (nodeC 25 (leafC 25 (o_gR 12 32 28)) (leafC 28 (o_ic (4) 29))) (nodeC 29 (leafC 29 (o_iald 30)) (nodeC 30 (leafC 30 (o_il 1 31)) (leafC 31 (o_iadd 32))))))) (nodeC 48 (nodeC 39 (nodeC 35 (nodeC 32 (leafC 32 (o_ic (9999) 35)) (leafC 35 (o_cle 40 38))) (nodeC 38 (leafC 38 (o_ic (-1) 39)) (leafC 39 (o_iret)))) (nodeC 41 (nodeC 40 (leafC 40 (o_al 0 41)) (leafC 41 (o_inv 0 12 0 FX12_remember 44))) (nodeC 44 (leafC 44 (o_al 0 45)) (nodeC 45 (leafC 45 (o_gR 12 32 48)) (leafC 48 (o_ic (4) 49)))))) (nodeC 53 (nodeC 50 (nodeC 49 (leafC 49 (o_dup2A 50)) (leafC 50 (o_iald 51))) (nodeC 51 (leafC 51 (o_il 1 52)) (nodeC 52 (leafC 52 (o_iadd 53)) (leafC 53 (o_iast 54))))) (nodeC 55 (nodeC 54 (leafC 54 (o_al 0 55)) (leafC 55 (o_gR 12 32 58))) (nodeC 58 (leafC 58 (o_ic (4) 59)) (nodeC 59 (leafC 59 (o_iald 60)) (leafC 60 (o_iret))))))))
theorem sX12_give : ∀ pc, SoundOp cX12_give RX12 2 (some .int) false 1 25 pc (kX12_give pc) := (so_node (so_node (so_node (so_node (so_node (so_leaf (so_aload_n dX12_give_0 rfl)) (so_leaf (so_iconst dX12_give_1 (by decide)))) (so_node (so_leaf (so_pI (by decide) (by decide) wC12 wf_RX12_105 (Or.inl rfl) rfl dX12_give_2)) (so_leaf (so_aload_n dX12_give_5 rfl)))) (so_node (so_node (so_leaf (so_gI (by decide) (by decide) wC12 wf_RX12_302 (fun _ _ _ => rfl) dX12_give_6)) (so_leaf (so_zeq dX12_give_9 (by decide)))) (so_node (so_leaf (so_iload_n dX12_give_12 rfl)) (so_node (so_leaf (so_i2l dX12_give_13)) (so_leaf (so_lconst dX12_give_14 (by decide))))))) (so_node (so_node (so_node (so_leaf (so_ldc2 wk_RX12_391 dX12_give_15)) (so_leaf (so_ist CX12_isIn rfl wm_RX12_225 wst_X12_isIn wny_X12_isIn wc_X12_isIn (by decide +kernel) (by decide) (by decide) dX12_give_18))) (so_node (so_leaf (so_zeq dX12_give_21 (by decide))) (so_leaf (so_aload_n dX12_give_24 rfl)))) (so_node (so_node (so_leaf (so_gR (by decide) (by decide) wC12 wf_RX12_61 (fun _ _ _ => rfl) dX12_give_25)) (so_leaf (so_iconst dX12_give_28 (by decide)))) (so_node (so_leaf (so_iald dX12_give_29)) (so_node (so_leaf (so_iload_n dX12_give_30 rfl)) (so_leaf (so_iadd dX12_give_31))))))) (so_node (so_node (so_node (so_node (so_leaf (so_sipush dX12_give_32 (by decide))) (so_leaf (so_cle dX12_give_35 (by decide)))) (so_node (so_leaf (so_iconst dX12_give_38 (by decide))) (so_leaf (so_iret dX12_give_39 rfl)))) (so_node (so_node (so_leaf (so_aload_n dX12_give_40 rfl)) (so_leaf (so_inv CX12_remember (by decide) rfl wm_RX12_367 win_X12_remember wse_X12_remember wn_12 wc_X12_remember (by decide +kernel) (by decide) (by decide) dX12_give_41))) (so_node (so_leaf (so_aload_n dX12_give_44 rfl)) (so_node (so_leaf (so_gR (by decide) (by decide) wC12 wf_RX12_61 (fun _ _ _ => rfl) dX12_give_45)) (so_leaf (so_iconst dX12_give_48 (by decide))))))) (so_node (so_node (so_node (so_leaf (so_dup2A dX12_give_49)) (so_leaf (so_iald dX12_give_50))) (so_node (so_leaf (so_iload_n dX12_give_51 rfl)) (so_node (so_leaf (so_iadd dX12_give_52)) (so_leaf (so_iast dX12_give_53))))) (so_node (so_node (so_leaf (so_aload_n dX12_give_54 rfl)) (so_leaf (so_gR (by decide) (by decide) wC12 wf_RX12_61 (fun _ _ _ => rfl) dX12_give_55))) (so_node (so_leaf (so_iconst dX12_give_58 (by decide))) (so_node (so_leaf (so_iald dX12_give_59)) (so_leaf (so_iret dX12_give_60 rfl))))))))
theorem pX12_give : ∀ pc, Pr (kX12_give pc) := (pr_node (pr_node (pr_node (pr_node (pr_node (pr_leaf (pr_al _ _)) (pr_leaf (pr_ic _ _))) (pr_node (pr_leaf (pr_pI _ _ _)) (pr_leaf (pr_al _ _)))) (pr_node (pr_node (pr_leaf (pr_gI _ _ _)) (pr_leaf (pr_zeq _ _))) (pr_node (pr_leaf (pr_il _ _)) (pr_node (pr_leaf (pr_i2l _)) (pr_leaf (pr_lc _ _)))))) (pr_node (pr_node (pr_node (pr_leaf (pr_lc _ _)) (pr_leaf (pr_ist _ _ GX12_isIn _))) (pr_node (pr_leaf (pr_zeq _ _)) (pr_leaf (pr_al _ _)))) (pr_node (pr_node (pr_leaf (pr_gR _ _ _)) (pr_leaf (pr_ic _ _))) (pr_node (pr_leaf (pr_iald _)) (pr_node (pr_leaf (pr_il _ _)) (pr_leaf (pr_iadd _))))))) (pr_node (pr_node (pr_node (pr_node (pr_leaf (pr_ic _ _)) (pr_leaf (pr_cle _ _))) (pr_node (pr_leaf (pr_ic _ _)) (pr_leaf (pr_iret)))) (pr_node (pr_node (pr_leaf (pr_al _ _)) (pr_leaf (pr_inv _ _ _ GX12_remember _))) (pr_node (pr_leaf (pr_al _ _)) (pr_node (pr_leaf (pr_gR _ _ _)) (pr_leaf (pr_ic _ _)))))) (pr_node (pr_node (pr_node (pr_leaf (pr_dup2A _)) (pr_leaf (pr_iald _))) (pr_node (pr_leaf (pr_il _ _)) (pr_node (pr_leaf (pr_iadd _)) (pr_leaf (pr_iast _))))) (pr_node (pr_node (pr_leaf (pr_al _ _)) (pr_leaf (pr_gR _ _ _))) (pr_node (pr_leaf (pr_ic _ _)) (pr_node (pr_leaf (pr_iald _)) (pr_leaf (pr_iret))))))))
noncomputable def FX12_give : List EV → Hp → Option (RV × Hp) := Fm kX12_give 2
theorem CX12_give : Con yX12_give cX12_give 2 (some .int) 1 25 FX12_give := con_of (own := RX12) rfl (by decide +kernel) sX12_give pX12_give (fun z => by cases z)
theorem GX12_give : Gr FX12_give := Gr_Fm pX12_give 2
theorem dX12_draw_0 : decode cX12_draw 0 = .ok (.aload_n 0, 1) := by decide +kernel
theorem dX12_draw_1 : decode cX12_draw 1 = .ok (.aload_n 0, 1) := by decide +kernel
theorem dX12_draw_2 : decode cX12_draw 2 = .ok (.getfield 393, 3) := by decide +kernel
theorem dX12_draw_5 : decode cX12_draw 5 = .ok (.ldc2_w 397, 3) := by decide +kernel
theorem dX12_draw_8 : decode cX12_draw 8 = .ok (.lmul, 1) := by decide +kernel
theorem dX12_draw_9 : decode cX12_draw 9 = .ok (.ldc2_w 399, 3) := by decide +kernel
theorem dX12_draw_12 : decode cX12_draw 12 = .ok (.ladd, 1) := by decide +kernel
theorem dX12_draw_13 : decode cX12_draw 13 = .ok (.putfield 393, 3) := by decide +kernel
theorem dX12_draw_16 : decode cX12_draw 16 = .ok (.aload_n 0, 1) := by decide +kernel
theorem dX12_draw_17 : decode cX12_draw 17 = .ok (.getfield 393, 3) := by decide +kernel
theorem dX12_draw_20 : decode cX12_draw 20 = .ok (.bipush 33, 2) := by decide +kernel
theorem dX12_draw_22 : decode cX12_draw 22 = .ok (.lushr, 1) := by decide +kernel
theorem dX12_draw_23 : decode cX12_draw 23 = .ok (.iload_n 1, 1) := by decide +kernel
theorem dX12_draw_24 : decode cX12_draw 24 = .ok (.i2l, 1) := by decide +kernel
theorem dX12_draw_25 : decode cX12_draw 25 = .ok (.lrem, 1) := by decide +kernel
theorem dX12_draw_26 : decode cX12_draw 26 = .ok (.l2i, 1) := by decide +kernel
theorem dX12_draw_27 : decode cX12_draw 27 = .ok (.ireturn, 1) := by decide +kernel
noncomputable def kX12_draw : Nat → Op := (nodeC 13 (nodeC 5 (nodeC 1 (nodeC 0 (leafC 0 (o_al 0 1)) (leafC 1 (o_al 0 2))) (nodeC 2 (leafC 2 (o_gL 12 38 5)) (leafC 5 (o_lc (6364136223846793005) 8)))) (nodeC 9 (nodeC 8 (leafC 8 (o_lmul 9)) (leafC 9 (o_lc (1442695040888963407) 12))) (nodeC 12 (leafC 12 (o_ladd 13)) (leafC 13 (o_pL 12 38 16))))) (nodeC 22 (nodeC 17 (nodeC 16 (leafC 16 (o_al 0 17)) (leafC 17 (o_gL 12 38 20))) (nodeC 20 (leafC 20 (o_ic (33) 22)) (leafC 22 (o_lushr 23)))) (nodeC 24 (nodeC 23 (leafC 23 (o_il 1 24)) (leafC 24 (o_i2l 25))) (nodeC 25 (leafC 25 (o_lrem 26)) (nodeC 26 (leafC 26 (o_l2i 27)) (leafC 27 (o_iret)))))))
theorem sX12_draw : ∀ pc, SoundOp cX12_draw RX12 2 (some .int) false 0 0 pc (kX12_draw pc) := (so_node (so_node (so_node (so_node (so_leaf (so_aload_n dX12_draw_0 rfl)) (so_leaf (so_aload_n dX12_draw_1 rfl))) (so_node (so_leaf (so_gL (by decide) (by decide) wC12 wf_RX12_393 (fun _ _ _ => rfl) dX12_draw_2)) (so_leaf (so_ldc2 wk_RX12_397 dX12_draw_5)))) (so_node (so_node (so_leaf (so_lmul dX12_draw_8)) (so_leaf (so_ldc2 wk_RX12_399 dX12_draw_9))) (so_node (so_leaf (so_ladd dX12_draw_12)) (so_leaf (so_pL (by decide) (by decide) wC12 wf_RX12_393 (Or.inl rfl) rfl dX12_draw_13))))) (so_node (so_node (so_node (so_leaf (so_aload_n dX12_draw_16 rfl)) (so_leaf (so_gL (by decide) (by decide) wC12 wf_RX12_393 (fun _ _ _ => rfl) dX12_draw_17))) (so_node (so_leaf (so_bipush dX12_draw_20 (by decide))) (so_leaf (so_lushr dX12_draw_22)))) (so_node (so_node (so_leaf (so_iload_n dX12_draw_23 rfl)) (so_leaf (so_i2l dX12_draw_24))) (so_node (so_leaf (so_lrem dX12_draw_25)) (so_node (so_leaf (so_l2i dX12_draw_26)) (so_leaf (so_iret dX12_draw_27 rfl)))))))
theorem pX12_draw : ∀ pc, Pr (kX12_draw pc) := (pr_node (pr_node (pr_node (pr_node (pr_leaf (pr_al _ _)) (pr_leaf (pr_al _ _))) (pr_node (pr_leaf (pr_gL _ _ _)) (pr_leaf (pr_lc _ _)))) (pr_node (pr_node (pr_leaf (pr_lmul _)) (pr_leaf (pr_lc _ _))) (pr_node (pr_leaf (pr_ladd _)) (pr_leaf (pr_pL _ _ _))))) (pr_node (pr_node (pr_node (pr_leaf (pr_al _ _)) (pr_leaf (pr_gL _ _ _))) (pr_node (pr_leaf (pr_ic _ _)) (pr_leaf (pr_lushr _)))) (pr_node (pr_node (pr_leaf (pr_il _ _)) (pr_leaf (pr_i2l _))) (pr_node (pr_leaf (pr_lrem _)) (pr_node (pr_leaf (pr_l2i _)) (pr_leaf (pr_iret)))))))
noncomputable def FX12_draw : List EV → Hp → Option (RV × Hp) := Fm kX12_draw 2
theorem CX12_draw : Con yX12_draw cX12_draw 2 (some .int) 0 0 FX12_draw := con_of (own := RX12) rfl (by decide +kernel) sX12_draw pX12_draw (fun z => by cases z)
theorem GX12_draw : Gr FX12_draw := Gr_Fm pX12_draw 2
theorem dX12_lives_0 : decode cX12_lives 0 = .ok (.aload_n 0, 1) := by decide +kernel
theorem dX12_lives_1 : decode cX12_lives 1 = .ok (.iconst 0, 1) := by decide +kernel
theorem dX12_lives_2 : decode cX12_lives 2 = .ok (.putfield 105, 3) := by decide +kernel
theorem dX12_lives_5 : decode cX12_lives 5 = .ok (.iload_n 1, 1) := by decide +kernel
theorem dX12_lives_6 : decode cX12_lives 6 = .ok (.i2l, 1) := by decide +kernel
theorem dX12_lives_7 : decode cX12_lives 7 = .ok (.lconst 1, 1) := by decide +kernel
theorem dX12_lives_8 : decode cX12_lives 8 = .ok (.ldc2_w 401, 3) := by decide +kernel
theorem dX12_lives_11 : decode cX12_lives 11 = .ok (.invokestatic 225, 3) := by decide +kernel
theorem dX12_lives_14 : decode cX12_lives 14 = .ok (.ifCond .eq 15, 3) := by decide +kernel
theorem dX12_lives_17 : decode cX12_lives 17 = .ok (.aload_n 0, 1) := by decide +kernel
theorem dX12_lives_18 : decode cX12_lives 18 = .ok (.aload_n 0, 1) := by decide +kernel
theorem dX12_lives_19 : decode cX12_lives 19 = .ok (.getfield 61, 3) := by decide +kernel
theorem dX12_lives_22 : decode cX12_lives 22 = .ok (.iload_n 1, 1) := by decide +kernel
theorem dX12_lives_23 : decode cX12_lives 23 = .ok (.invokevirtual 360, 3) := by decide +kernel
theorem dX12_lives_26 : decode cX12_lives 26 = .ok (.ifCond .ne 5, 3) := by decide +kernel
theorem dX12_lives_29 : decode cX12_lives 29 = .ok (.iconst (-1), 1) := by decide +kernel
theorem dX12_lives_30 : decode cX12_lives 30 = .ok (.ireturn, 1) := by decide +kernel
theorem dX12_lives_31 : decode cX12_lives 31 = .ok (.aload_n 0, 1) := by decide +kernel
theorem dX12_lives_32 : decode cX12_lives 32 = .ok (.lload_n 2, 1) := by decide +kernel
theorem dX12_lives_33 : decode cX12_lives 33 = .ok (.putfield 393, 3) := by decide +kernel
theorem dX12_lives_36 : decode cX12_lives 36 = .ok (.iconst 0, 1) := by decide +kernel
theorem dX12_lives_37 : decode cX12_lives 37 = .ok (.istore 4, 2) := by decide +kernel
theorem dX12_lives_39 : decode cX12_lives 39 = .ok (.iload 4, 2) := by decide +kernel
theorem dX12_lives_41 : decode cX12_lives 41 = .ok (.iload_n 1, 1) := by decide +kernel
theorem dX12_lives_42 : decode cX12_lives 42 = .ok (.if_icmp .ge 112, 3) := by decide +kernel
theorem dX12_lives_45 : decode cX12_lives 45 = .ok (.aload_n 0, 1) := by decide +kernel
theorem dX12_lives_46 : decode cX12_lives 46 = .ok (.invokevirtual 367, 3) := by decide +kernel
theorem dX12_lives_49 : decode cX12_lives 49 = .ok (.iconst 0, 1) := by decide +kernel
theorem dX12_lives_50 : decode cX12_lives 50 = .ok (.istore 5, 2) := by decide +kernel
theorem dX12_lives_52 : decode cX12_lives 52 = .ok (.aload_n 0, 1) := by decide +kernel
theorem dX12_lives_53 : decode cX12_lives 53 = .ok (.bipush 10, 2) := by decide +kernel
theorem dX12_lives_55 : decode cX12_lives 55 = .ok (.invokevirtual 403, 3) := by decide +kernel
theorem dX12_lives_58 : decode cX12_lives 58 = .ok (.aload_n 0, 1) := by decide +kernel
theorem dX12_lives_59 : decode cX12_lives 59 = .ok (.getfield 71, 3) := by decide +kernel
theorem dX12_lives_62 : decode cX12_lives 62 = .ok (.if_icmp .lt 29, 3) := by decide +kernel
theorem dX12_lives_65 : decode cX12_lives 65 = .ok (.aload_n 0, 1) := by decide +kernel
theorem dX12_lives_66 : decode cX12_lives 66 = .ok (.iconst 2, 1) := by decide +kernel
theorem dX12_lives_67 : decode cX12_lives 67 = .ok (.invokevirtual 403, 3) := by decide +kernel
theorem dX12_lives_70 : decode cX12_lives 70 = .ok (.ifCond .ne 18, 3) := by decide +kernel
theorem dX12_lives_73 : decode cX12_lives 73 = .ok (.aload_n 0, 1) := by decide +kernel
theorem dX12_lives_74 : decode cX12_lives 74 = .ok (.aload_n 0, 1) := by decide +kernel
theorem dX12_lives_75 : decode cX12_lives 75 = .ok (.getfield 61, 3) := by decide +kernel
theorem dX12_lives_78 : decode cX12_lives 78 = .ok (.invokevirtual 328, 3) := by decide +kernel
theorem dX12_lives_81 : decode cX12_lives 81 = .ok (.ifCond .eq 7, 3) := by decide +kernel
theorem dX12_lives_84 : decode cX12_lives 84 = .ok (.iconst 1, 1) := by decide +kernel
theorem dX12_lives_85 : decode cX12_lives 85 = .ok (.goto 4, 3) := by decide +kernel
theorem dX12_lives_88 : decode cX12_lives 88 = .ok (.iconst 2, 1) := by decide +kernel
theorem dX12_lives_89 : decode cX12_lives 89 = .ok (.istore 5, 2) := by decide +kernel
theorem dX12_lives_91 : decode cX12_lives 91 = .ok (.aload_n 0, 1) := by decide +kernel
theorem dX12_lives_92 : decode cX12_lives 92 = .ok (.aload_n 0, 1) := by decide +kernel
theorem dX12_lives_93 : decode cX12_lives 93 = .ok (.getfield 61, 3) := by decide +kernel
theorem dX12_lives_96 : decode cX12_lives 96 = .ok (.iload 5, 2) := by decide +kernel
theorem dX12_lives_98 : decode cX12_lives 98 = .ok (.invokevirtual 370, 3) := by decide +kernel
theorem dX12_lives_101 : decode cX12_lives 101 = .ok (.aload_n 0, 1) := by decide +kernel
theorem dX12_lives_102 : decode cX12_lives 102 = .ok (.getfield 61, 3) := by decide +kernel
theorem dX12_lives_105 : decode cX12_lives 105 = .ok (.iconst 5, 1) := by decide +kernel
theorem dX12_lives_106 : decode cX12_lives 106 = .ok (.iaload, 1) := by decide +kernel
theorem dX12_lives_107 : decode cX12_lives 107 = .ok (.ifCond .ne 6, 3) := by decide +kernel
theorem dX12_lives_110 : decode cX12_lives 110 = .ok (.goto 38, 3) := by decide +kernel
theorem dX12_lives_113 : decode cX12_lives 113 = .ok (.aload_n 0, 1) := by decide +kernel
theorem dX12_lives_114 : decode cX12_lives 114 = .ok (.aload_n 0, 1) := by decide +kernel
theorem dX12_lives_115 : decode cX12_lives 115 = .ok (.getfield 302, 3) := by decide +kernel
theorem dX12_lives_118 : decode cX12_lives 118 = .ok (.invokevirtual 403, 3) := by decide +kernel
theorem dX12_lives_121 : decode cX12_lives 121 = .ok (.istore 6, 2) := by decide +kernel
theorem dX12_lives_123 : decode cX12_lives 123 = .ok (.aload_n 0, 1) := by decide +kernel
theorem dX12_lives_124 : decode cX12_lives 124 = .ok (.aload_n 0, 1) := by decide +kernel
theorem dX12_lives_125 : decode cX12_lives 125 = .ok (.getfield 61, 3) := by decide +kernel
theorem dX12_lives_128 : decode cX12_lives 128 = .ok (.iload 6, 2) := by decide +kernel
theorem dX12_lives_130 : decode cX12_lives 130 = .ok (.iconst 0, 1) := by decide +kernel
theorem dX12_lives_131 : decode cX12_lives 131 = .ok (.invokevirtual 377, 3) := by decide +kernel
theorem dX12_lives_134 : decode cX12_lives 134 = .ok (.ifCond .eq 14, 3) := by decide +kernel
theorem dX12_lives_137 : decode cX12_lives 137 = .ok (.aload_n 0, 1) := by decide +kernel
theorem dX12_lives_138 : decode cX12_lives 138 = .ok (.aload_n 0, 1) := by decide +kernel
theorem dX12_lives_139 : decode cX12_lives 139 = .ok (.getfield 61, 3) := by decide +kernel
theorem dX12_lives_142 : decode cX12_lives 142 = .ok (.iload 6, 2) := by decide +kernel
theorem dX12_lives_144 : decode cX12_lives 144 = .ok (.iconst 0, 1) := by decide +kernel
theorem dX12_lives_145 : decode cX12_lives 145 = .ok (.invokevirtual 381, 3) := by decide +kernel
theorem dX12_lives_148 : decode cX12_lives 148 = .ok (.iinc 4 1, 3) := by decide +kernel
theorem dX12_lives_151 : decode cX12_lives 151 = .ok (.goto (-112), 3) := by decide +kernel
theorem dX12_lives_154 : decode cX12_lives 154 = .ok (.aload_n 0, 1) := by decide +kernel
theorem dX12_lives_155 : decode cX12_lives 155 = .ok (.getfield 61, 3) := by decide +kernel
theorem dX12_lives_158 : decode cX12_lives 158 = .ok (.bipush 7, 2) := by decide +kernel
theorem dX12_lives_160 : decode cX12_lives 160 = .ok (.iaload, 1) := by decide +kernel
theorem dX12_lives_161 : decode cX12_lives 161 = .ok (.ireturn, 1) := by decide +kernel
noncomputable def kX12_lives : Nat → Op := (nodeC 75 (nodeC 36 (nodeC 17 (nodeC 6 (nodeC 1 (nodeC 0 (leafC 0 (o_al 0 1)) (leafC 1 (o_ic (0) 2))) (nodeC 2 (leafC 2 (o_pI 12 0 5)) (nodeC 5 (leafC 5 (o_il 1 6)) (leafC 6 (o_i2l 7))))) (nodeC 8 (nodeC 7 (leafC 7 (o_lc (1) 8)) (leafC 8 (o_lc (60) 11))) (nodeC 11 (leafC 11 (o_ist 3 1 FX12_isIn 14)) (nodeC 14 (leafC 14 (o_zeq 29 17)) (leafC 17 (o_al 0 18)))))) (nodeC 26 (nodeC 19 (nodeC 18 (leafC 18 (o_al 0 19)) (leafC 19 (o_gR 12 32 22))) (nodeC 22 (leafC 22 (o_il 1 23)) (nodeC 23 (leafC 23 (o_inv 2 12 1 FX12_mayPass 26)) (leafC 26 (o_zne 31 29))))) (nodeC 31 (nodeC 29 (leafC 29 (o_ic (-1) 30)) (nodeC 30 (leafC 30 (o_iret)) (leafC 31 (o_al 0 32)))) (nodeC 32 (leafC 32 (o_ll 2 33)) (nodeC 33 (leafC 33 (o_pL 12 38 36)) (leafC 36 (o_ic (0) 37))))))) (nodeC 53 (nodeC 45 (nodeC 39 (nodeC 37 (leafC 37 (o_is 4 39)) (leafC 39 (o_mask [2, 3, 5, 6] (o_il 4 41)))) (nodeC 41 (leafC 41 (o_il 1 42)) (nodeC 42 (leafC 42 (o_cge 154 45)) (leafC 45 (o_al 0 46))))) (nodeC 49 (nodeC 46 (leafC 46 (o_inv 0 12 0 FX12_remember 49)) (leafC 49 (o_ic (0) 50))) (nodeC 50 (leafC 50 (o_is 5 52)) (nodeC 52 (leafC 52 (o_al 0 53)) (leafC 53 (o_ic (10) 55)))))) (nodeC 65 (nodeC 58 (nodeC 55 (leafC 55 (o_inv 1 12 1 FX12_draw 58)) (leafC 58 (o_al 0 59))) (nodeC 59 (leafC 59 (o_gI 12 35 62)) (nodeC 62 (leafC 62 (o_clt 91 65)) (leafC 65 (o_al 0 66))))) (nodeC 70 (nodeC 66 (leafC 66 (o_ic (2) 67)) (nodeC 67 (leafC 67 (o_inv 1 12 1 FX12_draw 70)) (leafC 70 (o_zne 88 73)))) (nodeC 73 (leafC 73 (o_al 0 74)) (nodeC 74 (leafC 74 (o_al 0 75)) (leafC 75 (o_gR 12 32 78)))))))) (nodeC 118 (nodeC 96 (nodeC 88 (nodeC 81 (nodeC 78 (leafC 78 (o_inv 1 12 1 FX12_canWeave 81)) (leafC 81 (o_zeq 88 84))) (nodeC 84 (leafC 84 (o_ic (1) 85)) (nodeC 85 (leafC 85 (o_goto 89)) (leafC 88 (o_ic (2) 89))))) (nodeC 91 (nodeC 89 (leafC 89 (o_is 5 91)) (leafC 91 (o_al 0 92))) (nodeC 92 (leafC 92 (o_al 0 93)) (nodeC 93 (leafC 93 (o_gR 12 32 96)) (leafC 96 (o_il 5 98)))))) (nodeC 106 (nodeC 101 (nodeC 98 (leafC 98 (o_inv 2 12 0 FX12_goWeek 101)) (leafC 101 (o_al 0 102))) (nodeC 102 (leafC 102 (o_gR 12 32 105)) (nodeC 105 (leafC 105 (o_ic (5) 106)) (leafC 106 (o_iald 107))))) (nodeC 113 (nodeC 107 (leafC 107 (o_zne 113 110)) (nodeC 110 (leafC 110 (o_goto 148)) (leafC 113 (o_al 0 114)))) (nodeC 114 (leafC 114 (o_al 0 115)) (nodeC 115 (leafC 115 (o_gI 12 27 118)) (leafC 118 (o_inv 1 12 1 FX12_draw 121))))))) (nodeC 138 (nodeC 128 (nodeC 123 (nodeC 121 (leafC 121 (o_is 6 123)) (leafC 123 (o_al 0 124))) (nodeC 124 (leafC 124 (o_al 0 125)) (nodeC 125 (leafC 125 (o_gR 12 32 128)) (leafC 128 (o_il 6 130))))) (nodeC 131 (nodeC 130 (leafC 130 (o_ic (0) 131)) (leafC 131 (o_inv 3 12 1 FX12_canSell 134))) (nodeC 134 (leafC 134 (o_zeq 148 137)) (nodeC 137 (leafC 137 (o_al 0 138)) (leafC 138 (o_al 0 139)))))) (nodeC 148 (nodeC 142 (nodeC 139 (leafC 139 (o_gR 12 32 142)) (leafC 142 (o_il 6 144))) (nodeC 144 (leafC 144 (o_ic (0) 145)) (nodeC 145 (leafC 145 (o_inv 3 12 0 FX12_sells 148)) (leafC 148 (o_inc 4 (1) 151))))) (nodeC 155 (nodeC 151 (leafC 151 (o_goto 39)) (nodeC 154 (leafC 154 (o_al 0 155)) (leafC 155 (o_gR 12 32 158)))) (nodeC 158 (leafC 158 (o_ic (7) 160)) (nodeC 160 (leafC 160 (o_iald 161)) (leafC 161 (o_iret)))))))))
theorem sX12_lives : ∀ pc, SoundOp cX12_lives RX12 7 (some .int) false 92 2271 pc (kX12_lives pc) := (so_node (so_node (so_node (so_node (so_node (so_node (so_leaf (so_aload_n dX12_lives_0 rfl)) (so_leaf (so_iconst dX12_lives_1 (by decide)))) (so_node (so_leaf (so_pI (by decide) (by decide) wC12 wf_RX12_105 (Or.inl rfl) rfl dX12_lives_2)) (so_node (so_leaf (so_iload_n dX12_lives_5 rfl)) (so_leaf (so_i2l dX12_lives_6))))) (so_node (so_node (so_leaf (so_lconst dX12_lives_7 (by decide))) (so_leaf (so_ldc2 wk_RX12_401 dX12_lives_8))) (so_node (so_leaf (so_ist CX12_isIn rfl wm_RX12_225 wst_X12_isIn wny_X12_isIn wc_X12_isIn (by decide +kernel) (by decide) (by decide) dX12_lives_11)) (so_node (so_leaf (so_zeq dX12_lives_14 (by decide))) (so_leaf (so_aload_n dX12_lives_17 rfl)))))) (so_node (so_node (so_node (so_leaf (so_aload_n dX12_lives_18 rfl)) (so_leaf (so_gR (by decide) (by decide) wC12 wf_RX12_61 (fun _ _ _ => rfl) dX12_lives_19))) (so_node (so_leaf (so_iload_n dX12_lives_22 rfl)) (so_node (so_leaf (so_inv CX12_mayPass (by decide) rfl wm_RX12_360 win_X12_mayPass wse_X12_mayPass wn_12 wc_X12_mayPass (by decide +kernel) (by decide) (by decide) dX12_lives_23)) (so_leaf (so_zne dX12_lives_26 (by decide)))))) (so_node (so_node (so_leaf (so_iconst dX12_lives_29 (by decide))) (so_node (so_leaf (so_iret dX12_lives_30 rfl)) (so_leaf (so_aload_n dX12_lives_31 rfl)))) (so_node (so_leaf (so_lload_n dX12_lives_32 rfl)) (so_node (so_leaf (so_pL (by decide) (by decide) wC12 wf_RX12_393 (Or.inl rfl) rfl dX12_lives_33)) (so_leaf (so_iconst dX12_lives_36 (by decide)))))))) (so_node (so_node (so_node (so_node (so_leaf (so_istore dX12_lives_37 (by decide))) (so_leaf (so_mask (so_iload dX12_lives_39)))) (so_node (so_leaf (so_iload_n dX12_lives_41 rfl)) (so_node (so_leaf (so_cge dX12_lives_42 (by decide))) (so_leaf (so_aload_n dX12_lives_45 rfl))))) (so_node (so_node (so_leaf (so_inv CX12_remember (by decide) rfl wm_RX12_367 win_X12_remember wse_X12_remember wn_12 wc_X12_remember (by decide +kernel) (by decide) (by decide) dX12_lives_46)) (so_leaf (so_iconst dX12_lives_49 (by decide)))) (so_node (so_leaf (so_istore dX12_lives_50 (by decide))) (so_node (so_leaf (so_aload_n dX12_lives_52 rfl)) (so_leaf (so_bipush dX12_lives_53 (by decide))))))) (so_node (so_node (so_node (so_leaf (so_inv CX12_draw (by decide) rfl wm_RX12_403 win_X12_draw wse_X12_draw wn_12 wc_X12_draw (by decide +kernel) (by decide) (by decide) dX12_lives_55)) (so_leaf (so_aload_n dX12_lives_58 rfl))) (so_node (so_leaf (so_gI (by decide) (by decide) wC12 wf_RX12_71 (fun _ _ _ => rfl) dX12_lives_59)) (so_node (so_leaf (so_clt dX12_lives_62 (by decide))) (so_leaf (so_aload_n dX12_lives_65 rfl))))) (so_node (so_node (so_leaf (so_iconst dX12_lives_66 (by decide))) (so_node (so_leaf (so_inv CX12_draw (by decide) rfl wm_RX12_403 win_X12_draw wse_X12_draw wn_12 wc_X12_draw (by decide +kernel) (by decide) (by decide) dX12_lives_67)) (so_leaf (so_zne dX12_lives_70 (by decide))))) (so_node (so_leaf (so_aload_n dX12_lives_73 rfl)) (so_node (so_leaf (so_aload_n dX12_lives_74 rfl)) (so_leaf (so_gR (by decide) (by decide) wC12 wf_RX12_61 (fun _ _ _ => rfl) dX12_lives_75)))))))) (so_node (so_node (so_node (so_node (so_node (so_leaf (so_inv CX12_canWeave (by decide) rfl wm_RX12_328 win_X12_canWeave wse_X12_canWeave wn_12 wc_X12_canWeave (by decide +kernel) (by decide) (by decide) dX12_lives_78)) (so_leaf (so_zeq dX12_lives_81 (by decide)))) (so_node (so_leaf (so_iconst dX12_lives_84 (by decide))) (so_node (so_leaf (so_goto dX12_lives_85 (by decide))) (so_leaf (so_iconst dX12_lives_88 (by decide)))))) (so_node (so_node (so_leaf (so_istore dX12_lives_89 (by decide))) (so_leaf (so_aload_n dX12_lives_91 rfl))) (so_node (so_leaf (so_aload_n dX12_lives_92 rfl)) (so_node (so_leaf (so_gR (by decide) (by decide) wC12 wf_RX12_61 (fun _ _ _ => rfl) dX12_lives_93)) (so_leaf (so_iload dX12_lives_96)))))) (so_node (so_node (so_node (so_leaf (so_inv CX12_goWeek (by decide) rfl wm_RX12_370 win_X12_goWeek wse_X12_goWeek wn_12 wc_X12_goWeek (by decide +kernel) (by decide) (by decide) dX12_lives_98)) (so_leaf (so_aload_n dX12_lives_101 rfl))) (so_node (so_leaf (so_gR (by decide) (by decide) wC12 wf_RX12_61 (fun _ _ _ => rfl) dX12_lives_102)) (so_node (so_leaf (so_iconst dX12_lives_105 (by decide))) (so_leaf (so_iald dX12_lives_106))))) (so_node (so_node (so_leaf (so_zne dX12_lives_107 (by decide))) (so_node (so_leaf (so_goto dX12_lives_110 (by decide))) (so_leaf (so_aload_n dX12_lives_113 rfl)))) (so_node (so_leaf (so_aload_n dX12_lives_114 rfl)) (so_node (so_leaf (so_gI (by decide) (by decide) wC12 wf_RX12_302 (fun _ _ _ => rfl) dX12_lives_115)) (so_leaf (so_inv CX12_draw (by decide) rfl wm_RX12_403 win_X12_draw wse_X12_draw wn_12 wc_X12_draw (by decide +kernel) (by decide) (by decide) dX12_lives_118))))))) (so_node (so_node (so_node (so_node (so_leaf (so_istore dX12_lives_121 (by decide))) (so_leaf (so_aload_n dX12_lives_123 rfl))) (so_node (so_leaf (so_aload_n dX12_lives_124 rfl)) (so_node (so_leaf (so_gR (by decide) (by decide) wC12 wf_RX12_61 (fun _ _ _ => rfl) dX12_lives_125)) (so_leaf (so_iload dX12_lives_128))))) (so_node (so_node (so_leaf (so_iconst dX12_lives_130 (by decide))) (so_leaf (so_inv CX12_canSell (by decide) rfl wm_RX12_377 win_X12_canSell wse_X12_canSell wn_12 wc_X12_canSell (by decide +kernel) (by decide) (by decide) dX12_lives_131))) (so_node (so_leaf (so_zeq dX12_lives_134 (by decide))) (so_node (so_leaf (so_aload_n dX12_lives_137 rfl)) (so_leaf (so_aload_n dX12_lives_138 rfl)))))) (so_node (so_node (so_node (so_leaf (so_gR (by decide) (by decide) wC12 wf_RX12_61 (fun _ _ _ => rfl) dX12_lives_139)) (so_leaf (so_iload dX12_lives_142))) (so_node (so_leaf (so_iconst dX12_lives_144 (by decide))) (so_node (so_leaf (so_inv CX12_sells (by decide) rfl wm_RX12_381 win_X12_sells wse_X12_sells wn_12 wc_X12_sells (by decide +kernel) (by decide) (by decide) dX12_lives_145)) (so_leaf (so_iinc dX12_lives_148 (by decide) (by decide)))))) (so_node (so_node (so_leaf (so_goto dX12_lives_151 (by decide))) (so_node (so_leaf (so_aload_n dX12_lives_154 rfl)) (so_leaf (so_gR (by decide) (by decide) wC12 wf_RX12_61 (fun _ _ _ => rfl) dX12_lives_155)))) (so_node (so_leaf (so_bipush dX12_lives_158 (by decide))) (so_node (so_leaf (so_iald dX12_lives_160)) (so_leaf (so_iret dX12_lives_161 rfl)))))))))
theorem pX12_lives : ∀ pc, Pr (kX12_lives pc) := (pr_node (pr_node (pr_node (pr_node (pr_node (pr_node (pr_leaf (pr_al _ _)) (pr_leaf (pr_ic _ _))) (pr_node (pr_leaf (pr_pI _ _ _)) (pr_node (pr_leaf (pr_il _ _)) (pr_leaf (pr_i2l _))))) (pr_node (pr_node (pr_leaf (pr_lc _ _)) (pr_leaf (pr_lc _ _))) (pr_node (pr_leaf (pr_ist _ _ GX12_isIn _)) (pr_node (pr_leaf (pr_zeq _ _)) (pr_leaf (pr_al _ _)))))) (pr_node (pr_node (pr_node (pr_leaf (pr_al _ _)) (pr_leaf (pr_gR _ _ _))) (pr_node (pr_leaf (pr_il _ _)) (pr_node (pr_leaf (pr_inv _ _ _ GX12_mayPass _)) (pr_leaf (pr_zne _ _))))) (pr_node (pr_node (pr_leaf (pr_ic _ _)) (pr_node (pr_leaf (pr_iret)) (pr_leaf (pr_al _ _)))) (pr_node (pr_leaf (pr_ll _ _)) (pr_node (pr_leaf (pr_pL _ _ _)) (pr_leaf (pr_ic _ _))))))) (pr_node (pr_node (pr_node (pr_node (pr_leaf (pr_is _ _)) (pr_leaf (pr_mask (pr_il _ _)))) (pr_node (pr_leaf (pr_il _ _)) (pr_node (pr_leaf (pr_cge _ _)) (pr_leaf (pr_al _ _))))) (pr_node (pr_node (pr_leaf (pr_inv _ _ _ GX12_remember _)) (pr_leaf (pr_ic _ _))) (pr_node (pr_leaf (pr_is _ _)) (pr_node (pr_leaf (pr_al _ _)) (pr_leaf (pr_ic _ _)))))) (pr_node (pr_node (pr_node (pr_leaf (pr_inv _ _ _ GX12_draw _)) (pr_leaf (pr_al _ _))) (pr_node (pr_leaf (pr_gI _ _ _)) (pr_node (pr_leaf (pr_clt _ _)) (pr_leaf (pr_al _ _))))) (pr_node (pr_node (pr_leaf (pr_ic _ _)) (pr_node (pr_leaf (pr_inv _ _ _ GX12_draw _)) (pr_leaf (pr_zne _ _)))) (pr_node (pr_leaf (pr_al _ _)) (pr_node (pr_leaf (pr_al _ _)) (pr_leaf (pr_gR _ _ _)))))))) (pr_node (pr_node (pr_node (pr_node (pr_node (pr_leaf (pr_inv _ _ _ GX12_canWeave _)) (pr_leaf (pr_zeq _ _))) (pr_node (pr_leaf (pr_ic _ _)) (pr_node (pr_leaf (pr_goto _)) (pr_leaf (pr_ic _ _))))) (pr_node (pr_node (pr_leaf (pr_is _ _)) (pr_leaf (pr_al _ _))) (pr_node (pr_leaf (pr_al _ _)) (pr_node (pr_leaf (pr_gR _ _ _)) (pr_leaf (pr_il _ _)))))) (pr_node (pr_node (pr_node (pr_leaf (pr_inv _ _ _ GX12_goWeek _)) (pr_leaf (pr_al _ _))) (pr_node (pr_leaf (pr_gR _ _ _)) (pr_node (pr_leaf (pr_ic _ _)) (pr_leaf (pr_iald _))))) (pr_node (pr_node (pr_leaf (pr_zne _ _)) (pr_node (pr_leaf (pr_goto _)) (pr_leaf (pr_al _ _)))) (pr_node (pr_leaf (pr_al _ _)) (pr_node (pr_leaf (pr_gI _ _ _)) (pr_leaf (pr_inv _ _ _ GX12_draw _))))))) (pr_node (pr_node (pr_node (pr_node (pr_leaf (pr_is _ _)) (pr_leaf (pr_al _ _))) (pr_node (pr_leaf (pr_al _ _)) (pr_node (pr_leaf (pr_gR _ _ _)) (pr_leaf (pr_il _ _))))) (pr_node (pr_node (pr_leaf (pr_ic _ _)) (pr_leaf (pr_inv _ _ _ GX12_canSell _))) (pr_node (pr_leaf (pr_zeq _ _)) (pr_node (pr_leaf (pr_al _ _)) (pr_leaf (pr_al _ _)))))) (pr_node (pr_node (pr_node (pr_leaf (pr_gR _ _ _)) (pr_leaf (pr_il _ _))) (pr_node (pr_leaf (pr_ic _ _)) (pr_node (pr_leaf (pr_inv _ _ _ GX12_sells _)) (pr_leaf (pr_inc _ _ _))))) (pr_node (pr_node (pr_leaf (pr_goto _)) (pr_node (pr_leaf (pr_al _ _)) (pr_leaf (pr_gR _ _ _)))) (pr_node (pr_leaf (pr_ic _ _)) (pr_node (pr_leaf (pr_iald _)) (pr_leaf (pr_iret)))))))))
noncomputable def FX12_lives : List EV → Hp → Option (RV × Hp) := Fm kX12_lives 7
theorem CX12_lives : Con yX12_lives cX12_lives 7 (some .int) 92 2271 FX12_lives := con_of (own := RX12) rfl (by decide +kernel) sX12_lives pX12_lives (fun z => by cases z)
theorem GX12_lives : Gr FX12_lives := Gr_Fm pX12_lives 7
theorem dX12_undo_0 : decode cX12_undo 0 = .ok (.aload_n 0, 1) := by decide +kernel
theorem dX12_undo_1 : decode cX12_undo 1 = .ok (.iconst 0, 1) := by decide +kernel
theorem dX12_undo_2 : decode cX12_undo 2 = .ok (.putfield 105, 3) := by decide +kernel
theorem dX12_undo_5 : decode cX12_undo 5 = .ok (.aload_n 0, 1) := by decide +kernel
theorem dX12_undo_6 : decode cX12_undo 6 = .ok (.getfield 311, 3) := by decide +kernel
theorem dX12_undo_9 : decode cX12_undo 9 = .ok (.ifCond .ne 5, 3) := by decide +kernel
theorem dX12_undo_12 : decode cX12_undo 12 = .ok (.iconst (-1), 1) := by decide +kernel
theorem dX12_undo_13 : decode cX12_undo 13 = .ok (.ireturn, 1) := by decide +kernel
theorem dX12_undo_14 : decode cX12_undo 14 = .ok (.aload_n 0, 1) := by decide +kernel
theorem dX12_undo_15 : decode cX12_undo 15 = .ok (.dup, 1) := by decide +kernel
theorem dX12_undo_16 : decode cX12_undo 16 = .ok (.getfield 311, 3) := by decide +kernel
theorem dX12_undo_19 : decode cX12_undo 19 = .ok (.iconst 1, 1) := by decide +kernel
theorem dX12_undo_20 : decode cX12_undo 20 = .ok (.isub, 1) := by decide +kernel
theorem dX12_undo_21 : decode cX12_undo 21 = .ok (.putfield 311, 3) := by decide +kernel
theorem dX12_undo_24 : decode cX12_undo 24 = .ok (.iconst 0, 1) := by decide +kernel
theorem dX12_undo_25 : decode cX12_undo 25 = .ok (.istore_n 1, 1) := by decide +kernel
theorem dX12_undo_26 : decode cX12_undo 26 = .ok (.iload_n 1, 1) := by decide +kernel
theorem dX12_undo_27 : decode cX12_undo 27 = .ok (.sipush 381, 3) := by decide +kernel
theorem dX12_undo_30 : decode cX12_undo 30 = .ok (.if_icmp .ge 30, 3) := by decide +kernel
theorem dX12_undo_33 : decode cX12_undo 33 = .ok (.aload_n 0, 1) := by decide +kernel
theorem dX12_undo_34 : decode cX12_undo 34 = .ok (.getfield 61, 3) := by decide +kernel
theorem dX12_undo_37 : decode cX12_undo 37 = .ok (.iload_n 1, 1) := by decide +kernel
theorem dX12_undo_38 : decode cX12_undo 38 = .ok (.aload_n 0, 1) := by decide +kernel
theorem dX12_undo_39 : decode cX12_undo 39 = .ok (.getfield 74, 3) := by decide +kernel
theorem dX12_undo_42 : decode cX12_undo 42 = .ok (.sipush 381, 3) := by decide +kernel
theorem dX12_undo_45 : decode cX12_undo 45 = .ok (.aload_n 0, 1) := by decide +kernel
theorem dX12_undo_46 : decode cX12_undo 46 = .ok (.getfield 311, 3) := by decide +kernel
theorem dX12_undo_49 : decode cX12_undo 49 = .ok (.imul, 1) := by decide +kernel
theorem dX12_undo_50 : decode cX12_undo 50 = .ok (.iload_n 1, 1) := by decide +kernel
theorem dX12_undo_51 : decode cX12_undo 51 = .ok (.iadd, 1) := by decide +kernel
theorem dX12_undo_52 : decode cX12_undo 52 = .ok (.iaload, 1) := by decide +kernel
theorem dX12_undo_53 : decode cX12_undo 53 = .ok (.iastore, 1) := by decide +kernel
theorem dX12_undo_54 : decode cX12_undo 54 = .ok (.iinc 1 1, 3) := by decide +kernel
theorem dX12_undo_57 : decode cX12_undo 57 = .ok (.goto (-31), 3) := by decide +kernel
theorem dX12_undo_60 : decode cX12_undo 60 = .ok (.aload_n 0, 1) := by decide +kernel
theorem dX12_undo_61 : decode cX12_undo 61 = .ok (.getfield 311, 3) := by decide +kernel
theorem dX12_undo_64 : decode cX12_undo 64 = .ok (.ireturn, 1) := by decide +kernel
noncomputable def kX12_undo : Nat → Op := (nodeC 27 (nodeC 14 (nodeC 5 (nodeC 1 (nodeC 0 (leafC 0 (o_al 0 1)) (leafC 1 (o_ic (0) 2))) (nodeC 2 (leafC 2 (o_pI 12 0 5)) (leafC 5 (o_al 0 6)))) (nodeC 9 (nodeC 6 (leafC 6 (o_gI 12 37 9)) (leafC 9 (o_zne 14 12))) (nodeC 12 (leafC 12 (o_ic (-1) 13)) (nodeC 13 (leafC 13 (o_iret)) (leafC 14 (o_al 0 15)))))) (nodeC 20 (nodeC 16 (nodeC 15 (leafC 15 (o_dupR 16)) (leafC 16 (o_gI 12 37 19))) (nodeC 19 (leafC 19 (o_ic (1) 20)) (leafC 20 (o_isub 21)))) (nodeC 24 (nodeC 21 (leafC 21 (o_pI 12 37 24)) (leafC 24 (o_ic (0) 25))) (nodeC 25 (leafC 25 (o_is 1 26)) (nodeC 26 (leafC 26 (o_il 1 27)) (leafC 27 (o_ic (381) 30))))))) (nodeC 46 (nodeC 37 (nodeC 33 (nodeC 30 (leafC 30 (o_cge 60 33)) (leafC 33 (o_al 0 34))) (nodeC 34 (leafC 34 (o_gR 12 32 37)) (leafC 37 (o_il 1 38)))) (nodeC 39 (nodeC 38 (leafC 38 (o_al 0 39)) (leafC 39 (o_gR 12 36 42))) (nodeC 42 (leafC 42 (o_ic (381) 45)) (nodeC 45 (leafC 45 (o_al 0 46)) (leafC 46 (o_gI 12 37 49)))))) (nodeC 53 (nodeC 50 (nodeC 49 (leafC 49 (o_imul 50)) (leafC 50 (o_il 1 51))) (nodeC 51 (leafC 51 (o_iadd 52)) (nodeC 52 (leafC 52 (o_iald 53)) (leafC 53 (o_iast 54))))) (nodeC 57 (nodeC 54 (leafC 54 (o_inc 1 (1) 57)) (leafC 57 (o_goto 26))) (nodeC 60 (leafC 60 (o_al 0 61)) (nodeC 61 (leafC 61 (o_gI 12 37 64)) (leafC 64 (o_iret))))))))
theorem sX12_undo : ∀ pc, SoundOp cX12_undo RX12 2 (some .int) false 0 0 pc (kX12_undo pc) := (so_node (so_node (so_node (so_node (so_node (so_leaf (so_aload_n dX12_undo_0 rfl)) (so_leaf (so_iconst dX12_undo_1 (by decide)))) (so_node (so_leaf (so_pI (by decide) (by decide) wC12 wf_RX12_105 (Or.inl rfl) rfl dX12_undo_2)) (so_leaf (so_aload_n dX12_undo_5 rfl)))) (so_node (so_node (so_leaf (so_gI (by decide) (by decide) wC12 wf_RX12_311 (fun _ _ _ => rfl) dX12_undo_6)) (so_leaf (so_zne dX12_undo_9 (by decide)))) (so_node (so_leaf (so_iconst dX12_undo_12 (by decide))) (so_node (so_leaf (so_iret dX12_undo_13 rfl)) (so_leaf (so_aload_n dX12_undo_14 rfl)))))) (so_node (so_node (so_node (so_leaf (so_dupR dX12_undo_15)) (so_leaf (so_gI (by decide) (by decide) wC12 wf_RX12_311 (fun _ _ _ => rfl) dX12_undo_16))) (so_node (so_leaf (so_iconst dX12_undo_19 (by decide))) (so_leaf (so_isub dX12_undo_20)))) (so_node (so_node (so_leaf (so_pI (by decide) (by decide) wC12 wf_RX12_311 (Or.inl rfl) rfl dX12_undo_21)) (so_leaf (so_iconst dX12_undo_24 (by decide)))) (so_node (so_leaf (so_istore_n dX12_undo_25 rfl (by decide))) (so_node (so_leaf (so_iload_n dX12_undo_26 rfl)) (so_leaf (so_sipush dX12_undo_27 (by decide)))))))) (so_node (so_node (so_node (so_node (so_leaf (so_cge dX12_undo_30 (by decide))) (so_leaf (so_aload_n dX12_undo_33 rfl))) (so_node (so_leaf (so_gR (by decide) (by decide) wC12 wf_RX12_61 (fun _ _ _ => rfl) dX12_undo_34)) (so_leaf (so_iload_n dX12_undo_37 rfl)))) (so_node (so_node (so_leaf (so_aload_n dX12_undo_38 rfl)) (so_leaf (so_gR (by decide) (by decide) wC12 wf_RX12_74 (fun _ _ _ => rfl) dX12_undo_39))) (so_node (so_leaf (so_sipush dX12_undo_42 (by decide))) (so_node (so_leaf (so_aload_n dX12_undo_45 rfl)) (so_leaf (so_gI (by decide) (by decide) wC12 wf_RX12_311 (fun _ _ _ => rfl) dX12_undo_46)))))) (so_node (so_node (so_node (so_leaf (so_imul dX12_undo_49)) (so_leaf (so_iload_n dX12_undo_50 rfl))) (so_node (so_leaf (so_iadd dX12_undo_51)) (so_node (so_leaf (so_iald dX12_undo_52)) (so_leaf (so_iast dX12_undo_53))))) (so_node (so_node (so_leaf (so_iinc dX12_undo_54 (by decide) (by decide))) (so_leaf (so_goto dX12_undo_57 (by decide)))) (so_node (so_leaf (so_aload_n dX12_undo_60 rfl)) (so_node (so_leaf (so_gI (by decide) (by decide) wC12 wf_RX12_311 (fun _ _ _ => rfl) dX12_undo_61)) (so_leaf (so_iret dX12_undo_64 rfl))))))))
theorem pX12_undo : ∀ pc, Pr (kX12_undo pc) := (pr_node (pr_node (pr_node (pr_node (pr_node (pr_leaf (pr_al _ _)) (pr_leaf (pr_ic _ _))) (pr_node (pr_leaf (pr_pI _ _ _)) (pr_leaf (pr_al _ _)))) (pr_node (pr_node (pr_leaf (pr_gI _ _ _)) (pr_leaf (pr_zne _ _))) (pr_node (pr_leaf (pr_ic _ _)) (pr_node (pr_leaf (pr_iret)) (pr_leaf (pr_al _ _)))))) (pr_node (pr_node (pr_node (pr_leaf (pr_dupR _)) (pr_leaf (pr_gI _ _ _))) (pr_node (pr_leaf (pr_ic _ _)) (pr_leaf (pr_isub _)))) (pr_node (pr_node (pr_leaf (pr_pI _ _ _)) (pr_leaf (pr_ic _ _))) (pr_node (pr_leaf (pr_is _ _)) (pr_node (pr_leaf (pr_il _ _)) (pr_leaf (pr_ic _ _))))))) (pr_node (pr_node (pr_node (pr_node (pr_leaf (pr_cge _ _)) (pr_leaf (pr_al _ _))) (pr_node (pr_leaf (pr_gR _ _ _)) (pr_leaf (pr_il _ _)))) (pr_node (pr_node (pr_leaf (pr_al _ _)) (pr_leaf (pr_gR _ _ _))) (pr_node (pr_leaf (pr_ic _ _)) (pr_node (pr_leaf (pr_al _ _)) (pr_leaf (pr_gI _ _ _)))))) (pr_node (pr_node (pr_node (pr_leaf (pr_imul _)) (pr_leaf (pr_il _ _))) (pr_node (pr_leaf (pr_iadd _)) (pr_node (pr_leaf (pr_iald _)) (pr_leaf (pr_iast _))))) (pr_node (pr_node (pr_leaf (pr_inc _ _ _)) (pr_leaf (pr_goto _))) (pr_node (pr_leaf (pr_al _ _)) (pr_node (pr_leaf (pr_gI _ _ _)) (pr_leaf (pr_iret))))))))
noncomputable def FX12_undo : List EV → Hp → Option (RV × Hp) := Fm kX12_undo 2
theorem CX12_undo : Con yX12_undo cX12_undo 2 (some .int) 0 0 FX12_undo := con_of (own := RX12) rfl (by decide +kernel) sX12_undo pX12_undo (fun z => by cases z)
theorem GX12_undo : Gr FX12_undo := Gr_Fm pX12_undo 2
theorem dX12_log_0 : decode cX12_log 0 = .ok (.aload_n 0, 1) := by decide +kernel
theorem dX12_log_1 : decode cX12_log 1 = .ok (.iconst 0, 1) := by decide +kernel
theorem dX12_log_2 : decode cX12_log 2 = .ok (.putfield 105, 3) := by decide +kernel
theorem dX12_log_5 : decode cX12_log 5 = .ok (.iload_n 1, 1) := by decide +kernel
theorem dX12_log_6 : decode cX12_log 6 = .ok (.i2l, 1) := by decide +kernel
theorem dX12_log_7 : decode cX12_log 7 = .ok (.lconst 0, 1) := by decide +kernel
theorem dX12_log_8 : decode cX12_log 8 = .ok (.aload_n 0, 1) := by decide +kernel
theorem dX12_log_9 : decode cX12_log 9 = .ok (.getfield 61, 3) := by decide +kernel
theorem dX12_log_12 : decode cX12_log 12 = .ok (.sipush 200, 3) := by decide +kernel
theorem dX12_log_15 : decode cX12_log 15 = .ok (.iaload, 1) := by decide +kernel
theorem dX12_log_16 : decode cX12_log 16 = .ok (.iconst 1, 1) := by decide +kernel
theorem dX12_log_17 : decode cX12_log 17 = .ok (.isub, 1) := by decide +kernel
theorem dX12_log_18 : decode cX12_log 18 = .ok (.i2l, 1) := by decide +kernel
theorem dX12_log_19 : decode cX12_log 19 = .ok (.invokestatic 225, 3) := by decide +kernel
theorem dX12_log_22 : decode cX12_log 22 = .ok (.ifCond .eq 43, 3) := by decide +kernel
theorem dX12_log_25 : decode cX12_log 25 = .ok (.iload_n 2, 1) := by decide +kernel
theorem dX12_log_26 : decode cX12_log 26 = .ok (.i2l, 1) := by decide +kernel
theorem dX12_log_27 : decode cX12_log 27 = .ok (.lconst 0, 1) := by decide +kernel
theorem dX12_log_28 : decode cX12_log 28 = .ok (.ldc2_w 280, 3) := by decide +kernel
theorem dX12_log_31 : decode cX12_log 31 = .ok (.invokestatic 225, 3) := by decide +kernel
theorem dX12_log_34 : decode cX12_log 34 = .ok (.ifCond .eq 31, 3) := by decide +kernel
theorem dX12_log_37 : decode cX12_log 37 = .ok (.aload_n 0, 1) := by decide +kernel
theorem dX12_log_38 : decode cX12_log 38 = .ok (.getfield 61, 3) := by decide +kernel
theorem dX12_log_41 : decode cX12_log 41 = .ok (.sipush 201, 3) := by decide +kernel
theorem dX12_log_44 : decode cX12_log 44 = .ok (.iconst 3, 1) := by decide +kernel
theorem dX12_log_45 : decode cX12_log 45 = .ok (.aload_n 0, 1) := by decide +kernel
theorem dX12_log_46 : decode cX12_log 46 = .ok (.getfield 61, 3) := by decide +kernel
theorem dX12_log_49 : decode cX12_log 49 = .ok (.sipush 200, 3) := by decide +kernel
theorem dX12_log_52 : decode cX12_log 52 = .ok (.iaload, 1) := by decide +kernel
theorem dX12_log_53 : decode cX12_log 53 = .ok (.iconst 1, 1) := by decide +kernel
theorem dX12_log_54 : decode cX12_log 54 = .ok (.isub, 1) := by decide +kernel
theorem dX12_log_55 : decode cX12_log 55 = .ok (.iload_n 1, 1) := by decide +kernel
theorem dX12_log_56 : decode cX12_log 56 = .ok (.isub, 1) := by decide +kernel
theorem dX12_log_57 : decode cX12_log 57 = .ok (.imul, 1) := by decide +kernel
theorem dX12_log_58 : decode cX12_log 58 = .ok (.iadd, 1) := by decide +kernel
theorem dX12_log_59 : decode cX12_log 59 = .ok (.iload_n 2, 1) := by decide +kernel
theorem dX12_log_60 : decode cX12_log 60 = .ok (.iadd, 1) := by decide +kernel
theorem dX12_log_61 : decode cX12_log 61 = .ok (.iaload, 1) := by decide +kernel
theorem dX12_log_62 : decode cX12_log 62 = .ok (.goto 4, 3) := by decide +kernel
theorem dX12_log_65 : decode cX12_log 65 = .ok (.iconst (-1), 1) := by decide +kernel
theorem dX12_log_66 : decode cX12_log 66 = .ok (.ireturn, 1) := by decide +kernel
noncomputable def kX12_log : Nat → Op := (nodeC 31 (nodeC 15 (nodeC 6 (nodeC 1 (nodeC 0 (leafC 0 (o_al 0 1)) (leafC 1 (o_ic (0) 2))) (nodeC 2 (leafC 2 (o_pI 12 0 5)) (nodeC 5 (leafC 5 (o_il 1 6)) (leafC 6 (o_i2l 7))))) (nodeC 8 (nodeC 7 (leafC 7 (o_lc (0) 8)) (leafC 8 (o_al 0 9))) (nodeC 9 (leafC 9 (o_gR 12 32 12)) (nodeC 12 (leafC 12 (o_ic (200) 15)) (leafC 15 (o_iald 16)))))) (nodeC 22 (nodeC 17 (nodeC 16 (leafC 16 (o_ic (1) 17)) (leafC 17 (o_isub 18))) (nodeC 18 (leafC 18 (o_i2l 19)) (nodeC 19 (leafC 19 (o_ist 3 1 FX12_isIn 22)) (leafC 22 (o_zeq 65 25))))) (nodeC 26 (nodeC 25 (leafC 25 (o_il 2 26)) (leafC 26 (o_i2l 27))) (nodeC 27 (leafC 27 (o_lc (0) 28)) (nodeC 28 (leafC 28 (o_lc (2) 31)) (leafC 31 (o_ist 3 1 FX12_isIn 34))))))) (nodeC 53 (nodeC 44 (nodeC 37 (nodeC 34 (leafC 34 (o_zeq 65 37)) (leafC 37 (o_al 0 38))) (nodeC 38 (leafC 38 (o_gR 12 32 41)) (nodeC 41 (leafC 41 (o_ic (201) 44)) (leafC 44 (o_ic (3) 45))))) (nodeC 46 (nodeC 45 (leafC 45 (o_al 0 46)) (leafC 46 (o_gR 12 32 49))) (nodeC 49 (leafC 49 (o_ic (200) 52)) (nodeC 52 (leafC 52 (o_iald 53)) (leafC 53 (o_ic (1) 54)))))) (nodeC 58 (nodeC 55 (nodeC 54 (leafC 54 (o_isub 55)) (leafC 55 (o_il 1 56))) (nodeC 56 (leafC 56 (o_isub 57)) (nodeC 57 (leafC 57 (o_imul 58)) (leafC 58 (o_iadd 59))))) (nodeC 61 (nodeC 59 (leafC 59 (o_il 2 60)) (nodeC 60 (leafC 60 (o_iadd 61)) (leafC 61 (o_iald 62)))) (nodeC 62 (leafC 62 (o_goto 66)) (nodeC 65 (leafC 65 (o_ic (-1) 66)) (leafC 66 (o_iret))))))))
theorem sX12_log : ∀ pc, SoundOp cX12_log RX12 3 (some .int) false 1 25 pc (kX12_log pc) := (so_node (so_node (so_node (so_node (so_node (so_leaf (so_aload_n dX12_log_0 rfl)) (so_leaf (so_iconst dX12_log_1 (by decide)))) (so_node (so_leaf (so_pI (by decide) (by decide) wC12 wf_RX12_105 (Or.inl rfl) rfl dX12_log_2)) (so_node (so_leaf (so_iload_n dX12_log_5 rfl)) (so_leaf (so_i2l dX12_log_6))))) (so_node (so_node (so_leaf (so_lconst dX12_log_7 (by decide))) (so_leaf (so_aload_n dX12_log_8 rfl))) (so_node (so_leaf (so_gR (by decide) (by decide) wC12 wf_RX12_61 (fun _ _ _ => rfl) dX12_log_9)) (so_node (so_leaf (so_sipush dX12_log_12 (by decide))) (so_leaf (so_iald dX12_log_15)))))) (so_node (so_node (so_node (so_leaf (so_iconst dX12_log_16 (by decide))) (so_leaf (so_isub dX12_log_17))) (so_node (so_leaf (so_i2l dX12_log_18)) (so_node (so_leaf (so_ist CX12_isIn rfl wm_RX12_225 wst_X12_isIn wny_X12_isIn wc_X12_isIn (by decide +kernel) (by decide) (by decide) dX12_log_19)) (so_leaf (so_zeq dX12_log_22 (by decide)))))) (so_node (so_node (so_leaf (so_iload_n dX12_log_25 rfl)) (so_leaf (so_i2l dX12_log_26))) (so_node (so_leaf (so_lconst dX12_log_27 (by decide))) (so_node (so_leaf (so_ldc2 wk_RX12_280 dX12_log_28)) (so_leaf (so_ist CX12_isIn rfl wm_RX12_225 wst_X12_isIn wny_X12_isIn wc_X12_isIn (by decide +kernel) (by decide) (by decide) dX12_log_31))))))) (so_node (so_node (so_node (so_node (so_leaf (so_zeq dX12_log_34 (by decide))) (so_leaf (so_aload_n dX12_log_37 rfl))) (so_node (so_leaf (so_gR (by decide) (by decide) wC12 wf_RX12_61 (fun _ _ _ => rfl) dX12_log_38)) (so_node (so_leaf (so_sipush dX12_log_41 (by decide))) (so_leaf (so_iconst dX12_log_44 (by decide)))))) (so_node (so_node (so_leaf (so_aload_n dX12_log_45 rfl)) (so_leaf (so_gR (by decide) (by decide) wC12 wf_RX12_61 (fun _ _ _ => rfl) dX12_log_46))) (so_node (so_leaf (so_sipush dX12_log_49 (by decide))) (so_node (so_leaf (so_iald dX12_log_52)) (so_leaf (so_iconst dX12_log_53 (by decide))))))) (so_node (so_node (so_node (so_leaf (so_isub dX12_log_54)) (so_leaf (so_iload_n dX12_log_55 rfl))) (so_node (so_leaf (so_isub dX12_log_56)) (so_node (so_leaf (so_imul dX12_log_57)) (so_leaf (so_iadd dX12_log_58))))) (so_node (so_node (so_leaf (so_iload_n dX12_log_59 rfl)) (so_node (so_leaf (so_iadd dX12_log_60)) (so_leaf (so_iald dX12_log_61)))) (so_node (so_leaf (so_goto dX12_log_62 (by decide))) (so_node (so_leaf (so_iconst dX12_log_65 (by decide))) (so_leaf (so_iret dX12_log_66 rfl))))))))
theorem pX12_log : ∀ pc, Pr (kX12_log pc) := (pr_node (pr_node (pr_node (pr_node (pr_node (pr_leaf (pr_al _ _)) (pr_leaf (pr_ic _ _))) (pr_node (pr_leaf (pr_pI _ _ _)) (pr_node (pr_leaf (pr_il _ _)) (pr_leaf (pr_i2l _))))) (pr_node (pr_node (pr_leaf (pr_lc _ _)) (pr_leaf (pr_al _ _))) (pr_node (pr_leaf (pr_gR _ _ _)) (pr_node (pr_leaf (pr_ic _ _)) (pr_leaf (pr_iald _)))))) (pr_node (pr_node (pr_node (pr_leaf (pr_ic _ _)) (pr_leaf (pr_isub _))) (pr_node (pr_leaf (pr_i2l _)) (pr_node (pr_leaf (pr_ist _ _ GX12_isIn _)) (pr_leaf (pr_zeq _ _))))) (pr_node (pr_node (pr_leaf (pr_il _ _)) (pr_leaf (pr_i2l _))) (pr_node (pr_leaf (pr_lc _ _)) (pr_node (pr_leaf (pr_lc _ _)) (pr_leaf (pr_ist _ _ GX12_isIn _))))))) (pr_node (pr_node (pr_node (pr_node (pr_leaf (pr_zeq _ _)) (pr_leaf (pr_al _ _))) (pr_node (pr_leaf (pr_gR _ _ _)) (pr_node (pr_leaf (pr_ic _ _)) (pr_leaf (pr_ic _ _))))) (pr_node (pr_node (pr_leaf (pr_al _ _)) (pr_leaf (pr_gR _ _ _))) (pr_node (pr_leaf (pr_ic _ _)) (pr_node (pr_leaf (pr_iald _)) (pr_leaf (pr_ic _ _)))))) (pr_node (pr_node (pr_node (pr_leaf (pr_isub _)) (pr_leaf (pr_il _ _))) (pr_node (pr_leaf (pr_isub _)) (pr_node (pr_leaf (pr_imul _)) (pr_leaf (pr_iadd _))))) (pr_node (pr_node (pr_leaf (pr_il _ _)) (pr_node (pr_leaf (pr_iadd _)) (pr_leaf (pr_iald _)))) (pr_node (pr_leaf (pr_goto _)) (pr_node (pr_leaf (pr_ic _ _)) (pr_leaf (pr_iret))))))))
noncomputable def FX12_log : List EV → Hp → Option (RV × Hp) := Fm kX12_log 3
theorem CX12_log : Con yX12_log cX12_log 3 (some .int) 1 25 FX12_log := con_of (own := RX12) rfl (by decide +kernel) sX12_log pX12_log (fun z => by cases z)
theorem GX12_log : Gr FX12_log := Gr_Fm pX12_log 3
theorem dX12_page_0 : decode cX12_page 0 = .ok (.aload_n 0, 1) := by decide +kernel
theorem dX12_page_1 : decode cX12_page 1 = .ok (.getfield 61, 3) := by decide +kernel
theorem dX12_page_4 : decode cX12_page 4 = .ok (.bipush 20, 2) := by decide +kernel
theorem dX12_page_6 : decode cX12_page 6 = .ok (.iconst 3, 1) := by decide +kernel
theorem dX12_page_7 : decode cX12_page 7 = .ok (.iload_n 1, 1) := by decide +kernel
theorem dX12_page_8 : decode cX12_page 8 = .ok (.imul, 1) := by decide +kernel
theorem dX12_page_9 : decode cX12_page 9 = .ok (.iadd, 1) := by decide +kernel
theorem dX12_page_10 : decode cX12_page 10 = .ok (.iload_n 2, 1) := by decide +kernel
theorem dX12_page_11 : decode cX12_page 11 = .ok (.iadd, 1) := by decide +kernel
theorem dX12_page_12 : decode cX12_page 12 = .ok (.iaload, 1) := by decide +kernel
theorem dX12_page_13 : decode cX12_page 13 = .ok (.ireturn, 1) := by decide +kernel
noncomputable def kX12_page : Nat → Op := (nodeC 7 (nodeC 1 (nodeC 0 (leafC 0 (o_al 0 1)) (leafC 1 (o_gR 12 32 4))) (nodeC 4 (leafC 4 (o_ic (20) 6)) (nodeC 6 (leafC 6 (o_ic (3) 7)) (leafC 7 (o_il 1 8))))) (nodeC 10 (nodeC 8 (leafC 8 (o_imul 9)) (nodeC 9 (leafC 9 (o_iadd 10)) (leafC 10 (o_il 2 11)))) (nodeC 11 (leafC 11 (o_iadd 12)) (nodeC 12 (leafC 12 (o_iald 13)) (leafC 13 (o_iret))))))
theorem sX12_page : ∀ pc, SoundOp cX12_page RX12 3 (some .int) false 0 0 pc (kX12_page pc) := (so_node (so_node (so_node (so_leaf (so_aload_n dX12_page_0 rfl)) (so_leaf (so_gR (by decide) (by decide) wC12 wf_RX12_61 (fun _ _ _ => rfl) dX12_page_1))) (so_node (so_leaf (so_bipush dX12_page_4 (by decide))) (so_node (so_leaf (so_iconst dX12_page_6 (by decide))) (so_leaf (so_iload_n dX12_page_7 rfl))))) (so_node (so_node (so_leaf (so_imul dX12_page_8)) (so_node (so_leaf (so_iadd dX12_page_9)) (so_leaf (so_iload_n dX12_page_10 rfl)))) (so_node (so_leaf (so_iadd dX12_page_11)) (so_node (so_leaf (so_iald dX12_page_12)) (so_leaf (so_iret dX12_page_13 rfl))))))
theorem pX12_page : ∀ pc, Pr (kX12_page pc) := (pr_node (pr_node (pr_node (pr_leaf (pr_al _ _)) (pr_leaf (pr_gR _ _ _))) (pr_node (pr_leaf (pr_ic _ _)) (pr_node (pr_leaf (pr_ic _ _)) (pr_leaf (pr_il _ _))))) (pr_node (pr_node (pr_leaf (pr_imul _)) (pr_node (pr_leaf (pr_iadd _)) (pr_leaf (pr_il _ _)))) (pr_node (pr_leaf (pr_iadd _)) (pr_node (pr_leaf (pr_iald _)) (pr_leaf (pr_iret))))))
noncomputable def FX12_page : List EV → Hp → Option (RV × Hp) := Fm kX12_page 3
theorem CX12_page : Con yX12_page cX12_page 3 (some .int) 0 0 FX12_page := con_of (own := RX12) rfl (by decide +kernel) sX12_page pX12_page (fun z => by cases z)
theorem GX12_page : Gr FX12_page := Gr_Fm pX12_page 3
theorem dX12_book_0 : decode cX12_book 0 = .ok (.aload_n 0, 1) := by decide +kernel
theorem dX12_book_1 : decode cX12_book 1 = .ok (.iconst 0, 1) := by decide +kernel
theorem dX12_book_2 : decode cX12_book 2 = .ok (.putfield 105, 3) := by decide +kernel
theorem dX12_book_5 : decode cX12_book 5 = .ok (.iload_n 1, 1) := by decide +kernel
theorem dX12_book_6 : decode cX12_book 6 = .ok (.i2l, 1) := by decide +kernel
theorem dX12_book_7 : decode cX12_book 7 = .ok (.lconst 0, 1) := by decide +kernel
theorem dX12_book_8 : decode cX12_book 8 = .ok (.aload_n 0, 1) := by decide +kernel
theorem dX12_book_9 : decode cX12_book 9 = .ok (.getfield 61, 3) := by decide +kernel
theorem dX12_book_12 : decode cX12_book 12 = .ok (.bipush 19, 2) := by decide +kernel
theorem dX12_book_14 : decode cX12_book 14 = .ok (.iaload, 1) := by decide +kernel
theorem dX12_book_15 : decode cX12_book 15 = .ok (.iconst 1, 1) := by decide +kernel
theorem dX12_book_16 : decode cX12_book 16 = .ok (.isub, 1) := by decide +kernel
theorem dX12_book_17 : decode cX12_book 17 = .ok (.i2l, 1) := by decide +kernel
theorem dX12_book_18 : decode cX12_book 18 = .ok (.invokestatic 225, 3) := by decide +kernel
theorem dX12_book_21 : decode cX12_book 21 = .ok (.ifCond .eq 24, 3) := by decide +kernel
theorem dX12_book_24 : decode cX12_book 24 = .ok (.iload_n 2, 1) := by decide +kernel
theorem dX12_book_25 : decode cX12_book 25 = .ok (.i2l, 1) := by decide +kernel
theorem dX12_book_26 : decode cX12_book 26 = .ok (.lconst 0, 1) := by decide +kernel
theorem dX12_book_27 : decode cX12_book 27 = .ok (.ldc2_w 280, 3) := by decide +kernel
theorem dX12_book_30 : decode cX12_book 30 = .ok (.invokestatic 225, 3) := by decide +kernel
theorem dX12_book_33 : decode cX12_book 33 = .ok (.ifCond .eq 12, 3) := by decide +kernel
theorem dX12_book_36 : decode cX12_book 36 = .ok (.aload_n 0, 1) := by decide +kernel
theorem dX12_book_37 : decode cX12_book 37 = .ok (.iload_n 1, 1) := by decide +kernel
theorem dX12_book_38 : decode cX12_book 38 = .ok (.iload_n 2, 1) := by decide +kernel
theorem dX12_book_39 : decode cX12_book 39 = .ok (.invokevirtual 406, 3) := by decide +kernel
theorem dX12_book_42 : decode cX12_book 42 = .ok (.goto 4, 3) := by decide +kernel
theorem dX12_book_45 : decode cX12_book 45 = .ok (.iconst (-1), 1) := by decide +kernel
theorem dX12_book_46 : decode cX12_book 46 = .ok (.ireturn, 1) := by decide +kernel
noncomputable def kX12_book : Nat → Op := (nodeC 18 (nodeC 8 (nodeC 2 (nodeC 0 (leafC 0 (o_al 0 1)) (nodeC 1 (leafC 1 (o_ic (0) 2)) (leafC 2 (o_pI 12 0 5)))) (nodeC 6 (nodeC 5 (leafC 5 (o_il 1 6)) (leafC 6 (o_i2l 7))) (nodeC 7 (leafC 7 (o_lc (0) 8)) (leafC 8 (o_al 0 9))))) (nodeC 14 (nodeC 9 (leafC 9 (o_gR 12 32 12)) (nodeC 12 (leafC 12 (o_ic (19) 14)) (leafC 14 (o_iald 15)))) (nodeC 16 (nodeC 15 (leafC 15 (o_ic (1) 16)) (leafC 16 (o_isub 17))) (nodeC 17 (leafC 17 (o_i2l 18)) (leafC 18 (o_ist 3 1 FX12_isIn 21)))))) (nodeC 33 (nodeC 25 (nodeC 21 (leafC 21 (o_zeq 45 24)) (nodeC 24 (leafC 24 (o_il 2 25)) (leafC 25 (o_i2l 26)))) (nodeC 27 (nodeC 26 (leafC 26 (o_lc (0) 27)) (leafC 27 (o_lc (2) 30))) (nodeC 30 (leafC 30 (o_ist 3 1 FX12_isIn 33)) (leafC 33 (o_zeq 45 36))))) (nodeC 38 (nodeC 36 (leafC 36 (o_al 0 37)) (nodeC 37 (leafC 37 (o_il 1 38)) (leafC 38 (o_il 2 39)))) (nodeC 42 (nodeC 39 (leafC 39 (o_inv 2 12 1 FX12_page 42)) (leafC 42 (o_goto 46))) (nodeC 45 (leafC 45 (o_ic (-1) 46)) (leafC 46 (o_iret)))))))
theorem sX12_book : ∀ pc, SoundOp cX12_book RX12 3 (some .int) false 1 25 pc (kX12_book pc) := (so_node (so_node (so_node (so_node (so_leaf (so_aload_n dX12_book_0 rfl)) (so_node (so_leaf (so_iconst dX12_book_1 (by decide))) (so_leaf (so_pI (by decide) (by decide) wC12 wf_RX12_105 (Or.inl rfl) rfl dX12_book_2)))) (so_node (so_node (so_leaf (so_iload_n dX12_book_5 rfl)) (so_leaf (so_i2l dX12_book_6))) (so_node (so_leaf (so_lconst dX12_book_7 (by decide))) (so_leaf (so_aload_n dX12_book_8 rfl))))) (so_node (so_node (so_leaf (so_gR (by decide) (by decide) wC12 wf_RX12_61 (fun _ _ _ => rfl) dX12_book_9)) (so_node (so_leaf (so_bipush dX12_book_12 (by decide))) (so_leaf (so_iald dX12_book_14)))) (so_node (so_node (so_leaf (so_iconst dX12_book_15 (by decide))) (so_leaf (so_isub dX12_book_16))) (so_node (so_leaf (so_i2l dX12_book_17)) (so_leaf (so_ist CX12_isIn rfl wm_RX12_225 wst_X12_isIn wny_X12_isIn wc_X12_isIn (by decide +kernel) (by decide) (by decide) dX12_book_18)))))) (so_node (so_node (so_node (so_leaf (so_zeq dX12_book_21 (by decide))) (so_node (so_leaf (so_iload_n dX12_book_24 rfl)) (so_leaf (so_i2l dX12_book_25)))) (so_node (so_node (so_leaf (so_lconst dX12_book_26 (by decide))) (so_leaf (so_ldc2 wk_RX12_280 dX12_book_27))) (so_node (so_leaf (so_ist CX12_isIn rfl wm_RX12_225 wst_X12_isIn wny_X12_isIn wc_X12_isIn (by decide +kernel) (by decide) (by decide) dX12_book_30)) (so_leaf (so_zeq dX12_book_33 (by decide)))))) (so_node (so_node (so_leaf (so_aload_n dX12_book_36 rfl)) (so_node (so_leaf (so_iload_n dX12_book_37 rfl)) (so_leaf (so_iload_n dX12_book_38 rfl)))) (so_node (so_node (so_leaf (so_inv CX12_page (by decide) rfl wm_RX12_406 win_X12_page wse_X12_page wn_12 wc_X12_page (by decide +kernel) (by decide) (by decide) dX12_book_39)) (so_leaf (so_goto dX12_book_42 (by decide)))) (so_node (so_leaf (so_iconst dX12_book_45 (by decide))) (so_leaf (so_iret dX12_book_46 rfl)))))))
theorem pX12_book : ∀ pc, Pr (kX12_book pc) := (pr_node (pr_node (pr_node (pr_node (pr_leaf (pr_al _ _)) (pr_node (pr_leaf (pr_ic _ _)) (pr_leaf (pr_pI _ _ _)))) (pr_node (pr_node (pr_leaf (pr_il _ _)) (pr_leaf (pr_i2l _))) (pr_node (pr_leaf (pr_lc _ _)) (pr_leaf (pr_al _ _))))) (pr_node (pr_node (pr_leaf (pr_gR _ _ _)) (pr_node (pr_leaf (pr_ic _ _)) (pr_leaf (pr_iald _)))) (pr_node (pr_node (pr_leaf (pr_ic _ _)) (pr_leaf (pr_isub _))) (pr_node (pr_leaf (pr_i2l _)) (pr_leaf (pr_ist _ _ GX12_isIn _)))))) (pr_node (pr_node (pr_node (pr_leaf (pr_zeq _ _)) (pr_node (pr_leaf (pr_il _ _)) (pr_leaf (pr_i2l _)))) (pr_node (pr_node (pr_leaf (pr_lc _ _)) (pr_leaf (pr_lc _ _))) (pr_node (pr_leaf (pr_ist _ _ GX12_isIn _)) (pr_leaf (pr_zeq _ _))))) (pr_node (pr_node (pr_leaf (pr_al _ _)) (pr_node (pr_leaf (pr_il _ _)) (pr_leaf (pr_il _ _)))) (pr_node (pr_node (pr_leaf (pr_inv _ _ _ GX12_page _)) (pr_leaf (pr_goto _))) (pr_node (pr_leaf (pr_ic _ _)) (pr_leaf (pr_iret)))))))
noncomputable def FX12_book : List EV → Hp → Option (RV × Hp) := Fm kX12_book 3
theorem CX12_book : Con yX12_book cX12_book 3 (some .int) 1 25 FX12_book := con_of (own := RX12) rfl (by decide +kernel) sX12_book pX12_book (fun z => by cases z)
theorem GX12_book : Gr FX12_book := Gr_Fm pX12_book 3
theorem dX12_isPlan_0 : decode cX12_isPlan 0 = .ok (.iload_n 1, 1) := by decide +kernel
theorem dX12_isPlan_1 : decode cX12_isPlan 1 = .ok (.ifCond .lt 15, 3) := by decide +kernel
theorem dX12_isPlan_4 : decode cX12_isPlan 4 = .ok (.iload_n 1, 1) := by decide +kernel
theorem dX12_isPlan_5 : decode cX12_isPlan 5 = .ok (.aload_n 0, 1) := by decide +kernel
theorem dX12_isPlan_6 : decode cX12_isPlan 6 = .ok (.getfield 294, 3) := by decide +kernel
theorem dX12_isPlan_9 : decode cX12_isPlan 9 = .ok (.if_icmp .ge 7, 3) := by decide +kernel
theorem dX12_isPlan_12 : decode cX12_isPlan 12 = .ok (.iconst 1, 1) := by decide +kernel
theorem dX12_isPlan_13 : decode cX12_isPlan 13 = .ok (.goto 4, 3) := by decide +kernel
theorem dX12_isPlan_16 : decode cX12_isPlan 16 = .ok (.iconst 0, 1) := by decide +kernel
theorem dX12_isPlan_17 : decode cX12_isPlan 17 = .ok (.ireturn, 1) := by decide +kernel
noncomputable def kX12_isPlan : Nat → Op := (nodeC 6 (nodeC 1 (nodeC 0 (leafC 0 (o_il 1 1)) (leafC 1 (o_zlt 16 4))) (nodeC 4 (leafC 4 (o_il 1 5)) (nodeC 5 (leafC 5 (o_al 0 6)) (leafC 6 (o_gI 12 30 9))))) (nodeC 12 (nodeC 9 (leafC 9 (o_cge 16 12)) (leafC 12 (o_ic (1) 13))) (nodeC 13 (leafC 13 (o_goto 17)) (nodeC 16 (leafC 16 (o_ic (0) 17)) (leafC 17 (o_zret))))))
theorem sX12_isPlan : ∀ pc, SoundOp cX12_isPlan RX12 2 (some .boolean) false 0 0 pc (kX12_isPlan pc) := (so_node (so_node (so_node (so_leaf (so_iload_n dX12_isPlan_0 rfl)) (so_leaf (so_zlt dX12_isPlan_1 (by decide)))) (so_node (so_leaf (so_iload_n dX12_isPlan_4 rfl)) (so_node (so_leaf (so_aload_n dX12_isPlan_5 rfl)) (so_leaf (so_gI (by decide) (by decide) wC12 wf_RX12_294 (fun _ _ _ => rfl) dX12_isPlan_6))))) (so_node (so_node (so_leaf (so_cge dX12_isPlan_9 (by decide))) (so_leaf (so_iconst dX12_isPlan_12 (by decide)))) (so_node (so_leaf (so_goto dX12_isPlan_13 (by decide))) (so_node (so_leaf (so_iconst dX12_isPlan_16 (by decide))) (so_leaf (so_zret dX12_isPlan_17 rfl))))))
theorem pX12_isPlan : ∀ pc, Pr (kX12_isPlan pc) := (pr_node (pr_node (pr_node (pr_leaf (pr_il _ _)) (pr_leaf (pr_zlt _ _))) (pr_node (pr_leaf (pr_il _ _)) (pr_node (pr_leaf (pr_al _ _)) (pr_leaf (pr_gI _ _ _))))) (pr_node (pr_node (pr_leaf (pr_cge _ _)) (pr_leaf (pr_ic _ _))) (pr_node (pr_leaf (pr_goto _)) (pr_node (pr_leaf (pr_ic _ _)) (pr_leaf (pr_zret))))))
noncomputable def FX12_isPlan : List EV → Hp → Option (RV × Hp) := Fm kX12_isPlan 2
theorem CX12_isPlan : Con yX12_isPlan cX12_isPlan 2 (some .boolean) 0 0 FX12_isPlan := con_of (own := RX12) rfl (by decide +kernel) sX12_isPlan pX12_isPlan (fun z => by cases z)
theorem GX12_isPlan : Gr FX12_isPlan := Gr_Fm pX12_isPlan 2
theorem dX12_step_0 : decode cX12_step 0 = .ok (.aload_n 0, 1) := by decide +kernel
theorem dX12_step_1 : decode cX12_step 1 = .ok (.iconst 0, 1) := by decide +kernel
theorem dX12_step_2 : decode cX12_step 2 = .ok (.putfield 105, 3) := by decide +kernel
theorem dX12_step_5 : decode cX12_step 5 = .ok (.aload_n 0, 1) := by decide +kernel
theorem dX12_step_6 : decode cX12_step 6 = .ok (.iload_n 1, 1) := by decide +kernel
theorem dX12_step_7 : decode cX12_step 7 = .ok (.invokevirtual 409, 3) := by decide +kernel
theorem dX12_step_10 : decode cX12_step 10 = .ok (.ifCond .eq 51, 3) := by decide +kernel
theorem dX12_step_13 : decode cX12_step 13 = .ok (.iload_n 2, 1) := by decide +kernel
theorem dX12_step_14 : decode cX12_step 14 = .ok (.i2l, 1) := by decide +kernel
theorem dX12_step_15 : decode cX12_step 15 = .ok (.lconst 0, 1) := by decide +kernel
theorem dX12_step_16 : decode cX12_step 16 = .ok (.aload_n 0, 1) := by decide +kernel
theorem dX12_step_17 : decode cX12_step 17 = .ok (.getfield 58, 3) := by decide +kernel
theorem dX12_step_20 : decode cX12_step 20 = .ok (.iload_n 1, 1) := by decide +kernel
theorem dX12_step_21 : decode cX12_step 21 = .ok (.iaload, 1) := by decide +kernel
theorem dX12_step_22 : decode cX12_step 22 = .ok (.iconst 1, 1) := by decide +kernel
theorem dX12_step_23 : decode cX12_step 23 = .ok (.isub, 1) := by decide +kernel
theorem dX12_step_24 : decode cX12_step 24 = .ok (.i2l, 1) := by decide +kernel
theorem dX12_step_25 : decode cX12_step 25 = .ok (.invokestatic 225, 3) := by decide +kernel
theorem dX12_step_28 : decode cX12_step 28 = .ok (.ifCond .eq 33, 3) := by decide +kernel
theorem dX12_step_31 : decode cX12_step 31 = .ok (.iload_n 3, 1) := by decide +kernel
theorem dX12_step_32 : decode cX12_step 32 = .ok (.i2l, 1) := by decide +kernel
theorem dX12_step_33 : decode cX12_step 33 = .ok (.lconst 0, 1) := by decide +kernel
theorem dX12_step_34 : decode cX12_step 34 = .ok (.ldc2_w 280, 3) := by decide +kernel
theorem dX12_step_37 : decode cX12_step 37 = .ok (.invokestatic 225, 3) := by decide +kernel
theorem dX12_step_40 : decode cX12_step 40 = .ok (.ifCond .eq 21, 3) := by decide +kernel
theorem dX12_step_43 : decode cX12_step 43 = .ok (.aload_n 0, 1) := by decide +kernel
theorem dX12_step_44 : decode cX12_step 44 = .ok (.getfield 55, 3) := by decide +kernel
theorem dX12_step_47 : decode cX12_step 47 = .ok (.iconst 3, 1) := by decide +kernel
theorem dX12_step_48 : decode cX12_step 48 = .ok (.bipush 16, 2) := by decide +kernel
theorem dX12_step_50 : decode cX12_step 50 = .ok (.iload_n 1, 1) := by decide +kernel
theorem dX12_step_51 : decode cX12_step 51 = .ok (.imul, 1) := by decide +kernel
theorem dX12_step_52 : decode cX12_step 52 = .ok (.iload_n 2, 1) := by decide +kernel
theorem dX12_step_53 : decode cX12_step 53 = .ok (.iadd, 1) := by decide +kernel
theorem dX12_step_54 : decode cX12_step 54 = .ok (.imul, 1) := by decide +kernel
theorem dX12_step_55 : decode cX12_step 55 = .ok (.iload_n 3, 1) := by decide +kernel
theorem dX12_step_56 : decode cX12_step 56 = .ok (.iadd, 1) := by decide +kernel
theorem dX12_step_57 : decode cX12_step 57 = .ok (.iaload, 1) := by decide +kernel
theorem dX12_step_58 : decode cX12_step 58 = .ok (.goto 6, 3) := by decide +kernel
theorem dX12_step_61 : decode cX12_step 61 = .ok (.ldc_w 412, 3) := by decide +kernel
theorem dX12_step_64 : decode cX12_step 64 = .ok (.ireturn, 1) := by decide +kernel
noncomputable def kX12_step : Nat → Op := (nodeC 31 (nodeC 15 (nodeC 6 (nodeC 1 (nodeC 0 (leafC 0 (o_al 0 1)) (leafC 1 (o_ic (0) 2))) (nodeC 2 (leafC 2 (o_pI 12 0 5)) (nodeC 5 (leafC 5 (o_al 0 6)) (leafC 6 (o_il 1 7))))) (nodeC 10 (nodeC 7 (leafC 7 (o_inv 1 12 1 FX12_isPlan 10)) (leafC 10 (o_zeq 61 13))) (nodeC 13 (leafC 13 (o_il 2 14)) (nodeC 14 (leafC 14 (o_i2l 15)) (leafC 15 (o_lc (0) 16)))))) (nodeC 22 (nodeC 17 (nodeC 16 (leafC 16 (o_al 0 17)) (leafC 17 (o_gR 12 25 20))) (nodeC 20 (leafC 20 (o_il 1 21)) (nodeC 21 (leafC 21 (o_iald 22)) (leafC 22 (o_ic (1) 23))))) (nodeC 24 (nodeC 23 (leafC 23 (o_isub 24)) (leafC 24 (o_i2l 25))) (nodeC 25 (leafC 25 (o_ist 3 1 FX12_isIn 28)) (nodeC 28 (leafC 28 (o_zeq 61 31)) (leafC 31 (o_il 3 32))))))) (nodeC 50 (nodeC 40 (nodeC 33 (nodeC 32 (leafC 32 (o_i2l 33)) (leafC 33 (o_lc (0) 34))) (nodeC 34 (leafC 34 (o_lc (2) 37)) (nodeC 37 (leafC 37 (o_ist 3 1 FX12_isIn 40)) (leafC 40 (o_zeq 61 43))))) (nodeC 44 (nodeC 43 (leafC 43 (o_al 0 44)) (leafC 44 (o_gR 12 24 47))) (nodeC 47 (leafC 47 (o_ic (3) 48)) (nodeC 48 (leafC 48 (o_ic (16) 50)) (leafC 50 (o_il 1 51)))))) (nodeC 55 (nodeC 52 (nodeC 51 (leafC 51 (o_imul 52)) (leafC 52 (o_il 2 53))) (nodeC 53 (leafC 53 (o_iadd 54)) (nodeC 54 (leafC 54 (o_imul 55)) (leafC 55 (o_il 3 56))))) (nodeC 57 (nodeC 56 (leafC 56 (o_iadd 57)) (leafC 57 (o_iald 58))) (nodeC 58 (leafC 58 (o_goto 64)) (nodeC 61 (leafC 61 (o_ic (-1000000) 64)) (leafC 64 (o_iret))))))))
theorem sX12_step : ∀ pc, SoundOp cX12_step RX12 4 (some .int) false 1 25 pc (kX12_step pc) := (so_node (so_node (so_node (so_node (so_node (so_leaf (so_aload_n dX12_step_0 rfl)) (so_leaf (so_iconst dX12_step_1 (by decide)))) (so_node (so_leaf (so_pI (by decide) (by decide) wC12 wf_RX12_105 (Or.inl rfl) rfl dX12_step_2)) (so_node (so_leaf (so_aload_n dX12_step_5 rfl)) (so_leaf (so_iload_n dX12_step_6 rfl))))) (so_node (so_node (so_leaf (so_inv CX12_isPlan (by decide) rfl wm_RX12_409 win_X12_isPlan wse_X12_isPlan wn_12 wc_X12_isPlan (by decide +kernel) (by decide) (by decide) dX12_step_7)) (so_leaf (so_zeq dX12_step_10 (by decide)))) (so_node (so_leaf (so_iload_n dX12_step_13 rfl)) (so_node (so_leaf (so_i2l dX12_step_14)) (so_leaf (so_lconst dX12_step_15 (by decide))))))) (so_node (so_node (so_node (so_leaf (so_aload_n dX12_step_16 rfl)) (so_leaf (so_gR (by decide) (by decide) wC12 wf_RX12_58 (fun _ _ _ => rfl) dX12_step_17))) (so_node (so_leaf (so_iload_n dX12_step_20 rfl)) (so_node (so_leaf (so_iald dX12_step_21)) (so_leaf (so_iconst dX12_step_22 (by decide)))))) (so_node (so_node (so_leaf (so_isub dX12_step_23)) (so_leaf (so_i2l dX12_step_24))) (so_node (so_leaf (so_ist CX12_isIn rfl wm_RX12_225 wst_X12_isIn wny_X12_isIn wc_X12_isIn (by decide +kernel) (by decide) (by decide) dX12_step_25)) (so_node (so_leaf (so_zeq dX12_step_28 (by decide))) (so_leaf (so_iload_n dX12_step_31 rfl))))))) (so_node (so_node (so_node (so_node (so_leaf (so_i2l dX12_step_32)) (so_leaf (so_lconst dX12_step_33 (by decide)))) (so_node (so_leaf (so_ldc2 wk_RX12_280 dX12_step_34)) (so_node (so_leaf (so_ist CX12_isIn rfl wm_RX12_225 wst_X12_isIn wny_X12_isIn wc_X12_isIn (by decide +kernel) (by decide) (by decide) dX12_step_37)) (so_leaf (so_zeq dX12_step_40 (by decide)))))) (so_node (so_node (so_leaf (so_aload_n dX12_step_43 rfl)) (so_leaf (so_gR (by decide) (by decide) wC12 wf_RX12_55 (fun _ _ _ => rfl) dX12_step_44))) (so_node (so_leaf (so_iconst dX12_step_47 (by decide))) (so_node (so_leaf (so_bipush dX12_step_48 (by decide))) (so_leaf (so_iload_n dX12_step_50 rfl)))))) (so_node (so_node (so_node (so_leaf (so_imul dX12_step_51)) (so_leaf (so_iload_n dX12_step_52 rfl))) (so_node (so_leaf (so_iadd dX12_step_53)) (so_node (so_leaf (so_imul dX12_step_54)) (so_leaf (so_iload_n dX12_step_55 rfl))))) (so_node (so_node (so_leaf (so_iadd dX12_step_56)) (so_leaf (so_iald dX12_step_57))) (so_node (so_leaf (so_goto dX12_step_58 (by decide))) (so_node (so_leaf (so_ldcw wk_RX12_412 dX12_step_61)) (so_leaf (so_iret dX12_step_64 rfl))))))))
theorem pX12_step : ∀ pc, Pr (kX12_step pc) := (pr_node (pr_node (pr_node (pr_node (pr_node (pr_leaf (pr_al _ _)) (pr_leaf (pr_ic _ _))) (pr_node (pr_leaf (pr_pI _ _ _)) (pr_node (pr_leaf (pr_al _ _)) (pr_leaf (pr_il _ _))))) (pr_node (pr_node (pr_leaf (pr_inv _ _ _ GX12_isPlan _)) (pr_leaf (pr_zeq _ _))) (pr_node (pr_leaf (pr_il _ _)) (pr_node (pr_leaf (pr_i2l _)) (pr_leaf (pr_lc _ _)))))) (pr_node (pr_node (pr_node (pr_leaf (pr_al _ _)) (pr_leaf (pr_gR _ _ _))) (pr_node (pr_leaf (pr_il _ _)) (pr_node (pr_leaf (pr_iald _)) (pr_leaf (pr_ic _ _))))) (pr_node (pr_node (pr_leaf (pr_isub _)) (pr_leaf (pr_i2l _))) (pr_node (pr_leaf (pr_ist _ _ GX12_isIn _)) (pr_node (pr_leaf (pr_zeq _ _)) (pr_leaf (pr_il _ _))))))) (pr_node (pr_node (pr_node (pr_node (pr_leaf (pr_i2l _)) (pr_leaf (pr_lc _ _))) (pr_node (pr_leaf (pr_lc _ _)) (pr_node (pr_leaf (pr_ist _ _ GX12_isIn _)) (pr_leaf (pr_zeq _ _))))) (pr_node (pr_node (pr_leaf (pr_al _ _)) (pr_leaf (pr_gR _ _ _))) (pr_node (pr_leaf (pr_ic _ _)) (pr_node (pr_leaf (pr_ic _ _)) (pr_leaf (pr_il _ _)))))) (pr_node (pr_node (pr_node (pr_leaf (pr_imul _)) (pr_leaf (pr_il _ _))) (pr_node (pr_leaf (pr_iadd _)) (pr_node (pr_leaf (pr_imul _)) (pr_leaf (pr_il _ _))))) (pr_node (pr_node (pr_leaf (pr_iadd _)) (pr_leaf (pr_iald _))) (pr_node (pr_leaf (pr_goto _)) (pr_node (pr_leaf (pr_ic _ _)) (pr_leaf (pr_iret))))))))
noncomputable def FX12_step : List EV → Hp → Option (RV × Hp) := Fm kX12_step 4
theorem CX12_step : Con yX12_step cX12_step 4 (some .int) 1 25 FX12_step := con_of (own := RX12) rfl (by decide +kernel) sX12_step pX12_step (fun z => by cases z)
theorem GX12_step : Gr FX12_step := Gr_Fm pX12_step 4
theorem dX12_canStep_0 : decode cX12_canStep 0 = .ok (.aload_n 0, 1) := by decide +kernel
theorem dX12_canStep_1 : decode cX12_canStep 1 = .ok (.getfield 55, 3) := by decide +kernel
theorem dX12_canStep_4 : decode cX12_canStep 4 = .ok (.iload_n 2, 1) := by decide +kernel
theorem dX12_canStep_5 : decode cX12_canStep 5 = .ok (.iconst 1, 1) := by decide +kernel
theorem dX12_canStep_6 : decode cX12_canStep 6 = .ok (.iadd, 1) := by decide +kernel
theorem dX12_canStep_7 : decode cX12_canStep 7 = .ok (.iaload, 1) := by decide +kernel
theorem dX12_canStep_8 : decode cX12_canStep 8 = .ok (.istore_n 3, 1) := by decide +kernel
theorem dX12_canStep_9 : decode cX12_canStep 9 = .ok (.aload_n 0, 1) := by decide +kernel
theorem dX12_canStep_10 : decode cX12_canStep 10 = .ok (.getfield 55, 3) := by decide +kernel
theorem dX12_canStep_13 : decode cX12_canStep 13 = .ok (.iload_n 2, 1) := by decide +kernel
theorem dX12_canStep_14 : decode cX12_canStep 14 = .ok (.iaload, 1) := by decide +kernel
theorem dX12_canStep_15 : decode cX12_canStep 15 = .ok (.tableswitch 76 0 2 #[25, 49, 61], 25) := by decide +kernel
theorem dX12_canStep_40 : decode cX12_canStep 40 = .ok (.aload_n 0, 1) := by decide +kernel
theorem dX12_canStep_41 : decode cX12_canStep 41 = .ok (.aload_n 1, 1) := by decide +kernel
theorem dX12_canStep_42 : decode cX12_canStep 42 = .ok (.iconst 1, 1) := by decide +kernel
theorem dX12_canStep_43 : decode cX12_canStep 43 = .ok (.invokevirtual 360, 3) := by decide +kernel
theorem dX12_canStep_46 : decode cX12_canStep 46 = .ok (.ifCond .eq 16, 3) := by decide +kernel
theorem dX12_canStep_49 : decode cX12_canStep 49 = .ok (.aload_n 0, 1) := by decide +kernel
theorem dX12_canStep_50 : decode cX12_canStep 50 = .ok (.aload_n 1, 1) := by decide +kernel
theorem dX12_canStep_51 : decode cX12_canStep 51 = .ok (.iload_n 3, 1) := by decide +kernel
theorem dX12_canStep_52 : decode cX12_canStep 52 = .ok (.invokevirtual 364, 3) := by decide +kernel
theorem dX12_canStep_55 : decode cX12_canStep 55 = .ok (.ifCond .eq 7, 3) := by decide +kernel
theorem dX12_canStep_58 : decode cX12_canStep 58 = .ok (.iconst 1, 1) := by decide +kernel
theorem dX12_canStep_59 : decode cX12_canStep 59 = .ok (.goto 4, 3) := by decide +kernel
theorem dX12_canStep_62 : decode cX12_canStep 62 = .ok (.iconst 0, 1) := by decide +kernel
theorem dX12_canStep_63 : decode cX12_canStep 63 = .ok (.ireturn, 1) := by decide +kernel
theorem dX12_canStep_64 : decode cX12_canStep 64 = .ok (.aload_n 1, 1) := by decide +kernel
theorem dX12_canStep_65 : decode cX12_canStep 65 = .ok (.iconst 5, 1) := by decide +kernel
theorem dX12_canStep_66 : decode cX12_canStep 66 = .ok (.iaload, 1) := by decide +kernel
theorem dX12_canStep_67 : decode cX12_canStep 67 = .ok (.ifCond .le 7, 3) := by decide +kernel
theorem dX12_canStep_70 : decode cX12_canStep 70 = .ok (.iconst 1, 1) := by decide +kernel
theorem dX12_canStep_71 : decode cX12_canStep 71 = .ok (.goto 4, 3) := by decide +kernel
theorem dX12_canStep_74 : decode cX12_canStep 74 = .ok (.iconst 0, 1) := by decide +kernel
theorem dX12_canStep_75 : decode cX12_canStep 75 = .ok (.ireturn, 1) := by decide +kernel
theorem dX12_canStep_76 : decode cX12_canStep 76 = .ok (.aload_n 0, 1) := by decide +kernel
theorem dX12_canStep_77 : decode cX12_canStep 77 = .ok (.aload_n 1, 1) := by decide +kernel
theorem dX12_canStep_78 : decode cX12_canStep 78 = .ok (.iload_n 3, 1) := by decide +kernel
theorem dX12_canStep_79 : decode cX12_canStep 79 = .ok (.aload_n 0, 1) := by decide +kernel
theorem dX12_canStep_80 : decode cX12_canStep 80 = .ok (.getfield 55, 3) := by decide +kernel
theorem dX12_canStep_83 : decode cX12_canStep 83 = .ok (.iload_n 2, 1) := by decide +kernel
theorem dX12_canStep_84 : decode cX12_canStep 84 = .ok (.iconst 2, 1) := by decide +kernel
theorem dX12_canStep_85 : decode cX12_canStep 85 = .ok (.iadd, 1) := by decide +kernel
theorem dX12_canStep_86 : decode cX12_canStep 86 = .ok (.iaload, 1) := by decide +kernel
theorem dX12_canStep_87 : decode cX12_canStep 87 = .ok (.invokevirtual 377, 3) := by decide +kernel
theorem dX12_canStep_90 : decode cX12_canStep 90 = .ok (.ireturn, 1) := by decide +kernel
theorem dX12_canStep_91 : decode cX12_canStep 91 = .ok (.aload_n 0, 1) := by decide +kernel
theorem dX12_canStep_92 : decode cX12_canStep 92 = .ok (.aload_n 1, 1) := by decide +kernel
theorem dX12_canStep_93 : decode cX12_canStep 93 = .ok (.iload_n 3, 1) := by decide +kernel
theorem dX12_canStep_94 : decode cX12_canStep 94 = .ok (.invokevirtual 385, 3) := by decide +kernel
theorem dX12_canStep_97 : decode cX12_canStep 97 = .ok (.ireturn, 1) := by decide +kernel
noncomputable def kX12_canStep : Nat → Op := (nodeC 62 (nodeC 15 (nodeC 7 (nodeC 4 (nodeC 0 (leafC 0 (o_al 0 1)) (nodeC 1 (leafC 1 (o_gR 12 24 4)) (leafC 4 (o_il 2 5)))) (nodeC 5 (leafC 5 (o_ic (1) 6)) (nodeC 6 (leafC 6 (o_iadd 7)) (leafC 7 (o_iald 8))))) (nodeC 10 (nodeC 8 (leafC 8 (o_is 3 9)) (nodeC 9 (leafC 9 (o_al 0 10)) (leafC 10 (o_gR 12 24 13)))) (nodeC 13 (leafC 13 (o_il 2 14)) (nodeC 14 (leafC 14 (o_iald 15)) (leafC 15 (o_sw [(0, 40), (1, 64), (2, 76)] 91)))))) (nodeC 49 (nodeC 42 (nodeC 40 (leafC 40 (o_al 0 41)) (nodeC 41 (leafC 41 (o_al 1 42)) (leafC 42 (o_ic (1) 43)))) (nodeC 43 (leafC 43 (o_inv 2 12 1 FX12_mayPass 46)) (nodeC 46 (leafC 46 (o_zeq 62 49)) (leafC 49 (o_al 0 50))))) (nodeC 52 (nodeC 50 (leafC 50 (o_al 1 51)) (nodeC 51 (leafC 51 (o_il 3 52)) (leafC 52 (o_inv 2 12 1 FX12_canDo 55)))) (nodeC 58 (nodeC 55 (leafC 55 (o_zeq 62 58)) (leafC 58 (o_ic (1) 59))) (nodeC 59 (leafC 59 (o_goto 63)) (leafC 62 (o_ic (0) 63))))))) (nodeC 78 (nodeC 70 (nodeC 65 (nodeC 63 (leafC 63 (o_zret)) (nodeC 64 (leafC 64 (o_al 1 65)) (leafC 65 (o_ic (5) 66)))) (nodeC 66 (leafC 66 (o_iald 67)) (nodeC 67 (leafC 67 (o_zle 74 70)) (leafC 70 (o_ic (1) 71))))) (nodeC 75 (nodeC 71 (leafC 71 (o_goto 75)) (nodeC 74 (leafC 74 (o_ic (0) 75)) (leafC 75 (o_zret)))) (nodeC 76 (leafC 76 (o_al 0 77)) (nodeC 77 (leafC 77 (o_al 1 78)) (leafC 78 (o_il 3 79)))))) (nodeC 86 (nodeC 83 (nodeC 79 (leafC 79 (o_al 0 80)) (nodeC 80 (leafC 80 (o_gR 12 24 83)) (leafC 83 (o_il 2 84)))) (nodeC 84 (leafC 84 (o_ic (2) 85)) (nodeC 85 (leafC 85 (o_iadd 86)) (leafC 86 (o_iald 87))))) (nodeC 91 (nodeC 87 (leafC 87 (o_inv 3 12 1 FX12_canSell 90)) (nodeC 90 (leafC 90 (o_zret)) (leafC 91 (o_al 0 92)))) (nodeC 93 (nodeC 92 (leafC 92 (o_al 1 93)) (leafC 93 (o_il 3 94))) (nodeC 94 (leafC 94 (o_inv 2 12 1 FX12_canPay 97)) (leafC 97 (o_zret))))))))
theorem sX12_canStep : ∀ pc, SoundOp cX12_canStep RX12 4 (some .boolean) false 92 2268 pc (kX12_canStep pc) := (so_node (so_node (so_node (so_node (so_node (so_leaf (so_aload_n dX12_canStep_0 rfl)) (so_node (so_leaf (so_gR (by decide) (by decide) wC12 wf_RX12_55 (fun _ _ _ => rfl) dX12_canStep_1)) (so_leaf (so_iload_n dX12_canStep_4 rfl)))) (so_node (so_leaf (so_iconst dX12_canStep_5 (by decide))) (so_node (so_leaf (so_iadd dX12_canStep_6)) (so_leaf (so_iald dX12_canStep_7))))) (so_node (so_node (so_leaf (so_istore_n dX12_canStep_8 rfl (by decide))) (so_node (so_leaf (so_aload_n dX12_canStep_9 rfl)) (so_leaf (so_gR (by decide) (by decide) wC12 wf_RX12_55 (fun _ _ _ => rfl) dX12_canStep_10)))) (so_node (so_leaf (so_iload_n dX12_canStep_13 rfl)) (so_node (so_leaf (so_iald dX12_canStep_14)) (so_leaf (so_table dX12_canStep_15 (by decide) (by decide) (by decide) (by decide))))))) (so_node (so_node (so_node (so_leaf (so_aload_n dX12_canStep_40 rfl)) (so_node (so_leaf (so_aload_n dX12_canStep_41 rfl)) (so_leaf (so_iconst dX12_canStep_42 (by decide))))) (so_node (so_leaf (so_inv CX12_mayPass (by decide) rfl wm_RX12_360 win_X12_mayPass wse_X12_mayPass wn_12 wc_X12_mayPass (by decide +kernel) (by decide) (by decide) dX12_canStep_43)) (so_node (so_leaf (so_zeq dX12_canStep_46 (by decide))) (so_leaf (so_aload_n dX12_canStep_49 rfl))))) (so_node (so_node (so_leaf (so_aload_n dX12_canStep_50 rfl)) (so_node (so_leaf (so_iload_n dX12_canStep_51 rfl)) (so_leaf (so_inv CX12_canDo (by decide) rfl wm_RX12_364 win_X12_canDo wse_X12_canDo wn_12 wc_X12_canDo (by decide +kernel) (by decide) (by decide) dX12_canStep_52)))) (so_node (so_node (so_leaf (so_zeq dX12_canStep_55 (by decide))) (so_leaf (so_iconst dX12_canStep_58 (by decide)))) (so_node (so_leaf (so_goto dX12_canStep_59 (by decide))) (so_leaf (so_iconst dX12_canStep_62 (by decide)))))))) (so_node (so_node (so_node (so_node (so_leaf (so_zret dX12_canStep_63 rfl)) (so_node (so_leaf (so_aload_n dX12_canStep_64 rfl)) (so_leaf (so_iconst dX12_canStep_65 (by decide))))) (so_node (so_leaf (so_iald dX12_canStep_66)) (so_node (so_leaf (so_zle dX12_canStep_67 (by decide))) (so_leaf (so_iconst dX12_canStep_70 (by decide)))))) (so_node (so_node (so_leaf (so_goto dX12_canStep_71 (by decide))) (so_node (so_leaf (so_iconst dX12_canStep_74 (by decide))) (so_leaf (so_zret dX12_canStep_75 rfl)))) (so_node (so_leaf (so_aload_n dX12_canStep_76 rfl)) (so_node (so_leaf (so_aload_n dX12_canStep_77 rfl)) (so_leaf (so_iload_n dX12_canStep_78 rfl)))))) (so_node (so_node (so_node (so_leaf (so_aload_n dX12_canStep_79 rfl)) (so_node (so_leaf (so_gR (by decide) (by decide) wC12 wf_RX12_55 (fun _ _ _ => rfl) dX12_canStep_80)) (so_leaf (so_iload_n dX12_canStep_83 rfl)))) (so_node (so_leaf (so_iconst dX12_canStep_84 (by decide))) (so_node (so_leaf (so_iadd dX12_canStep_85)) (so_leaf (so_iald dX12_canStep_86))))) (so_node (so_node (so_leaf (so_inv CX12_canSell (by decide) rfl wm_RX12_377 win_X12_canSell wse_X12_canSell wn_12 wc_X12_canSell (by decide +kernel) (by decide) (by decide) dX12_canStep_87)) (so_node (so_leaf (so_zret dX12_canStep_90 rfl)) (so_leaf (so_aload_n dX12_canStep_91 rfl)))) (so_node (so_node (so_leaf (so_aload_n dX12_canStep_92 rfl)) (so_leaf (so_iload_n dX12_canStep_93 rfl))) (so_node (so_leaf (so_inv CX12_canPay (by decide) rfl wm_RX12_385 win_X12_canPay wse_X12_canPay wn_12 wc_X12_canPay (by decide +kernel) (by decide) (by decide) dX12_canStep_94)) (so_leaf (so_zret dX12_canStep_97 rfl))))))))
theorem pX12_canStep : ∀ pc, Pr (kX12_canStep pc) := (pr_node (pr_node (pr_node (pr_node (pr_node (pr_leaf (pr_al _ _)) (pr_node (pr_leaf (pr_gR _ _ _)) (pr_leaf (pr_il _ _)))) (pr_node (pr_leaf (pr_ic _ _)) (pr_node (pr_leaf (pr_iadd _)) (pr_leaf (pr_iald _))))) (pr_node (pr_node (pr_leaf (pr_is _ _)) (pr_node (pr_leaf (pr_al _ _)) (pr_leaf (pr_gR _ _ _)))) (pr_node (pr_leaf (pr_il _ _)) (pr_node (pr_leaf (pr_iald _)) (pr_leaf (pr_sw _ _)))))) (pr_node (pr_node (pr_node (pr_leaf (pr_al _ _)) (pr_node (pr_leaf (pr_al _ _)) (pr_leaf (pr_ic _ _)))) (pr_node (pr_leaf (pr_inv _ _ _ GX12_mayPass _)) (pr_node (pr_leaf (pr_zeq _ _)) (pr_leaf (pr_al _ _))))) (pr_node (pr_node (pr_leaf (pr_al _ _)) (pr_node (pr_leaf (pr_il _ _)) (pr_leaf (pr_inv _ _ _ GX12_canDo _)))) (pr_node (pr_node (pr_leaf (pr_zeq _ _)) (pr_leaf (pr_ic _ _))) (pr_node (pr_leaf (pr_goto _)) (pr_leaf (pr_ic _ _))))))) (pr_node (pr_node (pr_node (pr_node (pr_leaf (pr_zret)) (pr_node (pr_leaf (pr_al _ _)) (pr_leaf (pr_ic _ _)))) (pr_node (pr_leaf (pr_iald _)) (pr_node (pr_leaf (pr_zle _ _)) (pr_leaf (pr_ic _ _))))) (pr_node (pr_node (pr_leaf (pr_goto _)) (pr_node (pr_leaf (pr_ic _ _)) (pr_leaf (pr_zret)))) (pr_node (pr_leaf (pr_al _ _)) (pr_node (pr_leaf (pr_al _ _)) (pr_leaf (pr_il _ _)))))) (pr_node (pr_node (pr_node (pr_leaf (pr_al _ _)) (pr_node (pr_leaf (pr_gR _ _ _)) (pr_leaf (pr_il _ _)))) (pr_node (pr_leaf (pr_ic _ _)) (pr_node (pr_leaf (pr_iadd _)) (pr_leaf (pr_iald _))))) (pr_node (pr_node (pr_leaf (pr_inv _ _ _ GX12_canSell _)) (pr_node (pr_leaf (pr_zret)) (pr_leaf (pr_al _ _)))) (pr_node (pr_node (pr_leaf (pr_al _ _)) (pr_leaf (pr_il _ _))) (pr_node (pr_leaf (pr_inv _ _ _ GX12_canPay _)) (pr_leaf (pr_zret))))))))
noncomputable def FX12_canStep : List EV → Hp → Option (RV × Hp) := Fm kX12_canStep 4
theorem CX12_canStep : Con yX12_canStep cX12_canStep 4 (some .boolean) 92 2268 FX12_canStep := con_of (own := RX12) rfl (by decide +kernel) sX12_canStep pX12_canStep (fun z => by cases z)
theorem GX12_canStep : Gr FX12_canStep := Gr_Fm pX12_canStep 4
theorem dX12_steps_0 : decode cX12_steps 0 = .ok (.aload_n 0, 1) := by decide +kernel
theorem dX12_steps_1 : decode cX12_steps 1 = .ok (.getfield 55, 3) := by decide +kernel
theorem dX12_steps_4 : decode cX12_steps 4 = .ok (.iload_n 2, 1) := by decide +kernel
theorem dX12_steps_5 : decode cX12_steps 5 = .ok (.iconst 1, 1) := by decide +kernel
theorem dX12_steps_6 : decode cX12_steps 6 = .ok (.iadd, 1) := by decide +kernel
theorem dX12_steps_7 : decode cX12_steps 7 = .ok (.iaload, 1) := by decide +kernel
theorem dX12_steps_8 : decode cX12_steps 8 = .ok (.istore_n 3, 1) := by decide +kernel
theorem dX12_steps_9 : decode cX12_steps 9 = .ok (.aload_n 0, 1) := by decide +kernel
theorem dX12_steps_10 : decode cX12_steps 10 = .ok (.getfield 55, 3) := by decide +kernel
theorem dX12_steps_13 : decode cX12_steps 13 = .ok (.iload_n 2, 1) := by decide +kernel
theorem dX12_steps_14 : decode cX12_steps 14 = .ok (.iaload, 1) := by decide +kernel
theorem dX12_steps_15 : decode cX12_steps 15 = .ok (.tableswitch 58 0 2 #[25, 34, 41], 25) := by decide +kernel
theorem dX12_steps_40 : decode cX12_steps 40 = .ok (.aload_n 0, 1) := by decide +kernel
theorem dX12_steps_41 : decode cX12_steps 41 = .ok (.aload_n 1, 1) := by decide +kernel
theorem dX12_steps_42 : decode cX12_steps 42 = .ok (.iload_n 3, 1) := by decide +kernel
theorem dX12_steps_43 : decode cX12_steps 43 = .ok (.invokevirtual 370, 3) := by decide +kernel
theorem dX12_steps_46 : decode cX12_steps 46 = .ok (.goto 33, 3) := by decide +kernel
theorem dX12_steps_49 : decode cX12_steps 49 = .ok (.aload_n 1, 1) := by decide +kernel
theorem dX12_steps_50 : decode cX12_steps 50 = .ok (.invokestatic 374, 3) := by decide +kernel
theorem dX12_steps_53 : decode cX12_steps 53 = .ok (.goto 26, 3) := by decide +kernel
theorem dX12_steps_56 : decode cX12_steps 56 = .ok (.aload_n 0, 1) := by decide +kernel
theorem dX12_steps_57 : decode cX12_steps 57 = .ok (.aload_n 1, 1) := by decide +kernel
theorem dX12_steps_58 : decode cX12_steps 58 = .ok (.iload_n 3, 1) := by decide +kernel
theorem dX12_steps_59 : decode cX12_steps 59 = .ok (.aload_n 0, 1) := by decide +kernel
theorem dX12_steps_60 : decode cX12_steps 60 = .ok (.getfield 55, 3) := by decide +kernel
theorem dX12_steps_63 : decode cX12_steps 63 = .ok (.iload_n 2, 1) := by decide +kernel
theorem dX12_steps_64 : decode cX12_steps 64 = .ok (.iconst 2, 1) := by decide +kernel
theorem dX12_steps_65 : decode cX12_steps 65 = .ok (.iadd, 1) := by decide +kernel
theorem dX12_steps_66 : decode cX12_steps 66 = .ok (.iaload, 1) := by decide +kernel
theorem dX12_steps_67 : decode cX12_steps 67 = .ok (.invokevirtual 381, 3) := by decide +kernel
theorem dX12_steps_70 : decode cX12_steps 70 = .ok (.goto 9, 3) := by decide +kernel
theorem dX12_steps_73 : decode cX12_steps 73 = .ok (.aload_n 0, 1) := by decide +kernel
theorem dX12_steps_74 : decode cX12_steps 74 = .ok (.aload_n 1, 1) := by decide +kernel
theorem dX12_steps_75 : decode cX12_steps 75 = .ok (.iload_n 3, 1) := by decide +kernel
theorem dX12_steps_76 : decode cX12_steps 76 = .ok (.invokevirtual 388, 3) := by decide +kernel
theorem dX12_steps_79 : decode cX12_steps 79 = .ok (.return_, 1) := by decide +kernel
noncomputable def kX12_steps : Nat → Op := (nodeC 49 (nodeC 10 (nodeC 5 (nodeC 1 (nodeC 0 (leafC 0 (o_al 0 1)) (leafC 1 (o_gR 12 24 4))) (nodeC 4 (leafC 4 (o_il 2 5)) (leafC 5 (o_ic (1) 6)))) (nodeC 7 (nodeC 6 (leafC 6 (o_iadd 7)) (leafC 7 (o_iald 8))) (nodeC 8 (leafC 8 (o_is 3 9)) (nodeC 9 (leafC 9 (o_al 0 10)) (leafC 10 (o_gR 12 24 13)))))) (nodeC 40 (nodeC 14 (nodeC 13 (leafC 13 (o_il 2 14)) (leafC 14 (o_iald 15))) (nodeC 15 (leafC 15 (o_sw [(0, 40), (1, 49), (2, 56)] 73)) (leafC 40 (o_al 0 41)))) (nodeC 42 (nodeC 41 (leafC 41 (o_al 1 42)) (leafC 42 (o_il 3 43))) (nodeC 43 (leafC 43 (o_inv 2 12 0 FX12_goWeek 46)) (nodeC 46 (leafC 46 (o_goto 79)) (leafC 49 (o_al 1 50))))))) (nodeC 64 (nodeC 57 (nodeC 53 (nodeC 50 (leafC 50 (o_ist 1 0 FX12_cuts 53)) (leafC 53 (o_goto 79))) (nodeC 56 (leafC 56 (o_al 0 57)) (leafC 57 (o_al 1 58)))) (nodeC 59 (nodeC 58 (leafC 58 (o_il 3 59)) (leafC 59 (o_al 0 60))) (nodeC 60 (leafC 60 (o_gR 12 24 63)) (nodeC 63 (leafC 63 (o_il 2 64)) (leafC 64 (o_ic (2) 65)))))) (nodeC 70 (nodeC 66 (nodeC 65 (leafC 65 (o_iadd 66)) (leafC 66 (o_iald 67))) (nodeC 67 (leafC 67 (o_inv 3 12 0 FX12_sells 70)) (leafC 70 (o_goto 79)))) (nodeC 74 (nodeC 73 (leafC 73 (o_al 0 74)) (leafC 74 (o_al 1 75))) (nodeC 75 (leafC 75 (o_il 3 76)) (nodeC 76 (leafC 76 (o_inv 2 12 0 FX12_pays 79)) (leafC 79 (o_vret))))))))
theorem sX12_steps : ∀ pc, SoundOp cX12_steps RX12 4 none false 92 2271 pc (kX12_steps pc) := (so_node (so_node (so_node (so_node (so_node (so_leaf (so_aload_n dX12_steps_0 rfl)) (so_leaf (so_gR (by decide) (by decide) wC12 wf_RX12_55 (fun _ _ _ => rfl) dX12_steps_1))) (so_node (so_leaf (so_iload_n dX12_steps_4 rfl)) (so_leaf (so_iconst dX12_steps_5 (by decide))))) (so_node (so_node (so_leaf (so_iadd dX12_steps_6)) (so_leaf (so_iald dX12_steps_7))) (so_node (so_leaf (so_istore_n dX12_steps_8 rfl (by decide))) (so_node (so_leaf (so_aload_n dX12_steps_9 rfl)) (so_leaf (so_gR (by decide) (by decide) wC12 wf_RX12_55 (fun _ _ _ => rfl) dX12_steps_10)))))) (so_node (so_node (so_node (so_leaf (so_iload_n dX12_steps_13 rfl)) (so_leaf (so_iald dX12_steps_14))) (so_node (so_leaf (so_table dX12_steps_15 (by decide) (by decide) (by decide) (by decide))) (so_leaf (so_aload_n dX12_steps_40 rfl)))) (so_node (so_node (so_leaf (so_aload_n dX12_steps_41 rfl)) (so_leaf (so_iload_n dX12_steps_42 rfl))) (so_node (so_leaf (so_inv CX12_goWeek (by decide) rfl wm_RX12_370 win_X12_goWeek wse_X12_goWeek wn_12 wc_X12_goWeek (by decide +kernel) (by decide) (by decide) dX12_steps_43)) (so_node (so_leaf (so_goto dX12_steps_46 (by decide))) (so_leaf (so_aload_n dX12_steps_49 rfl))))))) (so_node (so_node (so_node (so_node (so_leaf (so_ist CX12_cuts rfl wm_RX12_374 wst_X12_cuts wny_X12_cuts wc_X12_cuts (by decide +kernel) (by decide) (by decide) dX12_steps_50)) (so_leaf (so_goto dX12_steps_53 (by decide)))) (so_node (so_leaf (so_aload_n dX12_steps_56 rfl)) (so_leaf (so_aload_n dX12_steps_57 rfl)))) (so_node (so_node (so_leaf (so_iload_n dX12_steps_58 rfl)) (so_leaf (so_aload_n dX12_steps_59 rfl))) (so_node (so_leaf (so_gR (by decide) (by decide) wC12 wf_RX12_55 (fun _ _ _ => rfl) dX12_steps_60)) (so_node (so_leaf (so_iload_n dX12_steps_63 rfl)) (so_leaf (so_iconst dX12_steps_64 (by decide))))))) (so_node (so_node (so_node (so_leaf (so_iadd dX12_steps_65)) (so_leaf (so_iald dX12_steps_66))) (so_node (so_leaf (so_inv CX12_sells (by decide) rfl wm_RX12_381 win_X12_sells wse_X12_sells wn_12 wc_X12_sells (by decide +kernel) (by decide) (by decide) dX12_steps_67)) (so_leaf (so_goto dX12_steps_70 (by decide))))) (so_node (so_node (so_leaf (so_aload_n dX12_steps_73 rfl)) (so_leaf (so_aload_n dX12_steps_74 rfl))) (so_node (so_leaf (so_iload_n dX12_steps_75 rfl)) (so_node (so_leaf (so_inv CX12_pays (by decide) rfl wm_RX12_388 win_X12_pays wse_X12_pays wn_12 wc_X12_pays (by decide +kernel) (by decide) (by decide) dX12_steps_76)) (so_leaf (so_vret dX12_steps_79 rfl))))))))
theorem pX12_steps : ∀ pc, Pr (kX12_steps pc) := (pr_node (pr_node (pr_node (pr_node (pr_node (pr_leaf (pr_al _ _)) (pr_leaf (pr_gR _ _ _))) (pr_node (pr_leaf (pr_il _ _)) (pr_leaf (pr_ic _ _)))) (pr_node (pr_node (pr_leaf (pr_iadd _)) (pr_leaf (pr_iald _))) (pr_node (pr_leaf (pr_is _ _)) (pr_node (pr_leaf (pr_al _ _)) (pr_leaf (pr_gR _ _ _)))))) (pr_node (pr_node (pr_node (pr_leaf (pr_il _ _)) (pr_leaf (pr_iald _))) (pr_node (pr_leaf (pr_sw _ _)) (pr_leaf (pr_al _ _)))) (pr_node (pr_node (pr_leaf (pr_al _ _)) (pr_leaf (pr_il _ _))) (pr_node (pr_leaf (pr_inv _ _ _ GX12_goWeek _)) (pr_node (pr_leaf (pr_goto _)) (pr_leaf (pr_al _ _))))))) (pr_node (pr_node (pr_node (pr_node (pr_leaf (pr_ist _ _ GX12_cuts _)) (pr_leaf (pr_goto _))) (pr_node (pr_leaf (pr_al _ _)) (pr_leaf (pr_al _ _)))) (pr_node (pr_node (pr_leaf (pr_il _ _)) (pr_leaf (pr_al _ _))) (pr_node (pr_leaf (pr_gR _ _ _)) (pr_node (pr_leaf (pr_il _ _)) (pr_leaf (pr_ic _ _)))))) (pr_node (pr_node (pr_node (pr_leaf (pr_iadd _)) (pr_leaf (pr_iald _))) (pr_node (pr_leaf (pr_inv _ _ _ GX12_sells _)) (pr_leaf (pr_goto _)))) (pr_node (pr_node (pr_leaf (pr_al _ _)) (pr_leaf (pr_al _ _))) (pr_node (pr_leaf (pr_il _ _)) (pr_node (pr_leaf (pr_inv _ _ _ GX12_pays _)) (pr_leaf (pr_vret))))))))
noncomputable def FX12_steps : List EV → Hp → Option (RV × Hp) := Fm kX12_steps 4
theorem CX12_steps : Con yX12_steps cX12_steps 4 none 92 2271 FX12_steps := con_of (own := RX12) rfl (by decide +kernel) sX12_steps pX12_steps (fun z => by cases z)
theorem GX12_steps : Gr FX12_steps := Gr_Fm pX12_steps 4
theorem dX12_run_0 : decode cX12_run 0 = .ok (.aload_n 0, 1) := by decide +kernel
theorem dX12_run_1 : decode cX12_run 1 = .ok (.iconst 0, 1) := by decide +kernel
theorem dX12_run_2 : decode cX12_run 2 = .ok (.putfield 105, 3) := by decide +kernel
theorem dX12_run_5 : decode cX12_run 5 = .ok (.aload_n 0, 1) := by decide +kernel
theorem dX12_run_6 : decode cX12_run 6 = .ok (.iload_n 1, 1) := by decide +kernel
theorem dX12_run_7 : decode cX12_run 7 = .ok (.invokevirtual 409, 3) := by decide +kernel
theorem dX12_run_10 : decode cX12_run 10 = .ok (.ifCond .eq 20, 3) := by decide +kernel
theorem dX12_run_13 : decode cX12_run 13 = .ok (.aload_n 0, 1) := by decide +kernel
theorem dX12_run_14 : decode cX12_run 14 = .ok (.getfield 302, 3) := by decide +kernel
theorem dX12_run_17 : decode cX12_run 17 = .ok (.ifCond .eq 13, 3) := by decide +kernel
theorem dX12_run_20 : decode cX12_run 20 = .ok (.iload_n 2, 1) := by decide +kernel
theorem dX12_run_21 : decode cX12_run 21 = .ok (.i2l, 1) := by decide +kernel
theorem dX12_run_22 : decode cX12_run 22 = .ok (.lconst 0, 1) := by decide +kernel
theorem dX12_run_23 : decode cX12_run 23 = .ok (.lconst 1, 1) := by decide +kernel
theorem dX12_run_24 : decode cX12_run 24 = .ok (.invokestatic 225, 3) := by decide +kernel
theorem dX12_run_27 : decode cX12_run 27 = .ok (.ifCond .ne 7, 3) := by decide +kernel
theorem dX12_run_30 : decode cX12_run 30 = .ok (.ldc_w 412, 3) := by decide +kernel
theorem dX12_run_33 : decode cX12_run 33 = .ok (.ireturn, 1) := by decide +kernel
theorem dX12_run_34 : decode cX12_run 34 = .ok (.aload_n 0, 1) := by decide +kernel
theorem dX12_run_35 : decode cX12_run 35 = .ok (.getfield 61, 3) := by decide +kernel
theorem dX12_run_38 : decode cX12_run 38 = .ok (.aload_n 0, 1) := by decide +kernel
theorem dX12_run_39 : decode cX12_run 39 = .ok (.getfield 64, 3) := by decide +kernel
theorem dX12_run_42 : decode cX12_run 42 = .ok (.invokestatic 413, 3) := by decide +kernel
theorem dX12_run_45 : decode cX12_run 45 = .ok (.iconst 0, 1) := by decide +kernel
theorem dX12_run_46 : decode cX12_run 46 = .ok (.istore_n 3, 1) := by decide +kernel
theorem dX12_run_47 : decode cX12_run 47 = .ok (.iload_n 3, 1) := by decide +kernel
theorem dX12_run_48 : decode cX12_run 48 = .ok (.aload_n 0, 1) := by decide +kernel
theorem dX12_run_49 : decode cX12_run 49 = .ok (.getfield 58, 3) := by decide +kernel
theorem dX12_run_52 : decode cX12_run 52 = .ok (.iload_n 1, 1) := by decide +kernel
theorem dX12_run_53 : decode cX12_run 53 = .ok (.iaload, 1) := by decide +kernel
theorem dX12_run_54 : decode cX12_run 54 = .ok (.if_icmp .ge 44, 3) := by decide +kernel
theorem dX12_run_57 : decode cX12_run 57 = .ok (.aload_n 0, 1) := by decide +kernel
theorem dX12_run_58 : decode cX12_run 58 = .ok (.aload_n 0, 1) := by decide +kernel
theorem dX12_run_59 : decode cX12_run 59 = .ok (.getfield 64, 3) := by decide +kernel
theorem dX12_run_62 : decode cX12_run 62 = .ok (.iconst 3, 1) := by decide +kernel
theorem dX12_run_63 : decode cX12_run 63 = .ok (.bipush 16, 2) := by decide +kernel
theorem dX12_run_65 : decode cX12_run 65 = .ok (.iload_n 1, 1) := by decide +kernel
theorem dX12_run_66 : decode cX12_run 66 = .ok (.imul, 1) := by decide +kernel
theorem dX12_run_67 : decode cX12_run 67 = .ok (.iload_n 3, 1) := by decide +kernel
theorem dX12_run_68 : decode cX12_run 68 = .ok (.iadd, 1) := by decide +kernel
theorem dX12_run_69 : decode cX12_run 69 = .ok (.imul, 1) := by decide +kernel
theorem dX12_run_70 : decode cX12_run 70 = .ok (.invokevirtual 417, 3) := by decide +kernel
theorem dX12_run_73 : decode cX12_run 73 = .ok (.ifCond .eq 25, 3) := by decide +kernel
theorem dX12_run_76 : decode cX12_run 76 = .ok (.aload_n 0, 1) := by decide +kernel
theorem dX12_run_77 : decode cX12_run 77 = .ok (.aload_n 0, 1) := by decide +kernel
theorem dX12_run_78 : decode cX12_run 78 = .ok (.getfield 64, 3) := by decide +kernel
theorem dX12_run_81 : decode cX12_run 81 = .ok (.iconst 3, 1) := by decide +kernel
theorem dX12_run_82 : decode cX12_run 82 = .ok (.bipush 16, 2) := by decide +kernel
theorem dX12_run_84 : decode cX12_run 84 = .ok (.iload_n 1, 1) := by decide +kernel
theorem dX12_run_85 : decode cX12_run 85 = .ok (.imul, 1) := by decide +kernel
theorem dX12_run_86 : decode cX12_run 86 = .ok (.iload_n 3, 1) := by decide +kernel
theorem dX12_run_87 : decode cX12_run 87 = .ok (.iadd, 1) := by decide +kernel
theorem dX12_run_88 : decode cX12_run 88 = .ok (.imul, 1) := by decide +kernel
theorem dX12_run_89 : decode cX12_run 89 = .ok (.invokevirtual 420, 3) := by decide +kernel
theorem dX12_run_92 : decode cX12_run 92 = .ok (.iinc 3 1, 3) := by decide +kernel
theorem dX12_run_95 : decode cX12_run 95 = .ok (.goto (-48), 3) := by decide +kernel
theorem dX12_run_98 : decode cX12_run 98 = .ok (.iload_n 2, 1) := by decide +kernel
theorem dX12_run_99 : decode cX12_run 99 = .ok (.iconst 1, 1) := by decide +kernel
theorem dX12_run_100 : decode cX12_run 100 = .ok (.if_icmp .ne 10, 3) := by decide +kernel
theorem dX12_run_103 : decode cX12_run 103 = .ok (.aload_n 0, 1) := by decide +kernel
theorem dX12_run_104 : decode cX12_run 104 = .ok (.getfield 64, 3) := by decide +kernel
theorem dX12_run_107 : decode cX12_run 107 = .ok (.iconst 4, 1) := by decide +kernel
theorem dX12_run_108 : decode cX12_run 108 = .ok (.iaload, 1) := by decide +kernel
theorem dX12_run_109 : decode cX12_run 109 = .ok (.ireturn, 1) := by decide +kernel
theorem dX12_run_110 : decode cX12_run 110 = .ok (.iload_n 3, 1) := by decide +kernel
theorem dX12_run_111 : decode cX12_run 111 = .ok (.aload_n 0, 1) := by decide +kernel
theorem dX12_run_112 : decode cX12_run 112 = .ok (.getfield 58, 3) := by decide +kernel
theorem dX12_run_115 : decode cX12_run 115 = .ok (.iload_n 1, 1) := by decide +kernel
theorem dX12_run_116 : decode cX12_run 116 = .ok (.iaload, 1) := by decide +kernel
theorem dX12_run_117 : decode cX12_run 117 = .ok (.if_icmp .ne 7, 3) := by decide +kernel
theorem dX12_run_120 : decode cX12_run 120 = .ok (.iconst (-1), 1) := by decide +kernel
theorem dX12_run_121 : decode cX12_run 121 = .ok (.goto 4, 3) := by decide +kernel
theorem dX12_run_124 : decode cX12_run 124 = .ok (.iload_n 3, 1) := by decide +kernel
theorem dX12_run_125 : decode cX12_run 125 = .ok (.ireturn, 1) := by decide +kernel
noncomputable def kX12_run : Nat → Op := (nodeC 65 (nodeC 33 (nodeC 14 (nodeC 5 (nodeC 1 (nodeC 0 (leafC 0 (o_al 0 1)) (leafC 1 (o_ic (0) 2))) (nodeC 2 (leafC 2 (o_pI 12 0 5)) (leafC 5 (o_al 0 6)))) (nodeC 7 (nodeC 6 (leafC 6 (o_il 1 7)) (leafC 7 (o_inv 1 12 1 FX12_isPlan 10))) (nodeC 10 (leafC 10 (o_zeq 30 13)) (nodeC 13 (leafC 13 (o_al 0 14)) (leafC 14 (o_gI 12 27 17)))))) (nodeC 22 (nodeC 20 (nodeC 17 (leafC 17 (o_zeq 30 20)) (leafC 20 (o_il 2 21))) (nodeC 21 (leafC 21 (o_i2l 22)) (leafC 22 (o_lc (0) 23)))) (nodeC 24 (nodeC 23 (leafC 23 (o_lc (1) 24)) (leafC 24 (o_ist 3 1 FX12_isIn 27))) (nodeC 27 (leafC 27 (o_zne 34 30)) (nodeC 30 (leafC 30 (o_ic (-1000000) 33)) (leafC 33 (o_iret))))))) (nodeC 48 (nodeC 39 (nodeC 35 (nodeC 34 (leafC 34 (o_al 0 35)) (leafC 35 (o_gR 12 32 38))) (nodeC 38 (leafC 38 (o_al 0 39)) (leafC 39 (o_gR 12 33 42)))) (nodeC 45 (nodeC 42 (leafC 42 (o_ist 2 0 FX12_copy 45)) (leafC 45 (o_ic (0) 46))) (nodeC 46 (leafC 46 (o_is 3 47)) (nodeC 47 (leafC 47 (o_il 3 48)) (leafC 48 (o_al 0 49)))))) (nodeC 57 (nodeC 52 (nodeC 49 (leafC 49 (o_gR 12 25 52)) (leafC 52 (o_il 1 53))) (nodeC 53 (leafC 53 (o_iald 54)) (nodeC 54 (leafC 54 (o_cge 98 57)) (leafC 57 (o_al 0 58))))) (nodeC 59 (nodeC 58 (leafC 58 (o_al 0 59)) (leafC 59 (o_gR 12 33 62))) (nodeC 62 (leafC 62 (o_ic (3) 63)) (nodeC 63 (leafC 63 (o_ic (16) 65)) (leafC 65 (o_il 1 66)))))))) (nodeC 92 (nodeC 78 (nodeC 69 (nodeC 67 (nodeC 66 (leafC 66 (o_imul 67)) (leafC 67 (o_il 3 68))) (nodeC 68 (leafC 68 (o_iadd 69)) (leafC 69 (o_imul 70)))) (nodeC 73 (nodeC 70 (leafC 70 (o_inv 2 12 1 FX12_canStep 73)) (leafC 73 (o_zeq 98 76))) (nodeC 76 (leafC 76 (o_al 0 77)) (nodeC 77 (leafC 77 (o_al 0 78)) (leafC 78 (o_gR 12 33 81)))))) (nodeC 85 (nodeC 82 (nodeC 81 (leafC 81 (o_ic (3) 82)) (leafC 82 (o_ic (16) 84))) (nodeC 84 (leafC 84 (o_il 1 85)) (leafC 85 (o_imul 86)))) (nodeC 87 (nodeC 86 (leafC 86 (o_il 3 87)) (leafC 87 (o_iadd 88))) (nodeC 88 (leafC 88 (o_imul 89)) (nodeC 89 (leafC 89 (o_inv 2 12 0 FX12_steps 92)) (leafC 92 (o_inc 3 (1) 95))))))) (nodeC 109 (nodeC 100 (nodeC 98 (nodeC 95 (leafC 95 (o_goto 47)) (leafC 98 (o_il 2 99))) (nodeC 99 (leafC 99 (o_ic (1) 100)) (leafC 100 (o_cne 110 103)))) (nodeC 104 (nodeC 103 (leafC 103 (o_al 0 104)) (leafC 104 (o_gR 12 33 107))) (nodeC 107 (leafC 107 (o_ic (4) 108)) (nodeC 108 (leafC 108 (o_iald 109)) (leafC 109 (o_iret)))))) (nodeC 116 (nodeC 111 (nodeC 110 (leafC 110 (o_il 3 111)) (leafC 111 (o_al 0 112))) (nodeC 112 (leafC 112 (o_gR 12 25 115)) (nodeC 115 (leafC 115 (o_il 1 116)) (leafC 116 (o_iald 117))))) (nodeC 120 (nodeC 117 (leafC 117 (o_cne 124 120)) (leafC 120 (o_ic (-1) 121))) (nodeC 121 (leafC 121 (o_goto 125)) (nodeC 124 (leafC 124 (o_il 3 125)) (leafC 125 (o_iret)))))))))
theorem sX12_run : ∀ pc, SoundOp cX12_run RX12 4 (some .int) false 93 2294 pc (kX12_run pc) := (so_node (so_node (so_node (so_node (so_node (so_node (so_leaf (so_aload_n dX12_run_0 rfl)) (so_leaf (so_iconst dX12_run_1 (by decide)))) (so_node (so_leaf (so_pI (by decide) (by decide) wC12 wf_RX12_105 (Or.inl rfl) rfl dX12_run_2)) (so_leaf (so_aload_n dX12_run_5 rfl)))) (so_node (so_node (so_leaf (so_iload_n dX12_run_6 rfl)) (so_leaf (so_inv CX12_isPlan (by decide) rfl wm_RX12_409 win_X12_isPlan wse_X12_isPlan wn_12 wc_X12_isPlan (by decide +kernel) (by decide) (by decide) dX12_run_7))) (so_node (so_leaf (so_zeq dX12_run_10 (by decide))) (so_node (so_leaf (so_aload_n dX12_run_13 rfl)) (so_leaf (so_gI (by decide) (by decide) wC12 wf_RX12_302 (fun _ _ _ => rfl) dX12_run_14)))))) (so_node (so_node (so_node (so_leaf (so_zeq dX12_run_17 (by decide))) (so_leaf (so_iload_n dX12_run_20 rfl))) (so_node (so_leaf (so_i2l dX12_run_21)) (so_leaf (so_lconst dX12_run_22 (by decide))))) (so_node (so_node (so_leaf (so_lconst dX12_run_23 (by decide))) (so_leaf (so_ist CX12_isIn rfl wm_RX12_225 wst_X12_isIn wny_X12_isIn wc_X12_isIn (by decide +kernel) (by decide) (by decide) dX12_run_24))) (so_node (so_leaf (so_zne dX12_run_27 (by decide))) (so_node (so_leaf (so_ldcw wk_RX12_412 dX12_run_30)) (so_leaf (so_iret dX12_run_33 rfl))))))) (so_node (so_node (so_node (so_node (so_leaf (so_aload_n dX12_run_34 rfl)) (so_leaf (so_gR (by decide) (by decide) wC12 wf_RX12_61 (fun _ _ _ => rfl) dX12_run_35))) (so_node (so_leaf (so_aload_n dX12_run_38 rfl)) (so_leaf (so_gR (by decide) (by decide) wC12 wf_RX12_64 (fun _ _ _ => rfl) dX12_run_39)))) (so_node (so_node (so_leaf (so_ist CX12_copy rfl wm_RX12_413 wst_X12_copy wny_X12_copy wc_X12_copy (by decide +kernel) (by decide) (by decide) dX12_run_42)) (so_leaf (so_iconst dX12_run_45 (by decide)))) (so_node (so_leaf (so_istore_n dX12_run_46 rfl (by decide))) (so_node (so_leaf (so_iload_n dX12_run_47 rfl)) (so_leaf (so_aload_n dX12_run_48 rfl)))))) (so_node (so_node (so_node (so_leaf (so_gR (by decide) (by decide) wC12 wf_RX12_58 (fun _ _ _ => rfl) dX12_run_49)) (so_leaf (so_iload_n dX12_run_52 rfl))) (so_node (so_leaf (so_iald dX12_run_53)) (so_node (so_leaf (so_cge dX12_run_54 (by decide))) (so_leaf (so_aload_n dX12_run_57 rfl))))) (so_node (so_node (so_leaf (so_aload_n dX12_run_58 rfl)) (so_leaf (so_gR (by decide) (by decide) wC12 wf_RX12_64 (fun _ _ _ => rfl) dX12_run_59))) (so_node (so_leaf (so_iconst dX12_run_62 (by decide))) (so_node (so_leaf (so_bipush dX12_run_63 (by decide))) (so_leaf (so_iload_n dX12_run_65 rfl)))))))) (so_node (so_node (so_node (so_node (so_node (so_leaf (so_imul dX12_run_66)) (so_leaf (so_iload_n dX12_run_67 rfl))) (so_node (so_leaf (so_iadd dX12_run_68)) (so_leaf (so_imul dX12_run_69)))) (so_node (so_node (so_leaf (so_inv CX12_canStep (by decide) rfl wm_RX12_417 win_X12_canStep wse_X12_canStep wn_12 wc_X12_canStep (by decide +kernel) (by decide) (by decide) dX12_run_70)) (so_leaf (so_zeq dX12_run_73 (by decide)))) (so_node (so_leaf (so_aload_n dX12_run_76 rfl)) (so_node (so_leaf (so_aload_n dX12_run_77 rfl)) (so_leaf (so_gR (by decide) (by decide) wC12 wf_RX12_64 (fun _ _ _ => rfl) dX12_run_78)))))) (so_node (so_node (so_node (so_leaf (so_iconst dX12_run_81 (by decide))) (so_leaf (so_bipush dX12_run_82 (by decide)))) (so_node (so_leaf (so_iload_n dX12_run_84 rfl)) (so_leaf (so_imul dX12_run_85)))) (so_node (so_node (so_leaf (so_iload_n dX12_run_86 rfl)) (so_leaf (so_iadd dX12_run_87))) (so_node (so_leaf (so_imul dX12_run_88)) (so_node (so_leaf (so_inv CX12_steps (by decide) rfl wm_RX12_420 win_X12_steps wse_X12_steps wn_12 wc_X12_steps (by decide +kernel) (by decide) (by decide) dX12_run_89)) (so_leaf (so_iinc dX12_run_92 (by decide) (by decide)))))))) (so_node (so_node (so_node (so_node (so_leaf (so_goto dX12_run_95 (by decide))) (so_leaf (so_iload_n dX12_run_98 rfl))) (so_node (so_leaf (so_iconst dX12_run_99 (by decide))) (so_leaf (so_cne dX12_run_100 (by decide))))) (so_node (so_node (so_leaf (so_aload_n dX12_run_103 rfl)) (so_leaf (so_gR (by decide) (by decide) wC12 wf_RX12_64 (fun _ _ _ => rfl) dX12_run_104))) (so_node (so_leaf (so_iconst dX12_run_107 (by decide))) (so_node (so_leaf (so_iald dX12_run_108)) (so_leaf (so_iret dX12_run_109 rfl)))))) (so_node (so_node (so_node (so_leaf (so_iload_n dX12_run_110 rfl)) (so_leaf (so_aload_n dX12_run_111 rfl))) (so_node (so_leaf (so_gR (by decide) (by decide) wC12 wf_RX12_58 (fun _ _ _ => rfl) dX12_run_112)) (so_node (so_leaf (so_iload_n dX12_run_115 rfl)) (so_leaf (so_iald dX12_run_116))))) (so_node (so_node (so_leaf (so_cne dX12_run_117 (by decide))) (so_leaf (so_iconst dX12_run_120 (by decide)))) (so_node (so_leaf (so_goto dX12_run_121 (by decide))) (so_node (so_leaf (so_iload_n dX12_run_124 rfl)) (so_leaf (so_iret dX12_run_125 rfl)))))))))
theorem pX12_run : ∀ pc, Pr (kX12_run pc) := (pr_node (pr_node (pr_node (pr_node (pr_node (pr_node (pr_leaf (pr_al _ _)) (pr_leaf (pr_ic _ _))) (pr_node (pr_leaf (pr_pI _ _ _)) (pr_leaf (pr_al _ _)))) (pr_node (pr_node (pr_leaf (pr_il _ _)) (pr_leaf (pr_inv _ _ _ GX12_isPlan _))) (pr_node (pr_leaf (pr_zeq _ _)) (pr_node (pr_leaf (pr_al _ _)) (pr_leaf (pr_gI _ _ _)))))) (pr_node (pr_node (pr_node (pr_leaf (pr_zeq _ _)) (pr_leaf (pr_il _ _))) (pr_node (pr_leaf (pr_i2l _)) (pr_leaf (pr_lc _ _)))) (pr_node (pr_node (pr_leaf (pr_lc _ _)) (pr_leaf (pr_ist _ _ GX12_isIn _))) (pr_node (pr_leaf (pr_zne _ _)) (pr_node (pr_leaf (pr_ic _ _)) (pr_leaf (pr_iret))))))) (pr_node (pr_node (pr_node (pr_node (pr_leaf (pr_al _ _)) (pr_leaf (pr_gR _ _ _))) (pr_node (pr_leaf (pr_al _ _)) (pr_leaf (pr_gR _ _ _)))) (pr_node (pr_node (pr_leaf (pr_ist _ _ GX12_copy _)) (pr_leaf (pr_ic _ _))) (pr_node (pr_leaf (pr_is _ _)) (pr_node (pr_leaf (pr_il _ _)) (pr_leaf (pr_al _ _)))))) (pr_node (pr_node (pr_node (pr_leaf (pr_gR _ _ _)) (pr_leaf (pr_il _ _))) (pr_node (pr_leaf (pr_iald _)) (pr_node (pr_leaf (pr_cge _ _)) (pr_leaf (pr_al _ _))))) (pr_node (pr_node (pr_leaf (pr_al _ _)) (pr_leaf (pr_gR _ _ _))) (pr_node (pr_leaf (pr_ic _ _)) (pr_node (pr_leaf (pr_ic _ _)) (pr_leaf (pr_il _ _)))))))) (pr_node (pr_node (pr_node (pr_node (pr_node (pr_leaf (pr_imul _)) (pr_leaf (pr_il _ _))) (pr_node (pr_leaf (pr_iadd _)) (pr_leaf (pr_imul _)))) (pr_node (pr_node (pr_leaf (pr_inv _ _ _ GX12_canStep _)) (pr_leaf (pr_zeq _ _))) (pr_node (pr_leaf (pr_al _ _)) (pr_node (pr_leaf (pr_al _ _)) (pr_leaf (pr_gR _ _ _)))))) (pr_node (pr_node (pr_node (pr_leaf (pr_ic _ _)) (pr_leaf (pr_ic _ _))) (pr_node (pr_leaf (pr_il _ _)) (pr_leaf (pr_imul _)))) (pr_node (pr_node (pr_leaf (pr_il _ _)) (pr_leaf (pr_iadd _))) (pr_node (pr_leaf (pr_imul _)) (pr_node (pr_leaf (pr_inv _ _ _ GX12_steps _)) (pr_leaf (pr_inc _ _ _))))))) (pr_node (pr_node (pr_node (pr_node (pr_leaf (pr_goto _)) (pr_leaf (pr_il _ _))) (pr_node (pr_leaf (pr_ic _ _)) (pr_leaf (pr_cne _ _)))) (pr_node (pr_node (pr_leaf (pr_al _ _)) (pr_leaf (pr_gR _ _ _))) (pr_node (pr_leaf (pr_ic _ _)) (pr_node (pr_leaf (pr_iald _)) (pr_leaf (pr_iret)))))) (pr_node (pr_node (pr_node (pr_leaf (pr_il _ _)) (pr_leaf (pr_al _ _))) (pr_node (pr_leaf (pr_gR _ _ _)) (pr_node (pr_leaf (pr_il _ _)) (pr_leaf (pr_iald _))))) (pr_node (pr_node (pr_leaf (pr_cne _ _)) (pr_leaf (pr_ic _ _))) (pr_node (pr_leaf (pr_goto _)) (pr_node (pr_leaf (pr_il _ _)) (pr_leaf (pr_iret)))))))))
noncomputable def FX12_run : List EV → Hp → Option (RV × Hp) := Fm kX12_run 4
theorem CX12_run : Con yX12_run cX12_run 4 (some .int) 93 2294 FX12_run := con_of (own := RX12) rfl (by decide +kernel) sX12_run pX12_run (fun z => by cases z)
theorem GX12_run : Gr FX12_run := Gr_Fm pX12_run 4
theorem dX12_perform_0 : decode cX12_perform 0 = .ok (.aload_n 0, 1) := by decide +kernel
theorem dX12_perform_1 : decode cX12_perform 1 = .ok (.iconst 0, 1) := by decide +kernel
theorem dX12_perform_2 : decode cX12_perform 2 = .ok (.putfield 105, 3) := by decide +kernel
theorem dX12_perform_5 : decode cX12_perform 5 = .ok (.aload_n 0, 1) := by decide +kernel
theorem dX12_perform_6 : decode cX12_perform 6 = .ok (.iload_n 1, 1) := by decide +kernel
theorem dX12_perform_7 : decode cX12_perform 7 = .ok (.invokevirtual 409, 3) := by decide +kernel
theorem dX12_perform_10 : decode cX12_perform 10 = .ok (.ifCond .eq 10, 3) := by decide +kernel
theorem dX12_perform_13 : decode cX12_perform 13 = .ok (.aload_n 0, 1) := by decide +kernel
theorem dX12_perform_14 : decode cX12_perform 14 = .ok (.getfield 302, 3) := by decide +kernel
theorem dX12_perform_17 : decode cX12_perform 17 = .ok (.ifCond .ne 5, 3) := by decide +kernel
theorem dX12_perform_20 : decode cX12_perform 20 = .ok (.iconst (-1), 1) := by decide +kernel
theorem dX12_perform_21 : decode cX12_perform 21 = .ok (.ireturn, 1) := by decide +kernel
theorem dX12_perform_22 : decode cX12_perform 22 = .ok (.iconst 0, 1) := by decide +kernel
theorem dX12_perform_23 : decode cX12_perform 23 = .ok (.istore_n 2, 1) := by decide +kernel
theorem dX12_perform_24 : decode cX12_perform 24 = .ok (.iload_n 2, 1) := by decide +kernel
theorem dX12_perform_25 : decode cX12_perform 25 = .ok (.aload_n 0, 1) := by decide +kernel
theorem dX12_perform_26 : decode cX12_perform 26 = .ok (.getfield 58, 3) := by decide +kernel
theorem dX12_perform_29 : decode cX12_perform 29 = .ok (.iload_n 1, 1) := by decide +kernel
theorem dX12_perform_30 : decode cX12_perform 30 = .ok (.iaload, 1) := by decide +kernel
theorem dX12_perform_31 : decode cX12_perform 31 = .ok (.if_icmp .ge 48, 3) := by decide +kernel
theorem dX12_perform_34 : decode cX12_perform 34 = .ok (.aload_n 0, 1) := by decide +kernel
theorem dX12_perform_35 : decode cX12_perform 35 = .ok (.aload_n 0, 1) := by decide +kernel
theorem dX12_perform_36 : decode cX12_perform 36 = .ok (.getfield 61, 3) := by decide +kernel
theorem dX12_perform_39 : decode cX12_perform 39 = .ok (.iconst 3, 1) := by decide +kernel
theorem dX12_perform_40 : decode cX12_perform 40 = .ok (.bipush 16, 2) := by decide +kernel
theorem dX12_perform_42 : decode cX12_perform 42 = .ok (.iload_n 1, 1) := by decide +kernel
theorem dX12_perform_43 : decode cX12_perform 43 = .ok (.imul, 1) := by decide +kernel
theorem dX12_perform_44 : decode cX12_perform 44 = .ok (.iload_n 2, 1) := by decide +kernel
theorem dX12_perform_45 : decode cX12_perform 45 = .ok (.iadd, 1) := by decide +kernel
theorem dX12_perform_46 : decode cX12_perform 46 = .ok (.imul, 1) := by decide +kernel
theorem dX12_perform_47 : decode cX12_perform 47 = .ok (.invokevirtual 417, 3) := by decide +kernel
theorem dX12_perform_50 : decode cX12_perform 50 = .ok (.ifCond .eq 29, 3) := by decide +kernel
theorem dX12_perform_53 : decode cX12_perform 53 = .ok (.aload_n 0, 1) := by decide +kernel
theorem dX12_perform_54 : decode cX12_perform 54 = .ok (.invokevirtual 367, 3) := by decide +kernel
theorem dX12_perform_57 : decode cX12_perform 57 = .ok (.aload_n 0, 1) := by decide +kernel
theorem dX12_perform_58 : decode cX12_perform 58 = .ok (.aload_n 0, 1) := by decide +kernel
theorem dX12_perform_59 : decode cX12_perform 59 = .ok (.getfield 61, 3) := by decide +kernel
theorem dX12_perform_62 : decode cX12_perform 62 = .ok (.iconst 3, 1) := by decide +kernel
theorem dX12_perform_63 : decode cX12_perform 63 = .ok (.bipush 16, 2) := by decide +kernel
theorem dX12_perform_65 : decode cX12_perform 65 = .ok (.iload_n 1, 1) := by decide +kernel
theorem dX12_perform_66 : decode cX12_perform 66 = .ok (.imul, 1) := by decide +kernel
theorem dX12_perform_67 : decode cX12_perform 67 = .ok (.iload_n 2, 1) := by decide +kernel
theorem dX12_perform_68 : decode cX12_perform 68 = .ok (.iadd, 1) := by decide +kernel
theorem dX12_perform_69 : decode cX12_perform 69 = .ok (.imul, 1) := by decide +kernel
theorem dX12_perform_70 : decode cX12_perform 70 = .ok (.invokevirtual 420, 3) := by decide +kernel
theorem dX12_perform_73 : decode cX12_perform 73 = .ok (.iinc 2 1, 3) := by decide +kernel
theorem dX12_perform_76 : decode cX12_perform 76 = .ok (.goto (-52), 3) := by decide +kernel
theorem dX12_perform_79 : decode cX12_perform 79 = .ok (.iload_n 2, 1) := by decide +kernel
theorem dX12_perform_80 : decode cX12_perform 80 = .ok (.ireturn, 1) := by decide +kernel
noncomputable def kX12_perform : Nat → Op := (nodeC 39 (nodeC 21 (nodeC 7 (nodeC 2 (nodeC 0 (leafC 0 (o_al 0 1)) (nodeC 1 (leafC 1 (o_ic (0) 2)) (leafC 2 (o_pI 12 0 5)))) (nodeC 5 (leafC 5 (o_al 0 6)) (nodeC 6 (leafC 6 (o_il 1 7)) (leafC 7 (o_inv 1 12 1 FX12_isPlan 10))))) (nodeC 14 (nodeC 10 (leafC 10 (o_zeq 20 13)) (nodeC 13 (leafC 13 (o_al 0 14)) (leafC 14 (o_gI 12 27 17)))) (nodeC 17 (leafC 17 (o_zne 22 20)) (nodeC 20 (leafC 20 (o_ic (-1) 21)) (leafC 21 (o_iret)))))) (nodeC 29 (nodeC 24 (nodeC 22 (leafC 22 (o_ic (0) 23)) (nodeC 23 (leafC 23 (o_is 2 24)) (leafC 24 (o_il 2 25)))) (nodeC 25 (leafC 25 (o_al 0 26)) (nodeC 26 (leafC 26 (o_gR 12 25 29)) (leafC 29 (o_il 1 30))))) (nodeC 34 (nodeC 30 (leafC 30 (o_iald 31)) (nodeC 31 (leafC 31 (o_cge 79 34)) (leafC 34 (o_al 0 35)))) (nodeC 35 (leafC 35 (o_al 0 36)) (nodeC 36 (leafC 36 (o_gR 12 32 39)) (leafC 39 (o_ic (3) 40))))))) (nodeC 58 (nodeC 46 (nodeC 43 (nodeC 40 (leafC 40 (o_ic (16) 42)) (nodeC 42 (leafC 42 (o_il 1 43)) (leafC 43 (o_imul 44)))) (nodeC 44 (leafC 44 (o_il 2 45)) (nodeC 45 (leafC 45 (o_iadd 46)) (leafC 46 (o_imul 47))))) (nodeC 53 (nodeC 47 (leafC 47 (o_inv 2 12 1 FX12_canStep 50)) (nodeC 50 (leafC 50 (o_zeq 79 53)) (leafC 53 (o_al 0 54)))) (nodeC 54 (leafC 54 (o_inv 0 12 0 FX12_remember 57)) (nodeC 57 (leafC 57 (o_al 0 58)) (leafC 58 (o_al 0 59)))))) (nodeC 67 (nodeC 63 (nodeC 59 (leafC 59 (o_gR 12 32 62)) (nodeC 62 (leafC 62 (o_ic (3) 63)) (leafC 63 (o_ic (16) 65)))) (nodeC 65 (leafC 65 (o_il 1 66)) (nodeC 66 (leafC 66 (o_imul 67)) (leafC 67 (o_il 2 68))))) (nodeC 70 (nodeC 68 (leafC 68 (o_iadd 69)) (nodeC 69 (leafC 69 (o_imul 70)) (leafC 70 (o_inv 2 12 0 FX12_steps 73)))) (nodeC 76 (nodeC 73 (leafC 73 (o_inc 2 (1) 76)) (leafC 76 (o_goto 24))) (nodeC 79 (leafC 79 (o_il 2 80)) (leafC 80 (o_iret))))))))
theorem sX12_perform : ∀ pc, SoundOp cX12_perform RX12 3 (some .int) false 93 2294 pc (kX12_perform pc) := (so_node (so_node (so_node (so_node (so_node (so_leaf (so_aload_n dX12_perform_0 rfl)) (so_node (so_leaf (so_iconst dX12_perform_1 (by decide))) (so_leaf (so_pI (by decide) (by decide) wC12 wf_RX12_105 (Or.inl rfl) rfl dX12_perform_2)))) (so_node (so_leaf (so_aload_n dX12_perform_5 rfl)) (so_node (so_leaf (so_iload_n dX12_perform_6 rfl)) (so_leaf (so_inv CX12_isPlan (by decide) rfl wm_RX12_409 win_X12_isPlan wse_X12_isPlan wn_12 wc_X12_isPlan (by decide +kernel) (by decide) (by decide) dX12_perform_7))))) (so_node (so_node (so_leaf (so_zeq dX12_perform_10 (by decide))) (so_node (so_leaf (so_aload_n dX12_perform_13 rfl)) (so_leaf (so_gI (by decide) (by decide) wC12 wf_RX12_302 (fun _ _ _ => rfl) dX12_perform_14)))) (so_node (so_leaf (so_zne dX12_perform_17 (by decide))) (so_node (so_leaf (so_iconst dX12_perform_20 (by decide))) (so_leaf (so_iret dX12_perform_21 rfl)))))) (so_node (so_node (so_node (so_leaf (so_iconst dX12_perform_22 (by decide))) (so_node (so_leaf (so_istore_n dX12_perform_23 rfl (by decide))) (so_leaf (so_iload_n dX12_perform_24 rfl)))) (so_node (so_leaf (so_aload_n dX12_perform_25 rfl)) (so_node (so_leaf (so_gR (by decide) (by decide) wC12 wf_RX12_58 (fun _ _ _ => rfl) dX12_perform_26)) (so_leaf (so_iload_n dX12_perform_29 rfl))))) (so_node (so_node (so_leaf (so_iald dX12_perform_30)) (so_node (so_leaf (so_cge dX12_perform_31 (by decide))) (so_leaf (so_aload_n dX12_perform_34 rfl)))) (so_node (so_leaf (so_aload_n dX12_perform_35 rfl)) (so_node (so_leaf (so_gR (by decide) (by decide) wC12 wf_RX12_61 (fun _ _ _ => rfl) dX12_perform_36)) (so_leaf (so_iconst dX12_perform_39 (by decide)))))))) (so_node (so_node (so_node (so_node (so_leaf (so_bipush dX12_perform_40 (by decide))) (so_node (so_leaf (so_iload_n dX12_perform_42 rfl)) (so_leaf (so_imul dX12_perform_43)))) (so_node (so_leaf (so_iload_n dX12_perform_44 rfl)) (so_node (so_leaf (so_iadd dX12_perform_45)) (so_leaf (so_imul dX12_perform_46))))) (so_node (so_node (so_leaf (so_inv CX12_canStep (by decide) rfl wm_RX12_417 win_X12_canStep wse_X12_canStep wn_12 wc_X12_canStep (by decide +kernel) (by decide) (by decide) dX12_perform_47)) (so_node (so_leaf (so_zeq dX12_perform_50 (by decide))) (so_leaf (so_aload_n dX12_perform_53 rfl)))) (so_node (so_leaf (so_inv CX12_remember (by decide) rfl wm_RX12_367 win_X12_remember wse_X12_remember wn_12 wc_X12_remember (by decide +kernel) (by decide) (by decide) dX12_perform_54)) (so_node (so_leaf (so_aload_n dX12_perform_57 rfl)) (so_leaf (so_aload_n dX12_perform_58 rfl)))))) (so_node (so_node (so_node (so_leaf (so_gR (by decide) (by decide) wC12 wf_RX12_61 (fun _ _ _ => rfl) dX12_perform_59)) (so_node (so_leaf (so_iconst dX12_perform_62 (by decide))) (so_leaf (so_bipush dX12_perform_63 (by decide))))) (so_node (so_leaf (so_iload_n dX12_perform_65 rfl)) (so_node (so_leaf (so_imul dX12_perform_66)) (so_leaf (so_iload_n dX12_perform_67 rfl))))) (so_node (so_node (so_leaf (so_iadd dX12_perform_68)) (so_node (so_leaf (so_imul dX12_perform_69)) (so_leaf (so_inv CX12_steps (by decide) rfl wm_RX12_420 win_X12_steps wse_X12_steps wn_12 wc_X12_steps (by decide +kernel) (by decide) (by decide) dX12_perform_70)))) (so_node (so_node (so_leaf (so_iinc dX12_perform_73 (by decide) (by decide))) (so_leaf (so_goto dX12_perform_76 (by decide)))) (so_node (so_leaf (so_iload_n dX12_perform_79 rfl)) (so_leaf (so_iret dX12_perform_80 rfl))))))))
theorem pX12_perform : ∀ pc, Pr (kX12_perform pc) := (pr_node (pr_node (pr_node (pr_node (pr_node (pr_leaf (pr_al _ _)) (pr_node (pr_leaf (pr_ic _ _)) (pr_leaf (pr_pI _ _ _)))) (pr_node (pr_leaf (pr_al _ _)) (pr_node (pr_leaf (pr_il _ _)) (pr_leaf (pr_inv _ _ _ GX12_isPlan _))))) (pr_node (pr_node (pr_leaf (pr_zeq _ _)) (pr_node (pr_leaf (pr_al _ _)) (pr_leaf (pr_gI _ _ _)))) (pr_node (pr_leaf (pr_zne _ _)) (pr_node (pr_leaf (pr_ic _ _)) (pr_leaf (pr_iret)))))) (pr_node (pr_node (pr_node (pr_leaf (pr_ic _ _)) (pr_node (pr_leaf (pr_is _ _)) (pr_leaf (pr_il _ _)))) (pr_node (pr_leaf (pr_al _ _)) (pr_node (pr_leaf (pr_gR _ _ _)) (pr_leaf (pr_il _ _))))) (pr_node (pr_node (pr_leaf (pr_iald _)) (pr_node (pr_leaf (pr_cge _ _)) (pr_leaf (pr_al _ _)))) (pr_node (pr_leaf (pr_al _ _)) (pr_node (pr_leaf (pr_gR _ _ _)) (pr_leaf (pr_ic _ _))))))) (pr_node (pr_node (pr_node (pr_node (pr_leaf (pr_ic _ _)) (pr_node (pr_leaf (pr_il _ _)) (pr_leaf (pr_imul _)))) (pr_node (pr_leaf (pr_il _ _)) (pr_node (pr_leaf (pr_iadd _)) (pr_leaf (pr_imul _))))) (pr_node (pr_node (pr_leaf (pr_inv _ _ _ GX12_canStep _)) (pr_node (pr_leaf (pr_zeq _ _)) (pr_leaf (pr_al _ _)))) (pr_node (pr_leaf (pr_inv _ _ _ GX12_remember _)) (pr_node (pr_leaf (pr_al _ _)) (pr_leaf (pr_al _ _)))))) (pr_node (pr_node (pr_node (pr_leaf (pr_gR _ _ _)) (pr_node (pr_leaf (pr_ic _ _)) (pr_leaf (pr_ic _ _)))) (pr_node (pr_leaf (pr_il _ _)) (pr_node (pr_leaf (pr_imul _)) (pr_leaf (pr_il _ _))))) (pr_node (pr_node (pr_leaf (pr_iadd _)) (pr_node (pr_leaf (pr_imul _)) (pr_leaf (pr_inv _ _ _ GX12_steps _)))) (pr_node (pr_node (pr_leaf (pr_inc _ _ _)) (pr_leaf (pr_goto _))) (pr_node (pr_leaf (pr_il _ _)) (pr_leaf (pr_iret))))))))
noncomputable def FX12_perform : List EV → Hp → Option (RV × Hp) := Fm kX12_perform 3
theorem CX12_perform : Con yX12_perform cX12_perform 3 (some .int) 93 2294 FX12_perform := con_of (own := RX12) rfl (by decide +kernel) sX12_perform pX12_perform (fun z => by cases z)
theorem GX12_perform : Gr FX12_perform := Gr_Fm pX12_perform 3
theorem dX12_goWeaving_0 : decode cX12_goWeaving 0 = .ok (.iload_n 1, 1) := by decide +kernel
theorem dX12_goWeaving_1 : decode cX12_goWeaving 1 = .ok (.ifCond .ne 44, 3) := by decide +kernel
theorem dX12_goWeaving_4 : decode cX12_goWeaving 4 = .ok (.aload_n 0, 1) := by decide +kernel
theorem dX12_goWeaving_5 : decode cX12_goWeaving 5 = .ok (.getfield 423, 3) := by decide +kernel
theorem dX12_goWeaving_8 : decode cX12_goWeaving 8 = .ok (.iconst (-1), 1) := by decide +kernel
theorem dX12_goWeaving_9 : decode cX12_goWeaving 9 = .ok (.if_icmp .eq 18, 3) := by decide +kernel
theorem dX12_goWeaving_12 : decode cX12_goWeaving 12 = .ok (.iload 6, 2) := by decide +kernel
theorem dX12_goWeaving_14 : decode cX12_goWeaving 14 = .ok (.iload_n 2, 1) := by decide +kernel
theorem dX12_goWeaving_15 : decode cX12_goWeaving 15 = .ok (.iload 7, 2) := by decide +kernel
theorem dX12_goWeaving_17 : decode cX12_goWeaving 17 = .ok (.imul, 1) := by decide +kernel
theorem dX12_goWeaving_18 : decode cX12_goWeaving 18 = .ok (.iadd, 1) := by decide +kernel
theorem dX12_goWeaving_19 : decode cX12_goWeaving 19 = .ok (.aload_n 0, 1) := by decide +kernel
theorem dX12_goWeaving_20 : decode cX12_goWeaving 20 = .ok (.getfield 423, 3) := by decide +kernel
theorem dX12_goWeaving_23 : decode cX12_goWeaving 23 = .ok (.if_icmp .gt 4, 3) := by decide +kernel
theorem dX12_goWeaving_26 : decode cX12_goWeaving 26 = .ok (.return_, 1) := by decide +kernel
theorem dX12_goWeaving_27 : decode cX12_goWeaving 27 = .ok (.aload_n 0, 1) := by decide +kernel
theorem dX12_goWeaving_28 : decode cX12_goWeaving 28 = .ok (.iload 6, 2) := by decide +kernel
theorem dX12_goWeaving_30 : decode cX12_goWeaving 30 = .ok (.iload_n 2, 1) := by decide +kernel
theorem dX12_goWeaving_31 : decode cX12_goWeaving 31 = .ok (.iload 7, 2) := by decide +kernel
theorem dX12_goWeaving_33 : decode cX12_goWeaving 33 = .ok (.imul, 1) := by decide +kernel
theorem dX12_goWeaving_34 : decode cX12_goWeaving 34 = .ok (.iadd, 1) := by decide +kernel
theorem dX12_goWeaving_35 : decode cX12_goWeaving 35 = .ok (.putfield 423, 3) := by decide +kernel
theorem dX12_goWeaving_38 : decode cX12_goWeaving 38 = .ok (.aload_n 0, 1) := by decide +kernel
theorem dX12_goWeaving_39 : decode cX12_goWeaving 39 = .ok (.iload 10, 2) := by decide +kernel
theorem dX12_goWeaving_41 : decode cX12_goWeaving 41 = .ok (.putfield 426, 3) := by decide +kernel
theorem dX12_goWeaving_44 : decode cX12_goWeaving 44 = .ok (.return_, 1) := by decide +kernel
theorem dX12_goWeaving_45 : decode cX12_goWeaving 45 = .ok (.iconst 0, 1) := by decide +kernel
theorem dX12_goWeaving_46 : decode cX12_goWeaving 46 = .ok (.istore 11, 2) := by decide +kernel
theorem dX12_goWeaving_48 : decode cX12_goWeaving 48 = .ok (.iload 11, 2) := by decide +kernel
theorem dX12_goWeaving_50 : decode cX12_goWeaving 50 = .ok (.iconst 3, 1) := by decide +kernel
theorem dX12_goWeaving_51 : decode cX12_goWeaving 51 = .ok (.if_icmp .ge 243, 3) := by decide +kernel
theorem dX12_goWeaving_54 : decode cX12_goWeaving 54 = .ok (.iload 11, 2) := by decide +kernel
theorem dX12_goWeaving_56 : decode cX12_goWeaving 56 = .ok (.iconst 1, 1) := by decide +kernel
theorem dX12_goWeaving_57 : decode cX12_goWeaving 57 = .ok (.if_icmp .ne 19, 3) := by decide +kernel
theorem dX12_goWeaving_60 : decode cX12_goWeaving 60 = .ok (.aload_n 0, 1) := by decide +kernel
theorem dX12_goWeaving_61 : decode cX12_goWeaving 61 = .ok (.iload_n 3, 1) := by decide +kernel
theorem dX12_goWeaving_62 : decode cX12_goWeaving 62 = .ok (.iload 5, 2) := by decide +kernel
theorem dX12_goWeaving_64 : decode cX12_goWeaving 64 = .ok (.iload 8, 2) := by decide +kernel
theorem dX12_goWeaving_66 : decode cX12_goWeaving 66 = .ok (.iload 9, 2) := by decide +kernel
theorem dX12_goWeaving_68 : decode cX12_goWeaving 68 = .ok (.iload 6, 2) := by decide +kernel
theorem dX12_goWeaving_70 : decode cX12_goWeaving 70 = .ok (.invokevirtual 321, 3) := by decide +kernel
theorem dX12_goWeaving_73 : decode cX12_goWeaving 73 = .ok (.goto 4, 3) := by decide +kernel
theorem dX12_goWeaving_76 : decode cX12_goWeaving 76 = .ok (.iconst 0, 1) := by decide +kernel
theorem dX12_goWeaving_77 : decode cX12_goWeaving 77 = .ok (.istore 12, 2) := by decide +kernel
theorem dX12_goWeaving_79 : decode cX12_goWeaving 79 = .ok (.iload 11, 2) := by decide +kernel
theorem dX12_goWeaving_81 : decode cX12_goWeaving 81 = .ok (.iconst 1, 1) := by decide +kernel
theorem dX12_goWeaving_82 : decode cX12_goWeaving 82 = .ok (.if_icmp .ne 25, 3) := by decide +kernel
theorem dX12_goWeaving_85 : decode cX12_goWeaving 85 = .ok (.iload 4, 2) := by decide +kernel
theorem dX12_goWeaving_87 : decode cX12_goWeaving 87 = .ok (.iconst 1, 1) := by decide +kernel
theorem dX12_goWeaving_88 : decode cX12_goWeaving 88 = .ok (.if_icmp .eq 200, 3) := by decide +kernel
theorem dX12_goWeaving_91 : decode cX12_goWeaving 91 = .ok (.iload 8, 2) := by decide +kernel
theorem dX12_goWeaving_93 : decode cX12_goWeaving 93 = .ok (.bipush 60, 2) := by decide +kernel
theorem dX12_goWeaving_95 : decode cX12_goWeaving 95 = .ok (.if_icmp .eq 193, 3) := by decide +kernel
theorem dX12_goWeaving_98 : decode cX12_goWeaving 98 = .ok (.iload_n 3, 1) := by decide +kernel
theorem dX12_goWeaving_99 : decode cX12_goWeaving 99 = .ok (.iload 12, 2) := by decide +kernel
theorem dX12_goWeaving_101 : decode cX12_goWeaving 101 = .ok (.if_icmp .gt 6, 3) := by decide +kernel
theorem dX12_goWeaving_104 : decode cX12_goWeaving 104 = .ok (.goto 184, 3) := by decide +kernel
theorem dX12_goWeaving_107 : decode cX12_goWeaving 107 = .ok (.iload 11, 2) := by decide +kernel
theorem dX12_goWeaving_109 : decode cX12_goWeaving 109 = .ok (.ifCond .ne 14, 3) := by decide +kernel
theorem dX12_goWeaving_112 : decode cX12_goWeaving 112 = .ok (.iconst 0, 1) := by decide +kernel
theorem dX12_goWeaving_113 : decode cX12_goWeaving 113 = .ok (.iload 5, 2) := by decide +kernel
theorem dX12_goWeaving_115 : decode cX12_goWeaving 115 = .ok (.iconst 1, 1) := by decide +kernel
theorem dX12_goWeaving_116 : decode cX12_goWeaving 116 = .ok (.isub, 1) := by decide +kernel
theorem dX12_goWeaving_117 : decode cX12_goWeaving 117 = .ok (.invokestatic 319, 3) := by decide +kernel
theorem dX12_goWeaving_120 : decode cX12_goWeaving 120 = .ok (.goto 27, 3) := by decide +kernel
theorem dX12_goWeaving_123 : decode cX12_goWeaving 123 = .ok (.iload 11, 2) := by decide +kernel
theorem dX12_goWeaving_125 : decode cX12_goWeaving 125 = .ok (.iconst 1, 1) := by decide +kernel
theorem dX12_goWeaving_126 : decode cX12_goWeaving 126 = .ok (.if_icmp .ne 19, 3) := by decide +kernel
theorem dX12_goWeaving_129 : decode cX12_goWeaving 129 = .ok (.aload_n 0, 1) := by decide +kernel
theorem dX12_goWeaving_130 : decode cX12_goWeaving 130 = .ok (.getfield 61, 3) := by decide +kernel
theorem dX12_goWeaving_133 : decode cX12_goWeaving 133 = .ok (.iconst 3, 1) := by decide +kernel
theorem dX12_goWeaving_134 : decode cX12_goWeaving 134 = .ok (.iaload, 1) := by decide +kernel
theorem dX12_goWeaving_135 : decode cX12_goWeaving 135 = .ok (.ifCond .ne 10, 3) := by decide +kernel
theorem dX12_goWeaving_138 : decode cX12_goWeaving 138 = .ok (.iload 5, 2) := by decide +kernel
theorem dX12_goWeaving_140 : decode cX12_goWeaving 140 = .ok (.iconst 1, 1) := by decide +kernel
theorem dX12_goWeaving_141 : decode cX12_goWeaving 141 = .ok (.iadd, 1) := by decide +kernel
theorem dX12_goWeaving_142 : decode cX12_goWeaving 142 = .ok (.goto 5, 3) := by decide +kernel
theorem dX12_goWeaving_145 : decode cX12_goWeaving 145 = .ok (.iload 5, 2) := by decide +kernel
theorem dX12_goWeaving_147 : decode cX12_goWeaving 147 = .ok (.istore 13, 2) := by decide +kernel
theorem dX12_goWeaving_149 : decode cX12_goWeaving 149 = .ok (.iload 11, 2) := by decide +kernel
theorem dX12_goWeaving_151 : decode cX12_goWeaving 151 = .ok (.iconst 2, 1) := by decide +kernel
theorem dX12_goWeaving_152 : decode cX12_goWeaving 152 = .ok (.if_icmp .ne 21, 3) := by decide +kernel
theorem dX12_goWeaving_155 : decode cX12_goWeaving 155 = .ok (.sipush 9999, 3) := by decide +kernel
theorem dX12_goWeaving_158 : decode cX12_goWeaving 158 = .ok (.iload 6, 2) := by decide +kernel
theorem dX12_goWeaving_160 : decode cX12_goWeaving 160 = .ok (.aload_n 0, 1) := by decide +kernel
theorem dX12_goWeaving_161 : decode cX12_goWeaving 161 = .ok (.getfield 37, 3) := by decide +kernel
theorem dX12_goWeaving_164 : decode cX12_goWeaving 164 = .ok (.iconst 4, 1) := by decide +kernel
theorem dX12_goWeaving_165 : decode cX12_goWeaving 165 = .ok (.iaload, 1) := by decide +kernel
theorem dX12_goWeaving_166 : decode cX12_goWeaving 166 = .ok (.iadd, 1) := by decide +kernel
theorem dX12_goWeaving_167 : decode cX12_goWeaving 167 = .ok (.invokestatic 317, 3) := by decide +kernel
theorem dX12_goWeaving_170 : decode cX12_goWeaving 170 = .ok (.goto 5, 3) := by decide +kernel
theorem dX12_goWeaving_173 : decode cX12_goWeaving 173 = .ok (.iload 6, 2) := by decide +kernel
theorem dX12_goWeaving_175 : decode cX12_goWeaving 175 = .ok (.istore 14, 2) := by decide +kernel
theorem dX12_goWeaving_177 : decode cX12_goWeaving 177 = .ok (.iload 4, 2) := by decide +kernel
theorem dX12_goWeaving_179 : decode cX12_goWeaving 179 = .ok (.iconst 1, 1) := by decide +kernel
theorem dX12_goWeaving_180 : decode cX12_goWeaving 180 = .ok (.if_icmp .eq 15, 3) := by decide +kernel
theorem dX12_goWeaving_183 : decode cX12_goWeaving 183 = .ok (.iload 13, 2) := by decide +kernel
theorem dX12_goWeaving_185 : decode cX12_goWeaving 185 = .ok (.aload_n 0, 1) := by decide +kernel
theorem dX12_goWeaving_186 : decode cX12_goWeaving 186 = .ok (.getfield 37, 3) := by decide +kernel
theorem dX12_goWeaving_189 : decode cX12_goWeaving 189 = .ok (.bipush 6, 2) := by decide +kernel
theorem dX12_goWeaving_191 : decode cX12_goWeaving 191 = .ok (.iaload, 1) := by decide +kernel
theorem dX12_goWeaving_192 : decode cX12_goWeaving 192 = .ok (.if_icmp .lt 7, 3) := by decide +kernel
theorem dX12_goWeaving_195 : decode cX12_goWeaving 195 = .ok (.iconst 1, 1) := by decide +kernel
theorem dX12_goWeaving_196 : decode cX12_goWeaving 196 = .ok (.goto 4, 3) := by decide +kernel
theorem dX12_goWeaving_199 : decode cX12_goWeaving 199 = .ok (.iconst 0, 1) := by decide +kernel
theorem dX12_goWeaving_200 : decode cX12_goWeaving 200 = .ok (.istore 15, 2) := by decide +kernel
theorem dX12_goWeaving_202 : decode cX12_goWeaving 202 = .ok (.iload 15, 2) := by decide +kernel
theorem dX12_goWeaving_204 : decode cX12_goWeaving 204 = .ok (.iconst 1, 1) := by decide +kernel
theorem dX12_goWeaving_205 : decode cX12_goWeaving 205 = .ok (.if_icmp .ne 10, 3) := by decide +kernel
theorem dX12_goWeaving_208 : decode cX12_goWeaving 208 = .ok (.iload_n 3, 1) := by decide +kernel
theorem dX12_goWeaving_209 : decode cX12_goWeaving 209 = .ok (.iload 12, 2) := by decide +kernel
theorem dX12_goWeaving_211 : decode cX12_goWeaving 211 = .ok (.isub, 1) := by decide +kernel
theorem dX12_goWeaving_212 : decode cX12_goWeaving 212 = .ok (.goto 23, 3) := by decide +kernel
theorem dX12_goWeaving_215 : decode cX12_goWeaving 215 = .ok (.aload_n 0, 1) := by decide +kernel
theorem dX12_goWeaving_216 : decode cX12_goWeaving 216 = .ok (.getfield 37, 3) := by decide +kernel
theorem dX12_goWeaving_219 : decode cX12_goWeaving 219 = .ok (.iconst 1, 1) := by decide +kernel
theorem dX12_goWeaving_220 : decode cX12_goWeaving 220 = .ok (.iaload, 1) := by decide +kernel
theorem dX12_goWeaving_221 : decode cX12_goWeaving 221 = .ok (.iload_n 3, 1) := by decide +kernel
theorem dX12_goWeaving_222 : decode cX12_goWeaving 222 = .ok (.iload 12, 2) := by decide +kernel
theorem dX12_goWeaving_224 : decode cX12_goWeaving 224 = .ok (.isub, 1) := by decide +kernel
theorem dX12_goWeaving_225 : decode cX12_goWeaving 225 = .ok (.aload_n 0, 1) := by decide +kernel
theorem dX12_goWeaving_226 : decode cX12_goWeaving 226 = .ok (.getfield 37, 3) := by decide +kernel
theorem dX12_goWeaving_229 : decode cX12_goWeaving 229 = .ok (.iconst 2, 1) := by decide +kernel
theorem dX12_goWeaving_230 : decode cX12_goWeaving 230 = .ok (.iaload, 1) := by decide +kernel
theorem dX12_goWeaving_231 : decode cX12_goWeaving 231 = .ok (.iadd, 1) := by decide +kernel
theorem dX12_goWeaving_232 : decode cX12_goWeaving 232 = .ok (.invokestatic 317, 3) := by decide +kernel
theorem dX12_goWeaving_235 : decode cX12_goWeaving 235 = .ok (.istore 16, 2) := by decide +kernel
theorem dX12_goWeaving_237 : decode cX12_goWeaving 237 = .ok (.iload 11, 2) := by decide +kernel
theorem dX12_goWeaving_239 : decode cX12_goWeaving 239 = .ok (.iconst 1, 1) := by decide +kernel
theorem dX12_goWeaving_240 : decode cX12_goWeaving 240 = .ok (.if_icmp .ne 7, 3) := by decide +kernel
theorem dX12_goWeaving_243 : decode cX12_goWeaving 243 = .ok (.iconst 1, 1) := by decide +kernel
theorem dX12_goWeaving_244 : decode cX12_goWeaving 244 = .ok (.goto 4, 3) := by decide +kernel
theorem dX12_goWeaving_247 : decode cX12_goWeaving 247 = .ok (.iconst 0, 1) := by decide +kernel
theorem dX12_goWeaving_248 : decode cX12_goWeaving 248 = .ok (.istore 17, 2) := by decide +kernel
theorem dX12_goWeaving_250 : decode cX12_goWeaving 250 = .ok (.aload_n 0, 1) := by decide +kernel
theorem dX12_goWeaving_251 : decode cX12_goWeaving 251 = .ok (.iload_n 1, 1) := by decide +kernel
theorem dX12_goWeaving_252 : decode cX12_goWeaving 252 = .ok (.iconst 1, 1) := by decide +kernel
theorem dX12_goWeaving_253 : decode cX12_goWeaving 253 = .ok (.isub, 1) := by decide +kernel
theorem dX12_goWeaving_254 : decode cX12_goWeaving 254 = .ok (.iload_n 2, 1) := by decide +kernel
theorem dX12_goWeaving_255 : decode cX12_goWeaving 255 = .ok (.iload 16, 2) := by decide +kernel
theorem dX12_goWeaving_257 : decode cX12_goWeaving 257 = .ok (.iload 15, 2) := by decide +kernel
theorem dX12_goWeaving_259 : decode cX12_goWeaving 259 = .ok (.iload 13, 2) := by decide +kernel
theorem dX12_goWeaving_261 : decode cX12_goWeaving 261 = .ok (.iload 14, 2) := by decide +kernel
theorem dX12_goWeaving_263 : decode cX12_goWeaving 263 = .ok (.iload 7, 2) := by decide +kernel
theorem dX12_goWeaving_265 : decode cX12_goWeaving 265 = .ok (.iload 17, 2) := by decide +kernel
theorem dX12_goWeaving_267 : decode cX12_goWeaving 267 = .ok (.iadd, 1) := by decide +kernel
theorem dX12_goWeaving_268 : decode cX12_goWeaving 268 = .ok (.iload 8, 2) := by decide +kernel
theorem dX12_goWeaving_270 : decode cX12_goWeaving 270 = .ok (.iload 17, 2) := by decide +kernel
theorem dX12_goWeaving_272 : decode cX12_goWeaving 272 = .ok (.iadd, 1) := by decide +kernel
theorem dX12_goWeaving_273 : decode cX12_goWeaving 273 = .ok (.iload 9, 2) := by decide +kernel
theorem dX12_goWeaving_275 : decode cX12_goWeaving 275 = .ok (.iconst 1, 1) := by decide +kernel
theorem dX12_goWeaving_276 : decode cX12_goWeaving 276 = .ok (.iadd, 1) := by decide +kernel
theorem dX12_goWeaving_277 : decode cX12_goWeaving 277 = .ok (.bipush 10, 2) := by decide +kernel
theorem dX12_goWeaving_279 : decode cX12_goWeaving 279 = .ok (.iload 10, 2) := by decide +kernel
theorem dX12_goWeaving_281 : decode cX12_goWeaving 281 = .ok (.imul, 1) := by decide +kernel
theorem dX12_goWeaving_282 : decode cX12_goWeaving 282 = .ok (.iload 11, 2) := by decide +kernel
theorem dX12_goWeaving_284 : decode cX12_goWeaving 284 = .ok (.iadd, 1) := by decide +kernel
theorem dX12_goWeaving_285 : decode cX12_goWeaving 285 = .ok (.invokevirtual 429, 3) := by decide +kernel
theorem dX12_goWeaving_288 : decode cX12_goWeaving 288 = .ok (.iinc 11 1, 3) := by decide +kernel
theorem dX12_goWeaving_291 : decode cX12_goWeaving 291 = .ok (.goto (-243), 3) := by decide +kernel
theorem dX12_goWeaving_294 : decode cX12_goWeaving 294 = .ok (.return_, 1) := by decide +kernel
def gcGw (d : Nat) (g : Nat → List EV → Hp → Option (RV × Hp)) : Prop := Con yX12_goWeaving cX12_goWeaving 18 none (89 + d) (2204 + d * 37) (g 0)
noncomputable def kX12_goWeaving (g : Nat → List EV → Hp → Option (RV × Hp)) : Nat → Op := (nodeC 149 (nodeC 68 (nodeC 33 (nodeC 17 (nodeC 8 (nodeC 1 (nodeC 0 (leafC 0 (o_il 1 1)) (leafC 1 (o_zne 45 4))) (nodeC 4 (leafC 4 (o_al 0 5)) (nodeC 5 (leafC 5 (o_gI 12 39 8)) (leafC 8 (o_ic (-1) 9))))) (nodeC 12 (nodeC 9 (leafC 9 (o_ceq 27 12)) (leafC 12 (o_il 6 14))) (nodeC 14 (leafC 14 (o_il 2 15)) (nodeC 15 (leafC 15 (o_il 7 17)) (leafC 17 (o_imul 18)))))) (nodeC 26 (nodeC 19 (nodeC 18 (leafC 18 (o_iadd 19)) (leafC 19 (o_al 0 20))) (nodeC 20 (leafC 20 (o_gI 12 39 23)) (nodeC 23 (leafC 23 (o_cgt 27 26)) (leafC 26 (o_vret))))) (nodeC 28 (nodeC 27 (leafC 27 (o_al 0 28)) (leafC 28 (o_il 6 30))) (nodeC 30 (leafC 30 (o_il 2 31)) (nodeC 31 (leafC 31 (o_il 7 33)) (leafC 33 (o_imul 34))))))) (nodeC 50 (nodeC 41 (nodeC 35 (nodeC 34 (leafC 34 (o_iadd 35)) (leafC 35 (o_pI 12 39 38))) (nodeC 38 (leafC 38 (o_al 0 39)) (nodeC 39 (leafC 39 (o_il 10 41)) (leafC 41 (o_pI 12 40 44))))) (nodeC 45 (nodeC 44 (leafC 44 (o_vret)) (leafC 45 (o_ic (0) 46))) (nodeC 46 (leafC 46 (o_is 11 48)) (nodeC 48 (leafC 48 (o_mask [12, 13, 14, 15, 16, 17] (o_il 11 50))) (leafC 50 (o_ic (3) 51)))))) (nodeC 60 (nodeC 54 (nodeC 51 (leafC 51 (o_cge 294 54)) (leafC 54 (o_il 11 56))) (nodeC 56 (leafC 56 (o_ic (1) 57)) (nodeC 57 (leafC 57 (o_cne 76 60)) (leafC 60 (o_al 0 61))))) (nodeC 62 (nodeC 61 (leafC 61 (o_il 3 62)) (leafC 62 (o_il 5 64))) (nodeC 64 (leafC 64 (o_il 8 66)) (nodeC 66 (leafC 66 (o_il 9 68)) (leafC 68 (o_il 6 70)))))))) (nodeC 112 (nodeC 88 (nodeC 79 (nodeC 73 (nodeC 70 (leafC 70 (o_inv 5 12 1 FX12_takesBy 73)) (leafC 73 (o_goto 77))) (nodeC 76 (leafC 76 (o_ic (0) 77)) (nodeC 77 (leafC 77 (o_is 12 79)) (leafC 79 (o_il 11 81))))) (nodeC 82 (nodeC 81 (leafC 81 (o_ic (1) 82)) (leafC 82 (o_cne 107 85))) (nodeC 85 (leafC 85 (o_il 4 87)) (nodeC 87 (leafC 87 (o_ic (1) 88)) (leafC 88 (o_ceq 288 91)))))) (nodeC 99 (nodeC 93 (nodeC 91 (leafC 91 (o_il 8 93)) (leafC 93 (o_ic (60) 95))) (nodeC 95 (leafC 95 (o_ceq 288 98)) (nodeC 98 (leafC 98 (o_il 3 99)) (leafC 99 (o_il 12 101))))) (nodeC 104 (nodeC 101 (leafC 101 (o_cgt 107 104)) (leafC 104 (o_goto 288))) (nodeC 107 (leafC 107 (o_mask [13, 14, 15, 16, 17] (o_il 11 109))) (nodeC 109 (leafC 109 (o_zne 123 112)) (leafC 112 (o_ic (0) 113))))))) (nodeC 130 (nodeC 120 (nodeC 115 (nodeC 113 (leafC 113 (o_il 5 115)) (leafC 115 (o_ic (1) 116))) (nodeC 116 (leafC 116 (o_isub 117)) (nodeC 117 (leafC 117 (o_max 120)) (leafC 120 (o_goto 147))))) (nodeC 125 (nodeC 123 (leafC 123 (o_il 11 125)) (leafC 125 (o_ic (1) 126))) (nodeC 126 (leafC 126 (o_cne 145 129)) (nodeC 129 (leafC 129 (o_al 0 130)) (leafC 130 (o_gR 12 32 133)))))) (nodeC 140 (nodeC 134 (nodeC 133 (leafC 133 (o_ic (3) 134)) (leafC 134 (o_iald 135))) (nodeC 135 (leafC 135 (o_zne 145 138)) (nodeC 138 (leafC 138 (o_il 5 140)) (leafC 140 (o_ic (1) 141))))) (nodeC 142 (nodeC 141 (leafC 141 (o_iadd 142)) (leafC 142 (o_goto 147))) (nodeC 145 (leafC 145 (o_il 5 147)) (nodeC 147 (leafC 147 (o_is 13 149)) (leafC 149 (o_il 11 151))))))))) (nodeC 224 (nodeC 189 (nodeC 167 (nodeC 160 (nodeC 152 (nodeC 151 (leafC 151 (o_ic (2) 152)) (leafC 152 (o_cne 173 155))) (nodeC 155 (leafC 155 (o_ic (9999) 158)) (nodeC 158 (leafC 158 (o_il 6 160)) (leafC 160 (o_al 0 161))))) (nodeC 164 (nodeC 161 (leafC 161 (o_gR 12 18 164)) (leafC 164 (o_ic (4) 165))) (nodeC 165 (leafC 165 (o_iald 166)) (nodeC 166 (leafC 166 (o_iadd 167)) (leafC 167 (o_min 170)))))) (nodeC 179 (nodeC 173 (nodeC 170 (leafC 170 (o_goto 175)) (leafC 173 (o_il 6 175))) (nodeC 175 (leafC 175 (o_mask [14, 15, 16, 17] (o_is 14 177))) (nodeC 177 (leafC 177 (o_il 4 179)) (leafC 179 (o_ic (1) 180))))) (nodeC 183 (nodeC 180 (leafC 180 (o_ceq 195 183)) (leafC 183 (o_il 13 185))) (nodeC 185 (leafC 185 (o_al 0 186)) (nodeC 186 (leafC 186 (o_gR 12 18 189)) (leafC 189 (o_ic (6) 191))))))) (nodeC 208 (nodeC 199 (nodeC 192 (nodeC 191 (leafC 191 (o_iald 192)) (leafC 192 (o_clt 199 195))) (nodeC 195 (leafC 195 (o_ic (1) 196)) (nodeC 196 (leafC 196 (o_goto 200)) (leafC 199 (o_ic (0) 200))))) (nodeC 202 (nodeC 200 (leafC 200 (o_mask [15, 16, 17] (o_is 15 202))) (leafC 202 (o_il 15 204))) (nodeC 204 (leafC 204 (o_ic (1) 205)) (nodeC 205 (leafC 205 (o_cne 215 208)) (leafC 208 (o_il 3 209)))))) (nodeC 216 (nodeC 211 (nodeC 209 (leafC 209 (o_il 12 211)) (leafC 211 (o_isub 212))) (nodeC 212 (leafC 212 (o_goto 235)) (nodeC 215 (leafC 215 (o_al 0 216)) (leafC 216 (o_gR 12 18 219))))) (nodeC 220 (nodeC 219 (leafC 219 (o_ic (1) 220)) (leafC 220 (o_iald 221))) (nodeC 221 (leafC 221 (o_il 3 222)) (nodeC 222 (leafC 222 (o_il 12 224)) (leafC 224 (o_isub 225)))))))) (nodeC 255 (nodeC 240 (nodeC 231 (nodeC 226 (nodeC 225 (leafC 225 (o_al 0 226)) (leafC 226 (o_gR 12 18 229))) (nodeC 229 (leafC 229 (o_ic (2) 230)) (nodeC 230 (leafC 230 (o_iald 231)) (leafC 231 (o_iadd 232))))) (nodeC 235 (nodeC 232 (leafC 232 (o_min 235)) (leafC 235 (o_mask [12, 16, 17] (o_is 16 237)))) (nodeC 237 (leafC 237 (o_il 11 239)) (nodeC 239 (leafC 239 (o_ic (1) 240)) (leafC 240 (o_cne 247 243)))))) (nodeC 250 (nodeC 244 (nodeC 243 (leafC 243 (o_ic (1) 244)) (leafC 244 (o_goto 248))) (nodeC 247 (leafC 247 (o_ic (0) 248)) (nodeC 248 (leafC 248 (o_is 17 250)) (leafC 250 (o_al 0 251))))) (nodeC 252 (nodeC 251 (leafC 251 (o_il 1 252)) (leafC 252 (o_ic (1) 253))) (nodeC 253 (leafC 253 (o_isub 254)) (nodeC 254 (leafC 254 (o_il 2 255)) (leafC 255 (o_il 16 257))))))) (nodeC 273 (nodeC 265 (nodeC 259 (nodeC 257 (leafC 257 (o_il 15 259)) (leafC 259 (o_il 13 261))) (nodeC 261 (leafC 261 (o_il 14 263)) (nodeC 263 (leafC 263 (o_il 7 265)) (leafC 265 (o_il 17 267))))) (nodeC 268 (nodeC 267 (leafC 267 (o_iadd 268)) (leafC 268 (o_il 8 270))) (nodeC 270 (leafC 270 (o_il 17 272)) (nodeC 272 (leafC 272 (o_iadd 273)) (leafC 273 (o_il 9 275)))))) (nodeC 281 (nodeC 276 (nodeC 275 (leafC 275 (o_ic (1) 276)) (leafC 276 (o_iadd 277))) (nodeC 277 (leafC 277 (o_ic (10) 279)) (nodeC 279 (leafC 279 (o_il 10 281)) (leafC 281 (o_imul 282))))) (nodeC 285 (nodeC 282 (leafC 282 (o_il 11 284)) (nodeC 284 (leafC 284 (o_iadd 285)) (leafC 285 (o_inv 10 12 0 (g 0) 288)))) (nodeC 288 (leafC 288 (o_inc 11 (1) 291)) (nodeC 291 (leafC 291 (o_goto 48)) (leafC 294 (o_vret))))))))))
theorem sX12_goWeaving {d : Nat} {g : Nat → List EV → Hp → Option (RV × Hp)} (hC : gcGw d g) : ∀ pc, SoundOp cX12_goWeaving RX12 18 none false (89 + (d + 1)) (2204 + (d + 1) * 37) pc (kX12_goWeaving g pc) := (so_node (so_node (so_node (so_node (so_node (so_node (so_node (so_leaf (so_iload_n dX12_goWeaving_0 rfl)) (so_leaf (so_zne dX12_goWeaving_1 (by decide)))) (so_node (so_leaf (so_aload_n dX12_goWeaving_4 rfl)) (so_node (so_leaf (so_gI (by decide) (by decide) wC12 wf_RX12_423 (fun _ _ _ => rfl) dX12_goWeaving_5)) (so_leaf (so_iconst dX12_goWeaving_8 (by decide)))))) (so_node (so_node (so_leaf (so_ceq dX12_goWeaving_9 (by decide))) (so_leaf (so_iload dX12_goWeaving_12))) (so_node (so_leaf (so_iload_n dX12_goWeaving_14 rfl)) (so_node (so_leaf (so_iload dX12_goWeaving_15)) (so_leaf (so_imul dX12_goWeaving_17)))))) (so_node (so_node (so_node (so_leaf (so_iadd dX12_goWeaving_18)) (so_leaf (so_aload_n dX12_goWeaving_19 rfl))) (so_node (so_leaf (so_gI (by decide) (by decide) wC12 wf_RX12_423 (fun _ _ _ => rfl) dX12_goWeaving_20)) (so_node (so_leaf (so_cgt dX12_goWeaving_23 (by decide))) (so_leaf (so_vret dX12_goWeaving_26 rfl))))) (so_node (so_node (so_leaf (so_aload_n dX12_goWeaving_27 rfl)) (so_leaf (so_iload dX12_goWeaving_28))) (so_node (so_leaf (so_iload_n dX12_goWeaving_30 rfl)) (so_node (so_leaf (so_iload dX12_goWeaving_31)) (so_leaf (so_imul dX12_goWeaving_33))))))) (so_node (so_node (so_node (so_node (so_leaf (so_iadd dX12_goWeaving_34)) (so_leaf (so_pI (by decide) (by decide) wC12 wf_RX12_423 (Or.inl rfl) rfl dX12_goWeaving_35))) (so_node (so_leaf (so_aload_n dX12_goWeaving_38 rfl)) (so_node (so_leaf (so_iload dX12_goWeaving_39)) (so_leaf (so_pI (by decide) (by decide) wC12 wf_RX12_426 (Or.inl rfl) rfl dX12_goWeaving_41))))) (so_node (so_node (so_leaf (so_vret dX12_goWeaving_44 rfl)) (so_leaf (so_iconst dX12_goWeaving_45 (by decide)))) (so_node (so_leaf (so_istore dX12_goWeaving_46 (by decide))) (so_node (so_leaf (so_mask (so_iload dX12_goWeaving_48))) (so_leaf (so_iconst dX12_goWeaving_50 (by decide))))))) (so_node (so_node (so_node (so_leaf (so_cge dX12_goWeaving_51 (by decide))) (so_leaf (so_iload dX12_goWeaving_54))) (so_node (so_leaf (so_iconst dX12_goWeaving_56 (by decide))) (so_node (so_leaf (so_cne dX12_goWeaving_57 (by decide))) (so_leaf (so_aload_n dX12_goWeaving_60 rfl))))) (so_node (so_node (so_leaf (so_iload_n dX12_goWeaving_61 rfl)) (so_leaf (so_iload dX12_goWeaving_62))) (so_node (so_leaf (so_iload dX12_goWeaving_64)) (so_node (so_leaf (so_iload dX12_goWeaving_66)) (so_leaf (so_iload dX12_goWeaving_68)))))))) (so_node (so_node (so_node (so_node (so_node (so_leaf (so_inv CX12_takesBy (by decide) rfl wm_RX12_321 win_X12_takesBy wse_X12_takesBy wn_12 wc_X12_takesBy (by decide +kernel) (by omega) (by omega) dX12_goWeaving_70)) (so_leaf (so_goto dX12_goWeaving_73 (by decide)))) (so_node (so_leaf (so_iconst dX12_goWeaving_76 (by decide))) (so_node (so_leaf (so_istore dX12_goWeaving_77 (by decide))) (so_leaf (so_iload dX12_goWeaving_79))))) (so_node (so_node (so_leaf (so_iconst dX12_goWeaving_81 (by decide))) (so_leaf (so_cne dX12_goWeaving_82 (by decide)))) (so_node (so_leaf (so_iload dX12_goWeaving_85)) (so_node (so_leaf (so_iconst dX12_goWeaving_87 (by decide))) (so_leaf (so_ceq dX12_goWeaving_88 (by decide))))))) (so_node (so_node (so_node (so_leaf (so_iload dX12_goWeaving_91)) (so_leaf (so_bipush dX12_goWeaving_93 (by decide)))) (so_node (so_leaf (so_ceq dX12_goWeaving_95 (by decide))) (so_node (so_leaf (so_iload_n dX12_goWeaving_98 rfl)) (so_leaf (so_iload dX12_goWeaving_99))))) (so_node (so_node (so_leaf (so_cgt dX12_goWeaving_101 (by decide))) (so_leaf (so_goto dX12_goWeaving_104 (by decide)))) (so_node (so_leaf (so_mask (so_iload dX12_goWeaving_107))) (so_node (so_leaf (so_zne dX12_goWeaving_109 (by decide))) (so_leaf (so_iconst dX12_goWeaving_112 (by decide)))))))) (so_node (so_node (so_node (so_node (so_leaf (so_iload dX12_goWeaving_113)) (so_leaf (so_iconst dX12_goWeaving_115 (by decide)))) (so_node (so_leaf (so_isub dX12_goWeaving_116)) (so_node (so_leaf (so_max wm_RX12_319 wms_max wmi wmc_max (by omega) (by omega) dX12_goWeaving_117)) (so_leaf (so_goto dX12_goWeaving_120 (by decide)))))) (so_node (so_node (so_leaf (so_iload dX12_goWeaving_123)) (so_leaf (so_iconst dX12_goWeaving_125 (by decide)))) (so_node (so_leaf (so_cne dX12_goWeaving_126 (by decide))) (so_node (so_leaf (so_aload_n dX12_goWeaving_129 rfl)) (so_leaf (so_gR (by decide) (by decide) wC12 wf_RX12_61 (fun _ _ _ => rfl) dX12_goWeaving_130)))))) (so_node (so_node (so_node (so_leaf (so_iconst dX12_goWeaving_133 (by decide))) (so_leaf (so_iald dX12_goWeaving_134))) (so_node (so_leaf (so_zne dX12_goWeaving_135 (by decide))) (so_node (so_leaf (so_iload dX12_goWeaving_138)) (so_leaf (so_iconst dX12_goWeaving_140 (by decide)))))) (so_node (so_node (so_leaf (so_iadd dX12_goWeaving_141)) (so_leaf (so_goto dX12_goWeaving_142 (by decide)))) (so_node (so_leaf (so_iload dX12_goWeaving_145)) (so_node (so_leaf (so_istore dX12_goWeaving_147 (by decide))) (so_leaf (so_iload dX12_goWeaving_149))))))))) (so_node (so_node (so_node (so_node (so_node (so_node (so_leaf (so_iconst dX12_goWeaving_151 (by decide))) (so_leaf (so_cne dX12_goWeaving_152 (by decide)))) (so_node (so_leaf (so_sipush dX12_goWeaving_155 (by decide))) (so_node (so_leaf (so_iload dX12_goWeaving_158)) (so_leaf (so_aload_n dX12_goWeaving_160 rfl))))) (so_node (so_node (so_leaf (so_gR (by decide) (by decide) wC12 wf_RX12_37 (fun _ _ _ => rfl) dX12_goWeaving_161)) (so_leaf (so_iconst dX12_goWeaving_164 (by decide)))) (so_node (so_leaf (so_iald dX12_goWeaving_165)) (so_node (so_leaf (so_iadd dX12_goWeaving_166)) (so_leaf (so_min wm_RX12_317 wms_min wmi wmc_min (by omega) (by omega) dX12_goWeaving_167)))))) (so_node (so_node (so_node (so_leaf (so_goto dX12_goWeaving_170 (by decide))) (so_leaf (so_iload dX12_goWeaving_173))) (so_node (so_leaf (so_mask (so_istore dX12_goWeaving_175 (by decide)))) (so_node (so_leaf (so_iload dX12_goWeaving_177)) (so_leaf (so_iconst dX12_goWeaving_179 (by decide)))))) (so_node (so_node (so_leaf (so_ceq dX12_goWeaving_180 (by decide))) (so_leaf (so_iload dX12_goWeaving_183))) (so_node (so_leaf (so_aload_n dX12_goWeaving_185 rfl)) (so_node (so_leaf (so_gR (by decide) (by decide) wC12 wf_RX12_37 (fun _ _ _ => rfl) dX12_goWeaving_186)) (so_leaf (so_bipush dX12_goWeaving_189 (by decide)))))))) (so_node (so_node (so_node (so_node (so_leaf (so_iald dX12_goWeaving_191)) (so_leaf (so_clt dX12_goWeaving_192 (by decide)))) (so_node (so_leaf (so_iconst dX12_goWeaving_195 (by decide))) (so_node (so_leaf (so_goto dX12_goWeaving_196 (by decide))) (so_leaf (so_iconst dX12_goWeaving_199 (by decide)))))) (so_node (so_node (so_leaf (so_mask (so_istore dX12_goWeaving_200 (by decide)))) (so_leaf (so_iload dX12_goWeaving_202))) (so_node (so_leaf (so_iconst dX12_goWeaving_204 (by decide))) (so_node (so_leaf (so_cne dX12_goWeaving_205 (by decide))) (so_leaf (so_iload_n dX12_goWeaving_208 rfl)))))) (so_node (so_node (so_node (so_leaf (so_iload dX12_goWeaving_209)) (so_leaf (so_isub dX12_goWeaving_211))) (so_node (so_leaf (so_goto dX12_goWeaving_212 (by decide))) (so_node (so_leaf (so_aload_n dX12_goWeaving_215 rfl)) (so_leaf (so_gR (by decide) (by decide) wC12 wf_RX12_37 (fun _ _ _ => rfl) dX12_goWeaving_216))))) (so_node (so_node (so_leaf (so_iconst dX12_goWeaving_219 (by decide))) (so_leaf (so_iald dX12_goWeaving_220))) (so_node (so_leaf (so_iload_n dX12_goWeaving_221 rfl)) (so_node (so_leaf (so_iload dX12_goWeaving_222)) (so_leaf (so_isub dX12_goWeaving_224)))))))) (so_node (so_node (so_node (so_node (so_node (so_leaf (so_aload_n dX12_goWeaving_225 rfl)) (so_leaf (so_gR (by decide) (by decide) wC12 wf_RX12_37 (fun _ _ _ => rfl) dX12_goWeaving_226))) (so_node (so_leaf (so_iconst dX12_goWeaving_229 (by decide))) (so_node (so_leaf (so_iald dX12_goWeaving_230)) (so_leaf (so_iadd dX12_goWeaving_231))))) (so_node (so_node (so_leaf (so_min wm_RX12_317 wms_min wmi wmc_min (by omega) (by omega) dX12_goWeaving_232)) (so_leaf (so_mask (so_istore dX12_goWeaving_235 (by decide))))) (so_node (so_leaf (so_iload dX12_goWeaving_237)) (so_node (so_leaf (so_iconst dX12_goWeaving_239 (by decide))) (so_leaf (so_cne dX12_goWeaving_240 (by decide))))))) (so_node (so_node (so_node (so_leaf (so_iconst dX12_goWeaving_243 (by decide))) (so_leaf (so_goto dX12_goWeaving_244 (by decide)))) (so_node (so_leaf (so_iconst dX12_goWeaving_247 (by decide))) (so_node (so_leaf (so_istore dX12_goWeaving_248 (by decide))) (so_leaf (so_aload_n dX12_goWeaving_250 rfl))))) (so_node (so_node (so_leaf (so_iload_n dX12_goWeaving_251 rfl)) (so_leaf (so_iconst dX12_goWeaving_252 (by decide)))) (so_node (so_leaf (so_isub dX12_goWeaving_253)) (so_node (so_leaf (so_iload_n dX12_goWeaving_254 rfl)) (so_leaf (so_iload dX12_goWeaving_255))))))) (so_node (so_node (so_node (so_node (so_leaf (so_iload dX12_goWeaving_257)) (so_leaf (so_iload dX12_goWeaving_259))) (so_node (so_leaf (so_iload dX12_goWeaving_261)) (so_node (so_leaf (so_iload dX12_goWeaving_263)) (so_leaf (so_iload dX12_goWeaving_265))))) (so_node (so_node (so_leaf (so_iadd dX12_goWeaving_267)) (so_leaf (so_iload dX12_goWeaving_268))) (so_node (so_leaf (so_iload dX12_goWeaving_270)) (so_node (so_leaf (so_iadd dX12_goWeaving_272)) (so_leaf (so_iload dX12_goWeaving_273)))))) (so_node (so_node (so_node (so_leaf (so_iconst dX12_goWeaving_275 (by decide))) (so_leaf (so_iadd dX12_goWeaving_276))) (so_node (so_leaf (so_bipush dX12_goWeaving_277 (by decide))) (so_node (so_leaf (so_iload dX12_goWeaving_279)) (so_leaf (so_imul dX12_goWeaving_281))))) (so_node (so_node (so_leaf (so_iload dX12_goWeaving_282)) (so_node (so_leaf (so_iadd dX12_goWeaving_284)) (so_leaf (so_inv hC (by decide) rfl wm_RX12_429 win_X12_goWeaving wse_X12_goWeaving wn_12 wc_X12_goWeaving (by decide +kernel) (by omega) (by omega) dX12_goWeaving_285)))) (so_node (so_leaf (so_iinc dX12_goWeaving_288 (by decide) (by decide))) (so_node (so_leaf (so_goto dX12_goWeaving_291 (by decide))) (so_leaf (so_vret dX12_goWeaving_294 rfl))))))))))
theorem pX12_goWeaving {g : Nat → List EV → Hp → Option (RV × Hp)} (hG : ∀ i, Gr (g i)) : ∀ pc, Pr (kX12_goWeaving g pc) := (pr_node (pr_node (pr_node (pr_node (pr_node (pr_node (pr_node (pr_leaf (pr_il _ _)) (pr_leaf (pr_zne _ _))) (pr_node (pr_leaf (pr_al _ _)) (pr_node (pr_leaf (pr_gI _ _ _)) (pr_leaf (pr_ic _ _))))) (pr_node (pr_node (pr_leaf (pr_ceq _ _)) (pr_leaf (pr_il _ _))) (pr_node (pr_leaf (pr_il _ _)) (pr_node (pr_leaf (pr_il _ _)) (pr_leaf (pr_imul _)))))) (pr_node (pr_node (pr_node (pr_leaf (pr_iadd _)) (pr_leaf (pr_al _ _))) (pr_node (pr_leaf (pr_gI _ _ _)) (pr_node (pr_leaf (pr_cgt _ _)) (pr_leaf (pr_vret))))) (pr_node (pr_node (pr_leaf (pr_al _ _)) (pr_leaf (pr_il _ _))) (pr_node (pr_leaf (pr_il _ _)) (pr_node (pr_leaf (pr_il _ _)) (pr_leaf (pr_imul _))))))) (pr_node (pr_node (pr_node (pr_node (pr_leaf (pr_iadd _)) (pr_leaf (pr_pI _ _ _))) (pr_node (pr_leaf (pr_al _ _)) (pr_node (pr_leaf (pr_il _ _)) (pr_leaf (pr_pI _ _ _))))) (pr_node (pr_node (pr_leaf (pr_vret)) (pr_leaf (pr_ic _ _))) (pr_node (pr_leaf (pr_is _ _)) (pr_node (pr_leaf (pr_mask (pr_il _ _))) (pr_leaf (pr_ic _ _)))))) (pr_node (pr_node (pr_node (pr_leaf (pr_cge _ _)) (pr_leaf (pr_il _ _))) (pr_node (pr_leaf (pr_ic _ _)) (pr_node (pr_leaf (pr_cne _ _)) (pr_leaf (pr_al _ _))))) (pr_node (pr_node (pr_leaf (pr_il _ _)) (pr_leaf (pr_il _ _))) (pr_node (pr_leaf (pr_il _ _)) (pr_node (pr_leaf (pr_il _ _)) (pr_leaf (pr_il _ _)))))))) (pr_node (pr_node (pr_node (pr_node (pr_node (pr_leaf (pr_inv _ _ _ GX12_takesBy _)) (pr_leaf (pr_goto _))) (pr_node (pr_leaf (pr_ic _ _)) (pr_node (pr_leaf (pr_is _ _)) (pr_leaf (pr_il _ _))))) (pr_node (pr_node (pr_leaf (pr_ic _ _)) (pr_leaf (pr_cne _ _))) (pr_node (pr_leaf (pr_il _ _)) (pr_node (pr_leaf (pr_ic _ _)) (pr_leaf (pr_ceq _ _)))))) (pr_node (pr_node (pr_node (pr_leaf (pr_il _ _)) (pr_leaf (pr_ic _ _))) (pr_node (pr_leaf (pr_ceq _ _)) (pr_node (pr_leaf (pr_il _ _)) (pr_leaf (pr_il _ _))))) (pr_node (pr_node (pr_leaf (pr_cgt _ _)) (pr_leaf (pr_goto _))) (pr_node (pr_leaf (pr_mask (pr_il _ _))) (pr_node (pr_leaf (pr_zne _ _)) (pr_leaf (pr_ic _ _))))))) (pr_node (pr_node (pr_node (pr_node (pr_leaf (pr_il _ _)) (pr_leaf (pr_ic _ _))) (pr_node (pr_leaf (pr_isub _)) (pr_node (pr_leaf (pr_max _)) (pr_leaf (pr_goto _))))) (pr_node (pr_node (pr_leaf (pr_il _ _)) (pr_leaf (pr_ic _ _))) (pr_node (pr_leaf (pr_cne _ _)) (pr_node (pr_leaf (pr_al _ _)) (pr_leaf (pr_gR _ _ _)))))) (pr_node (pr_node (pr_node (pr_leaf (pr_ic _ _)) (pr_leaf (pr_iald _))) (pr_node (pr_leaf (pr_zne _ _)) (pr_node (pr_leaf (pr_il _ _)) (pr_leaf (pr_ic _ _))))) (pr_node (pr_node (pr_leaf (pr_iadd _)) (pr_leaf (pr_goto _))) (pr_node (pr_leaf (pr_il _ _)) (pr_node (pr_leaf (pr_is _ _)) (pr_leaf (pr_il _ _))))))))) (pr_node (pr_node (pr_node (pr_node (pr_node (pr_node (pr_leaf (pr_ic _ _)) (pr_leaf (pr_cne _ _))) (pr_node (pr_leaf (pr_ic _ _)) (pr_node (pr_leaf (pr_il _ _)) (pr_leaf (pr_al _ _))))) (pr_node (pr_node (pr_leaf (pr_gR _ _ _)) (pr_leaf (pr_ic _ _))) (pr_node (pr_leaf (pr_iald _)) (pr_node (pr_leaf (pr_iadd _)) (pr_leaf (pr_min _)))))) (pr_node (pr_node (pr_node (pr_leaf (pr_goto _)) (pr_leaf (pr_il _ _))) (pr_node (pr_leaf (pr_mask (pr_is _ _))) (pr_node (pr_leaf (pr_il _ _)) (pr_leaf (pr_ic _ _))))) (pr_node (pr_node (pr_leaf (pr_ceq _ _)) (pr_leaf (pr_il _ _))) (pr_node (pr_leaf (pr_al _ _)) (pr_node (pr_leaf (pr_gR _ _ _)) (pr_leaf (pr_ic _ _))))))) (pr_node (pr_node (pr_node (pr_node (pr_leaf (pr_iald _)) (pr_leaf (pr_clt _ _))) (pr_node (pr_leaf (pr_ic _ _)) (pr_node (pr_leaf (pr_goto _)) (pr_leaf (pr_ic _ _))))) (pr_node (pr_node (pr_leaf (pr_mask (pr_is _ _))) (pr_leaf (pr_il _ _))) (pr_node (pr_leaf (pr_ic _ _)) (pr_node (pr_leaf (pr_cne _ _)) (pr_leaf (pr_il _ _)))))) (pr_node (pr_node (pr_node (pr_leaf (pr_il _ _)) (pr_leaf (pr_isub _))) (pr_node (pr_leaf (pr_goto _)) (pr_node (pr_leaf (pr_al _ _)) (pr_leaf (pr_gR _ _ _))))) (pr_node (pr_node (pr_leaf (pr_ic _ _)) (pr_leaf (pr_iald _))) (pr_node (pr_leaf (pr_il _ _)) (pr_node (pr_leaf (pr_il _ _)) (pr_leaf (pr_isub _)))))))) (pr_node (pr_node (pr_node (pr_node (pr_node (pr_leaf (pr_al _ _)) (pr_leaf (pr_gR _ _ _))) (pr_node (pr_leaf (pr_ic _ _)) (pr_node (pr_leaf (pr_iald _)) (pr_leaf (pr_iadd _))))) (pr_node (pr_node (pr_leaf (pr_min _)) (pr_leaf (pr_mask (pr_is _ _)))) (pr_node (pr_leaf (pr_il _ _)) (pr_node (pr_leaf (pr_ic _ _)) (pr_leaf (pr_cne _ _)))))) (pr_node (pr_node (pr_node (pr_leaf (pr_ic _ _)) (pr_leaf (pr_goto _))) (pr_node (pr_leaf (pr_ic _ _)) (pr_node (pr_leaf (pr_is _ _)) (pr_leaf (pr_al _ _))))) (pr_node (pr_node (pr_leaf (pr_il _ _)) (pr_leaf (pr_ic _ _))) (pr_node (pr_leaf (pr_isub _)) (pr_node (pr_leaf (pr_il _ _)) (pr_leaf (pr_il _ _))))))) (pr_node (pr_node (pr_node (pr_node (pr_leaf (pr_il _ _)) (pr_leaf (pr_il _ _))) (pr_node (pr_leaf (pr_il _ _)) (pr_node (pr_leaf (pr_il _ _)) (pr_leaf (pr_il _ _))))) (pr_node (pr_node (pr_leaf (pr_iadd _)) (pr_leaf (pr_il _ _))) (pr_node (pr_leaf (pr_il _ _)) (pr_node (pr_leaf (pr_iadd _)) (pr_leaf (pr_il _ _)))))) (pr_node (pr_node (pr_node (pr_leaf (pr_ic _ _)) (pr_leaf (pr_iadd _))) (pr_node (pr_leaf (pr_ic _ _)) (pr_node (pr_leaf (pr_il _ _)) (pr_leaf (pr_imul _))))) (pr_node (pr_node (pr_leaf (pr_il _ _)) (pr_node (pr_leaf (pr_iadd _)) (pr_leaf (pr_inv _ _ _ (hG 0) _)))) (pr_node (pr_leaf (pr_inc _ _ _)) (pr_node (pr_leaf (pr_goto _)) (pr_leaf (pr_vret))))))))))
noncomputable def gGw : Nat → Nat → List EV → Hp → Option (RV × Hp)
  | 0 => fun _ _ _ => none
  | d + 1 => fun i => match i with
    | 0 => Fm (kX12_goWeaving (gGw d)) 18
    | _ => fun _ _ => none
theorem gGw_G : ∀ d i, Gr (gGw d i) := by
  intro d
  induction d with
  | zero => intro i as h r h1 z; cases z
  | succ d ih =>
    intro i
    match i with
    | 0 => exact Gr_Fm (pX12_goWeaving ih) 18
    | _ + 1 => intro as h r h1 z; cases z
theorem gGw_C : ∀ d, gcGw d (gGw d) := by
  intro d
  induction d with
  | zero => exact (fun l b D cy pre as h out z => by cases z)
  | succ d ih => exact con_of (own := RX12) rfl (by decide +kernel) (sX12_goWeaving ih) (pX12_goWeaving (gGw_G d)) (fun z => by cases z)
noncomputable def FX12_goWeaving : List EV → Hp → Option (RV × Hp) := gGw 12 0
theorem CX12_goWeaving : Con yX12_goWeaving cX12_goWeaving 18 none 101 2648 FX12_goWeaving := (gGw_C 12)
theorem GX12_goWeaving : Gr FX12_goWeaving := gGw_G 12 0
theorem dX12_weaving_0 : decode cX12_weaving 0 = .ok (.aload_n 0, 1) := by decide +kernel
theorem dX12_weaving_1 : decode cX12_weaving 1 = .ok (.iconst 0, 1) := by decide +kernel
theorem dX12_weaving_2 : decode cX12_weaving 2 = .ok (.putfield 105, 3) := by decide +kernel
theorem dX12_weaving_5 : decode cX12_weaving 5 = .ok (.aload_n 0, 1) := by decide +kernel
theorem dX12_weaving_6 : decode cX12_weaving 6 = .ok (.getfield 302, 3) := by decide +kernel
theorem dX12_weaving_9 : decode cX12_weaving 9 = .ok (.ifCond .eq 37, 3) := by decide +kernel
theorem dX12_weaving_12 : decode cX12_weaving 12 = .ok (.iload_n 1, 1) := by decide +kernel
theorem dX12_weaving_13 : decode cX12_weaving 13 = .ok (.i2l, 1) := by decide +kernel
theorem dX12_weaving_14 : decode cX12_weaving 14 = .ok (.lconst 1, 1) := by decide +kernel
theorem dX12_weaving_15 : decode cX12_weaving 15 = .ok (.ldc2_w 433, 3) := by decide +kernel
theorem dX12_weaving_18 : decode cX12_weaving 18 = .ok (.invokestatic 225, 3) := by decide +kernel
theorem dX12_weaving_21 : decode cX12_weaving 21 = .ok (.ifCond .eq 25, 3) := by decide +kernel
theorem dX12_weaving_24 : decode cX12_weaving 24 = .ok (.iload_n 2, 1) := by decide +kernel
theorem dX12_weaving_25 : decode cX12_weaving 25 = .ok (.i2l, 1) := by decide +kernel
theorem dX12_weaving_26 : decode cX12_weaving 26 = .ok (.lconst 0, 1) := by decide +kernel
theorem dX12_weaving_27 : decode cX12_weaving 27 = .ok (.ldc2_w 401, 3) := by decide +kernel
theorem dX12_weaving_30 : decode cX12_weaving 30 = .ok (.invokestatic 225, 3) := by decide +kernel
theorem dX12_weaving_33 : decode cX12_weaving 33 = .ok (.ifCond .eq 13, 3) := by decide +kernel
theorem dX12_weaving_36 : decode cX12_weaving 36 = .ok (.iload_n 3, 1) := by decide +kernel
theorem dX12_weaving_37 : decode cX12_weaving 37 = .ok (.i2l, 1) := by decide +kernel
theorem dX12_weaving_38 : decode cX12_weaving 38 = .ok (.lconst 0, 1) := by decide +kernel
theorem dX12_weaving_39 : decode cX12_weaving 39 = .ok (.lconst 1, 1) := by decide +kernel
theorem dX12_weaving_40 : decode cX12_weaving 40 = .ok (.invokestatic 225, 3) := by decide +kernel
theorem dX12_weaving_43 : decode cX12_weaving 43 = .ok (.ifCond .ne 5, 3) := by decide +kernel
theorem dX12_weaving_46 : decode cX12_weaving 46 = .ok (.iconst (-1), 1) := by decide +kernel
theorem dX12_weaving_47 : decode cX12_weaving 47 = .ok (.ireturn, 1) := by decide +kernel
theorem dX12_weaving_48 : decode cX12_weaving 48 = .ok (.aload_n 0, 1) := by decide +kernel
theorem dX12_weaving_49 : decode cX12_weaving 49 = .ok (.iconst (-1), 1) := by decide +kernel
theorem dX12_weaving_50 : decode cX12_weaving 50 = .ok (.putfield 423, 3) := by decide +kernel
theorem dX12_weaving_53 : decode cX12_weaving 53 = .ok (.aload_n 0, 1) := by decide +kernel
theorem dX12_weaving_54 : decode cX12_weaving 54 = .ok (.iconst 0, 1) := by decide +kernel
theorem dX12_weaving_55 : decode cX12_weaving 55 = .ok (.putfield 426, 3) := by decide +kernel
theorem dX12_weaving_58 : decode cX12_weaving 58 = .ok (.aload_n 0, 1) := by decide +kernel
theorem dX12_weaving_59 : decode cX12_weaving 59 = .ok (.iload_n 1, 1) := by decide +kernel
theorem dX12_weaving_60 : decode cX12_weaving 60 = .ok (.iload_n 2, 1) := by decide +kernel
theorem dX12_weaving_61 : decode cX12_weaving 61 = .ok (.aload_n 0, 1) := by decide +kernel
theorem dX12_weaving_62 : decode cX12_weaving 62 = .ok (.getfield 61, 3) := by decide +kernel
theorem dX12_weaving_65 : decode cX12_weaving 65 = .ok (.iconst 0, 1) := by decide +kernel
theorem dX12_weaving_66 : decode cX12_weaving 66 = .ok (.iaload, 1) := by decide +kernel
theorem dX12_weaving_67 : decode cX12_weaving 67 = .ok (.aload_n 0, 1) := by decide +kernel
theorem dX12_weaving_68 : decode cX12_weaving 68 = .ok (.getfield 61, 3) := by decide +kernel
theorem dX12_weaving_71 : decode cX12_weaving 71 = .ok (.iconst 1, 1) := by decide +kernel
theorem dX12_weaving_72 : decode cX12_weaving 72 = .ok (.iaload, 1) := by decide +kernel
theorem dX12_weaving_73 : decode cX12_weaving 73 = .ok (.aload_n 0, 1) := by decide +kernel
theorem dX12_weaving_74 : decode cX12_weaving 74 = .ok (.getfield 61, 3) := by decide +kernel
theorem dX12_weaving_77 : decode cX12_weaving 77 = .ok (.iconst 2, 1) := by decide +kernel
theorem dX12_weaving_78 : decode cX12_weaving 78 = .ok (.iaload, 1) := by decide +kernel
theorem dX12_weaving_79 : decode cX12_weaving 79 = .ok (.aload_n 0, 1) := by decide +kernel
theorem dX12_weaving_80 : decode cX12_weaving 80 = .ok (.getfield 61, 3) := by decide +kernel
theorem dX12_weaving_83 : decode cX12_weaving 83 = .ok (.iconst 4, 1) := by decide +kernel
theorem dX12_weaving_84 : decode cX12_weaving 84 = .ok (.iaload, 1) := by decide +kernel
theorem dX12_weaving_85 : decode cX12_weaving 85 = .ok (.aload_n 0, 1) := by decide +kernel
theorem dX12_weaving_86 : decode cX12_weaving 86 = .ok (.getfield 61, 3) := by decide +kernel
theorem dX12_weaving_89 : decode cX12_weaving 89 = .ok (.iconst 5, 1) := by decide +kernel
theorem dX12_weaving_90 : decode cX12_weaving 90 = .ok (.iaload, 1) := by decide +kernel
theorem dX12_weaving_91 : decode cX12_weaving 91 = .ok (.aload_n 0, 1) := by decide +kernel
theorem dX12_weaving_92 : decode cX12_weaving 92 = .ok (.getfield 61, 3) := by decide +kernel
theorem dX12_weaving_95 : decode cX12_weaving 95 = .ok (.bipush 19, 2) := by decide +kernel
theorem dX12_weaving_97 : decode cX12_weaving 97 = .ok (.iaload, 1) := by decide +kernel
theorem dX12_weaving_98 : decode cX12_weaving 98 = .ok (.aload_n 0, 1) := by decide +kernel
theorem dX12_weaving_99 : decode cX12_weaving 99 = .ok (.getfield 61, 3) := by decide +kernel
theorem dX12_weaving_102 : decode cX12_weaving 102 = .ok (.bipush 7, 2) := by decide +kernel
theorem dX12_weaving_104 : decode cX12_weaving 104 = .ok (.iaload, 1) := by decide +kernel
theorem dX12_weaving_105 : decode cX12_weaving 105 = .ok (.iconst 0, 1) := by decide +kernel
theorem dX12_weaving_106 : decode cX12_weaving 106 = .ok (.invokevirtual 429, 3) := by decide +kernel
theorem dX12_weaving_109 : decode cX12_weaving 109 = .ok (.iload_n 3, 1) := by decide +kernel
theorem dX12_weaving_110 : decode cX12_weaving 110 = .ok (.ifCond .ne 10, 3) := by decide +kernel
theorem dX12_weaving_113 : decode cX12_weaving 113 = .ok (.aload_n 0, 1) := by decide +kernel
theorem dX12_weaving_114 : decode cX12_weaving 114 = .ok (.getfield 426, 3) := by decide +kernel
theorem dX12_weaving_117 : decode cX12_weaving 117 = .ok (.goto 7, 3) := by decide +kernel
theorem dX12_weaving_120 : decode cX12_weaving 120 = .ok (.aload_n 0, 1) := by decide +kernel
theorem dX12_weaving_121 : decode cX12_weaving 121 = .ok (.getfield 423, 3) := by decide +kernel
theorem dX12_weaving_124 : decode cX12_weaving 124 = .ok (.ireturn, 1) := by decide +kernel
noncomputable def kX12_weaving : Nat → Op := (nodeC 61 (nodeC 33 (nodeC 14 (nodeC 5 (nodeC 1 (nodeC 0 (leafC 0 (o_al 0 1)) (leafC 1 (o_ic (0) 2))) (nodeC 2 (leafC 2 (o_pI 12 0 5)) (leafC 5 (o_al 0 6)))) (nodeC 9 (nodeC 6 (leafC 6 (o_gI 12 27 9)) (leafC 9 (o_zeq 46 12))) (nodeC 12 (leafC 12 (o_il 1 13)) (nodeC 13 (leafC 13 (o_i2l 14)) (leafC 14 (o_lc (1) 15)))))) (nodeC 24 (nodeC 18 (nodeC 15 (leafC 15 (o_lc (8) 18)) (leafC 18 (o_ist 3 1 FX12_isIn 21))) (nodeC 21 (leafC 21 (o_zeq 46 24)) (leafC 24 (o_il 2 25)))) (nodeC 26 (nodeC 25 (leafC 25 (o_i2l 26)) (leafC 26 (o_lc (0) 27))) (nodeC 27 (leafC 27 (o_lc (60) 30)) (nodeC 30 (leafC 30 (o_ist 3 1 FX12_isIn 33)) (leafC 33 (o_zeq 46 36))))))) (nodeC 48 (nodeC 39 (nodeC 37 (nodeC 36 (leafC 36 (o_il 3 37)) (leafC 37 (o_i2l 38))) (nodeC 38 (leafC 38 (o_lc (0) 39)) (leafC 39 (o_lc (1) 40)))) (nodeC 43 (nodeC 40 (leafC 40 (o_ist 3 1 FX12_isIn 43)) (leafC 43 (o_zne 48 46))) (nodeC 46 (leafC 46 (o_ic (-1) 47)) (nodeC 47 (leafC 47 (o_iret)) (leafC 48 (o_al 0 49)))))) (nodeC 54 (nodeC 50 (nodeC 49 (leafC 49 (o_ic (-1) 50)) (leafC 50 (o_pI 12 39 53))) (nodeC 53 (leafC 53 (o_al 0 54)) (leafC 54 (o_ic (0) 55)))) (nodeC 58 (nodeC 55 (leafC 55 (o_pI 12 40 58)) (leafC 58 (o_al 0 59))) (nodeC 59 (leafC 59 (o_il 1 60)) (nodeC 60 (leafC 60 (o_il 2 61)) (leafC 61 (o_al 0 62)))))))) (nodeC 89 (nodeC 74 (nodeC 67 (nodeC 65 (nodeC 62 (leafC 62 (o_gR 12 32 65)) (leafC 65 (o_ic (0) 66))) (nodeC 66 (leafC 66 (o_iald 67)) (leafC 67 (o_al 0 68)))) (nodeC 71 (nodeC 68 (leafC 68 (o_gR 12 32 71)) (leafC 71 (o_ic (1) 72))) (nodeC 72 (leafC 72 (o_iald 73)) (nodeC 73 (leafC 73 (o_al 0 74)) (leafC 74 (o_gR 12 32 77)))))) (nodeC 80 (nodeC 78 (nodeC 77 (leafC 77 (o_ic (2) 78)) (leafC 78 (o_iald 79))) (nodeC 79 (leafC 79 (o_al 0 80)) (leafC 80 (o_gR 12 32 83)))) (nodeC 84 (nodeC 83 (leafC 83 (o_ic (4) 84)) (leafC 84 (o_iald 85))) (nodeC 85 (leafC 85 (o_al 0 86)) (nodeC 86 (leafC 86 (o_gR 12 32 89)) (leafC 89 (o_ic (5) 90))))))) (nodeC 104 (nodeC 95 (nodeC 91 (nodeC 90 (leafC 90 (o_iald 91)) (leafC 91 (o_al 0 92))) (nodeC 92 (leafC 92 (o_gR 12 32 95)) (leafC 95 (o_ic (19) 97)))) (nodeC 98 (nodeC 97 (leafC 97 (o_iald 98)) (leafC 98 (o_al 0 99))) (nodeC 99 (leafC 99 (o_gR 12 32 102)) (nodeC 102 (leafC 102 (o_ic (7) 104)) (leafC 104 (o_iald 105)))))) (nodeC 113 (nodeC 106 (nodeC 105 (leafC 105 (o_ic (0) 106)) (leafC 106 (o_inv 10 12 0 FX12_goWeaving 109))) (nodeC 109 (leafC 109 (o_il 3 110)) (nodeC 110 (leafC 110 (o_zne 120 113)) (leafC 113 (o_al 0 114))))) (nodeC 117 (nodeC 114 (leafC 114 (o_gI 12 40 117)) (leafC 117 (o_goto 124))) (nodeC 120 (leafC 120 (o_al 0 121)) (nodeC 121 (leafC 121 (o_gI 12 39 124)) (leafC 124 (o_iret)))))))))
theorem sX12_weaving : ∀ pc, SoundOp cX12_weaving RX12 4 (some .int) false 102 2685 pc (kX12_weaving pc) := (so_node (so_node (so_node (so_node (so_node (so_node (so_leaf (so_aload_n dX12_weaving_0 rfl)) (so_leaf (so_iconst dX12_weaving_1 (by decide)))) (so_node (so_leaf (so_pI (by decide) (by decide) wC12 wf_RX12_105 (Or.inl rfl) rfl dX12_weaving_2)) (so_leaf (so_aload_n dX12_weaving_5 rfl)))) (so_node (so_node (so_leaf (so_gI (by decide) (by decide) wC12 wf_RX12_302 (fun _ _ _ => rfl) dX12_weaving_6)) (so_leaf (so_zeq dX12_weaving_9 (by decide)))) (so_node (so_leaf (so_iload_n dX12_weaving_12 rfl)) (so_node (so_leaf (so_i2l dX12_weaving_13)) (so_leaf (so_lconst dX12_weaving_14 (by decide))))))) (so_node (so_node (so_node (so_leaf (so_ldc2 wk_RX12_433 dX12_weaving_15)) (so_leaf (so_ist CX12_isIn rfl wm_RX12_225 wst_X12_isIn wny_X12_isIn wc_X12_isIn (by decide +kernel) (by decide) (by decide) dX12_weaving_18))) (so_node (so_leaf (so_zeq dX12_weaving_21 (by decide))) (so_leaf (so_iload_n dX12_weaving_24 rfl)))) (so_node (so_node (so_leaf (so_i2l dX12_weaving_25)) (so_leaf (so_lconst dX12_weaving_26 (by decide)))) (so_node (so_leaf (so_ldc2 wk_RX12_401 dX12_weaving_27)) (so_node (so_leaf (so_ist CX12_isIn rfl wm_RX12_225 wst_X12_isIn wny_X12_isIn wc_X12_isIn (by decide +kernel) (by decide) (by decide) dX12_weaving_30)) (so_leaf (so_zeq dX12_weaving_33 (by decide)))))))) (so_node (so_node (so_node (so_node (so_leaf (so_iload_n dX12_weaving_36 rfl)) (so_leaf (so_i2l dX12_weaving_37))) (so_node (so_leaf (so_lconst dX12_weaving_38 (by decide))) (so_leaf (so_lconst dX12_weaving_39 (by decide))))) (so_node (so_node (so_leaf (so_ist CX12_isIn rfl wm_RX12_225 wst_X12_isIn wny_X12_isIn wc_X12_isIn (by decide +kernel) (by decide) (by decide) dX12_weaving_40)) (so_leaf (so_zne dX12_weaving_43 (by decide)))) (so_node (so_leaf (so_iconst dX12_weaving_46 (by decide))) (so_node (so_leaf (so_iret dX12_weaving_47 rfl)) (so_leaf (so_aload_n dX12_weaving_48 rfl)))))) (so_node (so_node (so_node (so_leaf (so_iconst dX12_weaving_49 (by decide))) (so_leaf (so_pI (by decide) (by decide) wC12 wf_RX12_423 (Or.inl rfl) rfl dX12_weaving_50))) (so_node (so_leaf (so_aload_n dX12_weaving_53 rfl)) (so_leaf (so_iconst dX12_weaving_54 (by decide))))) (so_node (so_node (so_leaf (so_pI (by decide) (by decide) wC12 wf_RX12_426 (Or.inl rfl) rfl dX12_weaving_55)) (so_leaf (so_aload_n dX12_weaving_58 rfl))) (so_node (so_leaf (so_iload_n dX12_weaving_59 rfl)) (so_node (so_leaf (so_iload_n dX12_weaving_60 rfl)) (so_leaf (so_aload_n dX12_weaving_61 rfl)))))))) (so_node (so_node (so_node (so_node (so_node (so_leaf (so_gR (by decide) (by decide) wC12 wf_RX12_61 (fun _ _ _ => rfl) dX12_weaving_62)) (so_leaf (so_iconst dX12_weaving_65 (by decide)))) (so_node (so_leaf (so_iald dX12_weaving_66)) (so_leaf (so_aload_n dX12_weaving_67 rfl)))) (so_node (so_node (so_leaf (so_gR (by decide) (by decide) wC12 wf_RX12_61 (fun _ _ _ => rfl) dX12_weaving_68)) (so_leaf (so_iconst dX12_weaving_71 (by decide)))) (so_node (so_leaf (so_iald dX12_weaving_72)) (so_node (so_leaf (so_aload_n dX12_weaving_73 rfl)) (so_leaf (so_gR (by decide) (by decide) wC12 wf_RX12_61 (fun _ _ _ => rfl) dX12_weaving_74)))))) (so_node (so_node (so_node (so_leaf (so_iconst dX12_weaving_77 (by decide))) (so_leaf (so_iald dX12_weaving_78))) (so_node (so_leaf (so_aload_n dX12_weaving_79 rfl)) (so_leaf (so_gR (by decide) (by decide) wC12 wf_RX12_61 (fun _ _ _ => rfl) dX12_weaving_80)))) (so_node (so_node (so_leaf (so_iconst dX12_weaving_83 (by decide))) (so_leaf (so_iald dX12_weaving_84))) (so_node (so_leaf (so_aload_n dX12_weaving_85 rfl)) (so_node (so_leaf (so_gR (by decide) (by decide) wC12 wf_RX12_61 (fun _ _ _ => rfl) dX12_weaving_86)) (so_leaf (so_iconst dX12_weaving_89 (by decide)))))))) (so_node (so_node (so_node (so_node (so_leaf (so_iald dX12_weaving_90)) (so_leaf (so_aload_n dX12_weaving_91 rfl))) (so_node (so_leaf (so_gR (by decide) (by decide) wC12 wf_RX12_61 (fun _ _ _ => rfl) dX12_weaving_92)) (so_leaf (so_bipush dX12_weaving_95 (by decide))))) (so_node (so_node (so_leaf (so_iald dX12_weaving_97)) (so_leaf (so_aload_n dX12_weaving_98 rfl))) (so_node (so_leaf (so_gR (by decide) (by decide) wC12 wf_RX12_61 (fun _ _ _ => rfl) dX12_weaving_99)) (so_node (so_leaf (so_bipush dX12_weaving_102 (by decide))) (so_leaf (so_iald dX12_weaving_104)))))) (so_node (so_node (so_node (so_leaf (so_iconst dX12_weaving_105 (by decide))) (so_leaf (so_inv CX12_goWeaving (by decide) rfl wm_RX12_429 win_X12_goWeaving wse_X12_goWeaving wn_12 wc_X12_goWeaving (by decide +kernel) (by decide) (by decide) dX12_weaving_106))) (so_node (so_leaf (so_iload_n dX12_weaving_109 rfl)) (so_node (so_leaf (so_zne dX12_weaving_110 (by decide))) (so_leaf (so_aload_n dX12_weaving_113 rfl))))) (so_node (so_node (so_leaf (so_gI (by decide) (by decide) wC12 wf_RX12_426 (fun _ _ _ => rfl) dX12_weaving_114)) (so_leaf (so_goto dX12_weaving_117 (by decide)))) (so_node (so_leaf (so_aload_n dX12_weaving_120 rfl)) (so_node (so_leaf (so_gI (by decide) (by decide) wC12 wf_RX12_423 (fun _ _ _ => rfl) dX12_weaving_121)) (so_leaf (so_iret dX12_weaving_124 rfl)))))))))
theorem pX12_weaving : ∀ pc, Pr (kX12_weaving pc) := (pr_node (pr_node (pr_node (pr_node (pr_node (pr_node (pr_leaf (pr_al _ _)) (pr_leaf (pr_ic _ _))) (pr_node (pr_leaf (pr_pI _ _ _)) (pr_leaf (pr_al _ _)))) (pr_node (pr_node (pr_leaf (pr_gI _ _ _)) (pr_leaf (pr_zeq _ _))) (pr_node (pr_leaf (pr_il _ _)) (pr_node (pr_leaf (pr_i2l _)) (pr_leaf (pr_lc _ _)))))) (pr_node (pr_node (pr_node (pr_leaf (pr_lc _ _)) (pr_leaf (pr_ist _ _ GX12_isIn _))) (pr_node (pr_leaf (pr_zeq _ _)) (pr_leaf (pr_il _ _)))) (pr_node (pr_node (pr_leaf (pr_i2l _)) (pr_leaf (pr_lc _ _))) (pr_node (pr_leaf (pr_lc _ _)) (pr_node (pr_leaf (pr_ist _ _ GX12_isIn _)) (pr_leaf (pr_zeq _ _))))))) (pr_node (pr_node (pr_node (pr_node (pr_leaf (pr_il _ _)) (pr_leaf (pr_i2l _))) (pr_node (pr_leaf (pr_lc _ _)) (pr_leaf (pr_lc _ _)))) (pr_node (pr_node (pr_leaf (pr_ist _ _ GX12_isIn _)) (pr_leaf (pr_zne _ _))) (pr_node (pr_leaf (pr_ic _ _)) (pr_node (pr_leaf (pr_iret)) (pr_leaf (pr_al _ _)))))) (pr_node (pr_node (pr_node (pr_leaf (pr_ic _ _)) (pr_leaf (pr_pI _ _ _))) (pr_node (pr_leaf (pr_al _ _)) (pr_leaf (pr_ic _ _)))) (pr_node (pr_node (pr_leaf (pr_pI _ _ _)) (pr_leaf (pr_al _ _))) (pr_node (pr_leaf (pr_il _ _)) (pr_node (pr_leaf (pr_il _ _)) (pr_leaf (pr_al _ _)))))))) (pr_node (pr_node (pr_node (pr_node (pr_node (pr_leaf (pr_gR _ _ _)) (pr_leaf (pr_ic _ _))) (pr_node (pr_leaf (pr_iald _)) (pr_leaf (pr_al _ _)))) (pr_node (pr_node (pr_leaf (pr_gR _ _ _)) (pr_leaf (pr_ic _ _))) (pr_node (pr_leaf (pr_iald _)) (pr_node (pr_leaf (pr_al _ _)) (pr_leaf (pr_gR _ _ _)))))) (pr_node (pr_node (pr_node (pr_leaf (pr_ic _ _)) (pr_leaf (pr_iald _))) (pr_node (pr_leaf (pr_al _ _)) (pr_leaf (pr_gR _ _ _)))) (pr_node (pr_node (pr_leaf (pr_ic _ _)) (pr_leaf (pr_iald _))) (pr_node (pr_leaf (pr_al _ _)) (pr_node (pr_leaf (pr_gR _ _ _)) (pr_leaf (pr_ic _ _))))))) (pr_node (pr_node (pr_node (pr_node (pr_leaf (pr_iald _)) (pr_leaf (pr_al _ _))) (pr_node (pr_leaf (pr_gR _ _ _)) (pr_leaf (pr_ic _ _)))) (pr_node (pr_node (pr_leaf (pr_iald _)) (pr_leaf (pr_al _ _))) (pr_node (pr_leaf (pr_gR _ _ _)) (pr_node (pr_leaf (pr_ic _ _)) (pr_leaf (pr_iald _)))))) (pr_node (pr_node (pr_node (pr_leaf (pr_ic _ _)) (pr_leaf (pr_inv _ _ _ GX12_goWeaving _))) (pr_node (pr_leaf (pr_il _ _)) (pr_node (pr_leaf (pr_zne _ _)) (pr_leaf (pr_al _ _))))) (pr_node (pr_node (pr_leaf (pr_gI _ _ _)) (pr_leaf (pr_goto _))) (pr_node (pr_leaf (pr_al _ _)) (pr_node (pr_leaf (pr_gI _ _ _)) (pr_leaf (pr_iret)))))))))
noncomputable def FX12_weaving : List EV → Hp → Option (RV × Hp) := Fm kX12_weaving 4
theorem CX12_weaving : Con yX12_weaving cX12_weaving 4 (some .int) 102 2685 FX12_weaving := con_of (own := RX12) rfl (by decide +kernel) sX12_weaving pX12_weaving (fun z => by cases z)
theorem GX12_weaving : Gr FX12_weaving := Gr_Fm pX12_weaving 4
theorem dX12_stands_0 : decode cX12_stands 0 = .ok (.aload_n 0, 1) := by decide +kernel
theorem dX12_stands_1 : decode cX12_stands 1 = .ok (.iconst 0, 1) := by decide +kernel
theorem dX12_stands_2 : decode cX12_stands 2 = .ok (.putfield 105, 3) := by decide +kernel
theorem dX12_stands_5 : decode cX12_stands 5 = .ok (.aload_n 0, 1) := by decide +kernel
theorem dX12_stands_6 : decode cX12_stands 6 = .ok (.getfield 302, 3) := by decide +kernel
theorem dX12_stands_9 : decode cX12_stands 9 = .ok (.ifCond .ne 5, 3) := by decide +kernel
theorem dX12_stands_12 : decode cX12_stands 12 = .ok (.iconst (-1), 1) := by decide +kernel
theorem dX12_stands_13 : decode cX12_stands 13 = .ok (.ireturn, 1) := by decide +kernel
theorem dX12_stands_14 : decode cX12_stands 14 = .ok (.aload_n 0, 1) := by decide +kernel
theorem dX12_stands_15 : decode cX12_stands 15 = .ok (.getfield 61, 3) := by decide +kernel
theorem dX12_stands_18 : decode cX12_stands 18 = .ok (.aload_n 0, 1) := by decide +kernel
theorem dX12_stands_19 : decode cX12_stands 19 = .ok (.getfield 64, 3) := by decide +kernel
theorem dX12_stands_22 : decode cX12_stands 22 = .ok (.invokestatic 413, 3) := by decide +kernel
theorem dX12_stands_25 : decode cX12_stands 25 = .ok (.iconst 0, 1) := by decide +kernel
theorem dX12_stands_26 : decode cX12_stands 26 = .ok (.istore_n 1, 1) := by decide +kernel
theorem dX12_stands_27 : decode cX12_stands 27 = .ok (.iload_n 1, 1) := by decide +kernel
theorem dX12_stands_28 : decode cX12_stands 28 = .ok (.bipush 60, 2) := by decide +kernel
theorem dX12_stands_30 : decode cX12_stands 30 = .ok (.if_icmp .ge 29, 3) := by decide +kernel
theorem dX12_stands_33 : decode cX12_stands 33 = .ok (.aload_n 0, 1) := by decide +kernel
theorem dX12_stands_34 : decode cX12_stands 34 = .ok (.aload_n 0, 1) := by decide +kernel
theorem dX12_stands_35 : decode cX12_stands 35 = .ok (.getfield 64, 3) := by decide +kernel
theorem dX12_stands_38 : decode cX12_stands 38 = .ok (.invokevirtual 328, 3) := by decide +kernel
theorem dX12_stands_41 : decode cX12_stands 41 = .ok (.ifCond .eq 18, 3) := by decide +kernel
theorem dX12_stands_44 : decode cX12_stands 44 = .ok (.aload_n 0, 1) := by decide +kernel
theorem dX12_stands_45 : decode cX12_stands 45 = .ok (.aload_n 0, 1) := by decide +kernel
theorem dX12_stands_46 : decode cX12_stands 46 = .ok (.getfield 64, 3) := by decide +kernel
theorem dX12_stands_49 : decode cX12_stands 49 = .ok (.iconst 1, 1) := by decide +kernel
theorem dX12_stands_50 : decode cX12_stands 50 = .ok (.invokevirtual 370, 3) := by decide +kernel
theorem dX12_stands_53 : decode cX12_stands 53 = .ok (.iinc 1 1, 3) := by decide +kernel
theorem dX12_stands_56 : decode cX12_stands 56 = .ok (.goto (-29), 3) := by decide +kernel
theorem dX12_stands_59 : decode cX12_stands 59 = .ok (.iload_n 1, 1) := by decide +kernel
theorem dX12_stands_60 : decode cX12_stands 60 = .ok (.ireturn, 1) := by decide +kernel
noncomputable def kX12_stands : Nat → Op := (nodeC 27 (nodeC 13 (nodeC 5 (nodeC 1 (nodeC 0 (leafC 0 (o_al 0 1)) (leafC 1 (o_ic (0) 2))) (nodeC 2 (leafC 2 (o_pI 12 0 5)) (leafC 5 (o_al 0 6)))) (nodeC 9 (nodeC 6 (leafC 6 (o_gI 12 27 9)) (leafC 9 (o_zne 14 12))) (nodeC 12 (leafC 12 (o_ic (-1) 13)) (leafC 13 (o_iret))))) (nodeC 19 (nodeC 15 (nodeC 14 (leafC 14 (o_al 0 15)) (leafC 15 (o_gR 12 32 18))) (nodeC 18 (leafC 18 (o_al 0 19)) (leafC 19 (o_gR 12 33 22)))) (nodeC 25 (nodeC 22 (leafC 22 (o_ist 2 0 FX12_copy 25)) (leafC 25 (o_ic (0) 26))) (nodeC 26 (leafC 26 (o_is 1 27)) (leafC 27 (o_il 1 28)))))) (nodeC 44 (nodeC 34 (nodeC 30 (nodeC 28 (leafC 28 (o_ic (60) 30)) (leafC 30 (o_cge 59 33))) (nodeC 33 (leafC 33 (o_al 0 34)) (leafC 34 (o_al 0 35)))) (nodeC 38 (nodeC 35 (leafC 35 (o_gR 12 33 38)) (leafC 38 (o_inv 1 12 1 FX12_canWeave 41))) (nodeC 41 (leafC 41 (o_zeq 59 44)) (leafC 44 (o_al 0 45))))) (nodeC 50 (nodeC 46 (nodeC 45 (leafC 45 (o_al 0 46)) (leafC 46 (o_gR 12 33 49))) (nodeC 49 (leafC 49 (o_ic (1) 50)) (leafC 50 (o_inv 2 12 0 FX12_goWeek 53)))) (nodeC 56 (nodeC 53 (leafC 53 (o_inc 1 (1) 56)) (leafC 56 (o_goto 27))) (nodeC 59 (leafC 59 (o_il 1 60)) (leafC 60 (o_iret)))))))
theorem sX12_stands : ∀ pc, SoundOp cX12_stands RX12 2 (some .int) false 92 2271 pc (kX12_stands pc) := (so_node (so_node (so_node (so_node (so_node (so_leaf (so_aload_n dX12_stands_0 rfl)) (so_leaf (so_iconst dX12_stands_1 (by decide)))) (so_node (so_leaf (so_pI (by decide) (by decide) wC12 wf_RX12_105 (Or.inl rfl) rfl dX12_stands_2)) (so_leaf (so_aload_n dX12_stands_5 rfl)))) (so_node (so_node (so_leaf (so_gI (by decide) (by decide) wC12 wf_RX12_302 (fun _ _ _ => rfl) dX12_stands_6)) (so_leaf (so_zne dX12_stands_9 (by decide)))) (so_node (so_leaf (so_iconst dX12_stands_12 (by decide))) (so_leaf (so_iret dX12_stands_13 rfl))))) (so_node (so_node (so_node (so_leaf (so_aload_n dX12_stands_14 rfl)) (so_leaf (so_gR (by decide) (by decide) wC12 wf_RX12_61 (fun _ _ _ => rfl) dX12_stands_15))) (so_node (so_leaf (so_aload_n dX12_stands_18 rfl)) (so_leaf (so_gR (by decide) (by decide) wC12 wf_RX12_64 (fun _ _ _ => rfl) dX12_stands_19)))) (so_node (so_node (so_leaf (so_ist CX12_copy rfl wm_RX12_413 wst_X12_copy wny_X12_copy wc_X12_copy (by decide +kernel) (by decide) (by decide) dX12_stands_22)) (so_leaf (so_iconst dX12_stands_25 (by decide)))) (so_node (so_leaf (so_istore_n dX12_stands_26 rfl (by decide))) (so_leaf (so_iload_n dX12_stands_27 rfl)))))) (so_node (so_node (so_node (so_node (so_leaf (so_bipush dX12_stands_28 (by decide))) (so_leaf (so_cge dX12_stands_30 (by decide)))) (so_node (so_leaf (so_aload_n dX12_stands_33 rfl)) (so_leaf (so_aload_n dX12_stands_34 rfl)))) (so_node (so_node (so_leaf (so_gR (by decide) (by decide) wC12 wf_RX12_64 (fun _ _ _ => rfl) dX12_stands_35)) (so_leaf (so_inv CX12_canWeave (by decide) rfl wm_RX12_328 win_X12_canWeave wse_X12_canWeave wn_12 wc_X12_canWeave (by decide +kernel) (by decide) (by decide) dX12_stands_38))) (so_node (so_leaf (so_zeq dX12_stands_41 (by decide))) (so_leaf (so_aload_n dX12_stands_44 rfl))))) (so_node (so_node (so_node (so_leaf (so_aload_n dX12_stands_45 rfl)) (so_leaf (so_gR (by decide) (by decide) wC12 wf_RX12_64 (fun _ _ _ => rfl) dX12_stands_46))) (so_node (so_leaf (so_iconst dX12_stands_49 (by decide))) (so_leaf (so_inv CX12_goWeek (by decide) rfl wm_RX12_370 win_X12_goWeek wse_X12_goWeek wn_12 wc_X12_goWeek (by decide +kernel) (by decide) (by decide) dX12_stands_50)))) (so_node (so_node (so_leaf (so_iinc dX12_stands_53 (by decide) (by decide))) (so_leaf (so_goto dX12_stands_56 (by decide)))) (so_node (so_leaf (so_iload_n dX12_stands_59 rfl)) (so_leaf (so_iret dX12_stands_60 rfl)))))))
theorem pX12_stands : ∀ pc, Pr (kX12_stands pc) := (pr_node (pr_node (pr_node (pr_node (pr_node (pr_leaf (pr_al _ _)) (pr_leaf (pr_ic _ _))) (pr_node (pr_leaf (pr_pI _ _ _)) (pr_leaf (pr_al _ _)))) (pr_node (pr_node (pr_leaf (pr_gI _ _ _)) (pr_leaf (pr_zne _ _))) (pr_node (pr_leaf (pr_ic _ _)) (pr_leaf (pr_iret))))) (pr_node (pr_node (pr_node (pr_leaf (pr_al _ _)) (pr_leaf (pr_gR _ _ _))) (pr_node (pr_leaf (pr_al _ _)) (pr_leaf (pr_gR _ _ _)))) (pr_node (pr_node (pr_leaf (pr_ist _ _ GX12_copy _)) (pr_leaf (pr_ic _ _))) (pr_node (pr_leaf (pr_is _ _)) (pr_leaf (pr_il _ _)))))) (pr_node (pr_node (pr_node (pr_node (pr_leaf (pr_ic _ _)) (pr_leaf (pr_cge _ _))) (pr_node (pr_leaf (pr_al _ _)) (pr_leaf (pr_al _ _)))) (pr_node (pr_node (pr_leaf (pr_gR _ _ _)) (pr_leaf (pr_inv _ _ _ GX12_canWeave _))) (pr_node (pr_leaf (pr_zeq _ _)) (pr_leaf (pr_al _ _))))) (pr_node (pr_node (pr_node (pr_leaf (pr_al _ _)) (pr_leaf (pr_gR _ _ _))) (pr_node (pr_leaf (pr_ic _ _)) (pr_leaf (pr_inv _ _ _ GX12_goWeek _)))) (pr_node (pr_node (pr_leaf (pr_inc _ _ _)) (pr_leaf (pr_goto _))) (pr_node (pr_leaf (pr_il _ _)) (pr_leaf (pr_iret)))))))
noncomputable def FX12_stands : List EV → Hp → Option (RV × Hp) := Fm kX12_stands 2
theorem CX12_stands : Con yX12_stands cX12_stands 2 (some .int) 92 2271 FX12_stands := con_of (own := RX12) rfl (by decide +kernel) sX12_stands pX12_stands (fun z => by cases z)
theorem GX12_stands : Gr FX12_stands := Gr_Fm pX12_stands 2
theorem dX12_spot_0 : decode cX12_spot 0 = .ok (.iload_n 0, 1) := by decide +kernel
theorem dX12_spot_1 : decode cX12_spot 1 = .ok (.bipush 32, 2) := by decide +kernel
theorem dX12_spot_3 : decode cX12_spot 3 = .ok (.imul, 1) := by decide +kernel
theorem dX12_spot_4 : decode cX12_spot 4 = .ok (.iload_n 1, 1) := by decide +kernel
theorem dX12_spot_5 : decode cX12_spot 5 = .ok (.iadd, 1) := by decide +kernel
theorem dX12_spot_6 : decode cX12_spot 6 = .ok (.bipush 10, 2) := by decide +kernel
theorem dX12_spot_8 : decode cX12_spot 8 = .ok (.imul, 1) := by decide +kernel
theorem dX12_spot_9 : decode cX12_spot 9 = .ok (.iload_n 2, 1) := by decide +kernel
theorem dX12_spot_10 : decode cX12_spot 10 = .ok (.iadd, 1) := by decide +kernel
theorem dX12_spot_11 : decode cX12_spot 11 = .ok (.ireturn, 1) := by decide +kernel
noncomputable def kX12_spot : Nat → Op := (nodeC 5 (nodeC 1 (nodeC 0 (leafC 0 (o_il 0 1)) (leafC 1 (o_ic (32) 3))) (nodeC 3 (leafC 3 (o_imul 4)) (nodeC 4 (leafC 4 (o_il 1 5)) (leafC 5 (o_iadd 6))))) (nodeC 8 (nodeC 6 (leafC 6 (o_ic (10) 8)) (leafC 8 (o_imul 9))) (nodeC 9 (leafC 9 (o_il 2 10)) (nodeC 10 (leafC 10 (o_iadd 11)) (leafC 11 (o_iret))))))
theorem sX12_spot : ∀ pc, SoundOp cX12_spot RX12 3 (some .int) false 0 0 pc (kX12_spot pc) := (so_node (so_node (so_node (so_leaf (so_iload_n dX12_spot_0 rfl)) (so_leaf (so_bipush dX12_spot_1 (by decide)))) (so_node (so_leaf (so_imul dX12_spot_3)) (so_node (so_leaf (so_iload_n dX12_spot_4 rfl)) (so_leaf (so_iadd dX12_spot_5))))) (so_node (so_node (so_leaf (so_bipush dX12_spot_6 (by decide))) (so_leaf (so_imul dX12_spot_8))) (so_node (so_leaf (so_iload_n dX12_spot_9 rfl)) (so_node (so_leaf (so_iadd dX12_spot_10)) (so_leaf (so_iret dX12_spot_11 rfl))))))
theorem pX12_spot : ∀ pc, Pr (kX12_spot pc) := (pr_node (pr_node (pr_node (pr_leaf (pr_il _ _)) (pr_leaf (pr_ic _ _))) (pr_node (pr_leaf (pr_imul _)) (pr_node (pr_leaf (pr_il _ _)) (pr_leaf (pr_iadd _))))) (pr_node (pr_node (pr_leaf (pr_ic _ _)) (pr_leaf (pr_imul _))) (pr_node (pr_leaf (pr_il _ _)) (pr_node (pr_leaf (pr_iadd _)) (pr_leaf (pr_iret))))))
noncomputable def FX12_spot : List EV → Hp → Option (RV × Hp) := Fm kX12_spot 3
theorem CX12_spot : Con yX12_spot cX12_spot 3 (some .int) 0 0 FX12_spot := con_of (own := RX12) rfl (by decide +kernel) sX12_spot pX12_spot (fun z => by cases z)
theorem GX12_spot : Gr FX12_spot := Gr_Fm pX12_spot 3
theorem dX12_reaches_0 : decode cX12_reaches 0 = .ok (.iload_n 2, 1) := by decide +kernel
theorem dX12_reaches_1 : decode cX12_reaches 1 = .ok (.aload_n 0, 1) := by decide +kernel
theorem dX12_reaches_2 : decode cX12_reaches 2 = .ok (.getfield 37, 3) := by decide +kernel
theorem dX12_reaches_5 : decode cX12_reaches 5 = .ok (.bipush 6, 2) := by decide +kernel
theorem dX12_reaches_7 : decode cX12_reaches 7 = .ok (.iaload, 1) := by decide +kernel
theorem dX12_reaches_8 : decode cX12_reaches 8 = .ok (.if_icmp .ge 36, 3) := by decide +kernel
theorem dX12_reaches_11 : decode cX12_reaches 11 = .ok (.aload_n 0, 1) := by decide +kernel
theorem dX12_reaches_12 : decode cX12_reaches 12 = .ok (.getfield 81, 3) := by decide +kernel
theorem dX12_reaches_15 : decode cX12_reaches 15 = .ok (.aload_n 0, 1) := by decide +kernel
theorem dX12_reaches_16 : decode cX12_reaches 16 = .ok (.getfield 37, 3) := by decide +kernel
theorem dX12_reaches_19 : decode cX12_reaches 19 = .ok (.iconst 1, 1) := by decide +kernel
theorem dX12_reaches_20 : decode cX12_reaches 20 = .ok (.iaload, 1) := by decide +kernel
theorem dX12_reaches_21 : decode cX12_reaches 21 = .ok (.iload_n 1, 1) := by decide +kernel
theorem dX12_reaches_22 : decode cX12_reaches 22 = .ok (.aload_n 0, 1) := by decide +kernel
theorem dX12_reaches_23 : decode cX12_reaches 23 = .ok (.getfield 37, 3) := by decide +kernel
theorem dX12_reaches_26 : decode cX12_reaches 26 = .ok (.iconst 2, 1) := by decide +kernel
theorem dX12_reaches_27 : decode cX12_reaches 27 = .ok (.iaload, 1) := by decide +kernel
theorem dX12_reaches_28 : decode cX12_reaches 28 = .ok (.iadd, 1) := by decide +kernel
theorem dX12_reaches_29 : decode cX12_reaches 29 = .ok (.invokestatic 317, 3) := by decide +kernel
theorem dX12_reaches_32 : decode cX12_reaches 32 = .ok (.iload_n 2, 1) := by decide +kernel
theorem dX12_reaches_33 : decode cX12_reaches 33 = .ok (.bipush 9, 2) := by decide +kernel
theorem dX12_reaches_35 : decode cX12_reaches 35 = .ok (.iload_n 3, 1) := by decide +kernel
theorem dX12_reaches_36 : decode cX12_reaches 36 = .ok (.invokestatic 317, 3) := by decide +kernel
theorem dX12_reaches_39 : decode cX12_reaches 39 = .ok (.invokestatic 435, 3) := by decide +kernel
theorem dX12_reaches_42 : decode cX12_reaches 42 = .ok (.iconst 1, 1) := by decide +kernel
theorem dX12_reaches_43 : decode cX12_reaches 43 = .ok (.bastore, 1) := by decide +kernel
theorem dX12_reaches_44 : decode cX12_reaches 44 = .ok (.return_, 1) := by decide +kernel
noncomputable def kX12_reaches : Nat → Op := (nodeC 21 (nodeC 8 (nodeC 2 (nodeC 0 (leafC 0 (o_il 2 1)) (nodeC 1 (leafC 1 (o_al 0 2)) (leafC 2 (o_gR 12 18 5)))) (nodeC 5 (leafC 5 (o_ic (6) 7)) (nodeC 7 (leafC 7 (o_iald 8)) (leafC 8 (o_cge 44 11))))) (nodeC 15 (nodeC 11 (leafC 11 (o_al 0 12)) (nodeC 12 (leafC 12 (o_gR 12 42 15)) (leafC 15 (o_al 0 16)))) (nodeC 19 (nodeC 16 (leafC 16 (o_gR 12 18 19)) (leafC 19 (o_ic (1) 20))) (nodeC 20 (leafC 20 (o_iald 21)) (leafC 21 (o_il 1 22)))))) (nodeC 32 (nodeC 26 (nodeC 22 (leafC 22 (o_al 0 23)) (nodeC 23 (leafC 23 (o_gR 12 18 26)) (leafC 26 (o_ic (2) 27)))) (nodeC 28 (nodeC 27 (leafC 27 (o_iald 28)) (leafC 28 (o_iadd 29))) (nodeC 29 (leafC 29 (o_min 32)) (leafC 32 (o_il 2 33))))) (nodeC 36 (nodeC 33 (leafC 33 (o_ic (9) 35)) (nodeC 35 (leafC 35 (o_il 3 36)) (leafC 36 (o_min 39)))) (nodeC 42 (nodeC 39 (leafC 39 (o_ist 3 1 FX12_spot 42)) (leafC 42 (o_ic (1) 43))) (nodeC 43 (leafC 43 (o_zast 44)) (leafC 44 (o_vret)))))))
theorem sX12_reaches : ∀ pc, SoundOp cX12_reaches RX12 4 none false 1 23 pc (kX12_reaches pc) := (so_node (so_node (so_node (so_node (so_leaf (so_iload_n dX12_reaches_0 rfl)) (so_node (so_leaf (so_aload_n dX12_reaches_1 rfl)) (so_leaf (so_gR (by decide) (by decide) wC12 wf_RX12_37 (fun _ _ _ => rfl) dX12_reaches_2)))) (so_node (so_leaf (so_bipush dX12_reaches_5 (by decide))) (so_node (so_leaf (so_iald dX12_reaches_7)) (so_leaf (so_cge dX12_reaches_8 (by decide)))))) (so_node (so_node (so_leaf (so_aload_n dX12_reaches_11 rfl)) (so_node (so_leaf (so_gR (by decide) (by decide) wC12 wf_RX12_81 (fun _ _ _ => rfl) dX12_reaches_12)) (so_leaf (so_aload_n dX12_reaches_15 rfl)))) (so_node (so_node (so_leaf (so_gR (by decide) (by decide) wC12 wf_RX12_37 (fun _ _ _ => rfl) dX12_reaches_16)) (so_leaf (so_iconst dX12_reaches_19 (by decide)))) (so_node (so_leaf (so_iald dX12_reaches_20)) (so_leaf (so_iload_n dX12_reaches_21 rfl)))))) (so_node (so_node (so_node (so_leaf (so_aload_n dX12_reaches_22 rfl)) (so_node (so_leaf (so_gR (by decide) (by decide) wC12 wf_RX12_37 (fun _ _ _ => rfl) dX12_reaches_23)) (so_leaf (so_iconst dX12_reaches_26 (by decide))))) (so_node (so_node (so_leaf (so_iald dX12_reaches_27)) (so_leaf (so_iadd dX12_reaches_28))) (so_node (so_leaf (so_min wm_RX12_317 wms_min wmi wmc_min (by decide) (by decide) dX12_reaches_29)) (so_leaf (so_iload_n dX12_reaches_32 rfl))))) (so_node (so_node (so_leaf (so_bipush dX12_reaches_33 (by decide))) (so_node (so_leaf (so_iload_n dX12_reaches_35 rfl)) (so_leaf (so_min wm_RX12_317 wms_min wmi wmc_min (by decide) (by decide) dX12_reaches_36)))) (so_node (so_node (so_leaf (so_ist CX12_spot rfl wm_RX12_435 wst_X12_spot wny_X12_spot wc_X12_spot (by decide +kernel) (by decide) (by decide) dX12_reaches_39)) (so_leaf (so_iconst dX12_reaches_42 (by decide)))) (so_node (so_leaf (so_zast dX12_reaches_43)) (so_leaf (so_vret dX12_reaches_44 rfl)))))))
theorem pX12_reaches : ∀ pc, Pr (kX12_reaches pc) := (pr_node (pr_node (pr_node (pr_node (pr_leaf (pr_il _ _)) (pr_node (pr_leaf (pr_al _ _)) (pr_leaf (pr_gR _ _ _)))) (pr_node (pr_leaf (pr_ic _ _)) (pr_node (pr_leaf (pr_iald _)) (pr_leaf (pr_cge _ _))))) (pr_node (pr_node (pr_leaf (pr_al _ _)) (pr_node (pr_leaf (pr_gR _ _ _)) (pr_leaf (pr_al _ _)))) (pr_node (pr_node (pr_leaf (pr_gR _ _ _)) (pr_leaf (pr_ic _ _))) (pr_node (pr_leaf (pr_iald _)) (pr_leaf (pr_il _ _)))))) (pr_node (pr_node (pr_node (pr_leaf (pr_al _ _)) (pr_node (pr_leaf (pr_gR _ _ _)) (pr_leaf (pr_ic _ _)))) (pr_node (pr_node (pr_leaf (pr_iald _)) (pr_leaf (pr_iadd _))) (pr_node (pr_leaf (pr_min _)) (pr_leaf (pr_il _ _))))) (pr_node (pr_node (pr_leaf (pr_ic _ _)) (pr_node (pr_leaf (pr_il _ _)) (pr_leaf (pr_min _)))) (pr_node (pr_node (pr_leaf (pr_ist _ _ GX12_spot _)) (pr_leaf (pr_ic _ _))) (pr_node (pr_leaf (pr_zast _)) (pr_leaf (pr_vret)))))))
noncomputable def FX12_reaches : List EV → Hp → Option (RV × Hp) := Fm kX12_reaches 4
theorem CX12_reaches : Con yX12_reaches cX12_reaches 4 none 1 23 FX12_reaches := con_of (own := RX12) rfl (by decide +kernel) sX12_reaches pX12_reaches (fun z => by cases z)
theorem GX12_reaches : Gr FX12_reaches := Gr_Fm pX12_reaches 4
theorem dX12_goSoon_0 : decode cX12_goSoon 0 = .ok (.aload_n 0, 1) := by decide +kernel
theorem dX12_goSoon_1 : decode cX12_goSoon 1 = .ok (.iload_n 1, 1) := by decide +kernel
theorem dX12_goSoon_2 : decode cX12_goSoon 2 = .ok (.iconst 0, 1) := by decide +kernel
theorem dX12_goSoon_3 : decode cX12_goSoon 3 = .ok (.iload_n 2, 1) := by decide +kernel
theorem dX12_goSoon_4 : decode cX12_goSoon 4 = .ok (.iconst 1, 1) := by decide +kernel
theorem dX12_goSoon_5 : decode cX12_goSoon 5 = .ok (.isub, 1) := by decide +kernel
theorem dX12_goSoon_6 : decode cX12_goSoon 6 = .ok (.invokestatic 319, 3) := by decide +kernel
theorem dX12_goSoon_9 : decode cX12_goSoon 9 = .ok (.iload_n 3, 1) := by decide +kernel
theorem dX12_goSoon_10 : decode cX12_goSoon 10 = .ok (.invokevirtual 439, 3) := by decide +kernel
theorem dX12_goSoon_13 : decode cX12_goSoon 13 = .ok (.aload_n 0, 1) := by decide +kernel
theorem dX12_goSoon_14 : decode cX12_goSoon 14 = .ok (.getfield 61, 3) := by decide +kernel
theorem dX12_goSoon_17 : decode cX12_goSoon 17 = .ok (.bipush 19, 2) := by decide +kernel
theorem dX12_goSoon_19 : decode cX12_goSoon 19 = .ok (.iaload, 1) := by decide +kernel
theorem dX12_goSoon_20 : decode cX12_goSoon 20 = .ok (.iload_n 3, 1) := by decide +kernel
theorem dX12_goSoon_21 : decode cX12_goSoon 21 = .ok (.iadd, 1) := by decide +kernel
theorem dX12_goSoon_22 : decode cX12_goSoon 22 = .ok (.istore 5, 2) := by decide +kernel
theorem dX12_goSoon_24 : decode cX12_goSoon 24 = .ok (.iload 5, 2) := by decide +kernel
theorem dX12_goSoon_26 : decode cX12_goSoon 26 = .ok (.bipush 60, 2) := by decide +kernel
theorem dX12_goSoon_28 : decode cX12_goSoon 28 = .ok (.if_icmp .lt 4, 3) := by decide +kernel
theorem dX12_goSoon_31 : decode cX12_goSoon 31 = .ok (.return_, 1) := by decide +kernel
theorem dX12_goSoon_32 : decode cX12_goSoon 32 = .ok (.aload_n 0, 1) := by decide +kernel
theorem dX12_goSoon_33 : decode cX12_goSoon 33 = .ok (.iload_n 1, 1) := by decide +kernel
theorem dX12_goSoon_34 : decode cX12_goSoon 34 = .ok (.iload_n 2, 1) := by decide +kernel
theorem dX12_goSoon_35 : decode cX12_goSoon 35 = .ok (.iload 5, 2) := by decide +kernel
theorem dX12_goSoon_37 : decode cX12_goSoon 37 = .ok (.iload 4, 2) := by decide +kernel
theorem dX12_goSoon_39 : decode cX12_goSoon 39 = .ok (.aload_n 0, 1) := by decide +kernel
theorem dX12_goSoon_40 : decode cX12_goSoon 40 = .ok (.getfield 61, 3) := by decide +kernel
theorem dX12_goSoon_43 : decode cX12_goSoon 43 = .ok (.iconst 4, 1) := by decide +kernel
theorem dX12_goSoon_44 : decode cX12_goSoon 44 = .ok (.iaload, 1) := by decide +kernel
theorem dX12_goSoon_45 : decode cX12_goSoon 45 = .ok (.invokevirtual 321, 3) := by decide +kernel
theorem dX12_goSoon_48 : decode cX12_goSoon 48 = .ok (.istore 6, 2) := by decide +kernel
theorem dX12_goSoon_50 : decode cX12_goSoon 50 = .ok (.iload_n 1, 1) := by decide +kernel
theorem dX12_goSoon_51 : decode cX12_goSoon 51 = .ok (.iload 6, 2) := by decide +kernel
theorem dX12_goSoon_53 : decode cX12_goSoon 53 = .ok (.if_icmp .le 36, 3) := by decide +kernel
theorem dX12_goSoon_56 : decode cX12_goSoon 56 = .ok (.iload_n 3, 1) := by decide +kernel
theorem dX12_goSoon_57 : decode cX12_goSoon 57 = .ok (.bipush 9, 2) := by decide +kernel
theorem dX12_goSoon_59 : decode cX12_goSoon 59 = .ok (.if_icmp .ge 30, 3) := by decide +kernel
theorem dX12_goSoon_62 : decode cX12_goSoon 62 = .ok (.aload_n 0, 1) := by decide +kernel
theorem dX12_goSoon_63 : decode cX12_goSoon 63 = .ok (.iload_n 1, 1) := by decide +kernel
theorem dX12_goSoon_64 : decode cX12_goSoon 64 = .ok (.iload 6, 2) := by decide +kernel
theorem dX12_goSoon_66 : decode cX12_goSoon 66 = .ok (.isub, 1) := by decide +kernel
theorem dX12_goSoon_67 : decode cX12_goSoon 67 = .ok (.aload_n 0, 1) := by decide +kernel
theorem dX12_goSoon_68 : decode cX12_goSoon 68 = .ok (.getfield 61, 3) := by decide +kernel
theorem dX12_goSoon_71 : decode cX12_goSoon 71 = .ok (.iconst 3, 1) := by decide +kernel
theorem dX12_goSoon_72 : decode cX12_goSoon 72 = .ok (.iaload, 1) := by decide +kernel
theorem dX12_goSoon_73 : decode cX12_goSoon 73 = .ok (.ifCond .ne 9, 3) := by decide +kernel
theorem dX12_goSoon_76 : decode cX12_goSoon 76 = .ok (.iload_n 2, 1) := by decide +kernel
theorem dX12_goSoon_77 : decode cX12_goSoon 77 = .ok (.iconst 1, 1) := by decide +kernel
theorem dX12_goSoon_78 : decode cX12_goSoon 78 = .ok (.iadd, 1) := by decide +kernel
theorem dX12_goSoon_79 : decode cX12_goSoon 79 = .ok (.goto 4, 3) := by decide +kernel
theorem dX12_goSoon_82 : decode cX12_goSoon 82 = .ok (.iload_n 2, 1) := by decide +kernel
theorem dX12_goSoon_83 : decode cX12_goSoon 83 = .ok (.iload_n 3, 1) := by decide +kernel
theorem dX12_goSoon_84 : decode cX12_goSoon 84 = .ok (.iconst 1, 1) := by decide +kernel
theorem dX12_goSoon_85 : decode cX12_goSoon 85 = .ok (.iadd, 1) := by decide +kernel
theorem dX12_goSoon_86 : decode cX12_goSoon 86 = .ok (.invokevirtual 439, 3) := by decide +kernel
theorem dX12_goSoon_89 : decode cX12_goSoon 89 = .ok (.return_, 1) := by decide +kernel
noncomputable def kX12_goSoon : Nat → Op := (nodeC 43 (nodeC 20 (nodeC 6 (nodeC 2 (nodeC 0 (leafC 0 (o_al 0 1)) (nodeC 1 (leafC 1 (o_il 1 2)) (leafC 2 (o_ic (0) 3)))) (nodeC 4 (nodeC 3 (leafC 3 (o_il 2 4)) (leafC 4 (o_ic (1) 5))) (nodeC 5 (leafC 5 (o_isub 6)) (leafC 6 (o_max 9))))) (nodeC 13 (nodeC 9 (leafC 9 (o_il 3 10)) (nodeC 10 (leafC 10 (o_inv 3 12 0 FX12_reaches 13)) (leafC 13 (o_al 0 14)))) (nodeC 17 (nodeC 14 (leafC 14 (o_gR 12 32 17)) (leafC 17 (o_ic (19) 19))) (nodeC 19 (leafC 19 (o_iald 20)) (leafC 20 (o_il 3 21)))))) (nodeC 32 (nodeC 24 (nodeC 21 (leafC 21 (o_iadd 22)) (nodeC 22 (leafC 22 (o_is 5 24)) (leafC 24 (o_il 5 26)))) (nodeC 28 (nodeC 26 (leafC 26 (o_ic (60) 28)) (leafC 28 (o_clt 32 31))) (nodeC 31 (leafC 31 (o_vret)) (leafC 32 (o_al 0 33))))) (nodeC 35 (nodeC 33 (leafC 33 (o_il 1 34)) (nodeC 34 (leafC 34 (o_il 2 35)) (leafC 35 (o_il 5 37)))) (nodeC 39 (nodeC 37 (leafC 37 (o_il 4 39)) (leafC 39 (o_al 0 40))) (nodeC 40 (leafC 40 (o_gR 12 32 43)) (leafC 43 (o_ic (4) 44))))))) (nodeC 67 (nodeC 56 (nodeC 48 (nodeC 44 (leafC 44 (o_iald 45)) (nodeC 45 (leafC 45 (o_inv 5 12 1 FX12_takesBy 48)) (leafC 48 (o_is 6 50)))) (nodeC 51 (nodeC 50 (leafC 50 (o_il 1 51)) (leafC 51 (o_il 6 53))) (nodeC 53 (leafC 53 (o_cle 89 56)) (leafC 56 (o_il 3 57))))) (nodeC 62 (nodeC 57 (leafC 57 (o_ic (9) 59)) (nodeC 59 (leafC 59 (o_cge 89 62)) (leafC 62 (o_al 0 63)))) (nodeC 64 (nodeC 63 (leafC 63 (o_il 1 64)) (leafC 64 (o_il 6 66))) (nodeC 66 (leafC 66 (o_isub 67)) (leafC 67 (o_al 0 68)))))) (nodeC 78 (nodeC 72 (nodeC 68 (leafC 68 (o_gR 12 32 71)) (nodeC 71 (leafC 71 (o_ic (3) 72)) (leafC 72 (o_iald 73)))) (nodeC 76 (nodeC 73 (leafC 73 (o_zne 82 76)) (leafC 76 (o_il 2 77))) (nodeC 77 (leafC 77 (o_ic (1) 78)) (leafC 78 (o_iadd 79))))) (nodeC 83 (nodeC 79 (leafC 79 (o_goto 83)) (nodeC 82 (leafC 82 (o_il 2 83)) (leafC 83 (o_il 3 84)))) (nodeC 85 (nodeC 84 (leafC 84 (o_ic (1) 85)) (leafC 85 (o_iadd 86))) (nodeC 86 (leafC 86 (o_inv 3 12 0 FX12_reaches 89)) (leafC 89 (o_vret))))))))
theorem sX12_goSoon : ∀ pc, SoundOp cX12_goSoon RX12 7 none false 89 2204 pc (kX12_goSoon pc) := (so_node (so_node (so_node (so_node (so_node (so_leaf (so_aload_n dX12_goSoon_0 rfl)) (so_node (so_leaf (so_iload_n dX12_goSoon_1 rfl)) (so_leaf (so_iconst dX12_goSoon_2 (by decide))))) (so_node (so_node (so_leaf (so_iload_n dX12_goSoon_3 rfl)) (so_leaf (so_iconst dX12_goSoon_4 (by decide)))) (so_node (so_leaf (so_isub dX12_goSoon_5)) (so_leaf (so_max wm_RX12_319 wms_max wmi wmc_max (by decide) (by decide) dX12_goSoon_6))))) (so_node (so_node (so_leaf (so_iload_n dX12_goSoon_9 rfl)) (so_node (so_leaf (so_inv CX12_reaches (by decide) rfl wm_RX12_439 win_X12_reaches wse_X12_reaches wn_12 wc_X12_reaches (by decide +kernel) (by decide) (by decide) dX12_goSoon_10)) (so_leaf (so_aload_n dX12_goSoon_13 rfl)))) (so_node (so_node (so_leaf (so_gR (by decide) (by decide) wC12 wf_RX12_61 (fun _ _ _ => rfl) dX12_goSoon_14)) (so_leaf (so_bipush dX12_goSoon_17 (by decide)))) (so_node (so_leaf (so_iald dX12_goSoon_19)) (so_leaf (so_iload_n dX12_goSoon_20 rfl)))))) (so_node (so_node (so_node (so_leaf (so_iadd dX12_goSoon_21)) (so_node (so_leaf (so_istore dX12_goSoon_22 (by decide))) (so_leaf (so_iload dX12_goSoon_24)))) (so_node (so_node (so_leaf (so_bipush dX12_goSoon_26 (by decide))) (so_leaf (so_clt dX12_goSoon_28 (by decide)))) (so_node (so_leaf (so_vret dX12_goSoon_31 rfl)) (so_leaf (so_aload_n dX12_goSoon_32 rfl))))) (so_node (so_node (so_leaf (so_iload_n dX12_goSoon_33 rfl)) (so_node (so_leaf (so_iload_n dX12_goSoon_34 rfl)) (so_leaf (so_iload dX12_goSoon_35)))) (so_node (so_node (so_leaf (so_iload dX12_goSoon_37)) (so_leaf (so_aload_n dX12_goSoon_39 rfl))) (so_node (so_leaf (so_gR (by decide) (by decide) wC12 wf_RX12_61 (fun _ _ _ => rfl) dX12_goSoon_40)) (so_leaf (so_iconst dX12_goSoon_43 (by decide)))))))) (so_node (so_node (so_node (so_node (so_leaf (so_iald dX12_goSoon_44)) (so_node (so_leaf (so_inv CX12_takesBy (by decide) rfl wm_RX12_321 win_X12_takesBy wse_X12_takesBy wn_12 wc_X12_takesBy (by decide +kernel) (by decide) (by decide) dX12_goSoon_45)) (so_leaf (so_istore dX12_goSoon_48 (by decide))))) (so_node (so_node (so_leaf (so_iload_n dX12_goSoon_50 rfl)) (so_leaf (so_iload dX12_goSoon_51))) (so_node (so_leaf (so_cle dX12_goSoon_53 (by decide))) (so_leaf (so_iload_n dX12_goSoon_56 rfl))))) (so_node (so_node (so_leaf (so_bipush dX12_goSoon_57 (by decide))) (so_node (so_leaf (so_cge dX12_goSoon_59 (by decide))) (so_leaf (so_aload_n dX12_goSoon_62 rfl)))) (so_node (so_node (so_leaf (so_iload_n dX12_goSoon_63 rfl)) (so_leaf (so_iload dX12_goSoon_64))) (so_node (so_leaf (so_isub dX12_goSoon_66)) (so_leaf (so_aload_n dX12_goSoon_67 rfl)))))) (so_node (so_node (so_node (so_leaf (so_gR (by decide) (by decide) wC12 wf_RX12_61 (fun _ _ _ => rfl) dX12_goSoon_68)) (so_node (so_leaf (so_iconst dX12_goSoon_71 (by decide))) (so_leaf (so_iald dX12_goSoon_72)))) (so_node (so_node (so_leaf (so_zne dX12_goSoon_73 (by decide))) (so_leaf (so_iload_n dX12_goSoon_76 rfl))) (so_node (so_leaf (so_iconst dX12_goSoon_77 (by decide))) (so_leaf (so_iadd dX12_goSoon_78))))) (so_node (so_node (so_leaf (so_goto dX12_goSoon_79 (by decide))) (so_node (so_leaf (so_iload_n dX12_goSoon_82 rfl)) (so_leaf (so_iload_n dX12_goSoon_83 rfl)))) (so_node (so_node (so_leaf (so_iconst dX12_goSoon_84 (by decide))) (so_leaf (so_iadd dX12_goSoon_85))) (so_node (so_leaf (so_inv CX12_reaches (by decide) rfl wm_RX12_439 win_X12_reaches wse_X12_reaches wn_12 wc_X12_reaches (by decide +kernel) (by decide) (by decide) dX12_goSoon_86)) (so_leaf (so_vret dX12_goSoon_89 rfl))))))))
theorem pX12_goSoon : ∀ pc, Pr (kX12_goSoon pc) := (pr_node (pr_node (pr_node (pr_node (pr_node (pr_leaf (pr_al _ _)) (pr_node (pr_leaf (pr_il _ _)) (pr_leaf (pr_ic _ _)))) (pr_node (pr_node (pr_leaf (pr_il _ _)) (pr_leaf (pr_ic _ _))) (pr_node (pr_leaf (pr_isub _)) (pr_leaf (pr_max _))))) (pr_node (pr_node (pr_leaf (pr_il _ _)) (pr_node (pr_leaf (pr_inv _ _ _ GX12_reaches _)) (pr_leaf (pr_al _ _)))) (pr_node (pr_node (pr_leaf (pr_gR _ _ _)) (pr_leaf (pr_ic _ _))) (pr_node (pr_leaf (pr_iald _)) (pr_leaf (pr_il _ _)))))) (pr_node (pr_node (pr_node (pr_leaf (pr_iadd _)) (pr_node (pr_leaf (pr_is _ _)) (pr_leaf (pr_il _ _)))) (pr_node (pr_node (pr_leaf (pr_ic _ _)) (pr_leaf (pr_clt _ _))) (pr_node (pr_leaf (pr_vret)) (pr_leaf (pr_al _ _))))) (pr_node (pr_node (pr_leaf (pr_il _ _)) (pr_node (pr_leaf (pr_il _ _)) (pr_leaf (pr_il _ _)))) (pr_node (pr_node (pr_leaf (pr_il _ _)) (pr_leaf (pr_al _ _))) (pr_node (pr_leaf (pr_gR _ _ _)) (pr_leaf (pr_ic _ _))))))) (pr_node (pr_node (pr_node (pr_node (pr_leaf (pr_iald _)) (pr_node (pr_leaf (pr_inv _ _ _ GX12_takesBy _)) (pr_leaf (pr_is _ _)))) (pr_node (pr_node (pr_leaf (pr_il _ _)) (pr_leaf (pr_il _ _))) (pr_node (pr_leaf (pr_cle _ _)) (pr_leaf (pr_il _ _))))) (pr_node (pr_node (pr_leaf (pr_ic _ _)) (pr_node (pr_leaf (pr_cge _ _)) (pr_leaf (pr_al _ _)))) (pr_node (pr_node (pr_leaf (pr_il _ _)) (pr_leaf (pr_il _ _))) (pr_node (pr_leaf (pr_isub _)) (pr_leaf (pr_al _ _)))))) (pr_node (pr_node (pr_node (pr_leaf (pr_gR _ _ _)) (pr_node (pr_leaf (pr_ic _ _)) (pr_leaf (pr_iald _)))) (pr_node (pr_node (pr_leaf (pr_zne _ _)) (pr_leaf (pr_il _ _))) (pr_node (pr_leaf (pr_ic _ _)) (pr_leaf (pr_iadd _))))) (pr_node (pr_node (pr_leaf (pr_goto _)) (pr_node (pr_leaf (pr_il _ _)) (pr_leaf (pr_il _ _)))) (pr_node (pr_node (pr_leaf (pr_ic _ _)) (pr_leaf (pr_iadd _))) (pr_node (pr_leaf (pr_inv _ _ _ GX12_reaches _)) (pr_leaf (pr_vret))))))))
noncomputable def FX12_goSoon : List EV → Hp → Option (RV × Hp) := Fm kX12_goSoon 7
theorem CX12_goSoon : Con yX12_goSoon cX12_goSoon 7 none 89 2204 FX12_goSoon := con_of (own := RX12) rfl (by decide +kernel) sX12_goSoon pX12_goSoon (fun z => by cases z)
theorem GX12_goSoon : Gr FX12_goSoon := Gr_Fm pX12_goSoon 7
theorem dX12_hasWoven_0 : decode cX12_hasWoven 0 = .ok (.iconst 0, 1) := by decide +kernel
theorem dX12_hasWoven_1 : decode cX12_hasWoven 1 = .ok (.istore_n 2, 1) := by decide +kernel
theorem dX12_hasWoven_2 : decode cX12_hasWoven 2 = .ok (.iload_n 2, 1) := by decide +kernel
theorem dX12_hasWoven_3 : decode cX12_hasWoven 3 = .ok (.bipush 61, 2) := by decide +kernel
theorem dX12_hasWoven_5 : decode cX12_hasWoven 5 = .ok (.if_icmp .ge 39, 3) := by decide +kernel
theorem dX12_hasWoven_8 : decode cX12_hasWoven 8 = .ok (.iconst 0, 1) := by decide +kernel
theorem dX12_hasWoven_9 : decode cX12_hasWoven 9 = .ok (.istore_n 3, 1) := by decide +kernel
theorem dX12_hasWoven_10 : decode cX12_hasWoven 10 = .ok (.iload_n 3, 1) := by decide +kernel
theorem dX12_hasWoven_11 : decode cX12_hasWoven 11 = .ok (.bipush 32, 2) := by decide +kernel
theorem dX12_hasWoven_13 : decode cX12_hasWoven 13 = .ok (.if_icmp .ge 25, 3) := by decide +kernel
theorem dX12_hasWoven_16 : decode cX12_hasWoven 16 = .ok (.aload_n 0, 1) := by decide +kernel
theorem dX12_hasWoven_17 : decode cX12_hasWoven 17 = .ok (.getfield 77, 3) := by decide +kernel
theorem dX12_hasWoven_20 : decode cX12_hasWoven 20 = .ok (.iload_n 2, 1) := by decide +kernel
theorem dX12_hasWoven_21 : decode cX12_hasWoven 21 = .ok (.iload_n 3, 1) := by decide +kernel
theorem dX12_hasWoven_22 : decode cX12_hasWoven 22 = .ok (.iload_n 1, 1) := by decide +kernel
theorem dX12_hasWoven_23 : decode cX12_hasWoven 23 = .ok (.invokestatic 435, 3) := by decide +kernel
theorem dX12_hasWoven_26 : decode cX12_hasWoven 26 = .ok (.baload, 1) := by decide +kernel
theorem dX12_hasWoven_27 : decode cX12_hasWoven 27 = .ok (.ifCond .eq 5, 3) := by decide +kernel
theorem dX12_hasWoven_30 : decode cX12_hasWoven 30 = .ok (.iconst 1, 1) := by decide +kernel
theorem dX12_hasWoven_31 : decode cX12_hasWoven 31 = .ok (.ireturn, 1) := by decide +kernel
theorem dX12_hasWoven_32 : decode cX12_hasWoven 32 = .ok (.iinc 3 1, 3) := by decide +kernel
theorem dX12_hasWoven_35 : decode cX12_hasWoven 35 = .ok (.goto (-25), 3) := by decide +kernel
theorem dX12_hasWoven_38 : decode cX12_hasWoven 38 = .ok (.iinc 2 1, 3) := by decide +kernel
theorem dX12_hasWoven_41 : decode cX12_hasWoven 41 = .ok (.goto (-39), 3) := by decide +kernel
theorem dX12_hasWoven_44 : decode cX12_hasWoven 44 = .ok (.iconst 0, 1) := by decide +kernel
theorem dX12_hasWoven_45 : decode cX12_hasWoven 45 = .ok (.ireturn, 1) := by decide +kernel
noncomputable def kX12_hasWoven : Nat → Op := (nodeC 20 (nodeC 8 (nodeC 2 (nodeC 0 (leafC 0 (o_ic (0) 1)) (nodeC 1 (leafC 1 (o_is 2 2)) (leafC 2 (o_mask [3] (o_il 2 3))))) (nodeC 3 (leafC 3 (o_ic (61) 5)) (nodeC 5 (leafC 5 (o_cge 44 8)) (leafC 8 (o_ic (0) 9))))) (nodeC 11 (nodeC 9 (leafC 9 (o_is 3 10)) (nodeC 10 (leafC 10 (o_il 3 11)) (leafC 11 (o_ic (32) 13)))) (nodeC 16 (nodeC 13 (leafC 13 (o_cge 38 16)) (leafC 16 (o_al 0 17))) (nodeC 17 (leafC 17 (o_gR 12 41 20)) (leafC 20 (o_il 2 21)))))) (nodeC 30 (nodeC 23 (nodeC 21 (leafC 21 (o_il 3 22)) (nodeC 22 (leafC 22 (o_il 1 23)) (leafC 23 (o_ist 3 1 FX12_spot 26)))) (nodeC 26 (leafC 26 (o_zald 27)) (nodeC 27 (leafC 27 (o_zeq 32 30)) (leafC 30 (o_ic (1) 31))))) (nodeC 35 (nodeC 31 (leafC 31 (o_zret)) (nodeC 32 (leafC 32 (o_inc 3 (1) 35)) (leafC 35 (o_goto 10)))) (nodeC 41 (nodeC 38 (leafC 38 (o_inc 2 (1) 41)) (leafC 41 (o_goto 2))) (nodeC 44 (leafC 44 (o_ic (0) 45)) (leafC 45 (o_zret)))))))
theorem sX12_hasWoven : ∀ pc, SoundOp cX12_hasWoven RX12 4 (some .boolean) false 1 22 pc (kX12_hasWoven pc) := (so_node (so_node (so_node (so_node (so_leaf (so_iconst dX12_hasWoven_0 (by decide))) (so_node (so_leaf (so_istore_n dX12_hasWoven_1 rfl (by decide))) (so_leaf (so_mask (so_iload_n dX12_hasWoven_2 rfl))))) (so_node (so_leaf (so_bipush dX12_hasWoven_3 (by decide))) (so_node (so_leaf (so_cge dX12_hasWoven_5 (by decide))) (so_leaf (so_iconst dX12_hasWoven_8 (by decide)))))) (so_node (so_node (so_leaf (so_istore_n dX12_hasWoven_9 rfl (by decide))) (so_node (so_leaf (so_iload_n dX12_hasWoven_10 rfl)) (so_leaf (so_bipush dX12_hasWoven_11 (by decide))))) (so_node (so_node (so_leaf (so_cge dX12_hasWoven_13 (by decide))) (so_leaf (so_aload_n dX12_hasWoven_16 rfl))) (so_node (so_leaf (so_gR (by decide) (by decide) wC12 wf_RX12_77 (fun _ _ _ => rfl) dX12_hasWoven_17)) (so_leaf (so_iload_n dX12_hasWoven_20 rfl)))))) (so_node (so_node (so_node (so_leaf (so_iload_n dX12_hasWoven_21 rfl)) (so_node (so_leaf (so_iload_n dX12_hasWoven_22 rfl)) (so_leaf (so_ist CX12_spot rfl wm_RX12_435 wst_X12_spot wny_X12_spot wc_X12_spot (by decide +kernel) (by decide) (by decide) dX12_hasWoven_23)))) (so_node (so_leaf (so_zald dX12_hasWoven_26)) (so_node (so_leaf (so_zeq dX12_hasWoven_27 (by decide))) (so_leaf (so_iconst dX12_hasWoven_30 (by decide)))))) (so_node (so_node (so_leaf (so_zret dX12_hasWoven_31 rfl)) (so_node (so_leaf (so_iinc dX12_hasWoven_32 (by decide) (by decide))) (so_leaf (so_goto dX12_hasWoven_35 (by decide))))) (so_node (so_node (so_leaf (so_iinc dX12_hasWoven_38 (by decide) (by decide))) (so_leaf (so_goto dX12_hasWoven_41 (by decide)))) (so_node (so_leaf (so_iconst dX12_hasWoven_44 (by decide))) (so_leaf (so_zret dX12_hasWoven_45 rfl)))))))
theorem pX12_hasWoven : ∀ pc, Pr (kX12_hasWoven pc) := (pr_node (pr_node (pr_node (pr_node (pr_leaf (pr_ic _ _)) (pr_node (pr_leaf (pr_is _ _)) (pr_leaf (pr_mask (pr_il _ _))))) (pr_node (pr_leaf (pr_ic _ _)) (pr_node (pr_leaf (pr_cge _ _)) (pr_leaf (pr_ic _ _))))) (pr_node (pr_node (pr_leaf (pr_is _ _)) (pr_node (pr_leaf (pr_il _ _)) (pr_leaf (pr_ic _ _)))) (pr_node (pr_node (pr_leaf (pr_cge _ _)) (pr_leaf (pr_al _ _))) (pr_node (pr_leaf (pr_gR _ _ _)) (pr_leaf (pr_il _ _)))))) (pr_node (pr_node (pr_node (pr_leaf (pr_il _ _)) (pr_node (pr_leaf (pr_il _ _)) (pr_leaf (pr_ist _ _ GX12_spot _)))) (pr_node (pr_leaf (pr_zald _)) (pr_node (pr_leaf (pr_zeq _ _)) (pr_leaf (pr_ic _ _))))) (pr_node (pr_node (pr_leaf (pr_zret)) (pr_node (pr_leaf (pr_inc _ _ _)) (pr_leaf (pr_goto _)))) (pr_node (pr_node (pr_leaf (pr_inc _ _ _)) (pr_leaf (pr_goto _))) (pr_node (pr_leaf (pr_ic _ _)) (pr_leaf (pr_zret)))))))
noncomputable def FX12_hasWoven : List EV → Hp → Option (RV × Hp) := Fm kX12_hasWoven 4
theorem CX12_hasWoven : Con yX12_hasWoven cX12_hasWoven 4 (some .boolean) 1 22 FX12_hasWoven := con_of (own := RX12) rfl (by decide +kernel) sX12_hasWoven pX12_hasWoven (fun z => by cases z)
theorem GX12_hasWoven : Gr FX12_hasWoven := Gr_Fm pX12_hasWoven 4
theorem dX12_soonest_0 : decode cX12_soonest 0 = .ok (.aload_n 0, 1) := by decide +kernel
theorem dX12_soonest_1 : decode cX12_soonest 1 = .ok (.iconst 0, 1) := by decide +kernel
theorem dX12_soonest_2 : decode cX12_soonest 2 = .ok (.putfield 105, 3) := by decide +kernel
theorem dX12_soonest_5 : decode cX12_soonest 5 = .ok (.aload_n 0, 1) := by decide +kernel
theorem dX12_soonest_6 : decode cX12_soonest 6 = .ok (.getfield 302, 3) := by decide +kernel
theorem dX12_soonest_9 : decode cX12_soonest 9 = .ok (.ifCond .eq 25, 3) := by decide +kernel
theorem dX12_soonest_12 : decode cX12_soonest 12 = .ok (.iload_n 1, 1) := by decide +kernel
theorem dX12_soonest_13 : decode cX12_soonest 13 = .ok (.i2l, 1) := by decide +kernel
theorem dX12_soonest_14 : decode cX12_soonest 14 = .ok (.lconst 1, 1) := by decide +kernel
theorem dX12_soonest_15 : decode cX12_soonest 15 = .ok (.ldc2_w 358, 3) := by decide +kernel
theorem dX12_soonest_18 : decode cX12_soonest 18 = .ok (.invokestatic 225, 3) := by decide +kernel
theorem dX12_soonest_21 : decode cX12_soonest 21 = .ok (.ifCond .eq 13, 3) := by decide +kernel
theorem dX12_soonest_24 : decode cX12_soonest 24 = .ok (.aload_n 0, 1) := by decide +kernel
theorem dX12_soonest_25 : decode cX12_soonest 25 = .ok (.getfield 61, 3) := by decide +kernel
theorem dX12_soonest_28 : decode cX12_soonest 28 = .ok (.iconst 1, 1) := by decide +kernel
theorem dX12_soonest_29 : decode cX12_soonest 29 = .ok (.iaload, 1) := by decide +kernel
theorem dX12_soonest_30 : decode cX12_soonest 30 = .ok (.iconst 1, 1) := by decide +kernel
theorem dX12_soonest_31 : decode cX12_soonest 31 = .ok (.if_icmp .ne 5, 3) := by decide +kernel
theorem dX12_soonest_34 : decode cX12_soonest 34 = .ok (.iconst (-1), 1) := by decide +kernel
theorem dX12_soonest_35 : decode cX12_soonest 35 = .ok (.ireturn, 1) := by decide +kernel
theorem dX12_soonest_36 : decode cX12_soonest 36 = .ok (.iconst 0, 1) := by decide +kernel
theorem dX12_soonest_37 : decode cX12_soonest 37 = .ok (.istore_n 2, 1) := by decide +kernel
theorem dX12_soonest_38 : decode cX12_soonest 38 = .ok (.iload_n 2, 1) := by decide +kernel
theorem dX12_soonest_39 : decode cX12_soonest 39 = .ok (.aload_n 0, 1) := by decide +kernel
theorem dX12_soonest_40 : decode cX12_soonest 40 = .ok (.getfield 77, 3) := by decide +kernel
theorem dX12_soonest_43 : decode cX12_soonest 43 = .ok (.arraylength, 1) := by decide +kernel
theorem dX12_soonest_44 : decode cX12_soonest 44 = .ok (.if_icmp .ge 16, 3) := by decide +kernel
theorem dX12_soonest_47 : decode cX12_soonest 47 = .ok (.aload_n 0, 1) := by decide +kernel
theorem dX12_soonest_48 : decode cX12_soonest 48 = .ok (.getfield 77, 3) := by decide +kernel
theorem dX12_soonest_51 : decode cX12_soonest 51 = .ok (.iload_n 2, 1) := by decide +kernel
theorem dX12_soonest_52 : decode cX12_soonest 52 = .ok (.iconst 0, 1) := by decide +kernel
theorem dX12_soonest_53 : decode cX12_soonest 53 = .ok (.bastore, 1) := by decide +kernel
theorem dX12_soonest_54 : decode cX12_soonest 54 = .ok (.iinc 2 1, 3) := by decide +kernel
theorem dX12_soonest_57 : decode cX12_soonest 57 = .ok (.goto (-19), 3) := by decide +kernel
theorem dX12_soonest_60 : decode cX12_soonest 60 = .ok (.aload_n 0, 1) := by decide +kernel
theorem dX12_soonest_61 : decode cX12_soonest 61 = .ok (.getfield 77, 3) := by decide +kernel
theorem dX12_soonest_64 : decode cX12_soonest 64 = .ok (.aload_n 0, 1) := by decide +kernel
theorem dX12_soonest_65 : decode cX12_soonest 65 = .ok (.getfield 61, 3) := by decide +kernel
theorem dX12_soonest_68 : decode cX12_soonest 68 = .ok (.iconst 0, 1) := by decide +kernel
theorem dX12_soonest_69 : decode cX12_soonest 69 = .ok (.iaload, 1) := by decide +kernel
theorem dX12_soonest_70 : decode cX12_soonest 70 = .ok (.aload_n 0, 1) := by decide +kernel
theorem dX12_soonest_71 : decode cX12_soonest 71 = .ok (.getfield 61, 3) := by decide +kernel
theorem dX12_soonest_74 : decode cX12_soonest 74 = .ok (.iconst 2, 1) := by decide +kernel
theorem dX12_soonest_75 : decode cX12_soonest 75 = .ok (.iaload, 1) := by decide +kernel
theorem dX12_soonest_76 : decode cX12_soonest 76 = .ok (.iconst 0, 1) := by decide +kernel
theorem dX12_soonest_77 : decode cX12_soonest 77 = .ok (.invokestatic 435, 3) := by decide +kernel
theorem dX12_soonest_80 : decode cX12_soonest 80 = .ok (.iconst 1, 1) := by decide +kernel
theorem dX12_soonest_81 : decode cX12_soonest 81 = .ok (.bastore, 1) := by decide +kernel
theorem dX12_soonest_82 : decode cX12_soonest 82 = .ok (.iconst 1, 1) := by decide +kernel
theorem dX12_soonest_83 : decode cX12_soonest 83 = .ok (.istore_n 2, 1) := by decide +kernel
theorem dX12_soonest_84 : decode cX12_soonest 84 = .ok (.iload_n 2, 1) := by decide +kernel
theorem dX12_soonest_85 : decode cX12_soonest 85 = .ok (.bipush 30, 2) := by decide +kernel
theorem dX12_soonest_87 : decode cX12_soonest 87 = .ok (.if_icmp .gt 129, 3) := by decide +kernel
theorem dX12_soonest_90 : decode cX12_soonest 90 = .ok (.iconst 0, 1) := by decide +kernel
theorem dX12_soonest_91 : decode cX12_soonest 91 = .ok (.istore_n 3, 1) := by decide +kernel
theorem dX12_soonest_92 : decode cX12_soonest 92 = .ok (.iload_n 3, 1) := by decide +kernel
theorem dX12_soonest_93 : decode cX12_soonest 93 = .ok (.aload_n 0, 1) := by decide +kernel
theorem dX12_soonest_94 : decode cX12_soonest 94 = .ok (.getfield 81, 3) := by decide +kernel
theorem dX12_soonest_97 : decode cX12_soonest 97 = .ok (.arraylength, 1) := by decide +kernel
theorem dX12_soonest_98 : decode cX12_soonest 98 = .ok (.if_icmp .ge 16, 3) := by decide +kernel
theorem dX12_soonest_101 : decode cX12_soonest 101 = .ok (.aload_n 0, 1) := by decide +kernel
theorem dX12_soonest_102 : decode cX12_soonest 102 = .ok (.getfield 81, 3) := by decide +kernel
theorem dX12_soonest_105 : decode cX12_soonest 105 = .ok (.iload_n 3, 1) := by decide +kernel
theorem dX12_soonest_106 : decode cX12_soonest 106 = .ok (.iconst 0, 1) := by decide +kernel
theorem dX12_soonest_107 : decode cX12_soonest 107 = .ok (.bastore, 1) := by decide +kernel
theorem dX12_soonest_108 : decode cX12_soonest 108 = .ok (.iinc 3 1, 3) := by decide +kernel
theorem dX12_soonest_111 : decode cX12_soonest 111 = .ok (.goto (-19), 3) := by decide +kernel
theorem dX12_soonest_114 : decode cX12_soonest 114 = .ok (.iconst 0, 1) := by decide +kernel
theorem dX12_soonest_115 : decode cX12_soonest 115 = .ok (.istore_n 3, 1) := by decide +kernel
theorem dX12_soonest_116 : decode cX12_soonest 116 = .ok (.iload_n 3, 1) := by decide +kernel
theorem dX12_soonest_117 : decode cX12_soonest 117 = .ok (.aload_n 0, 1) := by decide +kernel
theorem dX12_soonest_118 : decode cX12_soonest 118 = .ok (.getfield 77, 3) := by decide +kernel
theorem dX12_soonest_121 : decode cX12_soonest 121 = .ok (.arraylength, 1) := by decide +kernel
theorem dX12_soonest_122 : decode cX12_soonest 122 = .ok (.if_icmp .ge 49, 3) := by decide +kernel
theorem dX12_soonest_125 : decode cX12_soonest 125 = .ok (.aload_n 0, 1) := by decide +kernel
theorem dX12_soonest_126 : decode cX12_soonest 126 = .ok (.getfield 77, 3) := by decide +kernel
theorem dX12_soonest_129 : decode cX12_soonest 129 = .ok (.iload_n 3, 1) := by decide +kernel
theorem dX12_soonest_130 : decode cX12_soonest 130 = .ok (.baload, 1) := by decide +kernel
theorem dX12_soonest_131 : decode cX12_soonest 131 = .ok (.ifCond .eq 34, 3) := by decide +kernel
theorem dX12_soonest_134 : decode cX12_soonest 134 = .ok (.aload_n 0, 1) := by decide +kernel
theorem dX12_soonest_135 : decode cX12_soonest 135 = .ok (.iload_n 3, 1) := by decide +kernel
theorem dX12_soonest_136 : decode cX12_soonest 136 = .ok (.sipush 320, 3) := by decide +kernel
theorem dX12_soonest_139 : decode cX12_soonest 139 = .ok (.idiv, 1) := by decide +kernel
theorem dX12_soonest_140 : decode cX12_soonest 140 = .ok (.iload_n 3, 1) := by decide +kernel
theorem dX12_soonest_141 : decode cX12_soonest 141 = .ok (.bipush 10, 2) := by decide +kernel
theorem dX12_soonest_143 : decode cX12_soonest 143 = .ok (.idiv, 1) := by decide +kernel
theorem dX12_soonest_144 : decode cX12_soonest 144 = .ok (.bipush 32, 2) := by decide +kernel
theorem dX12_soonest_146 : decode cX12_soonest 146 = .ok (.irem, 1) := by decide +kernel
theorem dX12_soonest_147 : decode cX12_soonest 147 = .ok (.iload_n 3, 1) := by decide +kernel
theorem dX12_soonest_148 : decode cX12_soonest 148 = .ok (.bipush 10, 2) := by decide +kernel
theorem dX12_soonest_150 : decode cX12_soonest 150 = .ok (.irem, 1) := by decide +kernel
theorem dX12_soonest_151 : decode cX12_soonest 151 = .ok (.aload_n 0, 1) := by decide +kernel
theorem dX12_soonest_152 : decode cX12_soonest 152 = .ok (.getfield 61, 3) := by decide +kernel
theorem dX12_soonest_155 : decode cX12_soonest 155 = .ok (.bipush 7, 2) := by decide +kernel
theorem dX12_soonest_157 : decode cX12_soonest 157 = .ok (.iaload, 1) := by decide +kernel
theorem dX12_soonest_158 : decode cX12_soonest 158 = .ok (.iload_n 2, 1) := by decide +kernel
theorem dX12_soonest_159 : decode cX12_soonest 159 = .ok (.iadd, 1) := by decide +kernel
theorem dX12_soonest_160 : decode cX12_soonest 160 = .ok (.iconst 1, 1) := by decide +kernel
theorem dX12_soonest_161 : decode cX12_soonest 161 = .ok (.isub, 1) := by decide +kernel
theorem dX12_soonest_162 : decode cX12_soonest 162 = .ok (.invokevirtual 443, 3) := by decide +kernel
theorem dX12_soonest_165 : decode cX12_soonest 165 = .ok (.iinc 3 1, 3) := by decide +kernel
theorem dX12_soonest_168 : decode cX12_soonest 168 = .ok (.goto (-52), 3) := by decide +kernel
theorem dX12_soonest_171 : decode cX12_soonest 171 = .ok (.iconst 0, 1) := by decide +kernel
theorem dX12_soonest_172 : decode cX12_soonest 172 = .ok (.istore_n 3, 1) := by decide +kernel
theorem dX12_soonest_173 : decode cX12_soonest 173 = .ok (.iload_n 3, 1) := by decide +kernel
theorem dX12_soonest_174 : decode cX12_soonest 174 = .ok (.aload_n 0, 1) := by decide +kernel
theorem dX12_soonest_175 : decode cX12_soonest 175 = .ok (.getfield 77, 3) := by decide +kernel
theorem dX12_soonest_178 : decode cX12_soonest 178 = .ok (.arraylength, 1) := by decide +kernel
theorem dX12_soonest_179 : decode cX12_soonest 179 = .ok (.if_icmp .ge 21, 3) := by decide +kernel
theorem dX12_soonest_182 : decode cX12_soonest 182 = .ok (.aload_n 0, 1) := by decide +kernel
theorem dX12_soonest_183 : decode cX12_soonest 183 = .ok (.getfield 77, 3) := by decide +kernel
theorem dX12_soonest_186 : decode cX12_soonest 186 = .ok (.iload_n 3, 1) := by decide +kernel
theorem dX12_soonest_187 : decode cX12_soonest 187 = .ok (.aload_n 0, 1) := by decide +kernel
theorem dX12_soonest_188 : decode cX12_soonest 188 = .ok (.getfield 81, 3) := by decide +kernel
theorem dX12_soonest_191 : decode cX12_soonest 191 = .ok (.iload_n 3, 1) := by decide +kernel
theorem dX12_soonest_192 : decode cX12_soonest 192 = .ok (.baload, 1) := by decide +kernel
theorem dX12_soonest_193 : decode cX12_soonest 193 = .ok (.bastore, 1) := by decide +kernel
theorem dX12_soonest_194 : decode cX12_soonest 194 = .ok (.iinc 3 1, 3) := by decide +kernel
theorem dX12_soonest_197 : decode cX12_soonest 197 = .ok (.goto (-24), 3) := by decide +kernel
theorem dX12_soonest_200 : decode cX12_soonest 200 = .ok (.aload_n 0, 1) := by decide +kernel
theorem dX12_soonest_201 : decode cX12_soonest 201 = .ok (.iload_n 1, 1) := by decide +kernel
theorem dX12_soonest_202 : decode cX12_soonest 202 = .ok (.invokevirtual 447, 3) := by decide +kernel
theorem dX12_soonest_205 : decode cX12_soonest 205 = .ok (.ifCond .eq 5, 3) := by decide +kernel
theorem dX12_soonest_208 : decode cX12_soonest 208 = .ok (.iload_n 2, 1) := by decide +kernel
theorem dX12_soonest_209 : decode cX12_soonest 209 = .ok (.ireturn, 1) := by decide +kernel
theorem dX12_soonest_210 : decode cX12_soonest 210 = .ok (.iinc 2 1, 3) := by decide +kernel
theorem dX12_soonest_213 : decode cX12_soonest 213 = .ok (.goto (-129), 3) := by decide +kernel
theorem dX12_soonest_216 : decode cX12_soonest 216 = .ok (.iconst (-1), 1) := by decide +kernel
theorem dX12_soonest_217 : decode cX12_soonest 217 = .ok (.ireturn, 1) := by decide +kernel
noncomputable def kX12_soonest : Nat → Op := (nodeC 106 (nodeC 53 (nodeC 29 (nodeC 13 (nodeC 5 (nodeC 1 (nodeC 0 (leafC 0 (o_al 0 1)) (leafC 1 (o_ic (0) 2))) (nodeC 2 (leafC 2 (o_pI 12 0 5)) (leafC 5 (o_al 0 6)))) (nodeC 9 (nodeC 6 (leafC 6 (o_gI 12 27 9)) (leafC 9 (o_zeq 34 12))) (nodeC 12 (leafC 12 (o_il 1 13)) (leafC 13 (o_i2l 14))))) (nodeC 21 (nodeC 15 (nodeC 14 (leafC 14 (o_lc (1) 15)) (leafC 15 (o_lc (9) 18))) (nodeC 18 (leafC 18 (o_ist 3 1 FX12_isIn 21)) (leafC 21 (o_zeq 34 24)))) (nodeC 25 (nodeC 24 (leafC 24 (o_al 0 25)) (leafC 25 (o_gR 12 32 28))) (nodeC 28 (leafC 28 (o_ic (1) 29)) (leafC 29 (o_iald 30)))))) (nodeC 39 (nodeC 35 (nodeC 31 (nodeC 30 (leafC 30 (o_ic (1) 31)) (leafC 31 (o_cne 36 34))) (nodeC 34 (leafC 34 (o_ic (-1) 35)) (leafC 35 (o_iret)))) (nodeC 37 (nodeC 36 (leafC 36 (o_ic (0) 37)) (leafC 37 (o_is 2 38))) (nodeC 38 (leafC 38 (o_mask [3] (o_il 2 39))) (leafC 39 (o_al 0 40))))) (nodeC 47 (nodeC 43 (nodeC 40 (leafC 40 (o_gR 12 41 43)) (leafC 43 (o_alen 44))) (nodeC 44 (leafC 44 (o_cge 60 47)) (leafC 47 (o_al 0 48)))) (nodeC 51 (nodeC 48 (leafC 48 (o_gR 12 41 51)) (leafC 51 (o_il 2 52))) (nodeC 52 (leafC 52 (o_ic (0) 53)) (leafC 53 (o_zast 54))))))) (nodeC 81 (nodeC 69 (nodeC 61 (nodeC 57 (nodeC 54 (leafC 54 (o_inc 2 (1) 57)) (leafC 57 (o_goto 38))) (nodeC 60 (leafC 60 (o_al 0 61)) (leafC 61 (o_gR 12 41 64)))) (nodeC 65 (nodeC 64 (leafC 64 (o_al 0 65)) (leafC 65 (o_gR 12 32 68))) (nodeC 68 (leafC 68 (o_ic (0) 69)) (leafC 69 (o_iald 70))))) (nodeC 75 (nodeC 71 (nodeC 70 (leafC 70 (o_al 0 71)) (leafC 71 (o_gR 12 32 74))) (nodeC 74 (leafC 74 (o_ic (2) 75)) (leafC 75 (o_iald 76)))) (nodeC 77 (nodeC 76 (leafC 76 (o_ic (0) 77)) (leafC 77 (o_ist 3 1 FX12_spot 80))) (nodeC 80 (leafC 80 (o_ic (1) 81)) (leafC 81 (o_zast 82)))))) (nodeC 92 (nodeC 85 (nodeC 83 (nodeC 82 (leafC 82 (o_ic (1) 83)) (leafC 83 (o_is 2 84))) (nodeC 84 (leafC 84 (o_mask [3] (o_il 2 85))) (leafC 85 (o_ic (30) 87)))) (nodeC 90 (nodeC 87 (leafC 87 (o_cgt 216 90)) (leafC 90 (o_ic (0) 91))) (nodeC 91 (leafC 91 (o_is 3 92)) (leafC 92 (o_il 3 93))))) (nodeC 98 (nodeC 94 (nodeC 93 (leafC 93 (o_al 0 94)) (leafC 94 (o_gR 12 42 97))) (nodeC 97 (leafC 97 (o_alen 98)) (leafC 98 (o_cge 114 101)))) (nodeC 102 (nodeC 101 (leafC 101 (o_al 0 102)) (leafC 102 (o_gR 12 42 105))) (nodeC 105 (leafC 105 (o_il 3 106)) (leafC 106 (o_ic (0) 107)))))))) (nodeC 158 (nodeC 134 (nodeC 118 (nodeC 114 (nodeC 108 (nodeC 107 (leafC 107 (o_zast 108)) (leafC 108 (o_inc 3 (1) 111))) (nodeC 111 (leafC 111 (o_goto 92)) (leafC 114 (o_ic (0) 115)))) (nodeC 116 (nodeC 115 (leafC 115 (o_is 3 116)) (leafC 116 (o_il 3 117))) (nodeC 117 (leafC 117 (o_al 0 118)) (leafC 118 (o_gR 12 41 121))))) (nodeC 126 (nodeC 122 (nodeC 121 (leafC 121 (o_alen 122)) (leafC 122 (o_cge 171 125))) (nodeC 125 (leafC 125 (o_al 0 126)) (leafC 126 (o_gR 12 41 129)))) (nodeC 130 (nodeC 129 (leafC 129 (o_il 3 130)) (leafC 130 (o_zald 131))) (nodeC 131 (leafC 131 (o_zeq 165 134)) (leafC 134 (o_al 0 135)))))) (nodeC 146 (nodeC 140 (nodeC 136 (nodeC 135 (leafC 135 (o_il 3 136)) (leafC 136 (o_ic (320) 139))) (nodeC 139 (leafC 139 (o_idiv 140)) (leafC 140 (o_il 3 141)))) (nodeC 143 (nodeC 141 (leafC 141 (o_ic (10) 143)) (leafC 143 (o_idiv 144))) (nodeC 144 (leafC 144 (o_ic (32) 146)) (leafC 146 (o_irem 147))))) (nodeC 151 (nodeC 148 (nodeC 147 (leafC 147 (o_il 3 148)) (leafC 148 (o_ic (10) 150))) (nodeC 150 (leafC 150 (o_irem 151)) (leafC 151 (o_al 0 152)))) (nodeC 155 (nodeC 152 (leafC 152 (o_gR 12 32 155)) (leafC 155 (o_ic (7) 157))) (nodeC 157 (leafC 157 (o_iald 158)) (leafC 158 (o_il 2 159))))))) (nodeC 186 (nodeC 172 (nodeC 162 (nodeC 160 (nodeC 159 (leafC 159 (o_iadd 160)) (leafC 160 (o_ic (1) 161))) (nodeC 161 (leafC 161 (o_isub 162)) (leafC 162 (o_inv 4 12 0 FX12_goSoon 165)))) (nodeC 168 (nodeC 165 (leafC 165 (o_inc 3 (1) 168)) (leafC 168 (o_goto 116))) (nodeC 171 (leafC 171 (o_ic (0) 172)) (leafC 172 (o_is 3 173))))) (nodeC 178 (nodeC 174 (nodeC 173 (leafC 173 (o_il 3 174)) (leafC 174 (o_al 0 175))) (nodeC 175 (leafC 175 (o_gR 12 41 178)) (leafC 178 (o_alen 179)))) (nodeC 182 (nodeC 179 (leafC 179 (o_cge 200 182)) (leafC 182 (o_al 0 183))) (nodeC 183 (leafC 183 (o_gR 12 41 186)) (leafC 186 (o_il 3 187)))))) (nodeC 200 (nodeC 192 (nodeC 188 (nodeC 187 (leafC 187 (o_al 0 188)) (leafC 188 (o_gR 12 42 191))) (nodeC 191 (leafC 191 (o_il 3 192)) (leafC 192 (o_zald 193)))) (nodeC 194 (nodeC 193 (leafC 193 (o_zast 194)) (leafC 194 (o_inc 3 (1) 197))) (nodeC 197 (leafC 197 (o_goto 173)) (leafC 200 (o_al 0 201))))) (nodeC 208 (nodeC 202 (nodeC 201 (leafC 201 (o_il 1 202)) (leafC 202 (o_inv 1 12 1 FX12_hasWoven 205))) (nodeC 205 (leafC 205 (o_zeq 210 208)) (leafC 208 (o_il 2 209)))) (nodeC 210 (nodeC 209 (leafC 209 (o_iret)) (leafC 210 (o_inc 2 (1) 213))) (nodeC 213 (leafC 213 (o_goto 84)) (nodeC 216 (leafC 216 (o_ic (-1) 217)) (leafC 217 (o_iret))))))))))
theorem sX12_soonest : ∀ pc, SoundOp cX12_soonest RX12 4 (some .int) false 90 2230 pc (kX12_soonest pc) := (so_node (so_node (so_node (so_node (so_node (so_node (so_node (so_leaf (so_aload_n dX12_soonest_0 rfl)) (so_leaf (so_iconst dX12_soonest_1 (by decide)))) (so_node (so_leaf (so_pI (by decide) (by decide) wC12 wf_RX12_105 (Or.inl rfl) rfl dX12_soonest_2)) (so_leaf (so_aload_n dX12_soonest_5 rfl)))) (so_node (so_node (so_leaf (so_gI (by decide) (by decide) wC12 wf_RX12_302 (fun _ _ _ => rfl) dX12_soonest_6)) (so_leaf (so_zeq dX12_soonest_9 (by decide)))) (so_node (so_leaf (so_iload_n dX12_soonest_12 rfl)) (so_leaf (so_i2l dX12_soonest_13))))) (so_node (so_node (so_node (so_leaf (so_lconst dX12_soonest_14 (by decide))) (so_leaf (so_ldc2 wk_RX12_358 dX12_soonest_15))) (so_node (so_leaf (so_ist CX12_isIn rfl wm_RX12_225 wst_X12_isIn wny_X12_isIn wc_X12_isIn (by decide +kernel) (by decide) (by decide) dX12_soonest_18)) (so_leaf (so_zeq dX12_soonest_21 (by decide))))) (so_node (so_node (so_leaf (so_aload_n dX12_soonest_24 rfl)) (so_leaf (so_gR (by decide) (by decide) wC12 wf_RX12_61 (fun _ _ _ => rfl) dX12_soonest_25))) (so_node (so_leaf (so_iconst dX12_soonest_28 (by decide))) (so_leaf (so_iald dX12_soonest_29)))))) (so_node (so_node (so_node (so_node (so_leaf (so_iconst dX12_soonest_30 (by decide))) (so_leaf (so_cne dX12_soonest_31 (by decide)))) (so_node (so_leaf (so_iconst dX12_soonest_34 (by decide))) (so_leaf (so_iret dX12_soonest_35 rfl)))) (so_node (so_node (so_leaf (so_iconst dX12_soonest_36 (by decide))) (so_leaf (so_istore_n dX12_soonest_37 rfl (by decide)))) (so_node (so_leaf (so_mask (so_iload_n dX12_soonest_38 rfl))) (so_leaf (so_aload_n dX12_soonest_39 rfl))))) (so_node (so_node (so_node (so_leaf (so_gR (by decide) (by decide) wC12 wf_RX12_77 (fun _ _ _ => rfl) dX12_soonest_40)) (so_leaf (so_alen dX12_soonest_43))) (so_node (so_leaf (so_cge dX12_soonest_44 (by decide))) (so_leaf (so_aload_n dX12_soonest_47 rfl)))) (so_node (so_node (so_leaf (so_gR (by decide) (by decide) wC12 wf_RX12_77 (fun _ _ _ => rfl) dX12_soonest_48)) (so_leaf (so_iload_n dX12_soonest_51 rfl))) (so_node (so_leaf (so_iconst dX12_soonest_52 (by decide))) (so_leaf (so_zast dX12_soonest_53))))))) (so_node (so_node (so_node (so_node (so_node (so_leaf (so_iinc dX12_soonest_54 (by decide) (by decide))) (so_leaf (so_goto dX12_soonest_57 (by decide)))) (so_node (so_leaf (so_aload_n dX12_soonest_60 rfl)) (so_leaf (so_gR (by decide) (by decide) wC12 wf_RX12_77 (fun _ _ _ => rfl) dX12_soonest_61)))) (so_node (so_node (so_leaf (so_aload_n dX12_soonest_64 rfl)) (so_leaf (so_gR (by decide) (by decide) wC12 wf_RX12_61 (fun _ _ _ => rfl) dX12_soonest_65))) (so_node (so_leaf (so_iconst dX12_soonest_68 (by decide))) (so_leaf (so_iald dX12_soonest_69))))) (so_node (so_node (so_node (so_leaf (so_aload_n dX12_soonest_70 rfl)) (so_leaf (so_gR (by decide) (by decide) wC12 wf_RX12_61 (fun _ _ _ => rfl) dX12_soonest_71))) (so_node (so_leaf (so_iconst dX12_soonest_74 (by decide))) (so_leaf (so_iald dX12_soonest_75)))) (so_node (so_node (so_leaf (so_iconst dX12_soonest_76 (by decide))) (so_leaf (so_ist CX12_spot rfl wm_RX12_435 wst_X12_spot wny_X12_spot wc_X12_spot (by decide +kernel) (by decide) (by decide) dX12_soonest_77))) (so_node (so_leaf (so_iconst dX12_soonest_80 (by decide))) (so_leaf (so_zast dX12_soonest_81)))))) (so_node (so_node (so_node (so_node (so_leaf (so_iconst dX12_soonest_82 (by decide))) (so_leaf (so_istore_n dX12_soonest_83 rfl (by decide)))) (so_node (so_leaf (so_mask (so_iload_n dX12_soonest_84 rfl))) (so_leaf (so_bipush dX12_soonest_85 (by decide))))) (so_node (so_node (so_leaf (so_cgt dX12_soonest_87 (by decide))) (so_leaf (so_iconst dX12_soonest_90 (by decide)))) (so_node (so_leaf (so_istore_n dX12_soonest_91 rfl (by decide))) (so_leaf (so_iload_n dX12_soonest_92 rfl))))) (so_node (so_node (so_node (so_leaf (so_aload_n dX12_soonest_93 rfl)) (so_leaf (so_gR (by decide) (by decide) wC12 wf_RX12_81 (fun _ _ _ => rfl) dX12_soonest_94))) (so_node (so_leaf (so_alen dX12_soonest_97)) (so_leaf (so_cge dX12_soonest_98 (by decide))))) (so_node (so_node (so_leaf (so_aload_n dX12_soonest_101 rfl)) (so_leaf (so_gR (by decide) (by decide) wC12 wf_RX12_81 (fun _ _ _ => rfl) dX12_soonest_102))) (so_node (so_leaf (so_iload_n dX12_soonest_105 rfl)) (so_leaf (so_iconst dX12_soonest_106 (by decide))))))))) (so_node (so_node (so_node (so_node (so_node (so_node (so_leaf (so_zast dX12_soonest_107)) (so_leaf (so_iinc dX12_soonest_108 (by decide) (by decide)))) (so_node (so_leaf (so_goto dX12_soonest_111 (by decide))) (so_leaf (so_iconst dX12_soonest_114 (by decide))))) (so_node (so_node (so_leaf (so_istore_n dX12_soonest_115 rfl (by decide))) (so_leaf (so_iload_n dX12_soonest_116 rfl))) (so_node (so_leaf (so_aload_n dX12_soonest_117 rfl)) (so_leaf (so_gR (by decide) (by decide) wC12 wf_RX12_77 (fun _ _ _ => rfl) dX12_soonest_118))))) (so_node (so_node (so_node (so_leaf (so_alen dX12_soonest_121)) (so_leaf (so_cge dX12_soonest_122 (by decide)))) (so_node (so_leaf (so_aload_n dX12_soonest_125 rfl)) (so_leaf (so_gR (by decide) (by decide) wC12 wf_RX12_77 (fun _ _ _ => rfl) dX12_soonest_126)))) (so_node (so_node (so_leaf (so_iload_n dX12_soonest_129 rfl)) (so_leaf (so_zald dX12_soonest_130))) (so_node (so_leaf (so_zeq dX12_soonest_131 (by decide))) (so_leaf (so_aload_n dX12_soonest_134 rfl)))))) (so_node (so_node (so_node (so_node (so_leaf (so_iload_n dX12_soonest_135 rfl)) (so_leaf (so_sipush dX12_soonest_136 (by decide)))) (so_node (so_leaf (so_idiv dX12_soonest_139)) (so_leaf (so_iload_n dX12_soonest_140 rfl)))) (so_node (so_node (so_leaf (so_bipush dX12_soonest_141 (by decide))) (so_leaf (so_idiv dX12_soonest_143))) (so_node (so_leaf (so_bipush dX12_soonest_144 (by decide))) (so_leaf (so_irem dX12_soonest_146))))) (so_node (so_node (so_node (so_leaf (so_iload_n dX12_soonest_147 rfl)) (so_leaf (so_bipush dX12_soonest_148 (by decide)))) (so_node (so_leaf (so_irem dX12_soonest_150)) (so_leaf (so_aload_n dX12_soonest_151 rfl)))) (so_node (so_node (so_leaf (so_gR (by decide) (by decide) wC12 wf_RX12_61 (fun _ _ _ => rfl) dX12_soonest_152)) (so_leaf (so_bipush dX12_soonest_155 (by decide)))) (so_node (so_leaf (so_iald dX12_soonest_157)) (so_leaf (so_iload_n dX12_soonest_158 rfl))))))) (so_node (so_node (so_node (so_node (so_node (so_leaf (so_iadd dX12_soonest_159)) (so_leaf (so_iconst dX12_soonest_160 (by decide)))) (so_node (so_leaf (so_isub dX12_soonest_161)) (so_leaf (so_inv CX12_goSoon (by decide) rfl wm_RX12_443 win_X12_goSoon wse_X12_goSoon wn_12 wc_X12_goSoon (by decide +kernel) (by decide) (by decide) dX12_soonest_162)))) (so_node (so_node (so_leaf (so_iinc dX12_soonest_165 (by decide) (by decide))) (so_leaf (so_goto dX12_soonest_168 (by decide)))) (so_node (so_leaf (so_iconst dX12_soonest_171 (by decide))) (so_leaf (so_istore_n dX12_soonest_172 rfl (by decide)))))) (so_node (so_node (so_node (so_leaf (so_iload_n dX12_soonest_173 rfl)) (so_leaf (so_aload_n dX12_soonest_174 rfl))) (so_node (so_leaf (so_gR (by decide) (by decide) wC12 wf_RX12_77 (fun _ _ _ => rfl) dX12_soonest_175)) (so_leaf (so_alen dX12_soonest_178)))) (so_node (so_node (so_leaf (so_cge dX12_soonest_179 (by decide))) (so_leaf (so_aload_n dX12_soonest_182 rfl))) (so_node (so_leaf (so_gR (by decide) (by decide) wC12 wf_RX12_77 (fun _ _ _ => rfl) dX12_soonest_183)) (so_leaf (so_iload_n dX12_soonest_186 rfl)))))) (so_node (so_node (so_node (so_node (so_leaf (so_aload_n dX12_soonest_187 rfl)) (so_leaf (so_gR (by decide) (by decide) wC12 wf_RX12_81 (fun _ _ _ => rfl) dX12_soonest_188))) (so_node (so_leaf (so_iload_n dX12_soonest_191 rfl)) (so_leaf (so_zald dX12_soonest_192)))) (so_node (so_node (so_leaf (so_zast dX12_soonest_193)) (so_leaf (so_iinc dX12_soonest_194 (by decide) (by decide)))) (so_node (so_leaf (so_goto dX12_soonest_197 (by decide))) (so_leaf (so_aload_n dX12_soonest_200 rfl))))) (so_node (so_node (so_node (so_leaf (so_iload_n dX12_soonest_201 rfl)) (so_leaf (so_inv CX12_hasWoven (by decide) rfl wm_RX12_447 win_X12_hasWoven wse_X12_hasWoven wn_12 wc_X12_hasWoven (by decide +kernel) (by decide) (by decide) dX12_soonest_202))) (so_node (so_leaf (so_zeq dX12_soonest_205 (by decide))) (so_leaf (so_iload_n dX12_soonest_208 rfl)))) (so_node (so_node (so_leaf (so_iret dX12_soonest_209 rfl)) (so_leaf (so_iinc dX12_soonest_210 (by decide) (by decide)))) (so_node (so_leaf (so_goto dX12_soonest_213 (by decide))) (so_node (so_leaf (so_iconst dX12_soonest_216 (by decide))) (so_leaf (so_iret dX12_soonest_217 rfl))))))))))
theorem pX12_soonest : ∀ pc, Pr (kX12_soonest pc) := (pr_node (pr_node (pr_node (pr_node (pr_node (pr_node (pr_node (pr_leaf (pr_al _ _)) (pr_leaf (pr_ic _ _))) (pr_node (pr_leaf (pr_pI _ _ _)) (pr_leaf (pr_al _ _)))) (pr_node (pr_node (pr_leaf (pr_gI _ _ _)) (pr_leaf (pr_zeq _ _))) (pr_node (pr_leaf (pr_il _ _)) (pr_leaf (pr_i2l _))))) (pr_node (pr_node (pr_node (pr_leaf (pr_lc _ _)) (pr_leaf (pr_lc _ _))) (pr_node (pr_leaf (pr_ist _ _ GX12_isIn _)) (pr_leaf (pr_zeq _ _)))) (pr_node (pr_node (pr_leaf (pr_al _ _)) (pr_leaf (pr_gR _ _ _))) (pr_node (pr_leaf (pr_ic _ _)) (pr_leaf (pr_iald _)))))) (pr_node (pr_node (pr_node (pr_node (pr_leaf (pr_ic _ _)) (pr_leaf (pr_cne _ _))) (pr_node (pr_leaf (pr_ic _ _)) (pr_leaf (pr_iret)))) (pr_node (pr_node (pr_leaf (pr_ic _ _)) (pr_leaf (pr_is _ _))) (pr_node (pr_leaf (pr_mask (pr_il _ _))) (pr_leaf (pr_al _ _))))) (pr_node (pr_node (pr_node (pr_leaf (pr_gR _ _ _)) (pr_leaf (pr_alen _))) (pr_node (pr_leaf (pr_cge _ _)) (pr_leaf (pr_al _ _)))) (pr_node (pr_node (pr_leaf (pr_gR _ _ _)) (pr_leaf (pr_il _ _))) (pr_node (pr_leaf (pr_ic _ _)) (pr_leaf (pr_zast _))))))) (pr_node (pr_node (pr_node (pr_node (pr_node (pr_leaf (pr_inc _ _ _)) (pr_leaf (pr_goto _))) (pr_node (pr_leaf (pr_al _ _)) (pr_leaf (pr_gR _ _ _)))) (pr_node (pr_node (pr_leaf (pr_al _ _)) (pr_leaf (pr_gR _ _ _))) (pr_node (pr_leaf (pr_ic _ _)) (pr_leaf (pr_iald _))))) (pr_node (pr_node (pr_node (pr_leaf (pr_al _ _)) (pr_leaf (pr_gR _ _ _))) (pr_node (pr_leaf (pr_ic _ _)) (pr_leaf (pr_iald _)))) (pr_node (pr_node (pr_leaf (pr_ic _ _)) (pr_leaf (pr_ist _ _ GX12_spot _))) (pr_node (pr_leaf (pr_ic _ _)) (pr_leaf (pr_zast _)))))) (pr_node (pr_node (pr_node (pr_node (pr_leaf (pr_ic _ _)) (pr_leaf (pr_is _ _))) (pr_node (pr_leaf (pr_mask (pr_il _ _))) (pr_leaf (pr_ic _ _)))) (pr_node (pr_node (pr_leaf (pr_cgt _ _)) (pr_leaf (pr_ic _ _))) (pr_node (pr_leaf (pr_is _ _)) (pr_leaf (pr_il _ _))))) (pr_node (pr_node (pr_node (pr_leaf (pr_al _ _)) (pr_leaf (pr_gR _ _ _))) (pr_node (pr_leaf (pr_alen _)) (pr_leaf (pr_cge _ _)))) (pr_node (pr_node (pr_leaf (pr_al _ _)) (pr_leaf (pr_gR _ _ _))) (pr_node (pr_leaf (pr_il _ _)) (pr_leaf (pr_ic _ _)))))))) (pr_node (pr_node (pr_node (pr_node (pr_node (pr_node (pr_leaf (pr_zast _)) (pr_leaf (pr_inc _ _ _))) (pr_node (pr_leaf (pr_goto _)) (pr_leaf (pr_ic _ _)))) (pr_node (pr_node (pr_leaf (pr_is _ _)) (pr_leaf (pr_il _ _))) (pr_node (pr_leaf (pr_al _ _)) (pr_leaf (pr_gR _ _ _))))) (pr_node (pr_node (pr_node (pr_leaf (pr_alen _)) (pr_leaf (pr_cge _ _))) (pr_node (pr_leaf (pr_al _ _)) (pr_leaf (pr_gR _ _ _)))) (pr_node (pr_node (pr_leaf (pr_il _ _)) (pr_leaf (pr_zald _))) (pr_node (pr_leaf (pr_zeq _ _)) (pr_leaf (pr_al _ _)))))) (pr_node (pr_node (pr_node (pr_node (pr_leaf (pr_il _ _)) (pr_leaf (pr_ic _ _))) (pr_node (pr_leaf (pr_idiv _)) (pr_leaf (pr_il _ _)))) (pr_node (pr_node (pr_leaf (pr_ic _ _)) (pr_leaf (pr_idiv _))) (pr_node (pr_leaf (pr_ic _ _)) (pr_leaf (pr_irem _))))) (pr_node (pr_node (pr_node (pr_leaf (pr_il _ _)) (pr_leaf (pr_ic _ _))) (pr_node (pr_leaf (pr_irem _)) (pr_leaf (pr_al _ _)))) (pr_node (pr_node (pr_leaf (pr_gR _ _ _)) (pr_leaf (pr_ic _ _))) (pr_node (pr_leaf (pr_iald _)) (pr_leaf (pr_il _ _))))))) (pr_node (pr_node (pr_node (pr_node (pr_node (pr_leaf (pr_iadd _)) (pr_leaf (pr_ic _ _))) (pr_node (pr_leaf (pr_isub _)) (pr_leaf (pr_inv _ _ _ GX12_goSoon _)))) (pr_node (pr_node (pr_leaf (pr_inc _ _ _)) (pr_leaf (pr_goto _))) (pr_node (pr_leaf (pr_ic _ _)) (pr_leaf (pr_is _ _))))) (pr_node (pr_node (pr_node (pr_leaf (pr_il _ _)) (pr_leaf (pr_al _ _))) (pr_node (pr_leaf (pr_gR _ _ _)) (pr_leaf (pr_alen _)))) (pr_node (pr_node (pr_leaf (pr_cge _ _)) (pr_leaf (pr_al _ _))) (pr_node (pr_leaf (pr_gR _ _ _)) (pr_leaf (pr_il _ _)))))) (pr_node (pr_node (pr_node (pr_node (pr_leaf (pr_al _ _)) (pr_leaf (pr_gR _ _ _))) (pr_node (pr_leaf (pr_il _ _)) (pr_leaf (pr_zald _)))) (pr_node (pr_node (pr_leaf (pr_zast _)) (pr_leaf (pr_inc _ _ _))) (pr_node (pr_leaf (pr_goto _)) (pr_leaf (pr_al _ _))))) (pr_node (pr_node (pr_node (pr_leaf (pr_il _ _)) (pr_leaf (pr_inv _ _ _ GX12_hasWoven _))) (pr_node (pr_leaf (pr_zeq _ _)) (pr_leaf (pr_il _ _)))) (pr_node (pr_node (pr_leaf (pr_iret)) (pr_leaf (pr_inc _ _ _))) (pr_node (pr_leaf (pr_goto _)) (pr_node (pr_leaf (pr_ic _ _)) (pr_leaf (pr_iret))))))))))
noncomputable def FX12_soonest : List EV → Hp → Option (RV × Hp) := Fm kX12_soonest 4
theorem CX12_soonest : Con yX12_soonest cX12_soonest 4 (some .int) 90 2230 FX12_soonest := con_of (own := RX12) rfl (by decide +kernel) sX12_soonest pX12_soonest (fun z => by cases z)
theorem GX12_soonest : Gr FX12_soonest := Gr_Fm pX12_soonest 4
theorem dX12_isOpen_0 : decode cX12_isOpen 0 = .ok (.aload_n 0, 1) := by decide +kernel
theorem dX12_isOpen_1 : decode cX12_isOpen 1 = .ok (.getfield 61, 3) := by decide +kernel
theorem dX12_isOpen_4 : decode cX12_isOpen 4 = .ok (.bipush 8, 2) := by decide +kernel
theorem dX12_isOpen_6 : decode cX12_isOpen 6 = .ok (.iload_n 1, 1) := by decide +kernel
theorem dX12_isOpen_7 : decode cX12_isOpen 7 = .ok (.iadd, 1) := by decide +kernel
theorem dX12_isOpen_8 : decode cX12_isOpen 8 = .ok (.iaload, 1) := by decide +kernel
theorem dX12_isOpen_9 : decode cX12_isOpen 9 = .ok (.ifCond .ne 7, 3) := by decide +kernel
theorem dX12_isOpen_12 : decode cX12_isOpen 12 = .ok (.iconst 1, 1) := by decide +kernel
theorem dX12_isOpen_13 : decode cX12_isOpen 13 = .ok (.goto 4, 3) := by decide +kernel
theorem dX12_isOpen_16 : decode cX12_isOpen 16 = .ok (.iconst 0, 1) := by decide +kernel
theorem dX12_isOpen_17 : decode cX12_isOpen 17 = .ok (.ireturn, 1) := by decide +kernel
noncomputable def kX12_isOpen : Nat → Op := (nodeC 7 (nodeC 1 (nodeC 0 (leafC 0 (o_al 0 1)) (leafC 1 (o_gR 12 32 4))) (nodeC 4 (leafC 4 (o_ic (8) 6)) (nodeC 6 (leafC 6 (o_il 1 7)) (leafC 7 (o_iadd 8))))) (nodeC 12 (nodeC 8 (leafC 8 (o_iald 9)) (nodeC 9 (leafC 9 (o_zne 16 12)) (leafC 12 (o_ic (1) 13)))) (nodeC 13 (leafC 13 (o_goto 17)) (nodeC 16 (leafC 16 (o_ic (0) 17)) (leafC 17 (o_zret))))))
theorem sX12_isOpen : ∀ pc, SoundOp cX12_isOpen RX12 2 (some .boolean) false 0 0 pc (kX12_isOpen pc) := (so_node (so_node (so_node (so_leaf (so_aload_n dX12_isOpen_0 rfl)) (so_leaf (so_gR (by decide) (by decide) wC12 wf_RX12_61 (fun _ _ _ => rfl) dX12_isOpen_1))) (so_node (so_leaf (so_bipush dX12_isOpen_4 (by decide))) (so_node (so_leaf (so_iload_n dX12_isOpen_6 rfl)) (so_leaf (so_iadd dX12_isOpen_7))))) (so_node (so_node (so_leaf (so_iald dX12_isOpen_8)) (so_node (so_leaf (so_zne dX12_isOpen_9 (by decide))) (so_leaf (so_iconst dX12_isOpen_12 (by decide))))) (so_node (so_leaf (so_goto dX12_isOpen_13 (by decide))) (so_node (so_leaf (so_iconst dX12_isOpen_16 (by decide))) (so_leaf (so_zret dX12_isOpen_17 rfl))))))
theorem pX12_isOpen : ∀ pc, Pr (kX12_isOpen pc) := (pr_node (pr_node (pr_node (pr_leaf (pr_al _ _)) (pr_leaf (pr_gR _ _ _))) (pr_node (pr_leaf (pr_ic _ _)) (pr_node (pr_leaf (pr_il _ _)) (pr_leaf (pr_iadd _))))) (pr_node (pr_node (pr_leaf (pr_iald _)) (pr_node (pr_leaf (pr_zne _ _)) (pr_leaf (pr_ic _ _)))) (pr_node (pr_leaf (pr_goto _)) (pr_node (pr_leaf (pr_ic _ _)) (pr_leaf (pr_zret))))))
noncomputable def FX12_isOpen : List EV → Hp → Option (RV × Hp) := Fm kX12_isOpen 2
theorem CX12_isOpen : Con yX12_isOpen cX12_isOpen 2 (some .boolean) 0 0 FX12_isOpen := con_of (own := RX12) rfl (by decide +kernel) sX12_isOpen pX12_isOpen (fun z => by cases z)
theorem GX12_isOpen : Gr FX12_isOpen := Gr_Fm pX12_isOpen 2
theorem dX12_paying_0 : decode cX12_paying 0 = .ok (.aload_n 0, 1) := by decide +kernel
theorem dX12_paying_1 : decode cX12_paying 1 = .ok (.iconst 0, 1) := by decide +kernel
theorem dX12_paying_2 : decode cX12_paying 2 = .ok (.putfield 105, 3) := by decide +kernel
theorem dX12_paying_5 : decode cX12_paying 5 = .ok (.aload_n 0, 1) := by decide +kernel
theorem dX12_paying_6 : decode cX12_paying 6 = .ok (.getfield 302, 3) := by decide +kernel
theorem dX12_paying_9 : decode cX12_paying 9 = .ok (.ifCond .eq 13, 3) := by decide +kernel
theorem dX12_paying_12 : decode cX12_paying 12 = .ok (.iload_n 1, 1) := by decide +kernel
theorem dX12_paying_13 : decode cX12_paying 13 = .ok (.i2l, 1) := by decide +kernel
theorem dX12_paying_14 : decode cX12_paying 14 = .ok (.lconst 0, 1) := by decide +kernel
theorem dX12_paying_15 : decode cX12_paying 15 = .ok (.lconst 1, 1) := by decide +kernel
theorem dX12_paying_16 : decode cX12_paying 16 = .ok (.invokestatic 225, 3) := by decide +kernel
theorem dX12_paying_19 : decode cX12_paying 19 = .ok (.ifCond .ne 5, 3) := by decide +kernel
theorem dX12_paying_22 : decode cX12_paying 22 = .ok (.iconst (-1), 1) := by decide +kernel
theorem dX12_paying_23 : decode cX12_paying 23 = .ok (.ireturn, 1) := by decide +kernel
theorem dX12_paying_24 : decode cX12_paying 24 = .ok (.iconst (-1), 1) := by decide +kernel
theorem dX12_paying_25 : decode cX12_paying 25 = .ok (.istore_n 2, 1) := by decide +kernel
theorem dX12_paying_26 : decode cX12_paying 26 = .ok (.iconst 0, 1) := by decide +kernel
theorem dX12_paying_27 : decode cX12_paying 27 = .ok (.istore_n 3, 1) := by decide +kernel
theorem dX12_paying_28 : decode cX12_paying 28 = .ok (.iconst 0, 1) := by decide +kernel
theorem dX12_paying_29 : decode cX12_paying 29 = .ok (.istore 4, 2) := by decide +kernel
theorem dX12_paying_31 : decode cX12_paying 31 = .ok (.iconst 0, 1) := by decide +kernel
theorem dX12_paying_32 : decode cX12_paying 32 = .ok (.istore 5, 2) := by decide +kernel
theorem dX12_paying_34 : decode cX12_paying 34 = .ok (.iload 5, 2) := by decide +kernel
theorem dX12_paying_36 : decode cX12_paying 36 = .ok (.iconst 1, 1) := by decide +kernel
theorem dX12_paying_37 : decode cX12_paying 37 = .ok (.aload_n 0, 1) := by decide +kernel
theorem dX12_paying_38 : decode cX12_paying 38 = .ok (.getfield 299, 3) := by decide +kernel
theorem dX12_paying_41 : decode cX12_paying 41 = .ok (.ishl, 1) := by decide +kernel
theorem dX12_paying_42 : decode cX12_paying 42 = .ok (.if_icmp .ge 189, 3) := by decide +kernel
theorem dX12_paying_45 : decode cX12_paying 45 = .ok (.iconst 0, 1) := by decide +kernel
theorem dX12_paying_46 : decode cX12_paying 46 = .ok (.istore 6, 2) := by decide +kernel
theorem dX12_paying_48 : decode cX12_paying 48 = .ok (.iconst 0, 1) := by decide +kernel
theorem dX12_paying_49 : decode cX12_paying 49 = .ok (.istore 7, 2) := by decide +kernel
theorem dX12_paying_51 : decode cX12_paying 51 = .ok (.iconst 1, 1) := by decide +kernel
theorem dX12_paying_52 : decode cX12_paying 52 = .ok (.istore 8, 2) := by decide +kernel
theorem dX12_paying_54 : decode cX12_paying 54 = .ok (.iconst 0, 1) := by decide +kernel
theorem dX12_paying_55 : decode cX12_paying 55 = .ok (.istore 9, 2) := by decide +kernel
theorem dX12_paying_57 : decode cX12_paying 57 = .ok (.iload 9, 2) := by decide +kernel
theorem dX12_paying_59 : decode cX12_paying 59 = .ok (.aload_n 0, 1) := by decide +kernel
theorem dX12_paying_60 : decode cX12_paying 60 = .ok (.getfield 299, 3) := by decide +kernel
theorem dX12_paying_63 : decode cX12_paying 63 = .ok (.if_icmp .ge 106, 3) := by decide +kernel
theorem dX12_paying_66 : decode cX12_paying 66 = .ok (.iload 5, 2) := by decide +kernel
theorem dX12_paying_68 : decode cX12_paying 68 = .ok (.iload 9, 2) := by decide +kernel
theorem dX12_paying_70 : decode cX12_paying 70 = .ok (.invokestatic 237, 3) := by decide +kernel
theorem dX12_paying_73 : decode cX12_paying 73 = .ok (.ifCond .eq 42, 3) := by decide +kernel
theorem dX12_paying_76 : decode cX12_paying 76 = .ok (.iload 8, 2) := by decide +kernel
theorem dX12_paying_78 : decode cX12_paying 78 = .ok (.ifCond .eq 16, 3) := by decide +kernel
theorem dX12_paying_81 : decode cX12_paying 81 = .ok (.aload_n 0, 1) := by decide +kernel
theorem dX12_paying_82 : decode cX12_paying 82 = .ok (.iload 9, 2) := by decide +kernel
theorem dX12_paying_84 : decode cX12_paying 84 = .ok (.invokevirtual 450, 3) := by decide +kernel
theorem dX12_paying_87 : decode cX12_paying 87 = .ok (.ifCond .eq 7, 3) := by decide +kernel
theorem dX12_paying_90 : decode cX12_paying 90 = .ok (.iconst 1, 1) := by decide +kernel
theorem dX12_paying_91 : decode cX12_paying 91 = .ok (.goto 4, 3) := by decide +kernel
theorem dX12_paying_94 : decode cX12_paying 94 = .ok (.iconst 0, 1) := by decide +kernel
theorem dX12_paying_95 : decode cX12_paying 95 = .ok (.istore 8, 2) := by decide +kernel
theorem dX12_paying_97 : decode cX12_paying 97 = .ok (.iload 7, 2) := by decide +kernel
theorem dX12_paying_99 : decode cX12_paying 99 = .ok (.aload_n 0, 1) := by decide +kernel
theorem dX12_paying_100 : decode cX12_paying 100 = .ok (.aload_n 0, 1) := by decide +kernel
theorem dX12_paying_101 : decode cX12_paying 101 = .ok (.getfield 61, 3) := by decide +kernel
theorem dX12_paying_104 : decode cX12_paying 104 = .ok (.iload 9, 2) := by decide +kernel
theorem dX12_paying_106 : decode cX12_paying 106 = .ok (.invokevirtual 346, 3) := by decide +kernel
theorem dX12_paying_109 : decode cX12_paying 109 = .ok (.iadd, 1) := by decide +kernel
theorem dX12_paying_110 : decode cX12_paying 110 = .ok (.istore 7, 2) := by decide +kernel
theorem dX12_paying_112 : decode cX12_paying 112 = .ok (.goto 51, 3) := by decide +kernel
theorem dX12_paying_115 : decode cX12_paying 115 = .ok (.iload 6, 2) := by decide +kernel
theorem dX12_paying_117 : decode cX12_paying 117 = .ok (.aload_n 0, 1) := by decide +kernel
theorem dX12_paying_118 : decode cX12_paying 118 = .ok (.iload 9, 2) := by decide +kernel
theorem dX12_paying_120 : decode cX12_paying 120 = .ok (.invokevirtual 450, 3) := by decide +kernel
theorem dX12_paying_123 : decode cX12_paying 123 = .ok (.ifCond .eq 36, 3) := by decide +kernel
theorem dX12_paying_126 : decode cX12_paying 126 = .ok (.aload_n 0, 1) := by decide +kernel
theorem dX12_paying_127 : decode cX12_paying 127 = .ok (.getfield 61, 3) := by decide +kernel
theorem dX12_paying_130 : decode cX12_paying 130 = .ok (.bipush 7, 2) := by decide +kernel
theorem dX12_paying_132 : decode cX12_paying 132 = .ok (.iaload, 1) := by decide +kernel
theorem dX12_paying_133 : decode cX12_paying 133 = .ok (.aload_n 0, 1) := by decide +kernel
theorem dX12_paying_134 : decode cX12_paying 134 = .ok (.getfield 43, 3) := by decide +kernel
theorem dX12_paying_137 : decode cX12_paying 137 = .ok (.iconst 3, 1) := by decide +kernel
theorem dX12_paying_138 : decode cX12_paying 138 = .ok (.iload 9, 2) := by decide +kernel
theorem dX12_paying_140 : decode cX12_paying 140 = .ok (.imul, 1) := by decide +kernel
theorem dX12_paying_141 : decode cX12_paying 141 = .ok (.iaload, 1) := by decide +kernel
theorem dX12_paying_142 : decode cX12_paying 142 = .ok (.if_icmp .lt 17, 3) := by decide +kernel
theorem dX12_paying_145 : decode cX12_paying 145 = .ok (.aload_n 0, 1) := by decide +kernel
theorem dX12_paying_146 : decode cX12_paying 146 = .ok (.getfield 43, 3) := by decide +kernel
theorem dX12_paying_149 : decode cX12_paying 149 = .ok (.iconst 3, 1) := by decide +kernel
theorem dX12_paying_150 : decode cX12_paying 150 = .ok (.iload 9, 2) := by decide +kernel
theorem dX12_paying_152 : decode cX12_paying 152 = .ok (.imul, 1) := by decide +kernel
theorem dX12_paying_153 : decode cX12_paying 153 = .ok (.iconst 2, 1) := by decide +kernel
theorem dX12_paying_154 : decode cX12_paying 154 = .ok (.iadd, 1) := by decide +kernel
theorem dX12_paying_155 : decode cX12_paying 155 = .ok (.iaload, 1) := by decide +kernel
theorem dX12_paying_156 : decode cX12_paying 156 = .ok (.goto 4, 3) := by decide +kernel
theorem dX12_paying_159 : decode cX12_paying 159 = .ok (.iconst 0, 1) := by decide +kernel
theorem dX12_paying_160 : decode cX12_paying 160 = .ok (.iadd, 1) := by decide +kernel
theorem dX12_paying_161 : decode cX12_paying 161 = .ok (.istore 6, 2) := by decide +kernel
theorem dX12_paying_163 : decode cX12_paying 163 = .ok (.iinc 9 1, 3) := by decide +kernel
theorem dX12_paying_166 : decode cX12_paying 166 = .ok (.goto (-109), 3) := by decide +kernel
theorem dX12_paying_169 : decode cX12_paying 169 = .ok (.iload 8, 2) := by decide +kernel
theorem dX12_paying_171 : decode cX12_paying 171 = .ok (.ifCond .eq 54, 3) := by decide +kernel
theorem dX12_paying_174 : decode cX12_paying 174 = .ok (.iload 7, 2) := by decide +kernel
theorem dX12_paying_176 : decode cX12_paying 176 = .ok (.aload_n 0, 1) := by decide +kernel
theorem dX12_paying_177 : decode cX12_paying 177 = .ok (.getfield 61, 3) := by decide +kernel
theorem dX12_paying_180 : decode cX12_paying 180 = .ok (.iconst 4, 1) := by decide +kernel
theorem dX12_paying_181 : decode cX12_paying 181 = .ok (.iaload, 1) := by decide +kernel
theorem dX12_paying_182 : decode cX12_paying 182 = .ok (.if_icmp .le 6, 3) := by decide +kernel
theorem dX12_paying_185 : decode cX12_paying 185 = .ok (.goto 40, 3) := by decide +kernel
theorem dX12_paying_188 : decode cX12_paying 188 = .ok (.iload_n 2, 1) := by decide +kernel
theorem dX12_paying_189 : decode cX12_paying 189 = .ok (.iconst (-1), 1) := by decide +kernel
theorem dX12_paying_190 : decode cX12_paying 190 = .ok (.if_icmp .eq 25, 3) := by decide +kernel
theorem dX12_paying_193 : decode cX12_paying 193 = .ok (.iload 6, 2) := by decide +kernel
theorem dX12_paying_195 : decode cX12_paying 195 = .ok (.iload_n 3, 1) := by decide +kernel
theorem dX12_paying_196 : decode cX12_paying 196 = .ok (.if_icmp .gt 29, 3) := by decide +kernel
theorem dX12_paying_199 : decode cX12_paying 199 = .ok (.iload 6, 2) := by decide +kernel
theorem dX12_paying_201 : decode cX12_paying 201 = .ok (.iload_n 3, 1) := by decide +kernel
theorem dX12_paying_202 : decode cX12_paying 202 = .ok (.if_icmp .ne 13, 3) := by decide +kernel
theorem dX12_paying_205 : decode cX12_paying 205 = .ok (.iload 7, 2) := by decide +kernel
theorem dX12_paying_207 : decode cX12_paying 207 = .ok (.iload 4, 2) := by decide +kernel
theorem dX12_paying_209 : decode cX12_paying 209 = .ok (.if_icmp .lt 6, 3) := by decide +kernel
theorem dX12_paying_212 : decode cX12_paying 212 = .ok (.goto 13, 3) := by decide +kernel
theorem dX12_paying_215 : decode cX12_paying 215 = .ok (.iload 5, 2) := by decide +kernel
theorem dX12_paying_217 : decode cX12_paying 217 = .ok (.istore_n 2, 1) := by decide +kernel
theorem dX12_paying_218 : decode cX12_paying 218 = .ok (.iload 6, 2) := by decide +kernel
theorem dX12_paying_220 : decode cX12_paying 220 = .ok (.istore_n 3, 1) := by decide +kernel
theorem dX12_paying_221 : decode cX12_paying 221 = .ok (.iload 7, 2) := by decide +kernel
theorem dX12_paying_223 : decode cX12_paying 223 = .ok (.istore 4, 2) := by decide +kernel
theorem dX12_paying_225 : decode cX12_paying 225 = .ok (.iinc 5 1, 3) := by decide +kernel
theorem dX12_paying_228 : decode cX12_paying 228 = .ok (.goto (-194), 3) := by decide +kernel
theorem dX12_paying_231 : decode cX12_paying 231 = .ok (.iload_n 1, 1) := by decide +kernel
theorem dX12_paying_232 : decode cX12_paying 232 = .ok (.ifCond .ne 7, 3) := by decide +kernel
theorem dX12_paying_235 : decode cX12_paying 235 = .ok (.iload_n 2, 1) := by decide +kernel
theorem dX12_paying_236 : decode cX12_paying 236 = .ok (.goto 4, 3) := by decide +kernel
theorem dX12_paying_239 : decode cX12_paying 239 = .ok (.iload_n 3, 1) := by decide +kernel
theorem dX12_paying_240 : decode cX12_paying 240 = .ok (.ireturn, 1) := by decide +kernel
noncomputable def kX12_paying : Nat → Op := (nodeC 115 (nodeC 49 (nodeC 25 (nodeC 13 (nodeC 5 (nodeC 1 (nodeC 0 (leafC 0 (o_al 0 1)) (leafC 1 (o_ic (0) 2))) (nodeC 2 (leafC 2 (o_pI 12 0 5)) (leafC 5 (o_al 0 6)))) (nodeC 9 (nodeC 6 (leafC 6 (o_gI 12 27 9)) (leafC 9 (o_zeq 22 12))) (nodeC 12 (leafC 12 (o_il 1 13)) (leafC 13 (o_i2l 14))))) (nodeC 19 (nodeC 15 (nodeC 14 (leafC 14 (o_lc (0) 15)) (leafC 15 (o_lc (1) 16))) (nodeC 16 (leafC 16 (o_ist 3 1 FX12_isIn 19)) (leafC 19 (o_zne 24 22)))) (nodeC 23 (nodeC 22 (leafC 22 (o_ic (-1) 23)) (leafC 23 (o_iret))) (nodeC 24 (leafC 24 (o_ic (-1) 25)) (leafC 25 (o_is 2 26)))))) (nodeC 36 (nodeC 29 (nodeC 27 (nodeC 26 (leafC 26 (o_ic (0) 27)) (leafC 27 (o_is 3 28))) (nodeC 28 (leafC 28 (o_ic (0) 29)) (leafC 29 (o_is 4 31)))) (nodeC 32 (nodeC 31 (leafC 31 (o_ic (0) 32)) (leafC 32 (o_is 5 34))) (nodeC 34 (leafC 34 (o_mask [6, 7, 8, 9] (o_il 5 36))) (leafC 36 (o_ic (1) 37))))) (nodeC 42 (nodeC 38 (nodeC 37 (leafC 37 (o_al 0 38)) (leafC 38 (o_gI 12 26 41))) (nodeC 41 (leafC 41 (o_ishl 42)) (leafC 42 (o_cge 231 45)))) (nodeC 46 (nodeC 45 (leafC 45 (o_ic (0) 46)) (leafC 46 (o_is 6 48))) (nodeC 48 (leafC 48 (o_ic (0) 49)) (leafC 49 (o_is 7 51))))))) (nodeC 82 (nodeC 63 (nodeC 55 (nodeC 52 (nodeC 51 (leafC 51 (o_ic (1) 52)) (leafC 52 (o_is 8 54))) (nodeC 54 (leafC 54 (o_ic (0) 55)) (leafC 55 (o_is 9 57)))) (nodeC 59 (nodeC 57 (leafC 57 (o_il 9 59)) (leafC 59 (o_al 0 60))) (nodeC 60 (leafC 60 (o_gI 12 26 63)) (leafC 63 (o_cge 169 66))))) (nodeC 73 (nodeC 68 (nodeC 66 (leafC 66 (o_il 5 68)) (leafC 68 (o_il 9 70))) (nodeC 70 (leafC 70 (o_ist 2 1 FX12_has 73)) (leafC 73 (o_zeq 115 76)))) (nodeC 78 (nodeC 76 (leafC 76 (o_il 8 78)) (leafC 78 (o_zeq 94 81))) (nodeC 81 (leafC 81 (o_al 0 82)) (leafC 82 (o_il 9 84)))))) (nodeC 99 (nodeC 91 (nodeC 87 (nodeC 84 (leafC 84 (o_inv 1 12 1 FX12_isOpen 87)) (leafC 87 (o_zeq 94 90))) (nodeC 90 (leafC 90 (o_ic (1) 91)) (leafC 91 (o_goto 95)))) (nodeC 95 (nodeC 94 (leafC 94 (o_ic (0) 95)) (leafC 95 (o_is 8 97))) (nodeC 97 (leafC 97 (o_il 7 99)) (leafC 99 (o_al 0 100))))) (nodeC 106 (nodeC 101 (nodeC 100 (leafC 100 (o_al 0 101)) (leafC 101 (o_gR 12 32 104))) (nodeC 104 (leafC 104 (o_il 9 106)) (leafC 106 (o_inv 2 12 1 FX12_debtNow 109)))) (nodeC 110 (nodeC 109 (leafC 109 (o_iadd 110)) (leafC 110 (o_is 7 112))) (nodeC 112 (leafC 112 (o_goto 163)) (leafC 115 (o_il 6 117)))))))) (nodeC 174 (nodeC 145 (nodeC 132 (nodeC 123 (nodeC 118 (nodeC 117 (leafC 117 (o_al 0 118)) (leafC 118 (o_il 9 120))) (nodeC 120 (leafC 120 (o_inv 1 12 1 FX12_isOpen 123)) (leafC 123 (o_zeq 159 126)))) (nodeC 127 (nodeC 126 (leafC 126 (o_al 0 127)) (leafC 127 (o_gR 12 32 130))) (nodeC 130 (leafC 130 (o_ic (7) 132)) (leafC 132 (o_iald 133))))) (nodeC 138 (nodeC 134 (nodeC 133 (leafC 133 (o_al 0 134)) (leafC 134 (o_gR 12 20 137))) (nodeC 137 (leafC 137 (o_ic (3) 138)) (leafC 138 (o_il 9 140)))) (nodeC 141 (nodeC 140 (leafC 140 (o_imul 141)) (leafC 141 (o_iald 142))) (nodeC 142 (leafC 142 (o_clt 159 145)) (leafC 145 (o_al 0 146)))))) (nodeC 156 (nodeC 152 (nodeC 149 (nodeC 146 (leafC 146 (o_gR 12 20 149)) (leafC 149 (o_ic (3) 150))) (nodeC 150 (leafC 150 (o_il 9 152)) (leafC 152 (o_imul 153)))) (nodeC 154 (nodeC 153 (leafC 153 (o_ic (2) 154)) (leafC 154 (o_iadd 155))) (nodeC 155 (leafC 155 (o_iald 156)) (leafC 156 (o_goto 160))))) (nodeC 163 (nodeC 160 (nodeC 159 (leafC 159 (o_ic (0) 160)) (leafC 160 (o_iadd 161))) (nodeC 161 (leafC 161 (o_is 6 163)) (leafC 163 (o_inc 9 (1) 166)))) (nodeC 169 (nodeC 166 (leafC 166 (o_goto 57)) (leafC 169 (o_il 8 171))) (nodeC 171 (leafC 171 (o_zeq 225 174)) (leafC 174 (o_il 7 176))))))) (nodeC 205 (nodeC 189 (nodeC 181 (nodeC 177 (nodeC 176 (leafC 176 (o_al 0 177)) (leafC 177 (o_gR 12 32 180))) (nodeC 180 (leafC 180 (o_ic (4) 181)) (leafC 181 (o_iald 182)))) (nodeC 185 (nodeC 182 (leafC 182 (o_cle 188 185)) (leafC 185 (o_goto 225))) (nodeC 188 (leafC 188 (o_il 2 189)) (leafC 189 (o_ic (-1) 190))))) (nodeC 196 (nodeC 193 (nodeC 190 (leafC 190 (o_ceq 215 193)) (leafC 193 (o_il 6 195))) (nodeC 195 (leafC 195 (o_il 3 196)) (leafC 196 (o_cgt 225 199)))) (nodeC 201 (nodeC 199 (leafC 199 (o_il 6 201)) (leafC 201 (o_il 3 202))) (nodeC 202 (leafC 202 (o_cne 215 205)) (leafC 205 (o_il 7 207)))))) (nodeC 221 (nodeC 215 (nodeC 209 (nodeC 207 (leafC 207 (o_il 4 209)) (leafC 209 (o_clt 215 212))) (nodeC 212 (leafC 212 (o_goto 225)) (leafC 215 (o_il 5 217)))) (nodeC 218 (nodeC 217 (leafC 217 (o_is 2 218)) (leafC 218 (o_il 6 220))) (nodeC 220 (leafC 220 (o_is 3 221)) (leafC 221 (o_il 7 223))))) (nodeC 231 (nodeC 225 (nodeC 223 (leafC 223 (o_is 4 225)) (leafC 225 (o_inc 5 (1) 228))) (nodeC 228 (leafC 228 (o_goto 34)) (leafC 231 (o_il 1 232)))) (nodeC 235 (nodeC 232 (leafC 232 (o_zne 239 235)) (leafC 235 (o_il 2 236))) (nodeC 236 (leafC 236 (o_goto 240)) (nodeC 239 (leafC 239 (o_il 3 240)) (leafC 240 (o_iret))))))))))
theorem sX12_paying : ∀ pc, SoundOp cX12_paying RX12 10 (some .int) false 3 67 pc (kX12_paying pc) := (so_node (so_node (so_node (so_node (so_node (so_node (so_node (so_leaf (so_aload_n dX12_paying_0 rfl)) (so_leaf (so_iconst dX12_paying_1 (by decide)))) (so_node (so_leaf (so_pI (by decide) (by decide) wC12 wf_RX12_105 (Or.inl rfl) rfl dX12_paying_2)) (so_leaf (so_aload_n dX12_paying_5 rfl)))) (so_node (so_node (so_leaf (so_gI (by decide) (by decide) wC12 wf_RX12_302 (fun _ _ _ => rfl) dX12_paying_6)) (so_leaf (so_zeq dX12_paying_9 (by decide)))) (so_node (so_leaf (so_iload_n dX12_paying_12 rfl)) (so_leaf (so_i2l dX12_paying_13))))) (so_node (so_node (so_node (so_leaf (so_lconst dX12_paying_14 (by decide))) (so_leaf (so_lconst dX12_paying_15 (by decide)))) (so_node (so_leaf (so_ist CX12_isIn rfl wm_RX12_225 wst_X12_isIn wny_X12_isIn wc_X12_isIn (by decide +kernel) (by decide) (by decide) dX12_paying_16)) (so_leaf (so_zne dX12_paying_19 (by decide))))) (so_node (so_node (so_leaf (so_iconst dX12_paying_22 (by decide))) (so_leaf (so_iret dX12_paying_23 rfl))) (so_node (so_leaf (so_iconst dX12_paying_24 (by decide))) (so_leaf (so_istore_n dX12_paying_25 rfl (by decide))))))) (so_node (so_node (so_node (so_node (so_leaf (so_iconst dX12_paying_26 (by decide))) (so_leaf (so_istore_n dX12_paying_27 rfl (by decide)))) (so_node (so_leaf (so_iconst dX12_paying_28 (by decide))) (so_leaf (so_istore dX12_paying_29 (by decide))))) (so_node (so_node (so_leaf (so_iconst dX12_paying_31 (by decide))) (so_leaf (so_istore dX12_paying_32 (by decide)))) (so_node (so_leaf (so_mask (so_iload dX12_paying_34))) (so_leaf (so_iconst dX12_paying_36 (by decide)))))) (so_node (so_node (so_node (so_leaf (so_aload_n dX12_paying_37 rfl)) (so_leaf (so_gI (by decide) (by decide) wC12 wf_RX12_299 (fun _ _ _ => rfl) dX12_paying_38))) (so_node (so_leaf (so_ishl dX12_paying_41)) (so_leaf (so_cge dX12_paying_42 (by decide))))) (so_node (so_node (so_leaf (so_iconst dX12_paying_45 (by decide))) (so_leaf (so_istore dX12_paying_46 (by decide)))) (so_node (so_leaf (so_iconst dX12_paying_48 (by decide))) (so_leaf (so_istore dX12_paying_49 (by decide)))))))) (so_node (so_node (so_node (so_node (so_node (so_leaf (so_iconst dX12_paying_51 (by decide))) (so_leaf (so_istore dX12_paying_52 (by decide)))) (so_node (so_leaf (so_iconst dX12_paying_54 (by decide))) (so_leaf (so_istore dX12_paying_55 (by decide))))) (so_node (so_node (so_leaf (so_iload dX12_paying_57)) (so_leaf (so_aload_n dX12_paying_59 rfl))) (so_node (so_leaf (so_gI (by decide) (by decide) wC12 wf_RX12_299 (fun _ _ _ => rfl) dX12_paying_60)) (so_leaf (so_cge dX12_paying_63 (by decide)))))) (so_node (so_node (so_node (so_leaf (so_iload dX12_paying_66)) (so_leaf (so_iload dX12_paying_68))) (so_node (so_leaf (so_ist CX12_has rfl wm_RX12_237 wst_X12_has wny_X12_has wc_X12_has (by decide +kernel) (by decide) (by decide) dX12_paying_70)) (so_leaf (so_zeq dX12_paying_73 (by decide))))) (so_node (so_node (so_leaf (so_iload dX12_paying_76)) (so_leaf (so_zeq dX12_paying_78 (by decide)))) (so_node (so_leaf (so_aload_n dX12_paying_81 rfl)) (so_leaf (so_iload dX12_paying_82)))))) (so_node (so_node (so_node (so_node (so_leaf (so_inv CX12_isOpen (by decide) rfl wm_RX12_450 win_X12_isOpen wse_X12_isOpen wn_12 wc_X12_isOpen (by decide +kernel) (by decide) (by decide) dX12_paying_84)) (so_leaf (so_zeq dX12_paying_87 (by decide)))) (so_node (so_leaf (so_iconst dX12_paying_90 (by decide))) (so_leaf (so_goto dX12_paying_91 (by decide))))) (so_node (so_node (so_leaf (so_iconst dX12_paying_94 (by decide))) (so_leaf (so_istore dX12_paying_95 (by decide)))) (so_node (so_leaf (so_iload dX12_paying_97)) (so_leaf (so_aload_n dX12_paying_99 rfl))))) (so_node (so_node (so_node (so_leaf (so_aload_n dX12_paying_100 rfl)) (so_leaf (so_gR (by decide) (by decide) wC12 wf_RX12_61 (fun _ _ _ => rfl) dX12_paying_101))) (so_node (so_leaf (so_iload dX12_paying_104)) (so_leaf (so_inv CX12_debtNow (by decide) rfl wm_RX12_346 win_X12_debtNow wse_X12_debtNow wn_12 wc_X12_debtNow (by decide +kernel) (by decide) (by decide) dX12_paying_106)))) (so_node (so_node (so_leaf (so_iadd dX12_paying_109)) (so_leaf (so_istore dX12_paying_110 (by decide)))) (so_node (so_leaf (so_goto dX12_paying_112 (by decide))) (so_leaf (so_iload dX12_paying_115)))))))) (so_node (so_node (so_node (so_node (so_node (so_node (so_leaf (so_aload_n dX12_paying_117 rfl)) (so_leaf (so_iload dX12_paying_118))) (so_node (so_leaf (so_inv CX12_isOpen (by decide) rfl wm_RX12_450 win_X12_isOpen wse_X12_isOpen wn_12 wc_X12_isOpen (by decide +kernel) (by decide) (by decide) dX12_paying_120)) (so_leaf (so_zeq dX12_paying_123 (by decide))))) (so_node (so_node (so_leaf (so_aload_n dX12_paying_126 rfl)) (so_leaf (so_gR (by decide) (by decide) wC12 wf_RX12_61 (fun _ _ _ => rfl) dX12_paying_127))) (so_node (so_leaf (so_bipush dX12_paying_130 (by decide))) (so_leaf (so_iald dX12_paying_132))))) (so_node (so_node (so_node (so_leaf (so_aload_n dX12_paying_133 rfl)) (so_leaf (so_gR (by decide) (by decide) wC12 wf_RX12_43 (fun _ _ _ => rfl) dX12_paying_134))) (so_node (so_leaf (so_iconst dX12_paying_137 (by decide))) (so_leaf (so_iload dX12_paying_138)))) (so_node (so_node (so_leaf (so_imul dX12_paying_140)) (so_leaf (so_iald dX12_paying_141))) (so_node (so_leaf (so_clt dX12_paying_142 (by decide))) (so_leaf (so_aload_n dX12_paying_145 rfl)))))) (so_node (so_node (so_node (so_node (so_leaf (so_gR (by decide) (by decide) wC12 wf_RX12_43 (fun _ _ _ => rfl) dX12_paying_146)) (so_leaf (so_iconst dX12_paying_149 (by decide)))) (so_node (so_leaf (so_iload dX12_paying_150)) (so_leaf (so_imul dX12_paying_152)))) (so_node (so_node (so_leaf (so_iconst dX12_paying_153 (by decide))) (so_leaf (so_iadd dX12_paying_154))) (so_node (so_leaf (so_iald dX12_paying_155)) (so_leaf (so_goto dX12_paying_156 (by decide)))))) (so_node (so_node (so_node (so_leaf (so_iconst dX12_paying_159 (by decide))) (so_leaf (so_iadd dX12_paying_160))) (so_node (so_leaf (so_istore dX12_paying_161 (by decide))) (so_leaf (so_iinc dX12_paying_163 (by decide) (by decide))))) (so_node (so_node (so_leaf (so_goto dX12_paying_166 (by decide))) (so_leaf (so_iload dX12_paying_169))) (so_node (so_leaf (so_zeq dX12_paying_171 (by decide))) (so_leaf (so_iload dX12_paying_174))))))) (so_node (so_node (so_node (so_node (so_node (so_leaf (so_aload_n dX12_paying_176 rfl)) (so_leaf (so_gR (by decide) (by decide) wC12 wf_RX12_61 (fun _ _ _ => rfl) dX12_paying_177))) (so_node (so_leaf (so_iconst dX12_paying_180 (by decide))) (so_leaf (so_iald dX12_paying_181)))) (so_node (so_node (so_leaf (so_cle dX12_paying_182 (by decide))) (so_leaf (so_goto dX12_paying_185 (by decide)))) (so_node (so_leaf (so_iload_n dX12_paying_188 rfl)) (so_leaf (so_iconst dX12_paying_189 (by decide)))))) (so_node (so_node (so_node (so_leaf (so_ceq dX12_paying_190 (by decide))) (so_leaf (so_iload dX12_paying_193))) (so_node (so_leaf (so_iload_n dX12_paying_195 rfl)) (so_leaf (so_cgt dX12_paying_196 (by decide))))) (so_node (so_node (so_leaf (so_iload dX12_paying_199)) (so_leaf (so_iload_n dX12_paying_201 rfl))) (so_node (so_leaf (so_cne dX12_paying_202 (by decide))) (so_leaf (so_iload dX12_paying_205)))))) (so_node (so_node (so_node (so_node (so_leaf (so_iload dX12_paying_207)) (so_leaf (so_clt dX12_paying_209 (by decide)))) (so_node (so_leaf (so_goto dX12_paying_212 (by decide))) (so_leaf (so_iload dX12_paying_215)))) (so_node (so_node (so_leaf (so_istore_n dX12_paying_217 rfl (by decide))) (so_leaf (so_iload dX12_paying_218))) (so_node (so_leaf (so_istore_n dX12_paying_220 rfl (by decide))) (so_leaf (so_iload dX12_paying_221))))) (so_node (so_node (so_node (so_leaf (so_istore dX12_paying_223 (by decide))) (so_leaf (so_iinc dX12_paying_225 (by decide) (by decide)))) (so_node (so_leaf (so_goto dX12_paying_228 (by decide))) (so_leaf (so_iload_n dX12_paying_231 rfl)))) (so_node (so_node (so_leaf (so_zne dX12_paying_232 (by decide))) (so_leaf (so_iload_n dX12_paying_235 rfl))) (so_node (so_leaf (so_goto dX12_paying_236 (by decide))) (so_node (so_leaf (so_iload_n dX12_paying_239 rfl)) (so_leaf (so_iret dX12_paying_240 rfl))))))))))
theorem pX12_paying : ∀ pc, Pr (kX12_paying pc) := (pr_node (pr_node (pr_node (pr_node (pr_node (pr_node (pr_node (pr_leaf (pr_al _ _)) (pr_leaf (pr_ic _ _))) (pr_node (pr_leaf (pr_pI _ _ _)) (pr_leaf (pr_al _ _)))) (pr_node (pr_node (pr_leaf (pr_gI _ _ _)) (pr_leaf (pr_zeq _ _))) (pr_node (pr_leaf (pr_il _ _)) (pr_leaf (pr_i2l _))))) (pr_node (pr_node (pr_node (pr_leaf (pr_lc _ _)) (pr_leaf (pr_lc _ _))) (pr_node (pr_leaf (pr_ist _ _ GX12_isIn _)) (pr_leaf (pr_zne _ _)))) (pr_node (pr_node (pr_leaf (pr_ic _ _)) (pr_leaf (pr_iret))) (pr_node (pr_leaf (pr_ic _ _)) (pr_leaf (pr_is _ _)))))) (pr_node (pr_node (pr_node (pr_node (pr_leaf (pr_ic _ _)) (pr_leaf (pr_is _ _))) (pr_node (pr_leaf (pr_ic _ _)) (pr_leaf (pr_is _ _)))) (pr_node (pr_node (pr_leaf (pr_ic _ _)) (pr_leaf (pr_is _ _))) (pr_node (pr_leaf (pr_mask (pr_il _ _))) (pr_leaf (pr_ic _ _))))) (pr_node (pr_node (pr_node (pr_leaf (pr_al _ _)) (pr_leaf (pr_gI _ _ _))) (pr_node (pr_leaf (pr_ishl _)) (pr_leaf (pr_cge _ _)))) (pr_node (pr_node (pr_leaf (pr_ic _ _)) (pr_leaf (pr_is _ _))) (pr_node (pr_leaf (pr_ic _ _)) (pr_leaf (pr_is _ _))))))) (pr_node (pr_node (pr_node (pr_node (pr_node (pr_leaf (pr_ic _ _)) (pr_leaf (pr_is _ _))) (pr_node (pr_leaf (pr_ic _ _)) (pr_leaf (pr_is _ _)))) (pr_node (pr_node (pr_leaf (pr_il _ _)) (pr_leaf (pr_al _ _))) (pr_node (pr_leaf (pr_gI _ _ _)) (pr_leaf (pr_cge _ _))))) (pr_node (pr_node (pr_node (pr_leaf (pr_il _ _)) (pr_leaf (pr_il _ _))) (pr_node (pr_leaf (pr_ist _ _ GX12_has _)) (pr_leaf (pr_zeq _ _)))) (pr_node (pr_node (pr_leaf (pr_il _ _)) (pr_leaf (pr_zeq _ _))) (pr_node (pr_leaf (pr_al _ _)) (pr_leaf (pr_il _ _)))))) (pr_node (pr_node (pr_node (pr_node (pr_leaf (pr_inv _ _ _ GX12_isOpen _)) (pr_leaf (pr_zeq _ _))) (pr_node (pr_leaf (pr_ic _ _)) (pr_leaf (pr_goto _)))) (pr_node (pr_node (pr_leaf (pr_ic _ _)) (pr_leaf (pr_is _ _))) (pr_node (pr_leaf (pr_il _ _)) (pr_leaf (pr_al _ _))))) (pr_node (pr_node (pr_node (pr_leaf (pr_al _ _)) (pr_leaf (pr_gR _ _ _))) (pr_node (pr_leaf (pr_il _ _)) (pr_leaf (pr_inv _ _ _ GX12_debtNow _)))) (pr_node (pr_node (pr_leaf (pr_iadd _)) (pr_leaf (pr_is _ _))) (pr_node (pr_leaf (pr_goto _)) (pr_leaf (pr_il _ _)))))))) (pr_node (pr_node (pr_node (pr_node (pr_node (pr_node (pr_leaf (pr_al _ _)) (pr_leaf (pr_il _ _))) (pr_node (pr_leaf (pr_inv _ _ _ GX12_isOpen _)) (pr_leaf (pr_zeq _ _)))) (pr_node (pr_node (pr_leaf (pr_al _ _)) (pr_leaf (pr_gR _ _ _))) (pr_node (pr_leaf (pr_ic _ _)) (pr_leaf (pr_iald _))))) (pr_node (pr_node (pr_node (pr_leaf (pr_al _ _)) (pr_leaf (pr_gR _ _ _))) (pr_node (pr_leaf (pr_ic _ _)) (pr_leaf (pr_il _ _)))) (pr_node (pr_node (pr_leaf (pr_imul _)) (pr_leaf (pr_iald _))) (pr_node (pr_leaf (pr_clt _ _)) (pr_leaf (pr_al _ _)))))) (pr_node (pr_node (pr_node (pr_node (pr_leaf (pr_gR _ _ _)) (pr_leaf (pr_ic _ _))) (pr_node (pr_leaf (pr_il _ _)) (pr_leaf (pr_imul _)))) (pr_node (pr_node (pr_leaf (pr_ic _ _)) (pr_leaf (pr_iadd _))) (pr_node (pr_leaf (pr_iald _)) (pr_leaf (pr_goto _))))) (pr_node (pr_node (pr_node (pr_leaf (pr_ic _ _)) (pr_leaf (pr_iadd _))) (pr_node (pr_leaf (pr_is _ _)) (pr_leaf (pr_inc _ _ _)))) (pr_node (pr_node (pr_leaf (pr_goto _)) (pr_leaf (pr_il _ _))) (pr_node (pr_leaf (pr_zeq _ _)) (pr_leaf (pr_il _ _))))))) (pr_node (pr_node (pr_node (pr_node (pr_node (pr_leaf (pr_al _ _)) (pr_leaf (pr_gR _ _ _))) (pr_node (pr_leaf (pr_ic _ _)) (pr_leaf (pr_iald _)))) (pr_node (pr_node (pr_leaf (pr_cle _ _)) (pr_leaf (pr_goto _))) (pr_node (pr_leaf (pr_il _ _)) (pr_leaf (pr_ic _ _))))) (pr_node (pr_node (pr_node (pr_leaf (pr_ceq _ _)) (pr_leaf (pr_il _ _))) (pr_node (pr_leaf (pr_il _ _)) (pr_leaf (pr_cgt _ _)))) (pr_node (pr_node (pr_leaf (pr_il _ _)) (pr_leaf (pr_il _ _))) (pr_node (pr_leaf (pr_cne _ _)) (pr_leaf (pr_il _ _)))))) (pr_node (pr_node (pr_node (pr_node (pr_leaf (pr_il _ _)) (pr_leaf (pr_clt _ _))) (pr_node (pr_leaf (pr_goto _)) (pr_leaf (pr_il _ _)))) (pr_node (pr_node (pr_leaf (pr_is _ _)) (pr_leaf (pr_il _ _))) (pr_node (pr_leaf (pr_is _ _)) (pr_leaf (pr_il _ _))))) (pr_node (pr_node (pr_node (pr_leaf (pr_is _ _)) (pr_leaf (pr_inc _ _ _))) (pr_node (pr_leaf (pr_goto _)) (pr_leaf (pr_il _ _)))) (pr_node (pr_node (pr_leaf (pr_zne _ _)) (pr_leaf (pr_il _ _))) (pr_node (pr_leaf (pr_goto _)) (pr_node (pr_leaf (pr_il _ _)) (pr_leaf (pr_iret))))))))))
noncomputable def FX12_paying : List EV → Hp → Option (RV × Hp) := Fm kX12_paying 10
theorem CX12_paying : Con yX12_paying cX12_paying 10 (some .int) 3 67 FX12_paying := con_of (own := RX12) rfl (by decide +kernel) sX12_paying pX12_paying (fun z => by cases z)
theorem GX12_paying : Gr FX12_paying := Gr_Fm pX12_paying 10
theorem dX12_moon_0 : decode cX12_moon 0 = .ok (.aload_n 0, 1) := by decide +kernel
theorem dX12_moon_1 : decode cX12_moon 1 = .ok (.iconst 0, 1) := by decide +kernel
theorem dX12_moon_2 : decode cX12_moon 2 = .ok (.putfield 105, 3) := by decide +kernel
theorem dX12_moon_5 : decode cX12_moon 5 = .ok (.aload_n 0, 1) := by decide +kernel
theorem dX12_moon_6 : decode cX12_moon 6 = .ok (.getfield 302, 3) := by decide +kernel
theorem dX12_moon_9 : decode cX12_moon 9 = .ok (.ifCond .ne 5, 3) := by decide +kernel
theorem dX12_moon_12 : decode cX12_moon 12 = .ok (.iconst (-1), 1) := by decide +kernel
theorem dX12_moon_13 : decode cX12_moon 13 = .ok (.ireturn, 1) := by decide +kernel
theorem dX12_moon_14 : decode cX12_moon 14 = .ok (.iconst 0, 1) := by decide +kernel
theorem dX12_moon_15 : decode cX12_moon 15 = .ok (.istore_n 1, 1) := by decide +kernel
theorem dX12_moon_16 : decode cX12_moon 16 = .ok (.iload_n 1, 1) := by decide +kernel
theorem dX12_moon_17 : decode cX12_moon 17 = .ok (.bipush 60, 2) := by decide +kernel
theorem dX12_moon_19 : decode cX12_moon 19 = .ok (.if_icmp .gt 96, 3) := by decide +kernel
theorem dX12_moon_22 : decode cX12_moon 22 = .ok (.iconst 0, 1) := by decide +kernel
theorem dX12_moon_23 : decode cX12_moon 23 = .ok (.istore_n 2, 1) := by decide +kernel
theorem dX12_moon_24 : decode cX12_moon 24 = .ok (.iconst 0, 1) := by decide +kernel
theorem dX12_moon_25 : decode cX12_moon 25 = .ok (.istore_n 3, 1) := by decide +kernel
theorem dX12_moon_26 : decode cX12_moon 26 = .ok (.iload_n 3, 1) := by decide +kernel
theorem dX12_moon_27 : decode cX12_moon 27 = .ok (.aload_n 0, 1) := by decide +kernel
theorem dX12_moon_28 : decode cX12_moon 28 = .ok (.getfield 299, 3) := by decide +kernel
theorem dX12_moon_31 : decode cX12_moon 31 = .ok (.if_icmp .ge 49, 3) := by decide +kernel
theorem dX12_moon_34 : decode cX12_moon 34 = .ok (.aload_n 0, 1) := by decide +kernel
theorem dX12_moon_35 : decode cX12_moon 35 = .ok (.iload_n 3, 1) := by decide +kernel
theorem dX12_moon_36 : decode cX12_moon 36 = .ok (.invokevirtual 450, 3) := by decide +kernel
theorem dX12_moon_39 : decode cX12_moon 39 = .ok (.ifCond .eq 35, 3) := by decide +kernel
theorem dX12_moon_42 : decode cX12_moon 42 = .ok (.aload_n 0, 1) := by decide +kernel
theorem dX12_moon_43 : decode cX12_moon 43 = .ok (.getfield 43, 3) := by decide +kernel
theorem dX12_moon_46 : decode cX12_moon 46 = .ok (.iconst 3, 1) := by decide +kernel
theorem dX12_moon_47 : decode cX12_moon 47 = .ok (.iload_n 3, 1) := by decide +kernel
theorem dX12_moon_48 : decode cX12_moon 48 = .ok (.imul, 1) := by decide +kernel
theorem dX12_moon_49 : decode cX12_moon 49 = .ok (.iaload, 1) := by decide +kernel
theorem dX12_moon_50 : decode cX12_moon 50 = .ok (.aload_n 0, 1) := by decide +kernel
theorem dX12_moon_51 : decode cX12_moon 51 = .ok (.getfield 61, 3) := by decide +kernel
theorem dX12_moon_54 : decode cX12_moon 54 = .ok (.bipush 7, 2) := by decide +kernel
theorem dX12_moon_56 : decode cX12_moon 56 = .ok (.iaload, 1) := by decide +kernel
theorem dX12_moon_57 : decode cX12_moon 57 = .ok (.iload_n 1, 1) := by decide +kernel
theorem dX12_moon_58 : decode cX12_moon 58 = .ok (.iadd, 1) := by decide +kernel
theorem dX12_moon_59 : decode cX12_moon 59 = .ok (.if_icmp .gt 15, 3) := by decide +kernel
theorem dX12_moon_62 : decode cX12_moon 62 = .ok (.iload_n 2, 1) := by decide +kernel
theorem dX12_moon_63 : decode cX12_moon 63 = .ok (.aload_n 0, 1) := by decide +kernel
theorem dX12_moon_64 : decode cX12_moon 64 = .ok (.aload_n 0, 1) := by decide +kernel
theorem dX12_moon_65 : decode cX12_moon 65 = .ok (.getfield 61, 3) := by decide +kernel
theorem dX12_moon_68 : decode cX12_moon 68 = .ok (.iload_n 3, 1) := by decide +kernel
theorem dX12_moon_69 : decode cX12_moon 69 = .ok (.invokevirtual 346, 3) := by decide +kernel
theorem dX12_moon_72 : decode cX12_moon 72 = .ok (.iadd, 1) := by decide +kernel
theorem dX12_moon_73 : decode cX12_moon 73 = .ok (.istore_n 2, 1) := by decide +kernel
theorem dX12_moon_74 : decode cX12_moon 74 = .ok (.iinc 3 1, 3) := by decide +kernel
theorem dX12_moon_77 : decode cX12_moon 77 = .ok (.goto (-51), 3) := by decide +kernel
theorem dX12_moon_80 : decode cX12_moon 80 = .ok (.iload_n 2, 1) := by decide +kernel
theorem dX12_moon_81 : decode cX12_moon 81 = .ok (.aload_n 0, 1) := by decide +kernel
theorem dX12_moon_82 : decode cX12_moon 82 = .ok (.getfield 61, 3) := by decide +kernel
theorem dX12_moon_85 : decode cX12_moon 85 = .ok (.iconst 4, 1) := by decide +kernel
theorem dX12_moon_86 : decode cX12_moon 86 = .ok (.iaload, 1) := by decide +kernel
theorem dX12_moon_87 : decode cX12_moon 87 = .ok (.iload_n 1, 1) := by decide +kernel
theorem dX12_moon_88 : decode cX12_moon 88 = .ok (.aload_n 0, 1) := by decide +kernel
theorem dX12_moon_89 : decode cX12_moon 89 = .ok (.getfield 37, 3) := by decide +kernel
theorem dX12_moon_92 : decode cX12_moon 92 = .ok (.iconst 4, 1) := by decide +kernel
theorem dX12_moon_93 : decode cX12_moon 93 = .ok (.iaload, 1) := by decide +kernel
theorem dX12_moon_94 : decode cX12_moon 94 = .ok (.imul, 1) := by decide +kernel
theorem dX12_moon_95 : decode cX12_moon 95 = .ok (.iadd, 1) := by decide +kernel
theorem dX12_moon_96 : decode cX12_moon 96 = .ok (.if_icmp .le 13, 3) := by decide +kernel
theorem dX12_moon_99 : decode cX12_moon 99 = .ok (.aload_n 0, 1) := by decide +kernel
theorem dX12_moon_100 : decode cX12_moon 100 = .ok (.getfield 61, 3) := by decide +kernel
theorem dX12_moon_103 : decode cX12_moon 103 = .ok (.bipush 7, 2) := by decide +kernel
theorem dX12_moon_105 : decode cX12_moon 105 = .ok (.iaload, 1) := by decide +kernel
theorem dX12_moon_106 : decode cX12_moon 106 = .ok (.iload_n 1, 1) := by decide +kernel
theorem dX12_moon_107 : decode cX12_moon 107 = .ok (.iadd, 1) := by decide +kernel
theorem dX12_moon_108 : decode cX12_moon 108 = .ok (.ireturn, 1) := by decide +kernel
theorem dX12_moon_109 : decode cX12_moon 109 = .ok (.iinc 1 1, 3) := by decide +kernel
theorem dX12_moon_112 : decode cX12_moon 112 = .ok (.goto (-96), 3) := by decide +kernel
theorem dX12_moon_115 : decode cX12_moon 115 = .ok (.iconst (-1), 1) := by decide +kernel
theorem dX12_moon_116 : decode cX12_moon 116 = .ok (.ireturn, 1) := by decide +kernel
noncomputable def kX12_moon : Nat → Op := (nodeC 57 (nodeC 26 (nodeC 14 (nodeC 5 (nodeC 1 (nodeC 0 (leafC 0 (o_al 0 1)) (leafC 1 (o_ic (0) 2))) (nodeC 2 (leafC 2 (o_pI 12 0 5)) (leafC 5 (o_al 0 6)))) (nodeC 9 (nodeC 6 (leafC 6 (o_gI 12 27 9)) (leafC 9 (o_zne 14 12))) (nodeC 12 (leafC 12 (o_ic (-1) 13)) (nodeC 13 (leafC 13 (o_iret)) (leafC 14 (o_ic (0) 15)))))) (nodeC 19 (nodeC 16 (nodeC 15 (leafC 15 (o_is 1 16)) (leafC 16 (o_mask [2, 3] (o_il 1 17)))) (nodeC 17 (leafC 17 (o_ic (60) 19)) (leafC 19 (o_cgt 115 22)))) (nodeC 23 (nodeC 22 (leafC 22 (o_ic (0) 23)) (leafC 23 (o_is 2 24))) (nodeC 24 (leafC 24 (o_ic (0) 25)) (nodeC 25 (leafC 25 (o_is 3 26)) (leafC 26 (o_il 3 27))))))) (nodeC 43 (nodeC 34 (nodeC 28 (nodeC 27 (leafC 27 (o_al 0 28)) (leafC 28 (o_gI 12 26 31))) (nodeC 31 (leafC 31 (o_cge 80 34)) (leafC 34 (o_al 0 35)))) (nodeC 36 (nodeC 35 (leafC 35 (o_il 3 36)) (leafC 36 (o_inv 1 12 1 FX12_isOpen 39))) (nodeC 39 (leafC 39 (o_zeq 74 42)) (nodeC 42 (leafC 42 (o_al 0 43)) (leafC 43 (o_gR 12 20 46)))))) (nodeC 49 (nodeC 47 (nodeC 46 (leafC 46 (o_ic (3) 47)) (leafC 47 (o_il 3 48))) (nodeC 48 (leafC 48 (o_imul 49)) (leafC 49 (o_iald 50)))) (nodeC 51 (nodeC 50 (leafC 50 (o_al 0 51)) (leafC 51 (o_gR 12 32 54))) (nodeC 54 (leafC 54 (o_ic (7) 56)) (nodeC 56 (leafC 56 (o_iald 57)) (leafC 57 (o_il 1 58)))))))) (nodeC 87 (nodeC 72 (nodeC 63 (nodeC 59 (nodeC 58 (leafC 58 (o_iadd 59)) (leafC 59 (o_cgt 74 62))) (nodeC 62 (leafC 62 (o_il 2 63)) (leafC 63 (o_al 0 64)))) (nodeC 65 (nodeC 64 (leafC 64 (o_al 0 65)) (leafC 65 (o_gR 12 32 68))) (nodeC 68 (leafC 68 (o_il 3 69)) (nodeC 69 (leafC 69 (o_inv 2 12 1 FX12_debtNow 72)) (leafC 72 (o_iadd 73)))))) (nodeC 80 (nodeC 74 (nodeC 73 (leafC 73 (o_is 2 74)) (leafC 74 (o_inc 3 (1) 77))) (nodeC 77 (leafC 77 (o_goto 26)) (leafC 80 (o_il 2 81)))) (nodeC 82 (nodeC 81 (leafC 81 (o_al 0 82)) (leafC 82 (o_gR 12 32 85))) (nodeC 85 (leafC 85 (o_ic (4) 86)) (nodeC 86 (leafC 86 (o_iald 87)) (leafC 87 (o_il 1 88))))))) (nodeC 100 (nodeC 93 (nodeC 89 (nodeC 88 (leafC 88 (o_al 0 89)) (leafC 89 (o_gR 12 18 92))) (nodeC 92 (leafC 92 (o_ic (4) 93)) (leafC 93 (o_iald 94)))) (nodeC 95 (nodeC 94 (leafC 94 (o_imul 95)) (leafC 95 (o_iadd 96))) (nodeC 96 (leafC 96 (o_cle 109 99)) (nodeC 99 (leafC 99 (o_al 0 100)) (leafC 100 (o_gR 12 32 103)))))) (nodeC 107 (nodeC 105 (nodeC 103 (leafC 103 (o_ic (7) 105)) (leafC 105 (o_iald 106))) (nodeC 106 (leafC 106 (o_il 1 107)) (leafC 107 (o_iadd 108)))) (nodeC 109 (nodeC 108 (leafC 108 (o_iret)) (leafC 109 (o_inc 1 (1) 112))) (nodeC 112 (leafC 112 (o_goto 16)) (nodeC 115 (leafC 115 (o_ic (-1) 116)) (leafC 116 (o_iret)))))))))
theorem sX12_moon : ∀ pc, SoundOp cX12_moon RX12 4 (some .int) false 3 67 pc (kX12_moon pc) := (so_node (so_node (so_node (so_node (so_node (so_node (so_leaf (so_aload_n dX12_moon_0 rfl)) (so_leaf (so_iconst dX12_moon_1 (by decide)))) (so_node (so_leaf (so_pI (by decide) (by decide) wC12 wf_RX12_105 (Or.inl rfl) rfl dX12_moon_2)) (so_leaf (so_aload_n dX12_moon_5 rfl)))) (so_node (so_node (so_leaf (so_gI (by decide) (by decide) wC12 wf_RX12_302 (fun _ _ _ => rfl) dX12_moon_6)) (so_leaf (so_zne dX12_moon_9 (by decide)))) (so_node (so_leaf (so_iconst dX12_moon_12 (by decide))) (so_node (so_leaf (so_iret dX12_moon_13 rfl)) (so_leaf (so_iconst dX12_moon_14 (by decide))))))) (so_node (so_node (so_node (so_leaf (so_istore_n dX12_moon_15 rfl (by decide))) (so_leaf (so_mask (so_iload_n dX12_moon_16 rfl)))) (so_node (so_leaf (so_bipush dX12_moon_17 (by decide))) (so_leaf (so_cgt dX12_moon_19 (by decide))))) (so_node (so_node (so_leaf (so_iconst dX12_moon_22 (by decide))) (so_leaf (so_istore_n dX12_moon_23 rfl (by decide)))) (so_node (so_leaf (so_iconst dX12_moon_24 (by decide))) (so_node (so_leaf (so_istore_n dX12_moon_25 rfl (by decide))) (so_leaf (so_iload_n dX12_moon_26 rfl))))))) (so_node (so_node (so_node (so_node (so_leaf (so_aload_n dX12_moon_27 rfl)) (so_leaf (so_gI (by decide) (by decide) wC12 wf_RX12_299 (fun _ _ _ => rfl) dX12_moon_28))) (so_node (so_leaf (so_cge dX12_moon_31 (by decide))) (so_leaf (so_aload_n dX12_moon_34 rfl)))) (so_node (so_node (so_leaf (so_iload_n dX12_moon_35 rfl)) (so_leaf (so_inv CX12_isOpen (by decide) rfl wm_RX12_450 win_X12_isOpen wse_X12_isOpen wn_12 wc_X12_isOpen (by decide +kernel) (by decide) (by decide) dX12_moon_36))) (so_node (so_leaf (so_zeq dX12_moon_39 (by decide))) (so_node (so_leaf (so_aload_n dX12_moon_42 rfl)) (so_leaf (so_gR (by decide) (by decide) wC12 wf_RX12_43 (fun _ _ _ => rfl) dX12_moon_43)))))) (so_node (so_node (so_node (so_leaf (so_iconst dX12_moon_46 (by decide))) (so_leaf (so_iload_n dX12_moon_47 rfl))) (so_node (so_leaf (so_imul dX12_moon_48)) (so_leaf (so_iald dX12_moon_49)))) (so_node (so_node (so_leaf (so_aload_n dX12_moon_50 rfl)) (so_leaf (so_gR (by decide) (by decide) wC12 wf_RX12_61 (fun _ _ _ => rfl) dX12_moon_51))) (so_node (so_leaf (so_bipush dX12_moon_54 (by decide))) (so_node (so_leaf (so_iald dX12_moon_56)) (so_leaf (so_iload_n dX12_moon_57 rfl)))))))) (so_node (so_node (so_node (so_node (so_node (so_leaf (so_iadd dX12_moon_58)) (so_leaf (so_cgt dX12_moon_59 (by decide)))) (so_node (so_leaf (so_iload_n dX12_moon_62 rfl)) (so_leaf (so_aload_n dX12_moon_63 rfl)))) (so_node (so_node (so_leaf (so_aload_n dX12_moon_64 rfl)) (so_leaf (so_gR (by decide) (by decide) wC12 wf_RX12_61 (fun _ _ _ => rfl) dX12_moon_65))) (so_node (so_leaf (so_iload_n dX12_moon_68 rfl)) (so_node (so_leaf (so_inv CX12_debtNow (by decide) rfl wm_RX12_346 win_X12_debtNow wse_X12_debtNow wn_12 wc_X12_debtNow (by decide +kernel) (by decide) (by decide) dX12_moon_69)) (so_leaf (so_iadd dX12_moon_72)))))) (so_node (so_node (so_node (so_leaf (so_istore_n dX12_moon_73 rfl (by decide))) (so_leaf (so_iinc dX12_moon_74 (by decide) (by decide)))) (so_node (so_leaf (so_goto dX12_moon_77 (by decide))) (so_leaf (so_iload_n dX12_moon_80 rfl)))) (so_node (so_node (so_leaf (so_aload_n dX12_moon_81 rfl)) (so_leaf (so_gR (by decide) (by decide) wC12 wf_RX12_61 (fun _ _ _ => rfl) dX12_moon_82))) (so_node (so_leaf (so_iconst dX12_moon_85 (by decide))) (so_node (so_leaf (so_iald dX12_moon_86)) (so_leaf (so_iload_n dX12_moon_87 rfl))))))) (so_node (so_node (so_node (so_node (so_leaf (so_aload_n dX12_moon_88 rfl)) (so_leaf (so_gR (by decide) (by decide) wC12 wf_RX12_37 (fun _ _ _ => rfl) dX12_moon_89))) (so_node (so_leaf (so_iconst dX12_moon_92 (by decide))) (so_leaf (so_iald dX12_moon_93)))) (so_node (so_node (so_leaf (so_imul dX12_moon_94)) (so_leaf (so_iadd dX12_moon_95))) (so_node (so_leaf (so_cle dX12_moon_96 (by decide))) (so_node (so_leaf (so_aload_n dX12_moon_99 rfl)) (so_leaf (so_gR (by decide) (by decide) wC12 wf_RX12_61 (fun _ _ _ => rfl) dX12_moon_100)))))) (so_node (so_node (so_node (so_leaf (so_bipush dX12_moon_103 (by decide))) (so_leaf (so_iald dX12_moon_105))) (so_node (so_leaf (so_iload_n dX12_moon_106 rfl)) (so_leaf (so_iadd dX12_moon_107)))) (so_node (so_node (so_leaf (so_iret dX12_moon_108 rfl)) (so_leaf (so_iinc dX12_moon_109 (by decide) (by decide)))) (so_node (so_leaf (so_goto dX12_moon_112 (by decide))) (so_node (so_leaf (so_iconst dX12_moon_115 (by decide))) (so_leaf (so_iret dX12_moon_116 rfl)))))))))
theorem pX12_moon : ∀ pc, Pr (kX12_moon pc) := (pr_node (pr_node (pr_node (pr_node (pr_node (pr_node (pr_leaf (pr_al _ _)) (pr_leaf (pr_ic _ _))) (pr_node (pr_leaf (pr_pI _ _ _)) (pr_leaf (pr_al _ _)))) (pr_node (pr_node (pr_leaf (pr_gI _ _ _)) (pr_leaf (pr_zne _ _))) (pr_node (pr_leaf (pr_ic _ _)) (pr_node (pr_leaf (pr_iret)) (pr_leaf (pr_ic _ _)))))) (pr_node (pr_node (pr_node (pr_leaf (pr_is _ _)) (pr_leaf (pr_mask (pr_il _ _)))) (pr_node (pr_leaf (pr_ic _ _)) (pr_leaf (pr_cgt _ _)))) (pr_node (pr_node (pr_leaf (pr_ic _ _)) (pr_leaf (pr_is _ _))) (pr_node (pr_leaf (pr_ic _ _)) (pr_node (pr_leaf (pr_is _ _)) (pr_leaf (pr_il _ _))))))) (pr_node (pr_node (pr_node (pr_node (pr_leaf (pr_al _ _)) (pr_leaf (pr_gI _ _ _))) (pr_node (pr_leaf (pr_cge _ _)) (pr_leaf (pr_al _ _)))) (pr_node (pr_node (pr_leaf (pr_il _ _)) (pr_leaf (pr_inv _ _ _ GX12_isOpen _))) (pr_node (pr_leaf (pr_zeq _ _)) (pr_node (pr_leaf (pr_al _ _)) (pr_leaf (pr_gR _ _ _)))))) (pr_node (pr_node (pr_node (pr_leaf (pr_ic _ _)) (pr_leaf (pr_il _ _))) (pr_node (pr_leaf (pr_imul _)) (pr_leaf (pr_iald _)))) (pr_node (pr_node (pr_leaf (pr_al _ _)) (pr_leaf (pr_gR _ _ _))) (pr_node (pr_leaf (pr_ic _ _)) (pr_node (pr_leaf (pr_iald _)) (pr_leaf (pr_il _ _)))))))) (pr_node (pr_node (pr_node (pr_node (pr_node (pr_leaf (pr_iadd _)) (pr_leaf (pr_cgt _ _))) (pr_node (pr_leaf (pr_il _ _)) (pr_leaf (pr_al _ _)))) (pr_node (pr_node (pr_leaf (pr_al _ _)) (pr_leaf (pr_gR _ _ _))) (pr_node (pr_leaf (pr_il _ _)) (pr_node (pr_leaf (pr_inv _ _ _ GX12_debtNow _)) (pr_leaf (pr_iadd _)))))) (pr_node (pr_node (pr_node (pr_leaf (pr_is _ _)) (pr_leaf (pr_inc _ _ _))) (pr_node (pr_leaf (pr_goto _)) (pr_leaf (pr_il _ _)))) (pr_node (pr_node (pr_leaf (pr_al _ _)) (pr_leaf (pr_gR _ _ _))) (pr_node (pr_leaf (pr_ic _ _)) (pr_node (pr_leaf (pr_iald _)) (pr_leaf (pr_il _ _))))))) (pr_node (pr_node (pr_node (pr_node (pr_leaf (pr_al _ _)) (pr_leaf (pr_gR _ _ _))) (pr_node (pr_leaf (pr_ic _ _)) (pr_leaf (pr_iald _)))) (pr_node (pr_node (pr_leaf (pr_imul _)) (pr_leaf (pr_iadd _))) (pr_node (pr_leaf (pr_cle _ _)) (pr_node (pr_leaf (pr_al _ _)) (pr_leaf (pr_gR _ _ _)))))) (pr_node (pr_node (pr_node (pr_leaf (pr_ic _ _)) (pr_leaf (pr_iald _))) (pr_node (pr_leaf (pr_il _ _)) (pr_leaf (pr_iadd _)))) (pr_node (pr_node (pr_leaf (pr_iret)) (pr_leaf (pr_inc _ _ _))) (pr_node (pr_leaf (pr_goto _)) (pr_node (pr_leaf (pr_ic _ _)) (pr_leaf (pr_iret)))))))))
noncomputable def FX12_moon : List EV → Hp → Option (RV × Hp) := Fm kX12_moon 4
theorem CX12_moon : Con yX12_moon cX12_moon 4 (some .int) 3 67 FX12_moon := con_of (own := RX12) rfl (by decide +kernel) sX12_moon pX12_moon (fun z => by cases z)
theorem GX12_moon : Gr FX12_moon := Gr_Fm pX12_moon 4
theorem dX12_betters_0 : decode cX12_betters 0 = .ok (.aload_n 0, 1) := by decide +kernel
theorem dX12_betters_1 : decode cX12_betters 1 = .ok (.getfield 84, 3) := by decide +kernel
theorem dX12_betters_4 : decode cX12_betters 4 = .ok (.bipush 46, 2) := by decide +kernel
theorem dX12_betters_6 : decode cX12_betters 6 = .ok (.iload_n 2, 1) := by decide +kernel
theorem dX12_betters_7 : decode cX12_betters 7 = .ok (.imul, 1) := by decide +kernel
theorem dX12_betters_8 : decode cX12_betters 8 = .ok (.iload_n 3, 1) := by decide +kernel
theorem dX12_betters_9 : decode cX12_betters 9 = .ok (.iadd, 1) := by decide +kernel
theorem dX12_betters_10 : decode cX12_betters 10 = .ok (.iaload, 1) := by decide +kernel
theorem dX12_betters_11 : decode cX12_betters 11 = .ok (.istore 4, 2) := by decide +kernel
theorem dX12_betters_13 : decode cX12_betters 13 = .ok (.aload_n 0, 1) := by decide +kernel
theorem dX12_betters_14 : decode cX12_betters 14 = .ok (.aload_n 0, 1) := by decide +kernel
theorem dX12_betters_15 : decode cX12_betters 15 = .ok (.getfield 61, 3) := by decide +kernel
theorem dX12_betters_18 : decode cX12_betters 18 = .ok (.iload_n 1, 1) := by decide +kernel
theorem dX12_betters_19 : decode cX12_betters 19 = .ok (.invokevirtual 355, 3) := by decide +kernel
theorem dX12_betters_22 : decode cX12_betters 22 = .ok (.istore 5, 2) := by decide +kernel
theorem dX12_betters_24 : decode cX12_betters 24 = .ok (.iconst 0, 1) := by decide +kernel
theorem dX12_betters_25 : decode cX12_betters 25 = .ok (.istore 6, 2) := by decide +kernel
theorem dX12_betters_27 : decode cX12_betters 27 = .ok (.iload 6, 2) := by decide +kernel
theorem dX12_betters_29 : decode cX12_betters 29 = .ok (.iload 5, 2) := by decide +kernel
theorem dX12_betters_31 : decode cX12_betters 31 = .ok (.if_icmp .gt 94, 3) := by decide +kernel
theorem dX12_betters_34 : decode cX12_betters 34 = .ok (.iload 6, 2) := by decide +kernel
theorem dX12_betters_36 : decode cX12_betters 36 = .ok (.iload_n 2, 1) := by decide +kernel
theorem dX12_betters_37 : decode cX12_betters 37 = .ok (.if_icmp .gt 88, 3) := by decide +kernel
theorem dX12_betters_40 : decode cX12_betters 40 = .ok (.iconst 0, 1) := by decide +kernel
theorem dX12_betters_41 : decode cX12_betters 41 = .ok (.istore 7, 2) := by decide +kernel
theorem dX12_betters_43 : decode cX12_betters 43 = .ok (.iload 6, 2) := by decide +kernel
theorem dX12_betters_45 : decode cX12_betters 45 = .ok (.iload 7, 2) := by decide +kernel
theorem dX12_betters_47 : decode cX12_betters 47 = .ok (.iadd, 1) := by decide +kernel
theorem dX12_betters_48 : decode cX12_betters 48 = .ok (.iload 5, 2) := by decide +kernel
theorem dX12_betters_50 : decode cX12_betters 50 = .ok (.if_icmp .gt 69, 3) := by decide +kernel
theorem dX12_betters_53 : decode cX12_betters 53 = .ok (.iload 7, 2) := by decide +kernel
theorem dX12_betters_55 : decode cX12_betters 55 = .ok (.iload_n 3, 1) := by decide +kernel
theorem dX12_betters_56 : decode cX12_betters 56 = .ok (.if_icmp .gt 63, 3) := by decide +kernel
theorem dX12_betters_59 : decode cX12_betters 59 = .ok (.aload_n 0, 1) := by decide +kernel
theorem dX12_betters_60 : decode cX12_betters 60 = .ok (.getfield 84, 3) := by decide +kernel
theorem dX12_betters_63 : decode cX12_betters 63 = .ok (.bipush 46, 2) := by decide +kernel
theorem dX12_betters_65 : decode cX12_betters 65 = .ok (.iload_n 2, 1) := by decide +kernel
theorem dX12_betters_66 : decode cX12_betters 66 = .ok (.iload 6, 2) := by decide +kernel
theorem dX12_betters_68 : decode cX12_betters 68 = .ok (.isub, 1) := by decide +kernel
theorem dX12_betters_69 : decode cX12_betters 69 = .ok (.imul, 1) := by decide +kernel
theorem dX12_betters_70 : decode cX12_betters 70 = .ok (.iload_n 3, 1) := by decide +kernel
theorem dX12_betters_71 : decode cX12_betters 71 = .ok (.iadd, 1) := by decide +kernel
theorem dX12_betters_72 : decode cX12_betters 72 = .ok (.iload 7, 2) := by decide +kernel
theorem dX12_betters_74 : decode cX12_betters 74 = .ok (.isub, 1) := by decide +kernel
theorem dX12_betters_75 : decode cX12_betters 75 = .ok (.iaload, 1) := by decide +kernel
theorem dX12_betters_76 : decode cX12_betters 76 = .ok (.iload 6, 2) := by decide +kernel
theorem dX12_betters_78 : decode cX12_betters 78 = .ok (.aload_n 0, 1) := by decide +kernel
theorem dX12_betters_79 : decode cX12_betters 79 = .ok (.getfield 49, 3) := by decide +kernel
theorem dX12_betters_82 : decode cX12_betters 82 = .ok (.iconst 3, 1) := by decide +kernel
theorem dX12_betters_83 : decode cX12_betters 83 = .ok (.iload_n 1, 1) := by decide +kernel
theorem dX12_betters_84 : decode cX12_betters 84 = .ok (.imul, 1) := by decide +kernel
theorem dX12_betters_85 : decode cX12_betters 85 = .ok (.iaload, 1) := by decide +kernel
theorem dX12_betters_86 : decode cX12_betters 86 = .ok (.imul, 1) := by decide +kernel
theorem dX12_betters_87 : decode cX12_betters 87 = .ok (.iadd, 1) := by decide +kernel
theorem dX12_betters_88 : decode cX12_betters 88 = .ok (.iload 7, 2) := by decide +kernel
theorem dX12_betters_90 : decode cX12_betters 90 = .ok (.aload_n 0, 1) := by decide +kernel
theorem dX12_betters_91 : decode cX12_betters 91 = .ok (.getfield 49, 3) := by decide +kernel
theorem dX12_betters_94 : decode cX12_betters 94 = .ok (.iconst 3, 1) := by decide +kernel
theorem dX12_betters_95 : decode cX12_betters 95 = .ok (.iload_n 1, 1) := by decide +kernel
theorem dX12_betters_96 : decode cX12_betters 96 = .ok (.imul, 1) := by decide +kernel
theorem dX12_betters_97 : decode cX12_betters 97 = .ok (.iconst 1, 1) := by decide +kernel
theorem dX12_betters_98 : decode cX12_betters 98 = .ok (.iadd, 1) := by decide +kernel
theorem dX12_betters_99 : decode cX12_betters 99 = .ok (.iaload, 1) := by decide +kernel
theorem dX12_betters_100 : decode cX12_betters 100 = .ok (.imul, 1) := by decide +kernel
theorem dX12_betters_101 : decode cX12_betters 101 = .ok (.iadd, 1) := by decide +kernel
theorem dX12_betters_102 : decode cX12_betters 102 = .ok (.istore 8, 2) := by decide +kernel
theorem dX12_betters_104 : decode cX12_betters 104 = .ok (.iload 4, 2) := by decide +kernel
theorem dX12_betters_106 : decode cX12_betters 106 = .ok (.iload 8, 2) := by decide +kernel
theorem dX12_betters_108 : decode cX12_betters 108 = .ok (.invokestatic 319, 3) := by decide +kernel
theorem dX12_betters_111 : decode cX12_betters 111 = .ok (.istore 4, 2) := by decide +kernel
theorem dX12_betters_113 : decode cX12_betters 113 = .ok (.iinc 7 1, 3) := by decide +kernel
theorem dX12_betters_116 : decode cX12_betters 116 = .ok (.goto (-73), 3) := by decide +kernel
theorem dX12_betters_119 : decode cX12_betters 119 = .ok (.iinc 6 1, 3) := by decide +kernel
theorem dX12_betters_122 : decode cX12_betters 122 = .ok (.goto (-95), 3) := by decide +kernel
theorem dX12_betters_125 : decode cX12_betters 125 = .ok (.aload_n 0, 1) := by decide +kernel
theorem dX12_betters_126 : decode cX12_betters 126 = .ok (.getfield 84, 3) := by decide +kernel
theorem dX12_betters_129 : decode cX12_betters 129 = .ok (.bipush 46, 2) := by decide +kernel
theorem dX12_betters_131 : decode cX12_betters 131 = .ok (.iload_n 2, 1) := by decide +kernel
theorem dX12_betters_132 : decode cX12_betters 132 = .ok (.imul, 1) := by decide +kernel
theorem dX12_betters_133 : decode cX12_betters 133 = .ok (.iload_n 3, 1) := by decide +kernel
theorem dX12_betters_134 : decode cX12_betters 134 = .ok (.iadd, 1) := by decide +kernel
theorem dX12_betters_135 : decode cX12_betters 135 = .ok (.iload 4, 2) := by decide +kernel
theorem dX12_betters_137 : decode cX12_betters 137 = .ok (.iastore, 1) := by decide +kernel
theorem dX12_betters_138 : decode cX12_betters 138 = .ok (.return_, 1) := by decide +kernel
noncomputable def kX12_betters : Nat → Op := (nodeC 71 (nodeC 34 (nodeC 13 (nodeC 7 (nodeC 1 (nodeC 0 (leafC 0 (o_al 0 1)) (leafC 1 (o_gR 12 43 4))) (nodeC 4 (leafC 4 (o_ic (46) 6)) (nodeC 6 (leafC 6 (o_il 2 7)) (leafC 7 (o_imul 8))))) (nodeC 9 (nodeC 8 (leafC 8 (o_il 3 9)) (leafC 9 (o_iadd 10))) (nodeC 10 (leafC 10 (o_iald 11)) (nodeC 11 (leafC 11 (o_is 4 13)) (leafC 13 (o_al 0 14)))))) (nodeC 22 (nodeC 15 (nodeC 14 (leafC 14 (o_al 0 15)) (leafC 15 (o_gR 12 32 18))) (nodeC 18 (leafC 18 (o_il 1 19)) (nodeC 19 (leafC 19 (o_inv 2 12 1 FX12_wants 22)) (leafC 22 (o_is 5 24))))) (nodeC 27 (nodeC 24 (leafC 24 (o_ic (0) 25)) (nodeC 25 (leafC 25 (o_is 6 27)) (leafC 27 (o_mask [7, 8] (o_il 6 29))))) (nodeC 29 (leafC 29 (o_il 5 31)) (nodeC 31 (leafC 31 (o_cgt 125 34)) (leafC 34 (o_il 6 36))))))) (nodeC 53 (nodeC 43 (nodeC 37 (nodeC 36 (leafC 36 (o_il 2 37)) (leafC 37 (o_cgt 125 40))) (nodeC 40 (leafC 40 (o_ic (0) 41)) (nodeC 41 (leafC 41 (o_is 7 43)) (leafC 43 (o_mask [8] (o_il 6 45)))))) (nodeC 47 (nodeC 45 (leafC 45 (o_il 7 47)) (leafC 47 (o_iadd 48))) (nodeC 48 (leafC 48 (o_il 5 50)) (nodeC 50 (leafC 50 (o_cgt 119 53)) (leafC 53 (o_il 7 55)))))) (nodeC 63 (nodeC 56 (nodeC 55 (leafC 55 (o_il 3 56)) (leafC 56 (o_cgt 119 59))) (nodeC 59 (leafC 59 (o_al 0 60)) (nodeC 60 (leafC 60 (o_gR 12 43 63)) (leafC 63 (o_ic (46) 65))))) (nodeC 68 (nodeC 65 (leafC 65 (o_il 2 66)) (nodeC 66 (leafC 66 (o_il 6 68)) (leafC 68 (o_isub 69)))) (nodeC 69 (leafC 69 (o_imul 70)) (nodeC 70 (leafC 70 (o_il 3 71)) (leafC 71 (o_iadd 72)))))))) (nodeC 99 (nodeC 85 (nodeC 78 (nodeC 74 (nodeC 72 (leafC 72 (o_il 7 74)) (leafC 74 (o_isub 75))) (nodeC 75 (leafC 75 (o_iald 76)) (nodeC 76 (leafC 76 (o_il 6 78)) (leafC 78 (o_al 0 79))))) (nodeC 82 (nodeC 79 (leafC 79 (o_gR 12 22 82)) (leafC 82 (o_ic (3) 83))) (nodeC 83 (leafC 83 (o_il 1 84)) (nodeC 84 (leafC 84 (o_imul 85)) (leafC 85 (o_iald 86)))))) (nodeC 91 (nodeC 87 (nodeC 86 (leafC 86 (o_imul 87)) (leafC 87 (o_iadd 88))) (nodeC 88 (leafC 88 (o_il 7 90)) (nodeC 90 (leafC 90 (o_al 0 91)) (leafC 91 (o_gR 12 22 94))))) (nodeC 96 (nodeC 94 (leafC 94 (o_ic (3) 95)) (nodeC 95 (leafC 95 (o_il 1 96)) (leafC 96 (o_imul 97)))) (nodeC 97 (leafC 97 (o_ic (1) 98)) (nodeC 98 (leafC 98 (o_iadd 99)) (leafC 99 (o_iald 100))))))) (nodeC 119 (nodeC 106 (nodeC 101 (nodeC 100 (leafC 100 (o_imul 101)) (leafC 101 (o_iadd 102))) (nodeC 102 (leafC 102 (o_is 8 104)) (nodeC 104 (leafC 104 (o_il 4 106)) (leafC 106 (o_il 8 108))))) (nodeC 111 (nodeC 108 (leafC 108 (o_max 111)) (leafC 111 (o_is 4 113))) (nodeC 113 (leafC 113 (o_inc 7 (1) 116)) (nodeC 116 (leafC 116 (o_goto 43)) (leafC 119 (o_inc 6 (1) 122)))))) (nodeC 131 (nodeC 125 (nodeC 122 (leafC 122 (o_goto 27)) (leafC 125 (o_al 0 126))) (nodeC 126 (leafC 126 (o_gR 12 43 129)) (nodeC 129 (leafC 129 (o_ic (46) 131)) (leafC 131 (o_il 2 132))))) (nodeC 134 (nodeC 132 (leafC 132 (o_imul 133)) (nodeC 133 (leafC 133 (o_il 3 134)) (leafC 134 (o_iadd 135)))) (nodeC 135 (leafC 135 (o_il 4 137)) (nodeC 137 (leafC 137 (o_iast 138)) (leafC 138 (o_vret)))))))))
theorem sX12_betters : ∀ pc, SoundOp cX12_betters RX12 9 none false 1 23 pc (kX12_betters pc) := (so_node (so_node (so_node (so_node (so_node (so_node (so_leaf (so_aload_n dX12_betters_0 rfl)) (so_leaf (so_gR (by decide) (by decide) wC12 wf_RX12_84 (fun _ _ _ => rfl) dX12_betters_1))) (so_node (so_leaf (so_bipush dX12_betters_4 (by decide))) (so_node (so_leaf (so_iload_n dX12_betters_6 rfl)) (so_leaf (so_imul dX12_betters_7))))) (so_node (so_node (so_leaf (so_iload_n dX12_betters_8 rfl)) (so_leaf (so_iadd dX12_betters_9))) (so_node (so_leaf (so_iald dX12_betters_10)) (so_node (so_leaf (so_istore dX12_betters_11 (by decide))) (so_leaf (so_aload_n dX12_betters_13 rfl)))))) (so_node (so_node (so_node (so_leaf (so_aload_n dX12_betters_14 rfl)) (so_leaf (so_gR (by decide) (by decide) wC12 wf_RX12_61 (fun _ _ _ => rfl) dX12_betters_15))) (so_node (so_leaf (so_iload_n dX12_betters_18 rfl)) (so_node (so_leaf (so_inv CX12_wants (by decide) rfl wm_RX12_355 win_X12_wants wse_X12_wants wn_12 wc_X12_wants (by decide +kernel) (by decide) (by decide) dX12_betters_19)) (so_leaf (so_istore dX12_betters_22 (by decide)))))) (so_node (so_node (so_leaf (so_iconst dX12_betters_24 (by decide))) (so_node (so_leaf (so_istore dX12_betters_25 (by decide))) (so_leaf (so_mask (so_iload dX12_betters_27))))) (so_node (so_leaf (so_iload dX12_betters_29)) (so_node (so_leaf (so_cgt dX12_betters_31 (by decide))) (so_leaf (so_iload dX12_betters_34))))))) (so_node (so_node (so_node (so_node (so_leaf (so_iload_n dX12_betters_36 rfl)) (so_leaf (so_cgt dX12_betters_37 (by decide)))) (so_node (so_leaf (so_iconst dX12_betters_40 (by decide))) (so_node (so_leaf (so_istore dX12_betters_41 (by decide))) (so_leaf (so_mask (so_iload dX12_betters_43)))))) (so_node (so_node (so_leaf (so_iload dX12_betters_45)) (so_leaf (so_iadd dX12_betters_47))) (so_node (so_leaf (so_iload dX12_betters_48)) (so_node (so_leaf (so_cgt dX12_betters_50 (by decide))) (so_leaf (so_iload dX12_betters_53)))))) (so_node (so_node (so_node (so_leaf (so_iload_n dX12_betters_55 rfl)) (so_leaf (so_cgt dX12_betters_56 (by decide)))) (so_node (so_leaf (so_aload_n dX12_betters_59 rfl)) (so_node (so_leaf (so_gR (by decide) (by decide) wC12 wf_RX12_84 (fun _ _ _ => rfl) dX12_betters_60)) (so_leaf (so_bipush dX12_betters_63 (by decide)))))) (so_node (so_node (so_leaf (so_iload_n dX12_betters_65 rfl)) (so_node (so_leaf (so_iload dX12_betters_66)) (so_leaf (so_isub dX12_betters_68)))) (so_node (so_leaf (so_imul dX12_betters_69)) (so_node (so_leaf (so_iload_n dX12_betters_70 rfl)) (so_leaf (so_iadd dX12_betters_71)))))))) (so_node (so_node (so_node (so_node (so_node (so_leaf (so_iload dX12_betters_72)) (so_leaf (so_isub dX12_betters_74))) (so_node (so_leaf (so_iald dX12_betters_75)) (so_node (so_leaf (so_iload dX12_betters_76)) (so_leaf (so_aload_n dX12_betters_78 rfl))))) (so_node (so_node (so_leaf (so_gR (by decide) (by decide) wC12 wf_RX12_49 (fun _ _ _ => rfl) dX12_betters_79)) (so_leaf (so_iconst dX12_betters_82 (by decide)))) (so_node (so_leaf (so_iload_n dX12_betters_83 rfl)) (so_node (so_leaf (so_imul dX12_betters_84)) (so_leaf (so_iald dX12_betters_85)))))) (so_node (so_node (so_node (so_leaf (so_imul dX12_betters_86)) (so_leaf (so_iadd dX12_betters_87))) (so_node (so_leaf (so_iload dX12_betters_88)) (so_node (so_leaf (so_aload_n dX12_betters_90 rfl)) (so_leaf (so_gR (by decide) (by decide) wC12 wf_RX12_49 (fun _ _ _ => rfl) dX12_betters_91))))) (so_node (so_node (so_leaf (so_iconst dX12_betters_94 (by decide))) (so_node (so_leaf (so_iload_n dX12_betters_95 rfl)) (so_leaf (so_imul dX12_betters_96)))) (so_node (so_leaf (so_iconst dX12_betters_97 (by decide))) (so_node (so_leaf (so_iadd dX12_betters_98)) (so_leaf (so_iald dX12_betters_99))))))) (so_node (so_node (so_node (so_node (so_leaf (so_imul dX12_betters_100)) (so_leaf (so_iadd dX12_betters_101))) (so_node (so_leaf (so_istore dX12_betters_102 (by decide))) (so_node (so_leaf (so_iload dX12_betters_104)) (so_leaf (so_iload dX12_betters_106))))) (so_node (so_node (so_leaf (so_max wm_RX12_319 wms_max wmi wmc_max (by decide) (by decide) dX12_betters_108)) (so_leaf (so_istore dX12_betters_111 (by decide)))) (so_node (so_leaf (so_iinc dX12_betters_113 (by decide) (by decide))) (so_node (so_leaf (so_goto dX12_betters_116 (by decide))) (so_leaf (so_iinc dX12_betters_119 (by decide) (by decide))))))) (so_node (so_node (so_node (so_leaf (so_goto dX12_betters_122 (by decide))) (so_leaf (so_aload_n dX12_betters_125 rfl))) (so_node (so_leaf (so_gR (by decide) (by decide) wC12 wf_RX12_84 (fun _ _ _ => rfl) dX12_betters_126)) (so_node (so_leaf (so_bipush dX12_betters_129 (by decide))) (so_leaf (so_iload_n dX12_betters_131 rfl))))) (so_node (so_node (so_leaf (so_imul dX12_betters_132)) (so_node (so_leaf (so_iload_n dX12_betters_133 rfl)) (so_leaf (so_iadd dX12_betters_134)))) (so_node (so_leaf (so_iload dX12_betters_135)) (so_node (so_leaf (so_iast dX12_betters_137)) (so_leaf (so_vret dX12_betters_138 rfl)))))))))
theorem pX12_betters : ∀ pc, Pr (kX12_betters pc) := (pr_node (pr_node (pr_node (pr_node (pr_node (pr_node (pr_leaf (pr_al _ _)) (pr_leaf (pr_gR _ _ _))) (pr_node (pr_leaf (pr_ic _ _)) (pr_node (pr_leaf (pr_il _ _)) (pr_leaf (pr_imul _))))) (pr_node (pr_node (pr_leaf (pr_il _ _)) (pr_leaf (pr_iadd _))) (pr_node (pr_leaf (pr_iald _)) (pr_node (pr_leaf (pr_is _ _)) (pr_leaf (pr_al _ _)))))) (pr_node (pr_node (pr_node (pr_leaf (pr_al _ _)) (pr_leaf (pr_gR _ _ _))) (pr_node (pr_leaf (pr_il _ _)) (pr_node (pr_leaf (pr_inv _ _ _ GX12_wants _)) (pr_leaf (pr_is _ _))))) (pr_node (pr_node (pr_leaf (pr_ic _ _)) (pr_node (pr_leaf (pr_is _ _)) (pr_leaf (pr_mask (pr_il _ _))))) (pr_node (pr_leaf (pr_il _ _)) (pr_node (pr_leaf (pr_cgt _ _)) (pr_leaf (pr_il _ _))))))) (pr_node (pr_node (pr_node (pr_node (pr_leaf (pr_il _ _)) (pr_leaf (pr_cgt _ _))) (pr_node (pr_leaf (pr_ic _ _)) (pr_node (pr_leaf (pr_is _ _)) (pr_leaf (pr_mask (pr_il _ _)))))) (pr_node (pr_node (pr_leaf (pr_il _ _)) (pr_leaf (pr_iadd _))) (pr_node (pr_leaf (pr_il _ _)) (pr_node (pr_leaf (pr_cgt _ _)) (pr_leaf (pr_il _ _)))))) (pr_node (pr_node (pr_node (pr_leaf (pr_il _ _)) (pr_leaf (pr_cgt _ _))) (pr_node (pr_leaf (pr_al _ _)) (pr_node (pr_leaf (pr_gR _ _ _)) (pr_leaf (pr_ic _ _))))) (pr_node (pr_node (pr_leaf (pr_il _ _)) (pr_node (pr_leaf (pr_il _ _)) (pr_leaf (pr_isub _)))) (pr_node (pr_leaf (pr_imul _)) (pr_node (pr_leaf (pr_il _ _)) (pr_leaf (pr_iadd _)))))))) (pr_node (pr_node (pr_node (pr_node (pr_node (pr_leaf (pr_il _ _)) (pr_leaf (pr_isub _))) (pr_node (pr_leaf (pr_iald _)) (pr_node (pr_leaf (pr_il _ _)) (pr_leaf (pr_al _ _))))) (pr_node (pr_node (pr_leaf (pr_gR _ _ _)) (pr_leaf (pr_ic _ _))) (pr_node (pr_leaf (pr_il _ _)) (pr_node (pr_leaf (pr_imul _)) (pr_leaf (pr_iald _)))))) (pr_node (pr_node (pr_node (pr_leaf (pr_imul _)) (pr_leaf (pr_iadd _))) (pr_node (pr_leaf (pr_il _ _)) (pr_node (pr_leaf (pr_al _ _)) (pr_leaf (pr_gR _ _ _))))) (pr_node (pr_node (pr_leaf (pr_ic _ _)) (pr_node (pr_leaf (pr_il _ _)) (pr_leaf (pr_imul _)))) (pr_node (pr_leaf (pr_ic _ _)) (pr_node (pr_leaf (pr_iadd _)) (pr_leaf (pr_iald _))))))) (pr_node (pr_node (pr_node (pr_node (pr_leaf (pr_imul _)) (pr_leaf (pr_iadd _))) (pr_node (pr_leaf (pr_is _ _)) (pr_node (pr_leaf (pr_il _ _)) (pr_leaf (pr_il _ _))))) (pr_node (pr_node (pr_leaf (pr_max _)) (pr_leaf (pr_is _ _))) (pr_node (pr_leaf (pr_inc _ _ _)) (pr_node (pr_leaf (pr_goto _)) (pr_leaf (pr_inc _ _ _)))))) (pr_node (pr_node (pr_node (pr_leaf (pr_goto _)) (pr_leaf (pr_al _ _))) (pr_node (pr_leaf (pr_gR _ _ _)) (pr_node (pr_leaf (pr_ic _ _)) (pr_leaf (pr_il _ _))))) (pr_node (pr_node (pr_leaf (pr_imul _)) (pr_node (pr_leaf (pr_il _ _)) (pr_leaf (pr_iadd _)))) (pr_node (pr_leaf (pr_il _ _)) (pr_node (pr_leaf (pr_iast _)) (pr_leaf (pr_vret)))))))))
noncomputable def FX12_betters : List EV → Hp → Option (RV × Hp) := Fm kX12_betters 9
theorem CX12_betters : Con yX12_betters cX12_betters 9 none 1 23 FX12_betters := con_of (own := RX12) rfl (by decide +kernel) sX12_betters pX12_betters (fun z => by cases z)
theorem GX12_betters : Gr FX12_betters := Gr_Fm pX12_betters 9
theorem dX12_layMarket_0 : decode cX12_layMarket 0 = .ok (.iconst 0, 1) := by decide +kernel
theorem dX12_layMarket_1 : decode cX12_layMarket 1 = .ok (.istore_n 2, 1) := by decide +kernel
theorem dX12_layMarket_2 : decode cX12_layMarket 2 = .ok (.iload_n 2, 1) := by decide +kernel
theorem dX12_layMarket_3 : decode cX12_layMarket 3 = .ok (.sipush 2116, 3) := by decide +kernel
theorem dX12_layMarket_6 : decode cX12_layMarket 6 = .ok (.if_icmp .ge 16, 3) := by decide +kernel
theorem dX12_layMarket_9 : decode cX12_layMarket 9 = .ok (.aload_n 0, 1) := by decide +kernel
theorem dX12_layMarket_10 : decode cX12_layMarket 10 = .ok (.getfield 84, 3) := by decide +kernel
theorem dX12_layMarket_13 : decode cX12_layMarket 13 = .ok (.iload_n 2, 1) := by decide +kernel
theorem dX12_layMarket_14 : decode cX12_layMarket 14 = .ok (.iconst 0, 1) := by decide +kernel
theorem dX12_layMarket_15 : decode cX12_layMarket 15 = .ok (.iastore, 1) := by decide +kernel
theorem dX12_layMarket_16 : decode cX12_layMarket 16 = .ok (.iinc 2 1, 3) := by decide +kernel
theorem dX12_layMarket_19 : decode cX12_layMarket 19 = .ok (.goto (-17), 3) := by decide +kernel
theorem dX12_layMarket_22 : decode cX12_layMarket 22 = .ok (.iconst 0, 1) := by decide +kernel
theorem dX12_layMarket_23 : decode cX12_layMarket 23 = .ok (.istore_n 2, 1) := by decide +kernel
theorem dX12_layMarket_24 : decode cX12_layMarket 24 = .ok (.iload_n 2, 1) := by decide +kernel
theorem dX12_layMarket_25 : decode cX12_layMarket 25 = .ok (.aload_n 0, 1) := by decide +kernel
theorem dX12_layMarket_26 : decode cX12_layMarket 26 = .ok (.getfield 302, 3) := by decide +kernel
theorem dX12_layMarket_29 : decode cX12_layMarket 29 = .ok (.if_icmp .ge 56, 3) := by decide +kernel
theorem dX12_layMarket_32 : decode cX12_layMarket 32 = .ok (.iload_n 1, 1) := by decide +kernel
theorem dX12_layMarket_33 : decode cX12_layMarket 33 = .ok (.iload_n 2, 1) := by decide +kernel
theorem dX12_layMarket_34 : decode cX12_layMarket 34 = .ok (.invokestatic 237, 3) := by decide +kernel
theorem dX12_layMarket_37 : decode cX12_layMarket 37 = .ok (.ifCond .eq 6, 3) := by decide +kernel
theorem dX12_layMarket_40 : decode cX12_layMarket 40 = .ok (.goto 39, 3) := by decide +kernel
theorem dX12_layMarket_43 : decode cX12_layMarket 43 = .ok (.bipush 45, 2) := by decide +kernel
theorem dX12_layMarket_45 : decode cX12_layMarket 45 = .ok (.istore_n 3, 1) := by decide +kernel
theorem dX12_layMarket_46 : decode cX12_layMarket 46 = .ok (.iload_n 3, 1) := by decide +kernel
theorem dX12_layMarket_47 : decode cX12_layMarket 47 = .ok (.ifCond .lt 32, 3) := by decide +kernel
theorem dX12_layMarket_50 : decode cX12_layMarket 50 = .ok (.bipush 45, 2) := by decide +kernel
theorem dX12_layMarket_52 : decode cX12_layMarket 52 = .ok (.istore 4, 2) := by decide +kernel
theorem dX12_layMarket_54 : decode cX12_layMarket 54 = .ok (.iload 4, 2) := by decide +kernel
theorem dX12_layMarket_56 : decode cX12_layMarket 56 = .ok (.ifCond .lt 17, 3) := by decide +kernel
theorem dX12_layMarket_59 : decode cX12_layMarket 59 = .ok (.aload_n 0, 1) := by decide +kernel
theorem dX12_layMarket_60 : decode cX12_layMarket 60 = .ok (.iload_n 2, 1) := by decide +kernel
theorem dX12_layMarket_61 : decode cX12_layMarket 61 = .ok (.iload_n 3, 1) := by decide +kernel
theorem dX12_layMarket_62 : decode cX12_layMarket 62 = .ok (.iload 4, 2) := by decide +kernel
theorem dX12_layMarket_64 : decode cX12_layMarket 64 = .ok (.invokevirtual 453, 3) := by decide +kernel
theorem dX12_layMarket_67 : decode cX12_layMarket 67 = .ok (.iinc 4 (-1), 3) := by decide +kernel
theorem dX12_layMarket_70 : decode cX12_layMarket 70 = .ok (.goto (-16), 3) := by decide +kernel
theorem dX12_layMarket_73 : decode cX12_layMarket 73 = .ok (.iinc 3 (-1), 3) := by decide +kernel
theorem dX12_layMarket_76 : decode cX12_layMarket 76 = .ok (.goto (-30), 3) := by decide +kernel
theorem dX12_layMarket_79 : decode cX12_layMarket 79 = .ok (.iinc 2 1, 3) := by decide +kernel
theorem dX12_layMarket_82 : decode cX12_layMarket 82 = .ok (.goto (-58), 3) := by decide +kernel
theorem dX12_layMarket_85 : decode cX12_layMarket 85 = .ok (.return_, 1) := by decide +kernel
noncomputable def kX12_layMarket : Nat → Op := (nodeC 34 (nodeC 15 (nodeC 6 (nodeC 1 (nodeC 0 (leafC 0 (o_ic (0) 1)) (leafC 1 (o_is 2 2))) (nodeC 2 (leafC 2 (o_mask [3, 4] (o_il 2 3))) (nodeC 3 (leafC 3 (o_ic (2116) 6)) (leafC 6 (o_cge 22 9))))) (nodeC 10 (nodeC 9 (leafC 9 (o_al 0 10)) (leafC 10 (o_gR 12 43 13))) (nodeC 13 (leafC 13 (o_il 2 14)) (nodeC 14 (leafC 14 (o_ic (0) 15)) (leafC 15 (o_iast 16)))))) (nodeC 24 (nodeC 19 (nodeC 16 (leafC 16 (o_inc 2 (1) 19)) (leafC 19 (o_goto 2))) (nodeC 22 (leafC 22 (o_ic (0) 23)) (nodeC 23 (leafC 23 (o_is 2 24)) (leafC 24 (o_mask [3, 4] (o_il 2 25)))))) (nodeC 29 (nodeC 25 (leafC 25 (o_al 0 26)) (nodeC 26 (leafC 26 (o_gI 12 27 29)) (leafC 29 (o_cge 85 32)))) (nodeC 32 (leafC 32 (o_il 1 33)) (nodeC 33 (leafC 33 (o_il 2 34)) (leafC 34 (o_ist 2 1 FX12_has 37))))))) (nodeC 59 (nodeC 46 (nodeC 40 (nodeC 37 (leafC 37 (o_zeq 43 40)) (leafC 40 (o_goto 79))) (nodeC 43 (leafC 43 (o_ic (45) 45)) (nodeC 45 (leafC 45 (o_is 3 46)) (leafC 46 (o_mask [4] (o_il 3 47)))))) (nodeC 52 (nodeC 47 (leafC 47 (o_zlt 79 50)) (nodeC 50 (leafC 50 (o_ic (45) 52)) (leafC 52 (o_is 4 54)))) (nodeC 54 (leafC 54 (o_il 4 56)) (nodeC 56 (leafC 56 (o_zlt 73 59)) (leafC 59 (o_al 0 60)))))) (nodeC 67 (nodeC 61 (nodeC 60 (leafC 60 (o_il 2 61)) (leafC 61 (o_il 3 62))) (nodeC 62 (leafC 62 (o_il 4 64)) (nodeC 64 (leafC 64 (o_inv 3 12 0 FX12_betters 67)) (leafC 67 (o_inc 4 (-1) 70))))) (nodeC 76 (nodeC 70 (leafC 70 (o_goto 54)) (nodeC 73 (leafC 73 (o_inc 3 (-1) 76)) (leafC 76 (o_goto 46)))) (nodeC 79 (leafC 79 (o_inc 2 (1) 82)) (nodeC 82 (leafC 82 (o_goto 24)) (leafC 85 (o_vret))))))))
theorem sX12_layMarket : ∀ pc, SoundOp cX12_layMarket RX12 5 none false 2 51 pc (kX12_layMarket pc) := (so_node (so_node (so_node (so_node (so_node (so_leaf (so_iconst dX12_layMarket_0 (by decide))) (so_leaf (so_istore_n dX12_layMarket_1 rfl (by decide)))) (so_node (so_leaf (so_mask (so_iload_n dX12_layMarket_2 rfl))) (so_node (so_leaf (so_sipush dX12_layMarket_3 (by decide))) (so_leaf (so_cge dX12_layMarket_6 (by decide)))))) (so_node (so_node (so_leaf (so_aload_n dX12_layMarket_9 rfl)) (so_leaf (so_gR (by decide) (by decide) wC12 wf_RX12_84 (fun _ _ _ => rfl) dX12_layMarket_10))) (so_node (so_leaf (so_iload_n dX12_layMarket_13 rfl)) (so_node (so_leaf (so_iconst dX12_layMarket_14 (by decide))) (so_leaf (so_iast dX12_layMarket_15)))))) (so_node (so_node (so_node (so_leaf (so_iinc dX12_layMarket_16 (by decide) (by decide))) (so_leaf (so_goto dX12_layMarket_19 (by decide)))) (so_node (so_leaf (so_iconst dX12_layMarket_22 (by decide))) (so_node (so_leaf (so_istore_n dX12_layMarket_23 rfl (by decide))) (so_leaf (so_mask (so_iload_n dX12_layMarket_24 rfl)))))) (so_node (so_node (so_leaf (so_aload_n dX12_layMarket_25 rfl)) (so_node (so_leaf (so_gI (by decide) (by decide) wC12 wf_RX12_302 (fun _ _ _ => rfl) dX12_layMarket_26)) (so_leaf (so_cge dX12_layMarket_29 (by decide))))) (so_node (so_leaf (so_iload_n dX12_layMarket_32 rfl)) (so_node (so_leaf (so_iload_n dX12_layMarket_33 rfl)) (so_leaf (so_ist CX12_has rfl wm_RX12_237 wst_X12_has wny_X12_has wc_X12_has (by decide +kernel) (by decide) (by decide) dX12_layMarket_34))))))) (so_node (so_node (so_node (so_node (so_leaf (so_zeq dX12_layMarket_37 (by decide))) (so_leaf (so_goto dX12_layMarket_40 (by decide)))) (so_node (so_leaf (so_bipush dX12_layMarket_43 (by decide))) (so_node (so_leaf (so_istore_n dX12_layMarket_45 rfl (by decide))) (so_leaf (so_mask (so_iload_n dX12_layMarket_46 rfl)))))) (so_node (so_node (so_leaf (so_zlt dX12_layMarket_47 (by decide))) (so_node (so_leaf (so_bipush dX12_layMarket_50 (by decide))) (so_leaf (so_istore dX12_layMarket_52 (by decide))))) (so_node (so_leaf (so_iload dX12_layMarket_54)) (so_node (so_leaf (so_zlt dX12_layMarket_56 (by decide))) (so_leaf (so_aload_n dX12_layMarket_59 rfl)))))) (so_node (so_node (so_node (so_leaf (so_iload_n dX12_layMarket_60 rfl)) (so_leaf (so_iload_n dX12_layMarket_61 rfl))) (so_node (so_leaf (so_iload dX12_layMarket_62)) (so_node (so_leaf (so_inv CX12_betters (by decide) rfl wm_RX12_453 win_X12_betters wse_X12_betters wn_12 wc_X12_betters (by decide +kernel) (by decide) (by decide) dX12_layMarket_64)) (so_leaf (so_iinc dX12_layMarket_67 (by decide) (by decide)))))) (so_node (so_node (so_leaf (so_goto dX12_layMarket_70 (by decide))) (so_node (so_leaf (so_iinc dX12_layMarket_73 (by decide) (by decide))) (so_leaf (so_goto dX12_layMarket_76 (by decide))))) (so_node (so_leaf (so_iinc dX12_layMarket_79 (by decide) (by decide))) (so_node (so_leaf (so_goto dX12_layMarket_82 (by decide))) (so_leaf (so_vret dX12_layMarket_85 rfl))))))))
theorem pX12_layMarket : ∀ pc, Pr (kX12_layMarket pc) := (pr_node (pr_node (pr_node (pr_node (pr_node (pr_leaf (pr_ic _ _)) (pr_leaf (pr_is _ _))) (pr_node (pr_leaf (pr_mask (pr_il _ _))) (pr_node (pr_leaf (pr_ic _ _)) (pr_leaf (pr_cge _ _))))) (pr_node (pr_node (pr_leaf (pr_al _ _)) (pr_leaf (pr_gR _ _ _))) (pr_node (pr_leaf (pr_il _ _)) (pr_node (pr_leaf (pr_ic _ _)) (pr_leaf (pr_iast _)))))) (pr_node (pr_node (pr_node (pr_leaf (pr_inc _ _ _)) (pr_leaf (pr_goto _))) (pr_node (pr_leaf (pr_ic _ _)) (pr_node (pr_leaf (pr_is _ _)) (pr_leaf (pr_mask (pr_il _ _)))))) (pr_node (pr_node (pr_leaf (pr_al _ _)) (pr_node (pr_leaf (pr_gI _ _ _)) (pr_leaf (pr_cge _ _)))) (pr_node (pr_leaf (pr_il _ _)) (pr_node (pr_leaf (pr_il _ _)) (pr_leaf (pr_ist _ _ GX12_has _))))))) (pr_node (pr_node (pr_node (pr_node (pr_leaf (pr_zeq _ _)) (pr_leaf (pr_goto _))) (pr_node (pr_leaf (pr_ic _ _)) (pr_node (pr_leaf (pr_is _ _)) (pr_leaf (pr_mask (pr_il _ _)))))) (pr_node (pr_node (pr_leaf (pr_zlt _ _)) (pr_node (pr_leaf (pr_ic _ _)) (pr_leaf (pr_is _ _)))) (pr_node (pr_leaf (pr_il _ _)) (pr_node (pr_leaf (pr_zlt _ _)) (pr_leaf (pr_al _ _)))))) (pr_node (pr_node (pr_node (pr_leaf (pr_il _ _)) (pr_leaf (pr_il _ _))) (pr_node (pr_leaf (pr_il _ _)) (pr_node (pr_leaf (pr_inv _ _ _ GX12_betters _)) (pr_leaf (pr_inc _ _ _))))) (pr_node (pr_node (pr_leaf (pr_goto _)) (pr_node (pr_leaf (pr_inc _ _ _)) (pr_leaf (pr_goto _)))) (pr_node (pr_leaf (pr_inc _ _ _)) (pr_node (pr_leaf (pr_goto _)) (pr_leaf (pr_vret))))))))
noncomputable def FX12_layMarket : List EV → Hp → Option (RV × Hp) := Fm kX12_layMarket 5
theorem CX12_layMarket : Con yX12_layMarket cX12_layMarket 5 none 2 51 FX12_layMarket := con_of (own := RX12) rfl (by decide +kernel) sX12_layMarket pX12_layMarket (fun z => by cases z)
theorem GX12_layMarket : Gr FX12_layMarket := Gr_Fm pX12_layMarket 5
theorem dX12_marketBy_0 : decode cX12_marketBy 0 = .ok (.aload_n 0, 1) := by decide +kernel
theorem dX12_marketBy_1 : decode cX12_marketBy 1 = .ok (.iload_n 1, 1) := by decide +kernel
theorem dX12_marketBy_2 : decode cX12_marketBy 2 = .ok (.invokevirtual 456, 3) := by decide +kernel
theorem dX12_marketBy_5 : decode cX12_marketBy 5 = .ok (.iconst (-1), 1) := by decide +kernel
theorem dX12_marketBy_6 : decode cX12_marketBy 6 = .ok (.istore_n 2, 1) := by decide +kernel
theorem dX12_marketBy_7 : decode cX12_marketBy 7 = .ok (.iconst 0, 1) := by decide +kernel
theorem dX12_marketBy_8 : decode cX12_marketBy 8 = .ok (.istore_n 3, 1) := by decide +kernel
theorem dX12_marketBy_9 : decode cX12_marketBy 9 = .ok (.iload_n 3, 1) := by decide +kernel
theorem dX12_marketBy_10 : decode cX12_marketBy 10 = .ok (.aload_n 0, 1) := by decide +kernel
theorem dX12_marketBy_11 : decode cX12_marketBy 11 = .ok (.getfield 61, 3) := by decide +kernel
theorem dX12_marketBy_14 : decode cX12_marketBy 14 = .ok (.iconst 5, 1) := by decide +kernel
theorem dX12_marketBy_15 : decode cX12_marketBy 15 = .ok (.iaload, 1) := by decide +kernel
theorem dX12_marketBy_16 : decode cX12_marketBy 16 = .ok (.if_icmp .gt 66, 3) := by decide +kernel
theorem dX12_marketBy_19 : decode cX12_marketBy 19 = .ok (.aload_n 0, 1) := by decide +kernel
theorem dX12_marketBy_20 : decode cX12_marketBy 20 = .ok (.getfield 84, 3) := by decide +kernel
theorem dX12_marketBy_23 : decode cX12_marketBy 23 = .ok (.bipush 46, 2) := by decide +kernel
theorem dX12_marketBy_25 : decode cX12_marketBy 25 = .ok (.bipush 45, 2) := by decide +kernel
theorem dX12_marketBy_27 : decode cX12_marketBy 27 = .ok (.aload_n 0, 1) := by decide +kernel
theorem dX12_marketBy_28 : decode cX12_marketBy 28 = .ok (.getfield 61, 3) := by decide +kernel
theorem dX12_marketBy_31 : decode cX12_marketBy 31 = .ok (.iconst 5, 1) := by decide +kernel
theorem dX12_marketBy_32 : decode cX12_marketBy 32 = .ok (.iaload, 1) := by decide +kernel
theorem dX12_marketBy_33 : decode cX12_marketBy 33 = .ok (.iload_n 3, 1) := by decide +kernel
theorem dX12_marketBy_34 : decode cX12_marketBy 34 = .ok (.isub, 1) := by decide +kernel
theorem dX12_marketBy_35 : decode cX12_marketBy 35 = .ok (.invokestatic 317, 3) := by decide +kernel
theorem dX12_marketBy_38 : decode cX12_marketBy 38 = .ok (.imul, 1) := by decide +kernel
theorem dX12_marketBy_39 : decode cX12_marketBy 39 = .ok (.bipush 45, 2) := by decide +kernel
theorem dX12_marketBy_41 : decode cX12_marketBy 41 = .ok (.aload_n 0, 1) := by decide +kernel
theorem dX12_marketBy_42 : decode cX12_marketBy 42 = .ok (.getfield 61, 3) := by decide +kernel
theorem dX12_marketBy_45 : decode cX12_marketBy 45 = .ok (.bipush 6, 2) := by decide +kernel
theorem dX12_marketBy_47 : decode cX12_marketBy 47 = .ok (.iaload, 1) := by decide +kernel
theorem dX12_marketBy_48 : decode cX12_marketBy 48 = .ok (.iconst 3, 1) := by decide +kernel
theorem dX12_marketBy_49 : decode cX12_marketBy 49 = .ok (.iload_n 3, 1) := by decide +kernel
theorem dX12_marketBy_50 : decode cX12_marketBy 50 = .ok (.imul, 1) := by decide +kernel
theorem dX12_marketBy_51 : decode cX12_marketBy 51 = .ok (.iadd, 1) := by decide +kernel
theorem dX12_marketBy_52 : decode cX12_marketBy 52 = .ok (.invokestatic 317, 3) := by decide +kernel
theorem dX12_marketBy_55 : decode cX12_marketBy 55 = .ok (.iadd, 1) := by decide +kernel
theorem dX12_marketBy_56 : decode cX12_marketBy 56 = .ok (.iaload, 1) := by decide +kernel
theorem dX12_marketBy_57 : decode cX12_marketBy 57 = .ok (.istore 4, 2) := by decide +kernel
theorem dX12_marketBy_59 : decode cX12_marketBy 59 = .ok (.iload 4, 2) := by decide +kernel
theorem dX12_marketBy_61 : decode cX12_marketBy 61 = .ok (.iload_n 2, 1) := by decide +kernel
theorem dX12_marketBy_62 : decode cX12_marketBy 62 = .ok (.if_icmp .gt 6, 3) := by decide +kernel
theorem dX12_marketBy_65 : decode cX12_marketBy 65 = .ok (.goto 11, 3) := by decide +kernel
theorem dX12_marketBy_68 : decode cX12_marketBy 68 = .ok (.iload 4, 2) := by decide +kernel
theorem dX12_marketBy_70 : decode cX12_marketBy 70 = .ok (.istore_n 2, 1) := by decide +kernel
theorem dX12_marketBy_71 : decode cX12_marketBy 71 = .ok (.aload_n 0, 1) := by decide +kernel
theorem dX12_marketBy_72 : decode cX12_marketBy 72 = .ok (.iload_n 3, 1) := by decide +kernel
theorem dX12_marketBy_73 : decode cX12_marketBy 73 = .ok (.putfield 459, 3) := by decide +kernel
theorem dX12_marketBy_76 : decode cX12_marketBy 76 = .ok (.iinc 3 1, 3) := by decide +kernel
theorem dX12_marketBy_79 : decode cX12_marketBy 79 = .ok (.goto (-70), 3) := by decide +kernel
theorem dX12_marketBy_82 : decode cX12_marketBy 82 = .ok (.iload_n 2, 1) := by decide +kernel
theorem dX12_marketBy_83 : decode cX12_marketBy 83 = .ok (.ireturn, 1) := by decide +kernel
noncomputable def kX12_marketBy : Nat → Op := (nodeC 38 (nodeC 15 (nodeC 7 (nodeC 2 (nodeC 0 (leafC 0 (o_al 0 1)) (nodeC 1 (leafC 1 (o_il 1 2)) (leafC 2 (o_inv 1 12 0 FX12_layMarket 5)))) (nodeC 5 (leafC 5 (o_ic (-1) 6)) (nodeC 6 (leafC 6 (o_is 2 7)) (leafC 7 (o_ic (0) 8))))) (nodeC 10 (nodeC 8 (leafC 8 (o_is 3 9)) (nodeC 9 (leafC 9 (o_mask [1, 4] (o_il 3 10))) (leafC 10 (o_al 0 11)))) (nodeC 11 (leafC 11 (o_gR 12 32 14)) (nodeC 14 (leafC 14 (o_ic (5) 15)) (leafC 15 (o_iald 16)))))) (nodeC 27 (nodeC 20 (nodeC 16 (leafC 16 (o_cgt 82 19)) (nodeC 19 (leafC 19 (o_al 0 20)) (leafC 20 (o_gR 12 43 23)))) (nodeC 23 (leafC 23 (o_ic (46) 25)) (nodeC 25 (leafC 25 (o_ic (45) 27)) (leafC 27 (o_al 0 28))))) (nodeC 32 (nodeC 28 (leafC 28 (o_gR 12 32 31)) (nodeC 31 (leafC 31 (o_ic (5) 32)) (leafC 32 (o_iald 33)))) (nodeC 34 (nodeC 33 (leafC 33 (o_il 3 34)) (leafC 34 (o_isub 35))) (nodeC 35 (leafC 35 (o_min 38)) (leafC 38 (o_imul 39))))))) (nodeC 57 (nodeC 48 (nodeC 42 (nodeC 39 (leafC 39 (o_ic (45) 41)) (nodeC 41 (leafC 41 (o_al 0 42)) (leafC 42 (o_gR 12 32 45)))) (nodeC 45 (leafC 45 (o_ic (6) 47)) (nodeC 47 (leafC 47 (o_iald 48)) (leafC 48 (o_ic (3) 49))))) (nodeC 51 (nodeC 49 (leafC 49 (o_il 3 50)) (nodeC 50 (leafC 50 (o_imul 51)) (leafC 51 (o_iadd 52)))) (nodeC 55 (nodeC 52 (leafC 52 (o_min 55)) (leafC 55 (o_iadd 56))) (nodeC 56 (leafC 56 (o_iald 57)) (leafC 57 (o_is 4 59)))))) (nodeC 70 (nodeC 62 (nodeC 59 (leafC 59 (o_il 4 61)) (nodeC 61 (leafC 61 (o_il 2 62)) (leafC 62 (o_cgt 68 65)))) (nodeC 65 (leafC 65 (o_goto 76)) (nodeC 68 (leafC 68 (o_il 4 70)) (leafC 70 (o_is 2 71))))) (nodeC 73 (nodeC 71 (leafC 71 (o_al 0 72)) (nodeC 72 (leafC 72 (o_il 3 73)) (leafC 73 (o_pI 12 44 76)))) (nodeC 79 (nodeC 76 (leafC 76 (o_inc 3 (1) 79)) (leafC 79 (o_goto 9))) (nodeC 82 (leafC 82 (o_il 2 83)) (leafC 83 (o_iret))))))))
theorem sX12_marketBy : ∀ pc, SoundOp cX12_marketBy RX12 5 (some .int) false 3 75 pc (kX12_marketBy pc) := (so_node (so_node (so_node (so_node (so_node (so_leaf (so_aload_n dX12_marketBy_0 rfl)) (so_node (so_leaf (so_iload_n dX12_marketBy_1 rfl)) (so_leaf (so_inv CX12_layMarket (by decide) rfl wm_RX12_456 win_X12_layMarket wse_X12_layMarket wn_12 wc_X12_layMarket (by decide +kernel) (by decide) (by decide) dX12_marketBy_2)))) (so_node (so_leaf (so_iconst dX12_marketBy_5 (by decide))) (so_node (so_leaf (so_istore_n dX12_marketBy_6 rfl (by decide))) (so_leaf (so_iconst dX12_marketBy_7 (by decide)))))) (so_node (so_node (so_leaf (so_istore_n dX12_marketBy_8 rfl (by decide))) (so_node (so_leaf (so_mask (so_iload_n dX12_marketBy_9 rfl))) (so_leaf (so_aload_n dX12_marketBy_10 rfl)))) (so_node (so_leaf (so_gR (by decide) (by decide) wC12 wf_RX12_61 (fun _ _ _ => rfl) dX12_marketBy_11)) (so_node (so_leaf (so_iconst dX12_marketBy_14 (by decide))) (so_leaf (so_iald dX12_marketBy_15)))))) (so_node (so_node (so_node (so_leaf (so_cgt dX12_marketBy_16 (by decide))) (so_node (so_leaf (so_aload_n dX12_marketBy_19 rfl)) (so_leaf (so_gR (by decide) (by decide) wC12 wf_RX12_84 (fun _ _ _ => rfl) dX12_marketBy_20)))) (so_node (so_leaf (so_bipush dX12_marketBy_23 (by decide))) (so_node (so_leaf (so_bipush dX12_marketBy_25 (by decide))) (so_leaf (so_aload_n dX12_marketBy_27 rfl))))) (so_node (so_node (so_leaf (so_gR (by decide) (by decide) wC12 wf_RX12_61 (fun _ _ _ => rfl) dX12_marketBy_28)) (so_node (so_leaf (so_iconst dX12_marketBy_31 (by decide))) (so_leaf (so_iald dX12_marketBy_32)))) (so_node (so_node (so_leaf (so_iload_n dX12_marketBy_33 rfl)) (so_leaf (so_isub dX12_marketBy_34))) (so_node (so_leaf (so_min wm_RX12_317 wms_min wmi wmc_min (by decide) (by decide) dX12_marketBy_35)) (so_leaf (so_imul dX12_marketBy_38))))))) (so_node (so_node (so_node (so_node (so_leaf (so_bipush dX12_marketBy_39 (by decide))) (so_node (so_leaf (so_aload_n dX12_marketBy_41 rfl)) (so_leaf (so_gR (by decide) (by decide) wC12 wf_RX12_61 (fun _ _ _ => rfl) dX12_marketBy_42)))) (so_node (so_leaf (so_bipush dX12_marketBy_45 (by decide))) (so_node (so_leaf (so_iald dX12_marketBy_47)) (so_leaf (so_iconst dX12_marketBy_48 (by decide)))))) (so_node (so_node (so_leaf (so_iload_n dX12_marketBy_49 rfl)) (so_node (so_leaf (so_imul dX12_marketBy_50)) (so_leaf (so_iadd dX12_marketBy_51)))) (so_node (so_node (so_leaf (so_min wm_RX12_317 wms_min wmi wmc_min (by decide) (by decide) dX12_marketBy_52)) (so_leaf (so_iadd dX12_marketBy_55))) (so_node (so_leaf (so_iald dX12_marketBy_56)) (so_leaf (so_istore dX12_marketBy_57 (by decide))))))) (so_node (so_node (so_node (so_leaf (so_iload dX12_marketBy_59)) (so_node (so_leaf (so_iload_n dX12_marketBy_61 rfl)) (so_leaf (so_cgt dX12_marketBy_62 (by decide))))) (so_node (so_leaf (so_goto dX12_marketBy_65 (by decide))) (so_node (so_leaf (so_iload dX12_marketBy_68)) (so_leaf (so_istore_n dX12_marketBy_70 rfl (by decide)))))) (so_node (so_node (so_leaf (so_aload_n dX12_marketBy_71 rfl)) (so_node (so_leaf (so_iload_n dX12_marketBy_72 rfl)) (so_leaf (so_pI (by decide) (by decide) wC12 wf_RX12_459 (Or.inl rfl) rfl dX12_marketBy_73)))) (so_node (so_node (so_leaf (so_iinc dX12_marketBy_76 (by decide) (by decide))) (so_leaf (so_goto dX12_marketBy_79 (by decide)))) (so_node (so_leaf (so_iload_n dX12_marketBy_82 rfl)) (so_leaf (so_iret dX12_marketBy_83 rfl))))))))
theorem pX12_marketBy : ∀ pc, Pr (kX12_marketBy pc) := (pr_node (pr_node (pr_node (pr_node (pr_node (pr_leaf (pr_al _ _)) (pr_node (pr_leaf (pr_il _ _)) (pr_leaf (pr_inv _ _ _ GX12_layMarket _)))) (pr_node (pr_leaf (pr_ic _ _)) (pr_node (pr_leaf (pr_is _ _)) (pr_leaf (pr_ic _ _))))) (pr_node (pr_node (pr_leaf (pr_is _ _)) (pr_node (pr_leaf (pr_mask (pr_il _ _))) (pr_leaf (pr_al _ _)))) (pr_node (pr_leaf (pr_gR _ _ _)) (pr_node (pr_leaf (pr_ic _ _)) (pr_leaf (pr_iald _)))))) (pr_node (pr_node (pr_node (pr_leaf (pr_cgt _ _)) (pr_node (pr_leaf (pr_al _ _)) (pr_leaf (pr_gR _ _ _)))) (pr_node (pr_leaf (pr_ic _ _)) (pr_node (pr_leaf (pr_ic _ _)) (pr_leaf (pr_al _ _))))) (pr_node (pr_node (pr_leaf (pr_gR _ _ _)) (pr_node (pr_leaf (pr_ic _ _)) (pr_leaf (pr_iald _)))) (pr_node (pr_node (pr_leaf (pr_il _ _)) (pr_leaf (pr_isub _))) (pr_node (pr_leaf (pr_min _)) (pr_leaf (pr_imul _))))))) (pr_node (pr_node (pr_node (pr_node (pr_leaf (pr_ic _ _)) (pr_node (pr_leaf (pr_al _ _)) (pr_leaf (pr_gR _ _ _)))) (pr_node (pr_leaf (pr_ic _ _)) (pr_node (pr_leaf (pr_iald _)) (pr_leaf (pr_ic _ _))))) (pr_node (pr_node (pr_leaf (pr_il _ _)) (pr_node (pr_leaf (pr_imul _)) (pr_leaf (pr_iadd _)))) (pr_node (pr_node (pr_leaf (pr_min _)) (pr_leaf (pr_iadd _))) (pr_node (pr_leaf (pr_iald _)) (pr_leaf (pr_is _ _)))))) (pr_node (pr_node (pr_node (pr_leaf (pr_il _ _)) (pr_node (pr_leaf (pr_il _ _)) (pr_leaf (pr_cgt _ _)))) (pr_node (pr_leaf (pr_goto _)) (pr_node (pr_leaf (pr_il _ _)) (pr_leaf (pr_is _ _))))) (pr_node (pr_node (pr_leaf (pr_al _ _)) (pr_node (pr_leaf (pr_il _ _)) (pr_leaf (pr_pI _ _ _)))) (pr_node (pr_node (pr_leaf (pr_inc _ _ _)) (pr_leaf (pr_goto _))) (pr_node (pr_leaf (pr_il _ _)) (pr_leaf (pr_iret))))))))
noncomputable def FX12_marketBy : List EV → Hp → Option (RV × Hp) := Fm kX12_marketBy 5
theorem CX12_marketBy : Con yX12_marketBy cX12_marketBy 5 (some .int) 3 75 FX12_marketBy := con_of (own := RX12) rfl (by decide +kernel) sX12_marketBy pX12_marketBy (fun z => by cases z)
theorem GX12_marketBy : Gr FX12_marketBy := Gr_Fm pX12_marketBy 5
theorem dX12_market_0 : decode cX12_market 0 = .ok (.aload_n 0, 1) := by decide +kernel
theorem dX12_market_1 : decode cX12_market 1 = .ok (.iconst 0, 1) := by decide +kernel
theorem dX12_market_2 : decode cX12_market 2 = .ok (.putfield 105, 3) := by decide +kernel
theorem dX12_market_5 : decode cX12_market 5 = .ok (.aload_n 0, 1) := by decide +kernel
theorem dX12_market_6 : decode cX12_market 6 = .ok (.getfield 302, 3) := by decide +kernel
theorem dX12_market_9 : decode cX12_market 9 = .ok (.ifCond .eq 13, 3) := by decide +kernel
theorem dX12_market_12 : decode cX12_market 12 = .ok (.iload_n 1, 1) := by decide +kernel
theorem dX12_market_13 : decode cX12_market 13 = .ok (.i2l, 1) := by decide +kernel
theorem dX12_market_14 : decode cX12_market 14 = .ok (.lconst 0, 1) := by decide +kernel
theorem dX12_market_15 : decode cX12_market 15 = .ok (.lconst 1, 1) := by decide +kernel
theorem dX12_market_16 : decode cX12_market 16 = .ok (.invokestatic 225, 3) := by decide +kernel
theorem dX12_market_19 : decode cX12_market 19 = .ok (.ifCond .ne 5, 3) := by decide +kernel
theorem dX12_market_22 : decode cX12_market 22 = .ok (.iconst (-1), 1) := by decide +kernel
theorem dX12_market_23 : decode cX12_market 23 = .ok (.ireturn, 1) := by decide +kernel
theorem dX12_market_24 : decode cX12_market 24 = .ok (.aload_n 0, 1) := by decide +kernel
theorem dX12_market_25 : decode cX12_market 25 = .ok (.iconst 0, 1) := by decide +kernel
theorem dX12_market_26 : decode cX12_market 26 = .ok (.invokevirtual 462, 3) := by decide +kernel
theorem dX12_market_29 : decode cX12_market 29 = .ok (.istore_n 2, 1) := by decide +kernel
theorem dX12_market_30 : decode cX12_market 30 = .ok (.iload_n 1, 1) := by decide +kernel
theorem dX12_market_31 : decode cX12_market 31 = .ok (.ifCond .ne 7, 3) := by decide +kernel
theorem dX12_market_34 : decode cX12_market 34 = .ok (.iload_n 2, 1) := by decide +kernel
theorem dX12_market_35 : decode cX12_market 35 = .ok (.goto 7, 3) := by decide +kernel
theorem dX12_market_38 : decode cX12_market 38 = .ok (.aload_n 0, 1) := by decide +kernel
theorem dX12_market_39 : decode cX12_market 39 = .ok (.getfield 459, 3) := by decide +kernel
theorem dX12_market_42 : decode cX12_market 42 = .ok (.ireturn, 1) := by decide +kernel
noncomputable def kX12_market : Nat → Op := (nodeC 19 (nodeC 9 (nodeC 2 (nodeC 0 (leafC 0 (o_al 0 1)) (nodeC 1 (leafC 1 (o_ic (0) 2)) (leafC 2 (o_pI 12 0 5)))) (nodeC 5 (leafC 5 (o_al 0 6)) (nodeC 6 (leafC 6 (o_gI 12 27 9)) (leafC 9 (o_zeq 22 12))))) (nodeC 14 (nodeC 12 (leafC 12 (o_il 1 13)) (nodeC 13 (leafC 13 (o_i2l 14)) (leafC 14 (o_lc (0) 15)))) (nodeC 15 (leafC 15 (o_lc (1) 16)) (nodeC 16 (leafC 16 (o_ist 3 1 FX12_isIn 19)) (leafC 19 (o_zne 24 22)))))) (nodeC 29 (nodeC 24 (nodeC 22 (leafC 22 (o_ic (-1) 23)) (nodeC 23 (leafC 23 (o_iret)) (leafC 24 (o_al 0 25)))) (nodeC 25 (leafC 25 (o_ic (0) 26)) (nodeC 26 (leafC 26 (o_inv 1 12 1 FX12_marketBy 29)) (leafC 29 (o_is 2 30))))) (nodeC 34 (nodeC 30 (leafC 30 (o_il 1 31)) (nodeC 31 (leafC 31 (o_zne 38 34)) (leafC 34 (o_il 2 35)))) (nodeC 38 (nodeC 35 (leafC 35 (o_goto 42)) (leafC 38 (o_al 0 39))) (nodeC 39 (leafC 39 (o_gI 12 44 42)) (leafC 42 (o_iret)))))))
theorem sX12_market : ∀ pc, SoundOp cX12_market RX12 3 (some .int) false 4 99 pc (kX12_market pc) := (so_node (so_node (so_node (so_node (so_leaf (so_aload_n dX12_market_0 rfl)) (so_node (so_leaf (so_iconst dX12_market_1 (by decide))) (so_leaf (so_pI (by decide) (by decide) wC12 wf_RX12_105 (Or.inl rfl) rfl dX12_market_2)))) (so_node (so_leaf (so_aload_n dX12_market_5 rfl)) (so_node (so_leaf (so_gI (by decide) (by decide) wC12 wf_RX12_302 (fun _ _ _ => rfl) dX12_market_6)) (so_leaf (so_zeq dX12_market_9 (by decide)))))) (so_node (so_node (so_leaf (so_iload_n dX12_market_12 rfl)) (so_node (so_leaf (so_i2l dX12_market_13)) (so_leaf (so_lconst dX12_market_14 (by decide))))) (so_node (so_leaf (so_lconst dX12_market_15 (by decide))) (so_node (so_leaf (so_ist CX12_isIn rfl wm_RX12_225 wst_X12_isIn wny_X12_isIn wc_X12_isIn (by decide +kernel) (by decide) (by decide) dX12_market_16)) (so_leaf (so_zne dX12_market_19 (by decide))))))) (so_node (so_node (so_node (so_leaf (so_iconst dX12_market_22 (by decide))) (so_node (so_leaf (so_iret dX12_market_23 rfl)) (so_leaf (so_aload_n dX12_market_24 rfl)))) (so_node (so_leaf (so_iconst dX12_market_25 (by decide))) (so_node (so_leaf (so_inv CX12_marketBy (by decide) rfl wm_RX12_462 win_X12_marketBy wse_X12_marketBy wn_12 wc_X12_marketBy (by decide +kernel) (by decide) (by decide) dX12_market_26)) (so_leaf (so_istore_n dX12_market_29 rfl (by decide)))))) (so_node (so_node (so_leaf (so_iload_n dX12_market_30 rfl)) (so_node (so_leaf (so_zne dX12_market_31 (by decide))) (so_leaf (so_iload_n dX12_market_34 rfl)))) (so_node (so_node (so_leaf (so_goto dX12_market_35 (by decide))) (so_leaf (so_aload_n dX12_market_38 rfl))) (so_node (so_leaf (so_gI (by decide) (by decide) wC12 wf_RX12_459 (fun _ _ _ => rfl) dX12_market_39)) (so_leaf (so_iret dX12_market_42 rfl)))))))
theorem pX12_market : ∀ pc, Pr (kX12_market pc) := (pr_node (pr_node (pr_node (pr_node (pr_leaf (pr_al _ _)) (pr_node (pr_leaf (pr_ic _ _)) (pr_leaf (pr_pI _ _ _)))) (pr_node (pr_leaf (pr_al _ _)) (pr_node (pr_leaf (pr_gI _ _ _)) (pr_leaf (pr_zeq _ _))))) (pr_node (pr_node (pr_leaf (pr_il _ _)) (pr_node (pr_leaf (pr_i2l _)) (pr_leaf (pr_lc _ _)))) (pr_node (pr_leaf (pr_lc _ _)) (pr_node (pr_leaf (pr_ist _ _ GX12_isIn _)) (pr_leaf (pr_zne _ _)))))) (pr_node (pr_node (pr_node (pr_leaf (pr_ic _ _)) (pr_node (pr_leaf (pr_iret)) (pr_leaf (pr_al _ _)))) (pr_node (pr_leaf (pr_ic _ _)) (pr_node (pr_leaf (pr_inv _ _ _ GX12_marketBy _)) (pr_leaf (pr_is _ _))))) (pr_node (pr_node (pr_leaf (pr_il _ _)) (pr_node (pr_leaf (pr_zne _ _)) (pr_leaf (pr_il _ _)))) (pr_node (pr_node (pr_leaf (pr_goto _)) (pr_leaf (pr_al _ _))) (pr_node (pr_leaf (pr_gI _ _ _)) (pr_leaf (pr_iret)))))))
noncomputable def FX12_market : List EV → Hp → Option (RV × Hp) := Fm kX12_market 3
theorem CX12_market : Con yX12_market cX12_market 3 (some .int) 4 99 FX12_market := con_of (own := RX12) rfl (by decide +kernel) sX12_market pX12_market (fun z => by cases z)
theorem GX12_market : Gr FX12_market := Gr_Fm pX12_market 3
theorem dX12_ring_0 : decode cX12_ring 0 = .ok (.aload_n 0, 1) := by decide +kernel
theorem dX12_ring_1 : decode cX12_ring 1 = .ok (.iconst 0, 1) := by decide +kernel
theorem dX12_ring_2 : decode cX12_ring 2 = .ok (.putfield 105, 3) := by decide +kernel
theorem dX12_ring_5 : decode cX12_ring 5 = .ok (.aload_n 0, 1) := by decide +kernel
theorem dX12_ring_6 : decode cX12_ring 6 = .ok (.getfield 302, 3) := by decide +kernel
theorem dX12_ring_9 : decode cX12_ring 9 = .ok (.ifCond .eq 17, 3) := by decide +kernel
theorem dX12_ring_12 : decode cX12_ring 12 = .ok (.iload_n 1, 1) := by decide +kernel
theorem dX12_ring_13 : decode cX12_ring 13 = .ok (.ifCond .lt 13, 3) := by decide +kernel
theorem dX12_ring_16 : decode cX12_ring 16 = .ok (.iload_n 1, 1) := by decide +kernel
theorem dX12_ring_17 : decode cX12_ring 17 = .ok (.iconst 1, 1) := by decide +kernel
theorem dX12_ring_18 : decode cX12_ring 18 = .ok (.aload_n 0, 1) := by decide +kernel
theorem dX12_ring_19 : decode cX12_ring 19 = .ok (.getfield 302, 3) := by decide +kernel
theorem dX12_ring_22 : decode cX12_ring 22 = .ok (.ishl, 1) := by decide +kernel
theorem dX12_ring_23 : decode cX12_ring 23 = .ok (.if_icmp .lt 5, 3) := by decide +kernel
theorem dX12_ring_26 : decode cX12_ring 26 = .ok (.iconst (-1), 1) := by decide +kernel
theorem dX12_ring_27 : decode cX12_ring 27 = .ok (.ireturn, 1) := by decide +kernel
theorem dX12_ring_28 : decode cX12_ring 28 = .ok (.aload_n 0, 1) := by decide +kernel
theorem dX12_ring_29 : decode cX12_ring 29 = .ok (.iconst 0, 1) := by decide +kernel
theorem dX12_ring_30 : decode cX12_ring 30 = .ok (.invokevirtual 462, 3) := by decide +kernel
theorem dX12_ring_33 : decode cX12_ring 33 = .ok (.aload_n 0, 1) := by decide +kernel
theorem dX12_ring_34 : decode cX12_ring 34 = .ok (.iload_n 1, 1) := by decide +kernel
theorem dX12_ring_35 : decode cX12_ring 35 = .ok (.invokevirtual 462, 3) := by decide +kernel
theorem dX12_ring_38 : decode cX12_ring 38 = .ok (.isub, 1) := by decide +kernel
theorem dX12_ring_39 : decode cX12_ring 39 = .ok (.ireturn, 1) := by decide +kernel
noncomputable def kX12_ring : Nat → Op := (nodeC 19 (nodeC 9 (nodeC 2 (nodeC 0 (leafC 0 (o_al 0 1)) (nodeC 1 (leafC 1 (o_ic (0) 2)) (leafC 2 (o_pI 12 0 5)))) (nodeC 5 (leafC 5 (o_al 0 6)) (nodeC 6 (leafC 6 (o_gI 12 27 9)) (leafC 9 (o_zeq 26 12))))) (nodeC 16 (nodeC 12 (leafC 12 (o_il 1 13)) (nodeC 13 (leafC 13 (o_zlt 26 16)) (leafC 16 (o_il 1 17)))) (nodeC 17 (leafC 17 (o_ic (1) 18)) (nodeC 18 (leafC 18 (o_al 0 19)) (leafC 19 (o_gI 12 27 22)))))) (nodeC 29 (nodeC 26 (nodeC 22 (leafC 22 (o_ishl 23)) (nodeC 23 (leafC 23 (o_clt 28 26)) (leafC 26 (o_ic (-1) 27)))) (nodeC 27 (leafC 27 (o_iret)) (nodeC 28 (leafC 28 (o_al 0 29)) (leafC 29 (o_ic (0) 30))))) (nodeC 34 (nodeC 30 (leafC 30 (o_inv 1 12 1 FX12_marketBy 33)) (nodeC 33 (leafC 33 (o_al 0 34)) (leafC 34 (o_il 1 35)))) (nodeC 35 (leafC 35 (o_inv 1 12 1 FX12_marketBy 38)) (nodeC 38 (leafC 38 (o_isub 39)) (leafC 39 (o_iret)))))))
theorem sX12_ring : ∀ pc, SoundOp cX12_ring RX12 2 (some .int) false 4 99 pc (kX12_ring pc) := (so_node (so_node (so_node (so_node (so_leaf (so_aload_n dX12_ring_0 rfl)) (so_node (so_leaf (so_iconst dX12_ring_1 (by decide))) (so_leaf (so_pI (by decide) (by decide) wC12 wf_RX12_105 (Or.inl rfl) rfl dX12_ring_2)))) (so_node (so_leaf (so_aload_n dX12_ring_5 rfl)) (so_node (so_leaf (so_gI (by decide) (by decide) wC12 wf_RX12_302 (fun _ _ _ => rfl) dX12_ring_6)) (so_leaf (so_zeq dX12_ring_9 (by decide)))))) (so_node (so_node (so_leaf (so_iload_n dX12_ring_12 rfl)) (so_node (so_leaf (so_zlt dX12_ring_13 (by decide))) (so_leaf (so_iload_n dX12_ring_16 rfl)))) (so_node (so_leaf (so_iconst dX12_ring_17 (by decide))) (so_node (so_leaf (so_aload_n dX12_ring_18 rfl)) (so_leaf (so_gI (by decide) (by decide) wC12 wf_RX12_302 (fun _ _ _ => rfl) dX12_ring_19)))))) (so_node (so_node (so_node (so_leaf (so_ishl dX12_ring_22)) (so_node (so_leaf (so_clt dX12_ring_23 (by decide))) (so_leaf (so_iconst dX12_ring_26 (by decide))))) (so_node (so_leaf (so_iret dX12_ring_27 rfl)) (so_node (so_leaf (so_aload_n dX12_ring_28 rfl)) (so_leaf (so_iconst dX12_ring_29 (by decide)))))) (so_node (so_node (so_leaf (so_inv CX12_marketBy (by decide) rfl wm_RX12_462 win_X12_marketBy wse_X12_marketBy wn_12 wc_X12_marketBy (by decide +kernel) (by decide) (by decide) dX12_ring_30)) (so_node (so_leaf (so_aload_n dX12_ring_33 rfl)) (so_leaf (so_iload_n dX12_ring_34 rfl)))) (so_node (so_leaf (so_inv CX12_marketBy (by decide) rfl wm_RX12_462 win_X12_marketBy wse_X12_marketBy wn_12 wc_X12_marketBy (by decide +kernel) (by decide) (by decide) dX12_ring_35)) (so_node (so_leaf (so_isub dX12_ring_38)) (so_leaf (so_iret dX12_ring_39 rfl)))))))
theorem pX12_ring : ∀ pc, Pr (kX12_ring pc) := (pr_node (pr_node (pr_node (pr_node (pr_leaf (pr_al _ _)) (pr_node (pr_leaf (pr_ic _ _)) (pr_leaf (pr_pI _ _ _)))) (pr_node (pr_leaf (pr_al _ _)) (pr_node (pr_leaf (pr_gI _ _ _)) (pr_leaf (pr_zeq _ _))))) (pr_node (pr_node (pr_leaf (pr_il _ _)) (pr_node (pr_leaf (pr_zlt _ _)) (pr_leaf (pr_il _ _)))) (pr_node (pr_leaf (pr_ic _ _)) (pr_node (pr_leaf (pr_al _ _)) (pr_leaf (pr_gI _ _ _)))))) (pr_node (pr_node (pr_node (pr_leaf (pr_ishl _)) (pr_node (pr_leaf (pr_clt _ _)) (pr_leaf (pr_ic _ _)))) (pr_node (pr_leaf (pr_iret)) (pr_node (pr_leaf (pr_al _ _)) (pr_leaf (pr_ic _ _))))) (pr_node (pr_node (pr_leaf (pr_inv _ _ _ GX12_marketBy _)) (pr_node (pr_leaf (pr_al _ _)) (pr_leaf (pr_il _ _)))) (pr_node (pr_leaf (pr_inv _ _ _ GX12_marketBy _)) (pr_node (pr_leaf (pr_isub _)) (pr_leaf (pr_iret)))))))
noncomputable def FX12_ring : List EV → Hp → Option (RV × Hp) := Fm kX12_ring 2
theorem CX12_ring : Con yX12_ring cX12_ring 2 (some .int) 4 99 FX12_ring := con_of (own := RX12) rfl (by decide +kernel) sX12_ring pX12_ring (fun z => by cases z)
theorem GX12_ring : Gr FX12_ring := Gr_Fm pX12_ring 2
theorem dX12_piece_0 : decode cX12_piece 0 = .ok (.iconst 3, 1) := by decide +kernel
theorem dX12_piece_1 : decode cX12_piece 1 = .ok (.aload_n 0, 1) := by decide +kernel
theorem dX12_piece_2 : decode cX12_piece 2 = .ok (.getfield 49, 3) := by decide +kernel
theorem dX12_piece_5 : decode cX12_piece 5 = .ok (.iconst 3, 1) := by decide +kernel
theorem dX12_piece_6 : decode cX12_piece 6 = .ok (.iload_n 1, 1) := by decide +kernel
theorem dX12_piece_7 : decode cX12_piece 7 = .ok (.imul, 1) := by decide +kernel
theorem dX12_piece_8 : decode cX12_piece 8 = .ok (.iconst 1, 1) := by decide +kernel
theorem dX12_piece_9 : decode cX12_piece 9 = .ok (.iadd, 1) := by decide +kernel
theorem dX12_piece_10 : decode cX12_piece 10 = .ok (.iaload, 1) := by decide +kernel
theorem dX12_piece_11 : decode cX12_piece 11 = .ok (.imul, 1) := by decide +kernel
theorem dX12_piece_12 : decode cX12_piece 12 = .ok (.aload_n 0, 1) := by decide +kernel
theorem dX12_piece_13 : decode cX12_piece 13 = .ok (.getfield 49, 3) := by decide +kernel
theorem dX12_piece_16 : decode cX12_piece 16 = .ok (.iconst 3, 1) := by decide +kernel
theorem dX12_piece_17 : decode cX12_piece 17 = .ok (.iload_n 1, 1) := by decide +kernel
theorem dX12_piece_18 : decode cX12_piece 18 = .ok (.imul, 1) := by decide +kernel
theorem dX12_piece_19 : decode cX12_piece 19 = .ok (.iaload, 1) := by decide +kernel
theorem dX12_piece_20 : decode cX12_piece 20 = .ok (.isub, 1) := by decide +kernel
theorem dX12_piece_21 : decode cX12_piece 21 = .ok (.ireturn, 1) := by decide +kernel
noncomputable def kX12_piece : Nat → Op := (nodeC 10 (nodeC 5 (nodeC 1 (nodeC 0 (leafC 0 (o_ic (3) 1)) (leafC 1 (o_al 0 2))) (nodeC 2 (leafC 2 (o_gR 12 22 5)) (leafC 5 (o_ic (3) 6)))) (nodeC 7 (nodeC 6 (leafC 6 (o_il 1 7)) (leafC 7 (o_imul 8))) (nodeC 8 (leafC 8 (o_ic (1) 9)) (nodeC 9 (leafC 9 (o_iadd 10)) (leafC 10 (o_iald 11)))))) (nodeC 16 (nodeC 12 (nodeC 11 (leafC 11 (o_imul 12)) (leafC 12 (o_al 0 13))) (nodeC 13 (leafC 13 (o_gR 12 22 16)) (leafC 16 (o_ic (3) 17)))) (nodeC 18 (nodeC 17 (leafC 17 (o_il 1 18)) (leafC 18 (o_imul 19))) (nodeC 19 (leafC 19 (o_iald 20)) (nodeC 20 (leafC 20 (o_isub 21)) (leafC 21 (o_iret)))))))
theorem sX12_piece : ∀ pc, SoundOp cX12_piece RX12 2 (some .int) false 0 0 pc (kX12_piece pc) := (so_node (so_node (so_node (so_node (so_leaf (so_iconst dX12_piece_0 (by decide))) (so_leaf (so_aload_n dX12_piece_1 rfl))) (so_node (so_leaf (so_gR (by decide) (by decide) wC12 wf_RX12_49 (fun _ _ _ => rfl) dX12_piece_2)) (so_leaf (so_iconst dX12_piece_5 (by decide))))) (so_node (so_node (so_leaf (so_iload_n dX12_piece_6 rfl)) (so_leaf (so_imul dX12_piece_7))) (so_node (so_leaf (so_iconst dX12_piece_8 (by decide))) (so_node (so_leaf (so_iadd dX12_piece_9)) (so_leaf (so_iald dX12_piece_10)))))) (so_node (so_node (so_node (so_leaf (so_imul dX12_piece_11)) (so_leaf (so_aload_n dX12_piece_12 rfl))) (so_node (so_leaf (so_gR (by decide) (by decide) wC12 wf_RX12_49 (fun _ _ _ => rfl) dX12_piece_13)) (so_leaf (so_iconst dX12_piece_16 (by decide))))) (so_node (so_node (so_leaf (so_iload_n dX12_piece_17 rfl)) (so_leaf (so_imul dX12_piece_18))) (so_node (so_leaf (so_iald dX12_piece_19)) (so_node (so_leaf (so_isub dX12_piece_20)) (so_leaf (so_iret dX12_piece_21 rfl)))))))
theorem pX12_piece : ∀ pc, Pr (kX12_piece pc) := (pr_node (pr_node (pr_node (pr_node (pr_leaf (pr_ic _ _)) (pr_leaf (pr_al _ _))) (pr_node (pr_leaf (pr_gR _ _ _)) (pr_leaf (pr_ic _ _)))) (pr_node (pr_node (pr_leaf (pr_il _ _)) (pr_leaf (pr_imul _))) (pr_node (pr_leaf (pr_ic _ _)) (pr_node (pr_leaf (pr_iadd _)) (pr_leaf (pr_iald _)))))) (pr_node (pr_node (pr_node (pr_leaf (pr_imul _)) (pr_leaf (pr_al _ _))) (pr_node (pr_leaf (pr_gR _ _ _)) (pr_leaf (pr_ic _ _)))) (pr_node (pr_node (pr_leaf (pr_il _ _)) (pr_leaf (pr_imul _))) (pr_node (pr_leaf (pr_iald _)) (pr_node (pr_leaf (pr_isub _)) (pr_leaf (pr_iret)))))))
noncomputable def FX12_piece : List EV → Hp → Option (RV × Hp) := Fm kX12_piece 2
theorem CX12_piece : Con yX12_piece cX12_piece 2 (some .int) 0 0 FX12_piece := con_of (own := RX12) rfl (by decide +kernel) sX12_piece pX12_piece (fun z => by cases z)
theorem GX12_piece : Gr FX12_piece := Gr_Fm pX12_piece 2
theorem dX12_pieces_0 : decode cX12_pieces 0 = .ok (.aload_n 0, 1) := by decide +kernel
theorem dX12_pieces_1 : decode cX12_pieces 1 = .ok (.iconst 0, 1) := by decide +kernel
theorem dX12_pieces_2 : decode cX12_pieces 2 = .ok (.putfield 105, 3) := by decide +kernel
theorem dX12_pieces_5 : decode cX12_pieces 5 = .ok (.aload_n 0, 1) := by decide +kernel
theorem dX12_pieces_6 : decode cX12_pieces 6 = .ok (.getfield 302, 3) := by decide +kernel
theorem dX12_pieces_9 : decode cX12_pieces 9 = .ok (.ifCond .eq 13, 3) := by decide +kernel
theorem dX12_pieces_12 : decode cX12_pieces 12 = .ok (.iload_n 1, 1) := by decide +kernel
theorem dX12_pieces_13 : decode cX12_pieces 13 = .ok (.i2l, 1) := by decide +kernel
theorem dX12_pieces_14 : decode cX12_pieces 14 = .ok (.lconst 0, 1) := by decide +kernel
theorem dX12_pieces_15 : decode cX12_pieces 15 = .ok (.lconst 1, 1) := by decide +kernel
theorem dX12_pieces_16 : decode cX12_pieces 16 = .ok (.invokestatic 225, 3) := by decide +kernel
theorem dX12_pieces_19 : decode cX12_pieces 19 = .ok (.ifCond .ne 7, 3) := by decide +kernel
theorem dX12_pieces_22 : decode cX12_pieces 22 = .ok (.ldc_w 412, 3) := by decide +kernel
theorem dX12_pieces_25 : decode cX12_pieces 25 = .ok (.ireturn, 1) := by decide +kernel
theorem dX12_pieces_26 : decode cX12_pieces 26 = .ok (.iconst 0, 1) := by decide +kernel
theorem dX12_pieces_27 : decode cX12_pieces 27 = .ok (.istore_n 2, 1) := by decide +kernel
theorem dX12_pieces_28 : decode cX12_pieces 28 = .ok (.iconst 1, 1) := by decide +kernel
theorem dX12_pieces_29 : decode cX12_pieces 29 = .ok (.istore_n 3, 1) := by decide +kernel
theorem dX12_pieces_30 : decode cX12_pieces 30 = .ok (.iload_n 3, 1) := by decide +kernel
theorem dX12_pieces_31 : decode cX12_pieces 31 = .ok (.aload_n 0, 1) := by decide +kernel
theorem dX12_pieces_32 : decode cX12_pieces 32 = .ok (.getfield 302, 3) := by decide +kernel
theorem dX12_pieces_35 : decode cX12_pieces 35 = .ok (.if_icmp .ge 28, 3) := by decide +kernel
theorem dX12_pieces_38 : decode cX12_pieces 38 = .ok (.aload_n 0, 1) := by decide +kernel
theorem dX12_pieces_39 : decode cX12_pieces 39 = .ok (.iload_n 3, 1) := by decide +kernel
theorem dX12_pieces_40 : decode cX12_pieces 40 = .ok (.invokevirtual 465, 3) := by decide +kernel
theorem dX12_pieces_43 : decode cX12_pieces 43 = .ok (.aload_n 0, 1) := by decide +kernel
theorem dX12_pieces_44 : decode cX12_pieces 44 = .ok (.iload_n 2, 1) := by decide +kernel
theorem dX12_pieces_45 : decode cX12_pieces 45 = .ok (.invokevirtual 465, 3) := by decide +kernel
theorem dX12_pieces_48 : decode cX12_pieces 48 = .ok (.if_icmp .le 7, 3) := by decide +kernel
theorem dX12_pieces_51 : decode cX12_pieces 51 = .ok (.iload_n 3, 1) := by decide +kernel
theorem dX12_pieces_52 : decode cX12_pieces 52 = .ok (.goto 4, 3) := by decide +kernel
theorem dX12_pieces_55 : decode cX12_pieces 55 = .ok (.iload_n 2, 1) := by decide +kernel
theorem dX12_pieces_56 : decode cX12_pieces 56 = .ok (.istore_n 2, 1) := by decide +kernel
theorem dX12_pieces_57 : decode cX12_pieces 57 = .ok (.iinc 3 1, 3) := by decide +kernel
theorem dX12_pieces_60 : decode cX12_pieces 60 = .ok (.goto (-30), 3) := by decide +kernel
theorem dX12_pieces_63 : decode cX12_pieces 63 = .ok (.iload_n 1, 1) := by decide +kernel
theorem dX12_pieces_64 : decode cX12_pieces 64 = .ok (.ifCond .ne 7, 3) := by decide +kernel
theorem dX12_pieces_67 : decode cX12_pieces 67 = .ok (.iload_n 2, 1) := by decide +kernel
theorem dX12_pieces_68 : decode cX12_pieces 68 = .ok (.goto 8, 3) := by decide +kernel
theorem dX12_pieces_71 : decode cX12_pieces 71 = .ok (.aload_n 0, 1) := by decide +kernel
theorem dX12_pieces_72 : decode cX12_pieces 72 = .ok (.iload_n 2, 1) := by decide +kernel
theorem dX12_pieces_73 : decode cX12_pieces 73 = .ok (.invokevirtual 465, 3) := by decide +kernel
theorem dX12_pieces_76 : decode cX12_pieces 76 = .ok (.ireturn, 1) := by decide +kernel
noncomputable def kX12_pieces : Nat → Op := (nodeC 32 (nodeC 15 (nodeC 6 (nodeC 1 (nodeC 0 (leafC 0 (o_al 0 1)) (leafC 1 (o_ic (0) 2))) (nodeC 2 (leafC 2 (o_pI 12 0 5)) (nodeC 5 (leafC 5 (o_al 0 6)) (leafC 6 (o_gI 12 27 9))))) (nodeC 12 (nodeC 9 (leafC 9 (o_zeq 22 12)) (leafC 12 (o_il 1 13))) (nodeC 13 (leafC 13 (o_i2l 14)) (nodeC 14 (leafC 14 (o_lc (0) 15)) (leafC 15 (o_lc (1) 16)))))) (nodeC 26 (nodeC 19 (nodeC 16 (leafC 16 (o_ist 3 1 FX12_isIn 19)) (leafC 19 (o_zne 26 22))) (nodeC 22 (leafC 22 (o_ic (-1000000) 25)) (nodeC 25 (leafC 25 (o_iret)) (leafC 26 (o_ic (0) 27))))) (nodeC 29 (nodeC 27 (leafC 27 (o_is 2 28)) (nodeC 28 (leafC 28 (o_ic (1) 29)) (leafC 29 (o_is 3 30)))) (nodeC 30 (leafC 30 (o_il 3 31)) (nodeC 31 (leafC 31 (o_al 0 32)) (leafC 32 (o_gI 12 27 35))))))) (nodeC 55 (nodeC 43 (nodeC 38 (nodeC 35 (leafC 35 (o_cge 63 38)) (leafC 38 (o_al 0 39))) (nodeC 39 (leafC 39 (o_il 3 40)) (nodeC 40 (leafC 40 (o_inv 1 12 1 FX12_piece 43)) (leafC 43 (o_al 0 44))))) (nodeC 48 (nodeC 44 (leafC 44 (o_il 2 45)) (nodeC 45 (leafC 45 (o_inv 1 12 1 FX12_piece 48)) (leafC 48 (o_cle 55 51)))) (nodeC 51 (leafC 51 (o_il 3 52)) (nodeC 52 (leafC 52 (o_goto 56)) (leafC 55 (o_il 2 56)))))) (nodeC 64 (nodeC 57 (nodeC 56 (leafC 56 (o_is 2 57)) (leafC 57 (o_inc 3 (1) 60))) (nodeC 60 (leafC 60 (o_goto 30)) (nodeC 63 (leafC 63 (o_il 1 64)) (leafC 64 (o_zne 71 67))))) (nodeC 71 (nodeC 67 (leafC 67 (o_il 2 68)) (nodeC 68 (leafC 68 (o_goto 76)) (leafC 71 (o_al 0 72)))) (nodeC 72 (leafC 72 (o_il 2 73)) (nodeC 73 (leafC 73 (o_inv 1 12 1 FX12_piece 76)) (leafC 76 (o_iret))))))))
theorem sX12_pieces : ∀ pc, SoundOp cX12_pieces RX12 4 (some .int) false 1 25 pc (kX12_pieces pc) := (so_node (so_node (so_node (so_node (so_node (so_leaf (so_aload_n dX12_pieces_0 rfl)) (so_leaf (so_iconst dX12_pieces_1 (by decide)))) (so_node (so_leaf (so_pI (by decide) (by decide) wC12 wf_RX12_105 (Or.inl rfl) rfl dX12_pieces_2)) (so_node (so_leaf (so_aload_n dX12_pieces_5 rfl)) (so_leaf (so_gI (by decide) (by decide) wC12 wf_RX12_302 (fun _ _ _ => rfl) dX12_pieces_6))))) (so_node (so_node (so_leaf (so_zeq dX12_pieces_9 (by decide))) (so_leaf (so_iload_n dX12_pieces_12 rfl))) (so_node (so_leaf (so_i2l dX12_pieces_13)) (so_node (so_leaf (so_lconst dX12_pieces_14 (by decide))) (so_leaf (so_lconst dX12_pieces_15 (by decide))))))) (so_node (so_node (so_node (so_leaf (so_ist CX12_isIn rfl wm_RX12_225 wst_X12_isIn wny_X12_isIn wc_X12_isIn (by decide +kernel) (by decide) (by decide) dX12_pieces_16)) (so_leaf (so_zne dX12_pieces_19 (by decide)))) (so_node (so_leaf (so_ldcw wk_RX12_412 dX12_pieces_22)) (so_node (so_leaf (so_iret dX12_pieces_25 rfl)) (so_leaf (so_iconst dX12_pieces_26 (by decide)))))) (so_node (so_node (so_leaf (so_istore_n dX12_pieces_27 rfl (by decide))) (so_node (so_leaf (so_iconst dX12_pieces_28 (by decide))) (so_leaf (so_istore_n dX12_pieces_29 rfl (by decide))))) (so_node (so_leaf (so_iload_n dX12_pieces_30 rfl)) (so_node (so_leaf (so_aload_n dX12_pieces_31 rfl)) (so_leaf (so_gI (by decide) (by decide) wC12 wf_RX12_302 (fun _ _ _ => rfl) dX12_pieces_32))))))) (so_node (so_node (so_node (so_node (so_leaf (so_cge dX12_pieces_35 (by decide))) (so_leaf (so_aload_n dX12_pieces_38 rfl))) (so_node (so_leaf (so_iload_n dX12_pieces_39 rfl)) (so_node (so_leaf (so_inv CX12_piece (by decide) rfl wm_RX12_465 win_X12_piece wse_X12_piece wn_12 wc_X12_piece (by decide +kernel) (by decide) (by decide) dX12_pieces_40)) (so_leaf (so_aload_n dX12_pieces_43 rfl))))) (so_node (so_node (so_leaf (so_iload_n dX12_pieces_44 rfl)) (so_node (so_leaf (so_inv CX12_piece (by decide) rfl wm_RX12_465 win_X12_piece wse_X12_piece wn_12 wc_X12_piece (by decide +kernel) (by decide) (by decide) dX12_pieces_45)) (so_leaf (so_cle dX12_pieces_48 (by decide))))) (so_node (so_leaf (so_iload_n dX12_pieces_51 rfl)) (so_node (so_leaf (so_goto dX12_pieces_52 (by decide))) (so_leaf (so_iload_n dX12_pieces_55 rfl)))))) (so_node (so_node (so_node (so_leaf (so_istore_n dX12_pieces_56 rfl (by decide))) (so_leaf (so_iinc dX12_pieces_57 (by decide) (by decide)))) (so_node (so_leaf (so_goto dX12_pieces_60 (by decide))) (so_node (so_leaf (so_iload_n dX12_pieces_63 rfl)) (so_leaf (so_zne dX12_pieces_64 (by decide)))))) (so_node (so_node (so_leaf (so_iload_n dX12_pieces_67 rfl)) (so_node (so_leaf (so_goto dX12_pieces_68 (by decide))) (so_leaf (so_aload_n dX12_pieces_71 rfl)))) (so_node (so_leaf (so_iload_n dX12_pieces_72 rfl)) (so_node (so_leaf (so_inv CX12_piece (by decide) rfl wm_RX12_465 win_X12_piece wse_X12_piece wn_12 wc_X12_piece (by decide +kernel) (by decide) (by decide) dX12_pieces_73)) (so_leaf (so_iret dX12_pieces_76 rfl))))))))
theorem pX12_pieces : ∀ pc, Pr (kX12_pieces pc) := (pr_node (pr_node (pr_node (pr_node (pr_node (pr_leaf (pr_al _ _)) (pr_leaf (pr_ic _ _))) (pr_node (pr_leaf (pr_pI _ _ _)) (pr_node (pr_leaf (pr_al _ _)) (pr_leaf (pr_gI _ _ _))))) (pr_node (pr_node (pr_leaf (pr_zeq _ _)) (pr_leaf (pr_il _ _))) (pr_node (pr_leaf (pr_i2l _)) (pr_node (pr_leaf (pr_lc _ _)) (pr_leaf (pr_lc _ _)))))) (pr_node (pr_node (pr_node (pr_leaf (pr_ist _ _ GX12_isIn _)) (pr_leaf (pr_zne _ _))) (pr_node (pr_leaf (pr_ic _ _)) (pr_node (pr_leaf (pr_iret)) (pr_leaf (pr_ic _ _))))) (pr_node (pr_node (pr_leaf (pr_is _ _)) (pr_node (pr_leaf (pr_ic _ _)) (pr_leaf (pr_is _ _)))) (pr_node (pr_leaf (pr_il _ _)) (pr_node (pr_leaf (pr_al _ _)) (pr_leaf (pr_gI _ _ _))))))) (pr_node (pr_node (pr_node (pr_node (pr_leaf (pr_cge _ _)) (pr_leaf (pr_al _ _))) (pr_node (pr_leaf (pr_il _ _)) (pr_node (pr_leaf (pr_inv _ _ _ GX12_piece _)) (pr_leaf (pr_al _ _))))) (pr_node (pr_node (pr_leaf (pr_il _ _)) (pr_node (pr_leaf (pr_inv _ _ _ GX12_piece _)) (pr_leaf (pr_cle _ _)))) (pr_node (pr_leaf (pr_il _ _)) (pr_node (pr_leaf (pr_goto _)) (pr_leaf (pr_il _ _)))))) (pr_node (pr_node (pr_node (pr_leaf (pr_is _ _)) (pr_leaf (pr_inc _ _ _))) (pr_node (pr_leaf (pr_goto _)) (pr_node (pr_leaf (pr_il _ _)) (pr_leaf (pr_zne _ _))))) (pr_node (pr_node (pr_leaf (pr_il _ _)) (pr_node (pr_leaf (pr_goto _)) (pr_leaf (pr_al _ _)))) (pr_node (pr_leaf (pr_il _ _)) (pr_node (pr_leaf (pr_inv _ _ _ GX12_piece _)) (pr_leaf (pr_iret))))))))
noncomputable def FX12_pieces : List EV → Hp → Option (RV × Hp) := Fm kX12_pieces 4
theorem CX12_pieces : Con yX12_pieces cX12_pieces 4 (some .int) 1 25 FX12_pieces := con_of (own := RX12) rfl (by decide +kernel) sX12_pieces pX12_pieces (fun z => by cases z)
theorem GX12_pieces : Gr FX12_pieces := Gr_Fm pX12_pieces 4
theorem dX12_gameOf_0 : decode cX12_gameOf 0 = .ok (.iload_n 1, 1) := by decide +kernel
theorem dX12_gameOf_1 : decode cX12_gameOf 1 = .ok (.iconst 1, 1) := by decide +kernel
theorem dX12_gameOf_2 : decode cX12_gameOf 2 = .ok (.if_icmp .ne 32, 3) := by decide +kernel
theorem dX12_gameOf_5 : decode cX12_gameOf 5 = .ok (.iload_n 3, 1) := by decide +kernel
theorem dX12_gameOf_6 : decode cX12_gameOf 6 = .ok (.ifCond .ne 17, 3) := by decide +kernel
theorem dX12_gameOf_9 : decode cX12_gameOf 9 = .ok (.iload_n 2, 1) := by decide +kernel
theorem dX12_gameOf_10 : decode cX12_gameOf 10 = .ok (.iconst 1, 1) := by decide +kernel
theorem dX12_gameOf_11 : decode cX12_gameOf 11 = .ok (.if_icmp .ne 7, 3) := by decide +kernel
theorem dX12_gameOf_14 : decode cX12_gameOf 14 = .ok (.iconst 3, 1) := by decide +kernel
theorem dX12_gameOf_15 : decode cX12_gameOf 15 = .ok (.goto 18, 3) := by decide +kernel
theorem dX12_gameOf_18 : decode cX12_gameOf 18 = .ok (.bipush 6, 2) := by decide +kernel
theorem dX12_gameOf_20 : decode cX12_gameOf 20 = .ok (.goto 13, 3) := by decide +kernel
theorem dX12_gameOf_23 : decode cX12_gameOf 23 = .ok (.iload_n 2, 1) := by decide +kernel
theorem dX12_gameOf_24 : decode cX12_gameOf 24 = .ok (.iconst 1, 1) := by decide +kernel
theorem dX12_gameOf_25 : decode cX12_gameOf 25 = .ok (.if_icmp .ne 7, 3) := by decide +kernel
theorem dX12_gameOf_28 : decode cX12_gameOf 28 = .ok (.iconst 1, 1) := by decide +kernel
theorem dX12_gameOf_29 : decode cX12_gameOf 29 = .ok (.goto 4, 3) := by decide +kernel
theorem dX12_gameOf_32 : decode cX12_gameOf 32 = .ok (.iconst 0, 1) := by decide +kernel
theorem dX12_gameOf_33 : decode cX12_gameOf 33 = .ok (.ireturn, 1) := by decide +kernel
theorem dX12_gameOf_34 : decode cX12_gameOf 34 = .ok (.iload_n 2, 1) := by decide +kernel
theorem dX12_gameOf_35 : decode cX12_gameOf 35 = .ok (.iconst 1, 1) := by decide +kernel
theorem dX12_gameOf_36 : decode cX12_gameOf 36 = .ok (.if_icmp .ne 13, 3) := by decide +kernel
theorem dX12_gameOf_39 : decode cX12_gameOf 39 = .ok (.iload_n 3, 1) := by decide +kernel
theorem dX12_gameOf_40 : decode cX12_gameOf 40 = .ok (.ifCond .ne 7, 3) := by decide +kernel
theorem dX12_gameOf_43 : decode cX12_gameOf 43 = .ok (.iconst 3, 1) := by decide +kernel
theorem dX12_gameOf_44 : decode cX12_gameOf 44 = .ok (.goto 4, 3) := by decide +kernel
theorem dX12_gameOf_47 : decode cX12_gameOf 47 = .ok (.iconst 5, 1) := by decide +kernel
theorem dX12_gameOf_48 : decode cX12_gameOf 48 = .ok (.ireturn, 1) := by decide +kernel
theorem dX12_gameOf_49 : decode cX12_gameOf 49 = .ok (.iload_n 3, 1) := by decide +kernel
theorem dX12_gameOf_50 : decode cX12_gameOf 50 = .ok (.ifCond .ne 7, 3) := by decide +kernel
theorem dX12_gameOf_53 : decode cX12_gameOf 53 = .ok (.iconst 2, 1) := by decide +kernel
theorem dX12_gameOf_54 : decode cX12_gameOf 54 = .ok (.goto 4, 3) := by decide +kernel
theorem dX12_gameOf_57 : decode cX12_gameOf 57 = .ok (.iconst 4, 1) := by decide +kernel
theorem dX12_gameOf_58 : decode cX12_gameOf 58 = .ok (.aload_n 0, 1) := by decide +kernel
theorem dX12_gameOf_59 : decode cX12_gameOf 59 = .ok (.getfield 61, 3) := by decide +kernel
theorem dX12_gameOf_62 : decode cX12_gameOf 62 = .ok (.iconst 2, 1) := by decide +kernel
theorem dX12_gameOf_63 : decode cX12_gameOf 63 = .ok (.iaload, 1) := by decide +kernel
theorem dX12_gameOf_64 : decode cX12_gameOf 64 = .ok (.iconst 3, 1) := by decide +kernel
theorem dX12_gameOf_65 : decode cX12_gameOf 65 = .ok (.idiv, 1) := by decide +kernel
theorem dX12_gameOf_66 : decode cX12_gameOf 66 = .ok (.isub, 1) := by decide +kernel
theorem dX12_gameOf_67 : decode cX12_gameOf 67 = .ok (.ireturn, 1) := by decide +kernel
noncomputable def kX12_gameOf : Nat → Op := (nodeC 34 (nodeC 15 (nodeC 6 (nodeC 1 (nodeC 0 (leafC 0 (o_il 1 1)) (leafC 1 (o_ic (1) 2))) (nodeC 2 (leafC 2 (o_cne 34 5)) (nodeC 5 (leafC 5 (o_il 3 6)) (leafC 6 (o_zne 23 9))))) (nodeC 10 (nodeC 9 (leafC 9 (o_il 2 10)) (leafC 10 (o_ic (1) 11))) (nodeC 11 (leafC 11 (o_cne 18 14)) (nodeC 14 (leafC 14 (o_ic (3) 15)) (leafC 15 (o_goto 33)))))) (nodeC 25 (nodeC 20 (nodeC 18 (leafC 18 (o_ic (6) 20)) (leafC 20 (o_goto 33))) (nodeC 23 (leafC 23 (o_il 2 24)) (nodeC 24 (leafC 24 (o_ic (1) 25)) (leafC 25 (o_cne 32 28))))) (nodeC 29 (nodeC 28 (leafC 28 (o_ic (1) 29)) (leafC 29 (o_goto 33))) (nodeC 32 (leafC 32 (o_ic (0) 33)) (nodeC 33 (leafC 33 (o_iret)) (leafC 34 (o_il 2 35))))))) (nodeC 50 (nodeC 43 (nodeC 36 (nodeC 35 (leafC 35 (o_ic (1) 36)) (leafC 36 (o_cne 49 39))) (nodeC 39 (leafC 39 (o_il 3 40)) (nodeC 40 (leafC 40 (o_zne 47 43)) (leafC 43 (o_ic (3) 44))))) (nodeC 47 (nodeC 44 (leafC 44 (o_goto 48)) (leafC 47 (o_ic (5) 48))) (nodeC 48 (leafC 48 (o_iret)) (nodeC 49 (leafC 49 (o_il 3 50)) (leafC 50 (o_zne 57 53)))))) (nodeC 59 (nodeC 54 (nodeC 53 (leafC 53 (o_ic (2) 54)) (leafC 54 (o_goto 58))) (nodeC 57 (leafC 57 (o_ic (4) 58)) (nodeC 58 (leafC 58 (o_al 0 59)) (leafC 59 (o_gR 12 32 62))))) (nodeC 64 (nodeC 62 (leafC 62 (o_ic (2) 63)) (nodeC 63 (leafC 63 (o_iald 64)) (leafC 64 (o_ic (3) 65)))) (nodeC 65 (leafC 65 (o_idiv 66)) (nodeC 66 (leafC 66 (o_isub 67)) (leafC 67 (o_iret))))))))
theorem sX12_gameOf : ∀ pc, SoundOp cX12_gameOf RX12 4 (some .int) false 0 0 pc (kX12_gameOf pc) := (so_node (so_node (so_node (so_node (so_node (so_leaf (so_iload_n dX12_gameOf_0 rfl)) (so_leaf (so_iconst dX12_gameOf_1 (by decide)))) (so_node (so_leaf (so_cne dX12_gameOf_2 (by decide))) (so_node (so_leaf (so_iload_n dX12_gameOf_5 rfl)) (so_leaf (so_zne dX12_gameOf_6 (by decide)))))) (so_node (so_node (so_leaf (so_iload_n dX12_gameOf_9 rfl)) (so_leaf (so_iconst dX12_gameOf_10 (by decide)))) (so_node (so_leaf (so_cne dX12_gameOf_11 (by decide))) (so_node (so_leaf (so_iconst dX12_gameOf_14 (by decide))) (so_leaf (so_goto dX12_gameOf_15 (by decide))))))) (so_node (so_node (so_node (so_leaf (so_bipush dX12_gameOf_18 (by decide))) (so_leaf (so_goto dX12_gameOf_20 (by decide)))) (so_node (so_leaf (so_iload_n dX12_gameOf_23 rfl)) (so_node (so_leaf (so_iconst dX12_gameOf_24 (by decide))) (so_leaf (so_cne dX12_gameOf_25 (by decide)))))) (so_node (so_node (so_leaf (so_iconst dX12_gameOf_28 (by decide))) (so_leaf (so_goto dX12_gameOf_29 (by decide)))) (so_node (so_leaf (so_iconst dX12_gameOf_32 (by decide))) (so_node (so_leaf (so_iret dX12_gameOf_33 rfl)) (so_leaf (so_iload_n dX12_gameOf_34 rfl))))))) (so_node (so_node (so_node (so_node (so_leaf (so_iconst dX12_gameOf_35 (by decide))) (so_leaf (so_cne dX12_gameOf_36 (by decide)))) (so_node (so_leaf (so_iload_n dX12_gameOf_39 rfl)) (so_node (so_leaf (so_zne dX12_gameOf_40 (by decide))) (so_leaf (so_iconst dX12_gameOf_43 (by decide)))))) (so_node (so_node (so_leaf (so_goto dX12_gameOf_44 (by decide))) (so_leaf (so_iconst dX12_gameOf_47 (by decide)))) (so_node (so_leaf (so_iret dX12_gameOf_48 rfl)) (so_node (so_leaf (so_iload_n dX12_gameOf_49 rfl)) (so_leaf (so_zne dX12_gameOf_50 (by decide))))))) (so_node (so_node (so_node (so_leaf (so_iconst dX12_gameOf_53 (by decide))) (so_leaf (so_goto dX12_gameOf_54 (by decide)))) (so_node (so_leaf (so_iconst dX12_gameOf_57 (by decide))) (so_node (so_leaf (so_aload_n dX12_gameOf_58 rfl)) (so_leaf (so_gR (by decide) (by decide) wC12 wf_RX12_61 (fun _ _ _ => rfl) dX12_gameOf_59))))) (so_node (so_node (so_leaf (so_iconst dX12_gameOf_62 (by decide))) (so_node (so_leaf (so_iald dX12_gameOf_63)) (so_leaf (so_iconst dX12_gameOf_64 (by decide))))) (so_node (so_leaf (so_idiv dX12_gameOf_65)) (so_node (so_leaf (so_isub dX12_gameOf_66)) (so_leaf (so_iret dX12_gameOf_67 rfl))))))))
theorem pX12_gameOf : ∀ pc, Pr (kX12_gameOf pc) := (pr_node (pr_node (pr_node (pr_node (pr_node (pr_leaf (pr_il _ _)) (pr_leaf (pr_ic _ _))) (pr_node (pr_leaf (pr_cne _ _)) (pr_node (pr_leaf (pr_il _ _)) (pr_leaf (pr_zne _ _))))) (pr_node (pr_node (pr_leaf (pr_il _ _)) (pr_leaf (pr_ic _ _))) (pr_node (pr_leaf (pr_cne _ _)) (pr_node (pr_leaf (pr_ic _ _)) (pr_leaf (pr_goto _)))))) (pr_node (pr_node (pr_node (pr_leaf (pr_ic _ _)) (pr_leaf (pr_goto _))) (pr_node (pr_leaf (pr_il _ _)) (pr_node (pr_leaf (pr_ic _ _)) (pr_leaf (pr_cne _ _))))) (pr_node (pr_node (pr_leaf (pr_ic _ _)) (pr_leaf (pr_goto _))) (pr_node (pr_leaf (pr_ic _ _)) (pr_node (pr_leaf (pr_iret)) (pr_leaf (pr_il _ _))))))) (pr_node (pr_node (pr_node (pr_node (pr_leaf (pr_ic _ _)) (pr_leaf (pr_cne _ _))) (pr_node (pr_leaf (pr_il _ _)) (pr_node (pr_leaf (pr_zne _ _)) (pr_leaf (pr_ic _ _))))) (pr_node (pr_node (pr_leaf (pr_goto _)) (pr_leaf (pr_ic _ _))) (pr_node (pr_leaf (pr_iret)) (pr_node (pr_leaf (pr_il _ _)) (pr_leaf (pr_zne _ _)))))) (pr_node (pr_node (pr_node (pr_leaf (pr_ic _ _)) (pr_leaf (pr_goto _))) (pr_node (pr_leaf (pr_ic _ _)) (pr_node (pr_leaf (pr_al _ _)) (pr_leaf (pr_gR _ _ _))))) (pr_node (pr_node (pr_leaf (pr_ic _ _)) (pr_node (pr_leaf (pr_iald _)) (pr_leaf (pr_ic _ _)))) (pr_node (pr_leaf (pr_idiv _)) (pr_node (pr_leaf (pr_isub _)) (pr_leaf (pr_iret))))))))
noncomputable def FX12_gameOf : List EV → Hp → Option (RV × Hp) := Fm kX12_gameOf 4
theorem CX12_gameOf : Con yX12_gameOf cX12_gameOf 4 (some .int) 0 0 FX12_gameOf := con_of (own := RX12) rfl (by decide +kernel) sX12_gameOf pX12_gameOf (fun z => by cases z)
theorem GX12_gameOf : Gr FX12_gameOf := Gr_Fm pX12_gameOf 4
theorem dX12_game_0 : decode cX12_game 0 = .ok (.aload_n 0, 1) := by decide +kernel
theorem dX12_game_1 : decode cX12_game 1 = .ok (.iconst 0, 1) := by decide +kernel
theorem dX12_game_2 : decode cX12_game 2 = .ok (.putfield 105, 3) := by decide +kernel
theorem dX12_game_5 : decode cX12_game 5 = .ok (.aload_n 0, 1) := by decide +kernel
theorem dX12_game_6 : decode cX12_game 6 = .ok (.getfield 302, 3) := by decide +kernel
theorem dX12_game_9 : decode cX12_game 9 = .ok (.ifCond .le 43, 3) := by decide +kernel
theorem dX12_game_12 : decode cX12_game 12 = .ok (.iload_n 1, 1) := by decide +kernel
theorem dX12_game_13 : decode cX12_game 13 = .ok (.i2l, 1) := by decide +kernel
theorem dX12_game_14 : decode cX12_game 14 = .ok (.lconst 0, 1) := by decide +kernel
theorem dX12_game_15 : decode cX12_game 15 = .ok (.lconst 1, 1) := by decide +kernel
theorem dX12_game_16 : decode cX12_game 16 = .ok (.invokestatic 225, 3) := by decide +kernel
theorem dX12_game_19 : decode cX12_game 19 = .ok (.ifCond .eq 33, 3) := by decide +kernel
theorem dX12_game_22 : decode cX12_game 22 = .ok (.iload_n 2, 1) := by decide +kernel
theorem dX12_game_23 : decode cX12_game 23 = .ok (.i2l, 1) := by decide +kernel
theorem dX12_game_24 : decode cX12_game 24 = .ok (.lconst 0, 1) := by decide +kernel
theorem dX12_game_25 : decode cX12_game 25 = .ok (.lconst 1, 1) := by decide +kernel
theorem dX12_game_26 : decode cX12_game 26 = .ok (.invokestatic 225, 3) := by decide +kernel
theorem dX12_game_29 : decode cX12_game 29 = .ok (.ifCond .eq 23, 3) := by decide +kernel
theorem dX12_game_32 : decode cX12_game 32 = .ok (.iload_n 3, 1) := by decide +kernel
theorem dX12_game_33 : decode cX12_game 33 = .ok (.i2l, 1) := by decide +kernel
theorem dX12_game_34 : decode cX12_game 34 = .ok (.lconst 0, 1) := by decide +kernel
theorem dX12_game_35 : decode cX12_game 35 = .ok (.lconst 1, 1) := by decide +kernel
theorem dX12_game_36 : decode cX12_game 36 = .ok (.invokestatic 225, 3) := by decide +kernel
theorem dX12_game_39 : decode cX12_game 39 = .ok (.ifCond .eq 13, 3) := by decide +kernel
theorem dX12_game_42 : decode cX12_game 42 = .ok (.aload_n 0, 1) := by decide +kernel
theorem dX12_game_43 : decode cX12_game 43 = .ok (.iload_n 1, 1) := by decide +kernel
theorem dX12_game_44 : decode cX12_game 44 = .ok (.iload_n 2, 1) := by decide +kernel
theorem dX12_game_45 : decode cX12_game 45 = .ok (.iload_n 3, 1) := by decide +kernel
theorem dX12_game_46 : decode cX12_game 46 = .ok (.invokevirtual 468, 3) := by decide +kernel
theorem dX12_game_49 : decode cX12_game 49 = .ok (.goto 6, 3) := by decide +kernel
theorem dX12_game_52 : decode cX12_game 52 = .ok (.ldc_w 412, 3) := by decide +kernel
theorem dX12_game_55 : decode cX12_game 55 = .ok (.ireturn, 1) := by decide +kernel
noncomputable def kX12_game : Nat → Op := (nodeC 25 (nodeC 13 (nodeC 5 (nodeC 1 (nodeC 0 (leafC 0 (o_al 0 1)) (leafC 1 (o_ic (0) 2))) (nodeC 2 (leafC 2 (o_pI 12 0 5)) (leafC 5 (o_al 0 6)))) (nodeC 9 (nodeC 6 (leafC 6 (o_gI 12 27 9)) (leafC 9 (o_zle 52 12))) (nodeC 12 (leafC 12 (o_il 1 13)) (leafC 13 (o_i2l 14))))) (nodeC 19 (nodeC 15 (nodeC 14 (leafC 14 (o_lc (0) 15)) (leafC 15 (o_lc (1) 16))) (nodeC 16 (leafC 16 (o_ist 3 1 FX12_isIn 19)) (leafC 19 (o_zeq 52 22)))) (nodeC 23 (nodeC 22 (leafC 22 (o_il 2 23)) (leafC 23 (o_i2l 24))) (nodeC 24 (leafC 24 (o_lc (0) 25)) (leafC 25 (o_lc (1) 26)))))) (nodeC 39 (nodeC 33 (nodeC 29 (nodeC 26 (leafC 26 (o_ist 3 1 FX12_isIn 29)) (leafC 29 (o_zeq 52 32))) (nodeC 32 (leafC 32 (o_il 3 33)) (leafC 33 (o_i2l 34)))) (nodeC 35 (nodeC 34 (leafC 34 (o_lc (0) 35)) (leafC 35 (o_lc (1) 36))) (nodeC 36 (leafC 36 (o_ist 3 1 FX12_isIn 39)) (leafC 39 (o_zeq 52 42))))) (nodeC 45 (nodeC 43 (nodeC 42 (leafC 42 (o_al 0 43)) (leafC 43 (o_il 1 44))) (nodeC 44 (leafC 44 (o_il 2 45)) (leafC 45 (o_il 3 46)))) (nodeC 49 (nodeC 46 (leafC 46 (o_inv 3 12 1 FX12_gameOf 49)) (leafC 49 (o_goto 55))) (nodeC 52 (leafC 52 (o_ic (-1000000) 55)) (leafC 55 (o_iret)))))))
theorem sX12_game : ∀ pc, SoundOp cX12_game RX12 4 (some .int) false 1 25 pc (kX12_game pc) := (so_node (so_node (so_node (so_node (so_node (so_leaf (so_aload_n dX12_game_0 rfl)) (so_leaf (so_iconst dX12_game_1 (by decide)))) (so_node (so_leaf (so_pI (by decide) (by decide) wC12 wf_RX12_105 (Or.inl rfl) rfl dX12_game_2)) (so_leaf (so_aload_n dX12_game_5 rfl)))) (so_node (so_node (so_leaf (so_gI (by decide) (by decide) wC12 wf_RX12_302 (fun _ _ _ => rfl) dX12_game_6)) (so_leaf (so_zle dX12_game_9 (by decide)))) (so_node (so_leaf (so_iload_n dX12_game_12 rfl)) (so_leaf (so_i2l dX12_game_13))))) (so_node (so_node (so_node (so_leaf (so_lconst dX12_game_14 (by decide))) (so_leaf (so_lconst dX12_game_15 (by decide)))) (so_node (so_leaf (so_ist CX12_isIn rfl wm_RX12_225 wst_X12_isIn wny_X12_isIn wc_X12_isIn (by decide +kernel) (by decide) (by decide) dX12_game_16)) (so_leaf (so_zeq dX12_game_19 (by decide))))) (so_node (so_node (so_leaf (so_iload_n dX12_game_22 rfl)) (so_leaf (so_i2l dX12_game_23))) (so_node (so_leaf (so_lconst dX12_game_24 (by decide))) (so_leaf (so_lconst dX12_game_25 (by decide))))))) (so_node (so_node (so_node (so_node (so_leaf (so_ist CX12_isIn rfl wm_RX12_225 wst_X12_isIn wny_X12_isIn wc_X12_isIn (by decide +kernel) (by decide) (by decide) dX12_game_26)) (so_leaf (so_zeq dX12_game_29 (by decide)))) (so_node (so_leaf (so_iload_n dX12_game_32 rfl)) (so_leaf (so_i2l dX12_game_33)))) (so_node (so_node (so_leaf (so_lconst dX12_game_34 (by decide))) (so_leaf (so_lconst dX12_game_35 (by decide)))) (so_node (so_leaf (so_ist CX12_isIn rfl wm_RX12_225 wst_X12_isIn wny_X12_isIn wc_X12_isIn (by decide +kernel) (by decide) (by decide) dX12_game_36)) (so_leaf (so_zeq dX12_game_39 (by decide)))))) (so_node (so_node (so_node (so_leaf (so_aload_n dX12_game_42 rfl)) (so_leaf (so_iload_n dX12_game_43 rfl))) (so_node (so_leaf (so_iload_n dX12_game_44 rfl)) (so_leaf (so_iload_n dX12_game_45 rfl)))) (so_node (so_node (so_leaf (so_inv CX12_gameOf (by decide) rfl wm_RX12_468 win_X12_gameOf wse_X12_gameOf wn_12 wc_X12_gameOf (by decide +kernel) (by decide) (by decide) dX12_game_46)) (so_leaf (so_goto dX12_game_49 (by decide)))) (so_node (so_leaf (so_ldcw wk_RX12_412 dX12_game_52)) (so_leaf (so_iret dX12_game_55 rfl)))))))
theorem pX12_game : ∀ pc, Pr (kX12_game pc) := (pr_node (pr_node (pr_node (pr_node (pr_node (pr_leaf (pr_al _ _)) (pr_leaf (pr_ic _ _))) (pr_node (pr_leaf (pr_pI _ _ _)) (pr_leaf (pr_al _ _)))) (pr_node (pr_node (pr_leaf (pr_gI _ _ _)) (pr_leaf (pr_zle _ _))) (pr_node (pr_leaf (pr_il _ _)) (pr_leaf (pr_i2l _))))) (pr_node (pr_node (pr_node (pr_leaf (pr_lc _ _)) (pr_leaf (pr_lc _ _))) (pr_node (pr_leaf (pr_ist _ _ GX12_isIn _)) (pr_leaf (pr_zeq _ _)))) (pr_node (pr_node (pr_leaf (pr_il _ _)) (pr_leaf (pr_i2l _))) (pr_node (pr_leaf (pr_lc _ _)) (pr_leaf (pr_lc _ _)))))) (pr_node (pr_node (pr_node (pr_node (pr_leaf (pr_ist _ _ GX12_isIn _)) (pr_leaf (pr_zeq _ _))) (pr_node (pr_leaf (pr_il _ _)) (pr_leaf (pr_i2l _)))) (pr_node (pr_node (pr_leaf (pr_lc _ _)) (pr_leaf (pr_lc _ _))) (pr_node (pr_leaf (pr_ist _ _ GX12_isIn _)) (pr_leaf (pr_zeq _ _))))) (pr_node (pr_node (pr_node (pr_leaf (pr_al _ _)) (pr_leaf (pr_il _ _))) (pr_node (pr_leaf (pr_il _ _)) (pr_leaf (pr_il _ _)))) (pr_node (pr_node (pr_leaf (pr_inv _ _ _ GX12_gameOf _)) (pr_leaf (pr_goto _))) (pr_node (pr_leaf (pr_ic _ _)) (pr_leaf (pr_iret)))))))
noncomputable def FX12_game : List EV → Hp → Option (RV × Hp) := Fm kX12_game 4
theorem CX12_game : Con yX12_game cX12_game 4 (some .int) 1 25 FX12_game := con_of (own := RX12) rfl (by decide +kernel) sX12_game pX12_game (fun z => by cases z)
theorem GX12_game : Gr FX12_game := Gr_Fm pX12_game 4
theorem dX12_rests_0 : decode cX12_rests 0 = .ok (.aload_n 0, 1) := by decide +kernel
theorem dX12_rests_1 : decode cX12_rests 1 = .ok (.iconst 0, 1) := by decide +kernel
theorem dX12_rests_2 : decode cX12_rests 2 = .ok (.putfield 105, 3) := by decide +kernel
theorem dX12_rests_5 : decode cX12_rests 5 = .ok (.aload_n 0, 1) := by decide +kernel
theorem dX12_rests_6 : decode cX12_rests 6 = .ok (.getfield 302, 3) := by decide +kernel
theorem dX12_rests_9 : decode cX12_rests 9 = .ok (.ifCond .eq 8, 3) := by decide +kernel
theorem dX12_rests_12 : decode cX12_rests 12 = .ok (.iload_n 1, 1) := by decide +kernel
theorem dX12_rests_13 : decode cX12_rests 13 = .ok (.iconst (-1), 1) := by decide +kernel
theorem dX12_rests_14 : decode cX12_rests 14 = .ok (.if_icmp .ge 5, 3) := by decide +kernel
theorem dX12_rests_17 : decode cX12_rests 17 = .ok (.iconst (-1), 1) := by decide +kernel
theorem dX12_rests_18 : decode cX12_rests 18 = .ok (.ireturn, 1) := by decide +kernel
theorem dX12_rests_19 : decode cX12_rests 19 = .ok (.iconst 0, 1) := by decide +kernel
theorem dX12_rests_20 : decode cX12_rests 20 = .ok (.istore_n 2, 1) := by decide +kernel
theorem dX12_rests_21 : decode cX12_rests 21 = .ok (.iconst 0, 1) := by decide +kernel
theorem dX12_rests_22 : decode cX12_rests 22 = .ok (.istore_n 3, 1) := by decide +kernel
theorem dX12_rests_23 : decode cX12_rests 23 = .ok (.iload_n 3, 1) := by decide +kernel
theorem dX12_rests_24 : decode cX12_rests 24 = .ok (.iconst 4, 1) := by decide +kernel
theorem dX12_rests_25 : decode cX12_rests 25 = .ok (.if_icmp .ge 85, 3) := by decide +kernel
theorem dX12_rests_28 : decode cX12_rests 28 = .ok (.iload_n 3, 1) := by decide +kernel
theorem dX12_rests_29 : decode cX12_rests 29 = .ok (.iconst 2, 1) := by decide +kernel
theorem dX12_rests_30 : decode cX12_rests 30 = .ok (.idiv, 1) := by decide +kernel
theorem dX12_rests_31 : decode cX12_rests 31 = .ok (.istore 4, 2) := by decide +kernel
theorem dX12_rests_33 : decode cX12_rests 33 = .ok (.iload_n 3, 1) := by decide +kernel
theorem dX12_rests_34 : decode cX12_rests 34 = .ok (.iconst 2, 1) := by decide +kernel
theorem dX12_rests_35 : decode cX12_rests 35 = .ok (.irem, 1) := by decide +kernel
theorem dX12_rests_36 : decode cX12_rests 36 = .ok (.istore 5, 2) := by decide +kernel
theorem dX12_rests_38 : decode cX12_rests 38 = .ok (.aload_n 0, 1) := by decide +kernel
theorem dX12_rests_39 : decode cX12_rests 39 = .ok (.iconst 1, 1) := by decide +kernel
theorem dX12_rests_40 : decode cX12_rests 40 = .ok (.iload 4, 2) := by decide +kernel
theorem dX12_rests_42 : decode cX12_rests 42 = .ok (.isub, 1) := by decide +kernel
theorem dX12_rests_43 : decode cX12_rests 43 = .ok (.iload 5, 2) := by decide +kernel
theorem dX12_rests_45 : decode cX12_rests 45 = .ok (.iconst 0, 1) := by decide +kernel
theorem dX12_rests_46 : decode cX12_rests 46 = .ok (.invokevirtual 468, 3) := by decide +kernel
theorem dX12_rests_49 : decode cX12_rests 49 = .ok (.aload_n 0, 1) := by decide +kernel
theorem dX12_rests_50 : decode cX12_rests 50 = .ok (.iload 4, 2) := by decide +kernel
theorem dX12_rests_52 : decode cX12_rests 52 = .ok (.iload 5, 2) := by decide +kernel
theorem dX12_rests_54 : decode cX12_rests 54 = .ok (.iconst 0, 1) := by decide +kernel
theorem dX12_rests_55 : decode cX12_rests 55 = .ok (.invokevirtual 468, 3) := by decide +kernel
theorem dX12_rests_58 : decode cX12_rests 58 = .ok (.if_icmp .gt 46, 3) := by decide +kernel
theorem dX12_rests_61 : decode cX12_rests 61 = .ok (.aload_n 0, 1) := by decide +kernel
theorem dX12_rests_62 : decode cX12_rests 62 = .ok (.iload 4, 2) := by decide +kernel
theorem dX12_rests_64 : decode cX12_rests 64 = .ok (.iconst 1, 1) := by decide +kernel
theorem dX12_rests_65 : decode cX12_rests 65 = .ok (.iload 5, 2) := by decide +kernel
theorem dX12_rests_67 : decode cX12_rests 67 = .ok (.isub, 1) := by decide +kernel
theorem dX12_rests_68 : decode cX12_rests 68 = .ok (.iconst 1, 1) := by decide +kernel
theorem dX12_rests_69 : decode cX12_rests 69 = .ok (.invokevirtual 468, 3) := by decide +kernel
theorem dX12_rests_72 : decode cX12_rests 72 = .ok (.aload_n 0, 1) := by decide +kernel
theorem dX12_rests_73 : decode cX12_rests 73 = .ok (.iload 4, 2) := by decide +kernel
theorem dX12_rests_75 : decode cX12_rests 75 = .ok (.iload 5, 2) := by decide +kernel
theorem dX12_rests_77 : decode cX12_rests 77 = .ok (.iconst 1, 1) := by decide +kernel
theorem dX12_rests_78 : decode cX12_rests 78 = .ok (.invokevirtual 468, 3) := by decide +kernel
theorem dX12_rests_81 : decode cX12_rests 81 = .ok (.if_icmp .le 6, 3) := by decide +kernel
theorem dX12_rests_84 : decode cX12_rests 84 = .ok (.goto 20, 3) := by decide +kernel
theorem dX12_rests_87 : decode cX12_rests 87 = .ok (.iload_n 2, 1) := by decide +kernel
theorem dX12_rests_88 : decode cX12_rests 88 = .ok (.iload_n 1, 1) := by decide +kernel
theorem dX12_rests_89 : decode cX12_rests 89 = .ok (.if_icmp .ne 12, 3) := by decide +kernel
theorem dX12_rests_92 : decode cX12_rests 92 = .ok (.bipush 10, 2) := by decide +kernel
theorem dX12_rests_94 : decode cX12_rests 94 = .ok (.iload 4, 2) := by decide +kernel
theorem dX12_rests_96 : decode cX12_rests 96 = .ok (.imul, 1) := by decide +kernel
theorem dX12_rests_97 : decode cX12_rests 97 = .ok (.iload 5, 2) := by decide +kernel
theorem dX12_rests_99 : decode cX12_rests 99 = .ok (.iadd, 1) := by decide +kernel
theorem dX12_rests_100 : decode cX12_rests 100 = .ok (.ireturn, 1) := by decide +kernel
theorem dX12_rests_101 : decode cX12_rests 101 = .ok (.iinc 2 1, 3) := by decide +kernel
theorem dX12_rests_104 : decode cX12_rests 104 = .ok (.iinc 3 1, 3) := by decide +kernel
theorem dX12_rests_107 : decode cX12_rests 107 = .ok (.goto (-84), 3) := by decide +kernel
theorem dX12_rests_110 : decode cX12_rests 110 = .ok (.iload_n 1, 1) := by decide +kernel
theorem dX12_rests_111 : decode cX12_rests 111 = .ok (.iconst (-1), 1) := by decide +kernel
theorem dX12_rests_112 : decode cX12_rests 112 = .ok (.if_icmp .ne 7, 3) := by decide +kernel
theorem dX12_rests_115 : decode cX12_rests 115 = .ok (.iload_n 2, 1) := by decide +kernel
theorem dX12_rests_116 : decode cX12_rests 116 = .ok (.goto 4, 3) := by decide +kernel
theorem dX12_rests_119 : decode cX12_rests 119 = .ok (.iconst (-1), 1) := by decide +kernel
theorem dX12_rests_120 : decode cX12_rests 120 = .ok (.ireturn, 1) := by decide +kernel
noncomputable def kX12_rests : Nat → Op := (nodeC 52 (nodeC 25 (nodeC 14 (nodeC 5 (nodeC 1 (nodeC 0 (leafC 0 (o_al 0 1)) (leafC 1 (o_ic (0) 2))) (nodeC 2 (leafC 2 (o_pI 12 0 5)) (leafC 5 (o_al 0 6)))) (nodeC 9 (nodeC 6 (leafC 6 (o_gI 12 27 9)) (leafC 9 (o_zeq 17 12))) (nodeC 12 (leafC 12 (o_il 1 13)) (nodeC 13 (leafC 13 (o_ic (-1) 14)) (leafC 14 (o_cge 19 17)))))) (nodeC 20 (nodeC 18 (nodeC 17 (leafC 17 (o_ic (-1) 18)) (leafC 18 (o_iret))) (nodeC 19 (leafC 19 (o_ic (0) 20)) (leafC 20 (o_is 2 21)))) (nodeC 22 (nodeC 21 (leafC 21 (o_ic (0) 22)) (leafC 22 (o_is 3 23))) (nodeC 23 (leafC 23 (o_mask [4, 5] (o_il 3 24))) (nodeC 24 (leafC 24 (o_ic (4) 25)) (leafC 25 (o_cge 110 28))))))) (nodeC 38 (nodeC 31 (nodeC 29 (nodeC 28 (leafC 28 (o_il 3 29)) (leafC 29 (o_ic (2) 30))) (nodeC 30 (leafC 30 (o_idiv 31)) (leafC 31 (o_is 4 33)))) (nodeC 34 (nodeC 33 (leafC 33 (o_il 3 34)) (leafC 34 (o_ic (2) 35))) (nodeC 35 (leafC 35 (o_irem 36)) (nodeC 36 (leafC 36 (o_is 5 38)) (leafC 38 (o_al 0 39)))))) (nodeC 43 (nodeC 40 (nodeC 39 (leafC 39 (o_ic (1) 40)) (leafC 40 (o_il 4 42))) (nodeC 42 (leafC 42 (o_isub 43)) (leafC 43 (o_il 5 45)))) (nodeC 46 (nodeC 45 (leafC 45 (o_ic (0) 46)) (leafC 46 (o_inv 3 12 1 FX12_gameOf 49))) (nodeC 49 (leafC 49 (o_al 0 50)) (nodeC 50 (leafC 50 (o_il 4 52)) (leafC 52 (o_il 5 54)))))))) (nodeC 87 (nodeC 68 (nodeC 61 (nodeC 55 (nodeC 54 (leafC 54 (o_ic (0) 55)) (leafC 55 (o_inv 3 12 1 FX12_gameOf 58))) (nodeC 58 (leafC 58 (o_cgt 104 61)) (leafC 61 (o_al 0 62)))) (nodeC 64 (nodeC 62 (leafC 62 (o_il 4 64)) (leafC 64 (o_ic (1) 65))) (nodeC 65 (leafC 65 (o_il 5 67)) (nodeC 67 (leafC 67 (o_isub 68)) (leafC 68 (o_ic (1) 69)))))) (nodeC 75 (nodeC 72 (nodeC 69 (leafC 69 (o_inv 3 12 1 FX12_gameOf 72)) (leafC 72 (o_al 0 73))) (nodeC 73 (leafC 73 (o_il 4 75)) (leafC 75 (o_il 5 77)))) (nodeC 78 (nodeC 77 (leafC 77 (o_ic (1) 78)) (leafC 78 (o_inv 3 12 1 FX12_gameOf 81))) (nodeC 81 (leafC 81 (o_cle 87 84)) (nodeC 84 (leafC 84 (o_goto 104)) (leafC 87 (o_il 2 88))))))) (nodeC 101 (nodeC 94 (nodeC 89 (nodeC 88 (leafC 88 (o_il 1 89)) (leafC 89 (o_cne 101 92))) (nodeC 92 (leafC 92 (o_ic (10) 94)) (leafC 94 (o_il 4 96)))) (nodeC 97 (nodeC 96 (leafC 96 (o_imul 97)) (leafC 97 (o_il 5 99))) (nodeC 99 (leafC 99 (o_iadd 100)) (nodeC 100 (leafC 100 (o_iret)) (leafC 101 (o_inc 2 (1) 104)))))) (nodeC 111 (nodeC 107 (nodeC 104 (leafC 104 (o_inc 3 (1) 107)) (leafC 107 (o_goto 23))) (nodeC 110 (leafC 110 (o_il 1 111)) (leafC 111 (o_ic (-1) 112)))) (nodeC 115 (nodeC 112 (leafC 112 (o_cne 119 115)) (leafC 115 (o_il 2 116))) (nodeC 116 (leafC 116 (o_goto 120)) (nodeC 119 (leafC 119 (o_ic (-1) 120)) (leafC 120 (o_iret)))))))))
theorem sX12_rests : ∀ pc, SoundOp cX12_rests RX12 6 (some .int) false 1 23 pc (kX12_rests pc) := (so_node (so_node (so_node (so_node (so_node (so_node (so_leaf (so_aload_n dX12_rests_0 rfl)) (so_leaf (so_iconst dX12_rests_1 (by decide)))) (so_node (so_leaf (so_pI (by decide) (by decide) wC12 wf_RX12_105 (Or.inl rfl) rfl dX12_rests_2)) (so_leaf (so_aload_n dX12_rests_5 rfl)))) (so_node (so_node (so_leaf (so_gI (by decide) (by decide) wC12 wf_RX12_302 (fun _ _ _ => rfl) dX12_rests_6)) (so_leaf (so_zeq dX12_rests_9 (by decide)))) (so_node (so_leaf (so_iload_n dX12_rests_12 rfl)) (so_node (so_leaf (so_iconst dX12_rests_13 (by decide))) (so_leaf (so_cge dX12_rests_14 (by decide))))))) (so_node (so_node (so_node (so_leaf (so_iconst dX12_rests_17 (by decide))) (so_leaf (so_iret dX12_rests_18 rfl))) (so_node (so_leaf (so_iconst dX12_rests_19 (by decide))) (so_leaf (so_istore_n dX12_rests_20 rfl (by decide))))) (so_node (so_node (so_leaf (so_iconst dX12_rests_21 (by decide))) (so_leaf (so_istore_n dX12_rests_22 rfl (by decide)))) (so_node (so_leaf (so_mask (so_iload_n dX12_rests_23 rfl))) (so_node (so_leaf (so_iconst dX12_rests_24 (by decide))) (so_leaf (so_cge dX12_rests_25 (by decide)))))))) (so_node (so_node (so_node (so_node (so_leaf (so_iload_n dX12_rests_28 rfl)) (so_leaf (so_iconst dX12_rests_29 (by decide)))) (so_node (so_leaf (so_idiv dX12_rests_30)) (so_leaf (so_istore dX12_rests_31 (by decide))))) (so_node (so_node (so_leaf (so_iload_n dX12_rests_33 rfl)) (so_leaf (so_iconst dX12_rests_34 (by decide)))) (so_node (so_leaf (so_irem dX12_rests_35)) (so_node (so_leaf (so_istore dX12_rests_36 (by decide))) (so_leaf (so_aload_n dX12_rests_38 rfl)))))) (so_node (so_node (so_node (so_leaf (so_iconst dX12_rests_39 (by decide))) (so_leaf (so_iload dX12_rests_40))) (so_node (so_leaf (so_isub dX12_rests_42)) (so_leaf (so_iload dX12_rests_43)))) (so_node (so_node (so_leaf (so_iconst dX12_rests_45 (by decide))) (so_leaf (so_inv CX12_gameOf (by decide) rfl wm_RX12_468 win_X12_gameOf wse_X12_gameOf wn_12 wc_X12_gameOf (by decide +kernel) (by decide) (by decide) dX12_rests_46))) (so_node (so_leaf (so_aload_n dX12_rests_49 rfl)) (so_node (so_leaf (so_iload dX12_rests_50)) (so_leaf (so_iload dX12_rests_52)))))))) (so_node (so_node (so_node (so_node (so_node (so_leaf (so_iconst dX12_rests_54 (by decide))) (so_leaf (so_inv CX12_gameOf (by decide) rfl wm_RX12_468 win_X12_gameOf wse_X12_gameOf wn_12 wc_X12_gameOf (by decide +kernel) (by decide) (by decide) dX12_rests_55))) (so_node (so_leaf (so_cgt dX12_rests_58 (by decide))) (so_leaf (so_aload_n dX12_rests_61 rfl)))) (so_node (so_node (so_leaf (so_iload dX12_rests_62)) (so_leaf (so_iconst dX12_rests_64 (by decide)))) (so_node (so_leaf (so_iload dX12_rests_65)) (so_node (so_leaf (so_isub dX12_rests_67)) (so_leaf (so_iconst dX12_rests_68 (by decide))))))) (so_node (so_node (so_node (so_leaf (so_inv CX12_gameOf (by decide) rfl wm_RX12_468 win_X12_gameOf wse_X12_gameOf wn_12 wc_X12_gameOf (by decide +kernel) (by decide) (by decide) dX12_rests_69)) (so_leaf (so_aload_n dX12_rests_72 rfl))) (so_node (so_leaf (so_iload dX12_rests_73)) (so_leaf (so_iload dX12_rests_75)))) (so_node (so_node (so_leaf (so_iconst dX12_rests_77 (by decide))) (so_leaf (so_inv CX12_gameOf (by decide) rfl wm_RX12_468 win_X12_gameOf wse_X12_gameOf wn_12 wc_X12_gameOf (by decide +kernel) (by decide) (by decide) dX12_rests_78))) (so_node (so_leaf (so_cle dX12_rests_81 (by decide))) (so_node (so_leaf (so_goto dX12_rests_84 (by decide))) (so_leaf (so_iload_n dX12_rests_87 rfl))))))) (so_node (so_node (so_node (so_node (so_leaf (so_iload_n dX12_rests_88 rfl)) (so_leaf (so_cne dX12_rests_89 (by decide)))) (so_node (so_leaf (so_bipush dX12_rests_92 (by decide))) (so_leaf (so_iload dX12_rests_94)))) (so_node (so_node (so_leaf (so_imul dX12_rests_96)) (so_leaf (so_iload dX12_rests_97))) (so_node (so_leaf (so_iadd dX12_rests_99)) (so_node (so_leaf (so_iret dX12_rests_100 rfl)) (so_leaf (so_iinc dX12_rests_101 (by decide) (by decide))))))) (so_node (so_node (so_node (so_leaf (so_iinc dX12_rests_104 (by decide) (by decide))) (so_leaf (so_goto dX12_rests_107 (by decide)))) (so_node (so_leaf (so_iload_n dX12_rests_110 rfl)) (so_leaf (so_iconst dX12_rests_111 (by decide))))) (so_node (so_node (so_leaf (so_cne dX12_rests_112 (by decide))) (so_leaf (so_iload_n dX12_rests_115 rfl))) (so_node (so_leaf (so_goto dX12_rests_116 (by decide))) (so_node (so_leaf (so_iconst dX12_rests_119 (by decide))) (so_leaf (so_iret dX12_rests_120 rfl)))))))))
theorem pX12_rests : ∀ pc, Pr (kX12_rests pc) := (pr_node (pr_node (pr_node (pr_node (pr_node (pr_node (pr_leaf (pr_al _ _)) (pr_leaf (pr_ic _ _))) (pr_node (pr_leaf (pr_pI _ _ _)) (pr_leaf (pr_al _ _)))) (pr_node (pr_node (pr_leaf (pr_gI _ _ _)) (pr_leaf (pr_zeq _ _))) (pr_node (pr_leaf (pr_il _ _)) (pr_node (pr_leaf (pr_ic _ _)) (pr_leaf (pr_cge _ _)))))) (pr_node (pr_node (pr_node (pr_leaf (pr_ic _ _)) (pr_leaf (pr_iret))) (pr_node (pr_leaf (pr_ic _ _)) (pr_leaf (pr_is _ _)))) (pr_node (pr_node (pr_leaf (pr_ic _ _)) (pr_leaf (pr_is _ _))) (pr_node (pr_leaf (pr_mask (pr_il _ _))) (pr_node (pr_leaf (pr_ic _ _)) (pr_leaf (pr_cge _ _))))))) (pr_node (pr_node (pr_node (pr_node (pr_leaf (pr_il _ _)) (pr_leaf (pr_ic _ _))) (pr_node (pr_leaf (pr_idiv _)) (pr_leaf (pr_is _ _)))) (pr_node (pr_node (pr_leaf (pr_il _ _)) (pr_leaf (pr_ic _ _))) (pr_node (pr_leaf (pr_irem _)) (pr_node (pr_leaf (pr_is _ _)) (pr_leaf (pr_al _ _)))))) (pr_node (pr_node (pr_node (pr_leaf (pr_ic _ _)) (pr_leaf (pr_il _ _))) (pr_node (pr_leaf (pr_isub _)) (pr_leaf (pr_il _ _)))) (pr_node (pr_node (pr_leaf (pr_ic _ _)) (pr_leaf (pr_inv _ _ _ GX12_gameOf _))) (pr_node (pr_leaf (pr_al _ _)) (pr_node (pr_leaf (pr_il _ _)) (pr_leaf (pr_il _ _)))))))) (pr_node (pr_node (pr_node (pr_node (pr_node (pr_leaf (pr_ic _ _)) (pr_leaf (pr_inv _ _ _ GX12_gameOf _))) (pr_node (pr_leaf (pr_cgt _ _)) (pr_leaf (pr_al _ _)))) (pr_node (pr_node (pr_leaf (pr_il _ _)) (pr_leaf (pr_ic _ _))) (pr_node (pr_leaf (pr_il _ _)) (pr_node (pr_leaf (pr_isub _)) (pr_leaf (pr_ic _ _)))))) (pr_node (pr_node (pr_node (pr_leaf (pr_inv _ _ _ GX12_gameOf _)) (pr_leaf (pr_al _ _))) (pr_node (pr_leaf (pr_il _ _)) (pr_leaf (pr_il _ _)))) (pr_node (pr_node (pr_leaf (pr_ic _ _)) (pr_leaf (pr_inv _ _ _ GX12_gameOf _))) (pr_node (pr_leaf (pr_cle _ _)) (pr_node (pr_leaf (pr_goto _)) (pr_leaf (pr_il _ _))))))) (pr_node (pr_node (pr_node (pr_node (pr_leaf (pr_il _ _)) (pr_leaf (pr_cne _ _))) (pr_node (pr_leaf (pr_ic _ _)) (pr_leaf (pr_il _ _)))) (pr_node (pr_node (pr_leaf (pr_imul _)) (pr_leaf (pr_il _ _))) (pr_node (pr_leaf (pr_iadd _)) (pr_node (pr_leaf (pr_iret)) (pr_leaf (pr_inc _ _ _)))))) (pr_node (pr_node (pr_node (pr_leaf (pr_inc _ _ _)) (pr_leaf (pr_goto _))) (pr_node (pr_leaf (pr_il _ _)) (pr_leaf (pr_ic _ _)))) (pr_node (pr_node (pr_leaf (pr_cne _ _)) (pr_leaf (pr_il _ _))) (pr_node (pr_leaf (pr_goto _)) (pr_node (pr_leaf (pr_ic _ _)) (pr_leaf (pr_iret)))))))))
noncomputable def FX12_rests : List EV → Hp → Option (RV × Hp) := Fm kX12_rests 6
theorem CX12_rests : Con yX12_rests cX12_rests 6 (some .int) 1 23 FX12_rests := con_of (own := RX12) rfl (by decide +kernel) sX12_rests pX12_rests (fun z => by cases z)
theorem GX12_rests : Gr FX12_rests := Gr_Fm pX12_rests 6
theorem dX12_test_0 : decode cX12_test 0 = .ok (.aload_n 0, 1) := by decide +kernel
theorem dX12_test_1 : decode cX12_test 1 = .ok (.iconst 0, 1) := by decide +kernel
theorem dX12_test_2 : decode cX12_test 2 = .ok (.putfield 105, 3) := by decide +kernel
theorem dX12_test_5 : decode cX12_test 5 = .ok (.aload_n 0, 1) := by decide +kernel
theorem dX12_test_6 : decode cX12_test 6 = .ok (.getfield 302, 3) := by decide +kernel
theorem dX12_test_9 : decode cX12_test 9 = .ok (.ifCond .eq 24, 3) := by decide +kernel
theorem dX12_test_12 : decode cX12_test 12 = .ok (.iload_n 1, 1) := by decide +kernel
theorem dX12_test_13 : decode cX12_test 13 = .ok (.i2l, 1) := by decide +kernel
theorem dX12_test_14 : decode cX12_test 14 = .ok (.lconst 0, 1) := by decide +kernel
theorem dX12_test_15 : decode cX12_test 15 = .ok (.ldc2_w 280, 3) := by decide +kernel
theorem dX12_test_18 : decode cX12_test 18 = .ok (.invokestatic 225, 3) := by decide +kernel
theorem dX12_test_21 : decode cX12_test 21 = .ok (.ifCond .eq 12, 3) := by decide +kernel
theorem dX12_test_24 : decode cX12_test 24 = .ok (.aload_n 0, 1) := by decide +kernel
theorem dX12_test_25 : decode cX12_test 25 = .ok (.getfield 305, 3) := by decide +kernel
theorem dX12_test_28 : decode cX12_test 28 = .ok (.bipush 12, 2) := by decide +kernel
theorem dX12_test_30 : decode cX12_test 30 = .ok (.if_icmp .ne 5, 3) := by decide +kernel
theorem dX12_test_33 : decode cX12_test 33 = .ok (.iconst (-1), 1) := by decide +kernel
theorem dX12_test_34 : decode cX12_test 34 = .ok (.ireturn, 1) := by decide +kernel
theorem dX12_test_35 : decode cX12_test 35 = .ok (.aload_n 0, 1) := by decide +kernel
theorem dX12_test_36 : decode cX12_test 36 = .ok (.getfield 87, 3) := by decide +kernel
theorem dX12_test_39 : decode cX12_test 39 = .ok (.aload_n 0, 1) := by decide +kernel
theorem dX12_test_40 : decode cX12_test 40 = .ok (.getfield 305, 3) := by decide +kernel
theorem dX12_test_43 : decode cX12_test 43 = .ok (.iload_n 1, 1) := by decide +kernel
theorem dX12_test_44 : decode cX12_test 44 = .ok (.iastore, 1) := by decide +kernel
theorem dX12_test_45 : decode cX12_test 45 = .ok (.aload_n 0, 1) := by decide +kernel
theorem dX12_test_46 : decode cX12_test 46 = .ok (.getfield 96, 3) := by decide +kernel
theorem dX12_test_49 : decode cX12_test 49 = .ok (.aload_n 0, 1) := by decide +kernel
theorem dX12_test_50 : decode cX12_test 50 = .ok (.getfield 305, 3) := by decide +kernel
theorem dX12_test_53 : decode cX12_test 53 = .ok (.iload_n 2, 1) := by decide +kernel
theorem dX12_test_54 : decode cX12_test 54 = .ok (.bastore, 1) := by decide +kernel
theorem dX12_test_55 : decode cX12_test 55 = .ok (.aload_n 0, 1) := by decide +kernel
theorem dX12_test_56 : decode cX12_test 56 = .ok (.dup, 1) := by decide +kernel
theorem dX12_test_57 : decode cX12_test 57 = .ok (.getfield 305, 3) := by decide +kernel
theorem dX12_test_60 : decode cX12_test 60 = .ok (.iconst 1, 1) := by decide +kernel
theorem dX12_test_61 : decode cX12_test 61 = .ok (.iadd, 1) := by decide +kernel
theorem dX12_test_62 : decode cX12_test 62 = .ok (.putfield 305, 3) := by decide +kernel
theorem dX12_test_65 : decode cX12_test 65 = .ok (.aload_n 0, 1) := by decide +kernel
theorem dX12_test_66 : decode cX12_test 66 = .ok (.getfield 305, 3) := by decide +kernel
theorem dX12_test_69 : decode cX12_test 69 = .ok (.ireturn, 1) := by decide +kernel
noncomputable def kX12_test : Nat → Op := (nodeC 35 (nodeC 14 (nodeC 5 (nodeC 1 (nodeC 0 (leafC 0 (o_al 0 1)) (leafC 1 (o_ic (0) 2))) (nodeC 2 (leafC 2 (o_pI 12 0 5)) (leafC 5 (o_al 0 6)))) (nodeC 9 (nodeC 6 (leafC 6 (o_gI 12 27 9)) (leafC 9 (o_zeq 33 12))) (nodeC 12 (leafC 12 (o_il 1 13)) (nodeC 13 (leafC 13 (o_i2l 14)) (leafC 14 (o_lc (0) 15)))))) (nodeC 25 (nodeC 18 (nodeC 15 (leafC 15 (o_lc (2) 18)) (leafC 18 (o_ist 3 1 FX12_isIn 21))) (nodeC 21 (leafC 21 (o_zeq 33 24)) (nodeC 24 (leafC 24 (o_al 0 25)) (leafC 25 (o_gI 12 50 28))))) (nodeC 30 (nodeC 28 (leafC 28 (o_ic (12) 30)) (leafC 30 (o_cne 35 33))) (nodeC 33 (leafC 33 (o_ic (-1) 34)) (nodeC 34 (leafC 34 (o_iret)) (leafC 35 (o_al 0 36))))))) (nodeC 53 (nodeC 44 (nodeC 39 (nodeC 36 (leafC 36 (o_gR 12 45 39)) (leafC 39 (o_al 0 40))) (nodeC 40 (leafC 40 (o_gI 12 50 43)) (nodeC 43 (leafC 43 (o_il 1 44)) (leafC 44 (o_iast 45))))) (nodeC 46 (nodeC 45 (leafC 45 (o_al 0 46)) (leafC 46 (o_gR 12 48 49))) (nodeC 49 (leafC 49 (o_al 0 50)) (nodeC 50 (leafC 50 (o_gI 12 50 53)) (leafC 53 (o_il 2 54)))))) (nodeC 60 (nodeC 55 (nodeC 54 (leafC 54 (o_zast 55)) (leafC 55 (o_al 0 56))) (nodeC 56 (leafC 56 (o_dupR 57)) (nodeC 57 (leafC 57 (o_gI 12 50 60)) (leafC 60 (o_ic (1) 61))))) (nodeC 62 (nodeC 61 (leafC 61 (o_iadd 62)) (leafC 62 (o_pI 12 50 65))) (nodeC 65 (leafC 65 (o_al 0 66)) (nodeC 66 (leafC 66 (o_gI 12 50 69)) (leafC 69 (o_iret))))))))
theorem sX12_test : ∀ pc, SoundOp cX12_test RX12 3 (some .int) false 1 25 pc (kX12_test pc) := (so_node (so_node (so_node (so_node (so_node (so_leaf (so_aload_n dX12_test_0 rfl)) (so_leaf (so_iconst dX12_test_1 (by decide)))) (so_node (so_leaf (so_pI (by decide) (by decide) wC12 wf_RX12_105 (Or.inl rfl) rfl dX12_test_2)) (so_leaf (so_aload_n dX12_test_5 rfl)))) (so_node (so_node (so_leaf (so_gI (by decide) (by decide) wC12 wf_RX12_302 (fun _ _ _ => rfl) dX12_test_6)) (so_leaf (so_zeq dX12_test_9 (by decide)))) (so_node (so_leaf (so_iload_n dX12_test_12 rfl)) (so_node (so_leaf (so_i2l dX12_test_13)) (so_leaf (so_lconst dX12_test_14 (by decide))))))) (so_node (so_node (so_node (so_leaf (so_ldc2 wk_RX12_280 dX12_test_15)) (so_leaf (so_ist CX12_isIn rfl wm_RX12_225 wst_X12_isIn wny_X12_isIn wc_X12_isIn (by decide +kernel) (by decide) (by decide) dX12_test_18))) (so_node (so_leaf (so_zeq dX12_test_21 (by decide))) (so_node (so_leaf (so_aload_n dX12_test_24 rfl)) (so_leaf (so_gI (by decide) (by decide) wC12 wf_RX12_305 (fun _ _ _ => rfl) dX12_test_25))))) (so_node (so_node (so_leaf (so_bipush dX12_test_28 (by decide))) (so_leaf (so_cne dX12_test_30 (by decide)))) (so_node (so_leaf (so_iconst dX12_test_33 (by decide))) (so_node (so_leaf (so_iret dX12_test_34 rfl)) (so_leaf (so_aload_n dX12_test_35 rfl))))))) (so_node (so_node (so_node (so_node (so_leaf (so_gR (by decide) (by decide) wC12 wf_RX12_87 (fun _ _ _ => rfl) dX12_test_36)) (so_leaf (so_aload_n dX12_test_39 rfl))) (so_node (so_leaf (so_gI (by decide) (by decide) wC12 wf_RX12_305 (fun _ _ _ => rfl) dX12_test_40)) (so_node (so_leaf (so_iload_n dX12_test_43 rfl)) (so_leaf (so_iast dX12_test_44))))) (so_node (so_node (so_leaf (so_aload_n dX12_test_45 rfl)) (so_leaf (so_gR (by decide) (by decide) wC12 wf_RX12_96 (fun _ _ _ => rfl) dX12_test_46))) (so_node (so_leaf (so_aload_n dX12_test_49 rfl)) (so_node (so_leaf (so_gI (by decide) (by decide) wC12 wf_RX12_305 (fun _ _ _ => rfl) dX12_test_50)) (so_leaf (so_iload_n dX12_test_53 rfl)))))) (so_node (so_node (so_node (so_leaf (so_zast dX12_test_54)) (so_leaf (so_aload_n dX12_test_55 rfl))) (so_node (so_leaf (so_dupR dX12_test_56)) (so_node (so_leaf (so_gI (by decide) (by decide) wC12 wf_RX12_305 (fun _ _ _ => rfl) dX12_test_57)) (so_leaf (so_iconst dX12_test_60 (by decide)))))) (so_node (so_node (so_leaf (so_iadd dX12_test_61)) (so_leaf (so_pI (by decide) (by decide) wC12 wf_RX12_305 (Or.inl rfl) rfl dX12_test_62))) (so_node (so_leaf (so_aload_n dX12_test_65 rfl)) (so_node (so_leaf (so_gI (by decide) (by decide) wC12 wf_RX12_305 (fun _ _ _ => rfl) dX12_test_66)) (so_leaf (so_iret dX12_test_69 rfl))))))))
theorem pX12_test : ∀ pc, Pr (kX12_test pc) := (pr_node (pr_node (pr_node (pr_node (pr_node (pr_leaf (pr_al _ _)) (pr_leaf (pr_ic _ _))) (pr_node (pr_leaf (pr_pI _ _ _)) (pr_leaf (pr_al _ _)))) (pr_node (pr_node (pr_leaf (pr_gI _ _ _)) (pr_leaf (pr_zeq _ _))) (pr_node (pr_leaf (pr_il _ _)) (pr_node (pr_leaf (pr_i2l _)) (pr_leaf (pr_lc _ _)))))) (pr_node (pr_node (pr_node (pr_leaf (pr_lc _ _)) (pr_leaf (pr_ist _ _ GX12_isIn _))) (pr_node (pr_leaf (pr_zeq _ _)) (pr_node (pr_leaf (pr_al _ _)) (pr_leaf (pr_gI _ _ _))))) (pr_node (pr_node (pr_leaf (pr_ic _ _)) (pr_leaf (pr_cne _ _))) (pr_node (pr_leaf (pr_ic _ _)) (pr_node (pr_leaf (pr_iret)) (pr_leaf (pr_al _ _))))))) (pr_node (pr_node (pr_node (pr_node (pr_leaf (pr_gR _ _ _)) (pr_leaf (pr_al _ _))) (pr_node (pr_leaf (pr_gI _ _ _)) (pr_node (pr_leaf (pr_il _ _)) (pr_leaf (pr_iast _))))) (pr_node (pr_node (pr_leaf (pr_al _ _)) (pr_leaf (pr_gR _ _ _))) (pr_node (pr_leaf (pr_al _ _)) (pr_node (pr_leaf (pr_gI _ _ _)) (pr_leaf (pr_il _ _)))))) (pr_node (pr_node (pr_node (pr_leaf (pr_zast _)) (pr_leaf (pr_al _ _))) (pr_node (pr_leaf (pr_dupR _)) (pr_node (pr_leaf (pr_gI _ _ _)) (pr_leaf (pr_ic _ _))))) (pr_node (pr_node (pr_leaf (pr_iadd _)) (pr_leaf (pr_pI _ _ _))) (pr_node (pr_leaf (pr_al _ _)) (pr_node (pr_leaf (pr_gI _ _ _)) (pr_leaf (pr_iret))))))))
noncomputable def FX12_test : List EV → Hp → Option (RV × Hp) := Fm kX12_test 3
theorem CX12_test : Con yX12_test cX12_test 3 (some .int) 1 25 FX12_test := con_of (own := RX12) rfl (by decide +kernel) sX12_test pX12_test (fun z => by cases z)
theorem GX12_test : Gr FX12_test := Gr_Fm pX12_test 3
theorem dX12_crane_0 : decode cX12_crane 0 = .ok (.aload_n 0, 1) := by decide +kernel
theorem dX12_crane_1 : decode cX12_crane 1 = .ok (.iconst 0, 1) := by decide +kernel
theorem dX12_crane_2 : decode cX12_crane 2 = .ok (.putfield 105, 3) := by decide +kernel
theorem dX12_crane_5 : decode cX12_crane 5 = .ok (.aload_n 0, 1) := by decide +kernel
theorem dX12_crane_6 : decode cX12_crane 6 = .ok (.getfield 302, 3) := by decide +kernel
theorem dX12_crane_9 : decode cX12_crane 9 = .ok (.ifCond .ne 5, 3) := by decide +kernel
theorem dX12_crane_12 : decode cX12_crane 12 = .ok (.iconst (-1), 1) := by decide +kernel
theorem dX12_crane_13 : decode cX12_crane 13 = .ok (.ireturn, 1) := by decide +kernel
theorem dX12_crane_14 : decode cX12_crane 14 = .ok (.lconst 1, 1) := by decide +kernel
theorem dX12_crane_15 : decode cX12_crane 15 = .ok (.lstore_n 1, 1) := by decide +kernel
theorem dX12_crane_16 : decode cX12_crane 16 = .ok (.lconst 1, 1) := by decide +kernel
theorem dX12_crane_17 : decode cX12_crane 17 = .ok (.lstore_n 3, 1) := by decide +kernel
theorem dX12_crane_18 : decode cX12_crane 18 = .ok (.iconst 0, 1) := by decide +kernel
theorem dX12_crane_19 : decode cX12_crane 19 = .ok (.istore 5, 2) := by decide +kernel
theorem dX12_crane_21 : decode cX12_crane 21 = .ok (.iload 5, 2) := by decide +kernel
theorem dX12_crane_23 : decode cX12_crane 23 = .ok (.aload_n 0, 1) := by decide +kernel
theorem dX12_crane_24 : decode cX12_crane 24 = .ok (.getfield 305, 3) := by decide +kernel
theorem dX12_crane_27 : decode cX12_crane 27 = .ok (.if_icmp .ge 126, 3) := by decide +kernel
theorem dX12_crane_30 : decode cX12_crane 30 = .ok (.aload_n 0, 1) := by decide +kernel
theorem dX12_crane_31 : decode cX12_crane 31 = .ok (.getfield 87, 3) := by decide +kernel
theorem dX12_crane_34 : decode cX12_crane 34 = .ok (.iload 5, 2) := by decide +kernel
theorem dX12_crane_36 : decode cX12_crane 36 = .ok (.iaload, 1) := by decide +kernel
theorem dX12_crane_37 : decode cX12_crane 37 = .ok (.ifCond .ne 8, 3) := by decide +kernel
theorem dX12_crane_40 : decode cX12_crane 40 = .ok (.bipush 9, 2) := by decide +kernel
theorem dX12_crane_42 : decode cX12_crane 42 = .ok (.goto 21, 3) := by decide +kernel
theorem dX12_crane_45 : decode cX12_crane 45 = .ok (.aload_n 0, 1) := by decide +kernel
theorem dX12_crane_46 : decode cX12_crane 46 = .ok (.getfield 87, 3) := by decide +kernel
theorem dX12_crane_49 : decode cX12_crane 49 = .ok (.iload 5, 2) := by decide +kernel
theorem dX12_crane_51 : decode cX12_crane 51 = .ok (.iaload, 1) := by decide +kernel
theorem dX12_crane_52 : decode cX12_crane 52 = .ok (.iconst 1, 1) := by decide +kernel
theorem dX12_crane_53 : decode cX12_crane 53 = .ok (.if_icmp .ne 8, 3) := by decide +kernel
theorem dX12_crane_56 : decode cX12_crane 56 = .ok (.bipush 8, 2) := by decide +kernel
theorem dX12_crane_58 : decode cX12_crane 58 = .ok (.goto 5, 3) := by decide +kernel
theorem dX12_crane_61 : decode cX12_crane 61 = .ok (.bipush 6, 2) := by decide +kernel
theorem dX12_crane_63 : decode cX12_crane 63 = .ok (.istore 6, 2) := by decide +kernel
theorem dX12_crane_65 : decode cX12_crane 65 = .ok (.aload_n 0, 1) := by decide +kernel
theorem dX12_crane_66 : decode cX12_crane 66 = .ok (.getfield 87, 3) := by decide +kernel
theorem dX12_crane_69 : decode cX12_crane 69 = .ok (.iload 5, 2) := by decide +kernel
theorem dX12_crane_71 : decode cX12_crane 71 = .ok (.iaload, 1) := by decide +kernel
theorem dX12_crane_72 : decode cX12_crane 72 = .ok (.ifCond .ne 7, 3) := by decide +kernel
theorem dX12_crane_75 : decode cX12_crane 75 = .ok (.iconst 2, 1) := by decide +kernel
theorem dX12_crane_76 : decode cX12_crane 76 = .ok (.goto 19, 3) := by decide +kernel
theorem dX12_crane_79 : decode cX12_crane 79 = .ok (.aload_n 0, 1) := by decide +kernel
theorem dX12_crane_80 : decode cX12_crane 80 = .ok (.getfield 87, 3) := by decide +kernel
theorem dX12_crane_83 : decode cX12_crane 83 = .ok (.iload 5, 2) := by decide +kernel
theorem dX12_crane_85 : decode cX12_crane 85 = .ok (.iaload, 1) := by decide +kernel
theorem dX12_crane_86 : decode cX12_crane 86 = .ok (.iconst 1, 1) := by decide +kernel
theorem dX12_crane_87 : decode cX12_crane 87 = .ok (.if_icmp .ne 7, 3) := by decide +kernel
theorem dX12_crane_90 : decode cX12_crane 90 = .ok (.iconst 3, 1) := by decide +kernel
theorem dX12_crane_91 : decode cX12_crane 91 = .ok (.goto 4, 3) := by decide +kernel
theorem dX12_crane_94 : decode cX12_crane 94 = .ok (.iconst 5, 1) := by decide +kernel
theorem dX12_crane_95 : decode cX12_crane 95 = .ok (.istore 7, 2) := by decide +kernel
theorem dX12_crane_97 : decode cX12_crane 97 = .ok (.lload_n 1, 1) := by decide +kernel
theorem dX12_crane_98 : decode cX12_crane 98 = .ok (.aload_n 0, 1) := by decide +kernel
theorem dX12_crane_99 : decode cX12_crane 99 = .ok (.getfield 96, 3) := by decide +kernel
theorem dX12_crane_102 : decode cX12_crane 102 = .ok (.iload 5, 2) := by decide +kernel
theorem dX12_crane_104 : decode cX12_crane 104 = .ok (.baload, 1) := by decide +kernel
theorem dX12_crane_105 : decode cX12_crane 105 = .ok (.ifCond .eq 9, 3) := by decide +kernel
theorem dX12_crane_108 : decode cX12_crane 108 = .ok (.iload 6, 2) := by decide +kernel
theorem dX12_crane_110 : decode cX12_crane 110 = .ok (.i2l, 1) := by decide +kernel
theorem dX12_crane_111 : decode cX12_crane 111 = .ok (.goto 9, 3) := by decide +kernel
theorem dX12_crane_114 : decode cX12_crane 114 = .ok (.bipush 10, 2) := by decide +kernel
theorem dX12_crane_116 : decode cX12_crane 116 = .ok (.iload 6, 2) := by decide +kernel
theorem dX12_crane_118 : decode cX12_crane 118 = .ok (.isub, 1) := by decide +kernel
theorem dX12_crane_119 : decode cX12_crane 119 = .ok (.i2l, 1) := by decide +kernel
theorem dX12_crane_120 : decode cX12_crane 120 = .ok (.lmul, 1) := by decide +kernel
theorem dX12_crane_121 : decode cX12_crane 121 = .ok (.lstore_n 1, 1) := by decide +kernel
theorem dX12_crane_122 : decode cX12_crane 122 = .ok (.lload_n 3, 1) := by decide +kernel
theorem dX12_crane_123 : decode cX12_crane 123 = .ok (.aload_n 0, 1) := by decide +kernel
theorem dX12_crane_124 : decode cX12_crane 124 = .ok (.getfield 96, 3) := by decide +kernel
theorem dX12_crane_127 : decode cX12_crane 127 = .ok (.iload 5, 2) := by decide +kernel
theorem dX12_crane_129 : decode cX12_crane 129 = .ok (.baload, 1) := by decide +kernel
theorem dX12_crane_130 : decode cX12_crane 130 = .ok (.ifCond .eq 9, 3) := by decide +kernel
theorem dX12_crane_133 : decode cX12_crane 133 = .ok (.iload 7, 2) := by decide +kernel
theorem dX12_crane_135 : decode cX12_crane 135 = .ok (.i2l, 1) := by decide +kernel
theorem dX12_crane_136 : decode cX12_crane 136 = .ok (.goto 9, 3) := by decide +kernel
theorem dX12_crane_139 : decode cX12_crane 139 = .ok (.bipush 10, 2) := by decide +kernel
theorem dX12_crane_141 : decode cX12_crane 141 = .ok (.iload 7, 2) := by decide +kernel
theorem dX12_crane_143 : decode cX12_crane 143 = .ok (.isub, 1) := by decide +kernel
theorem dX12_crane_144 : decode cX12_crane 144 = .ok (.i2l, 1) := by decide +kernel
theorem dX12_crane_145 : decode cX12_crane 145 = .ok (.lmul, 1) := by decide +kernel
theorem dX12_crane_146 : decode cX12_crane 146 = .ok (.lstore_n 3, 1) := by decide +kernel
theorem dX12_crane_147 : decode cX12_crane 147 = .ok (.iinc 5 1, 3) := by decide +kernel
theorem dX12_crane_150 : decode cX12_crane 150 = .ok (.goto (-129), 3) := by decide +kernel
theorem dX12_crane_153 : decode cX12_crane 153 = .ok (.ldc2_w 152, 3) := by decide +kernel
theorem dX12_crane_156 : decode cX12_crane 156 = .ok (.lload_n 1, 1) := by decide +kernel
theorem dX12_crane_157 : decode cX12_crane 157 = .ok (.lmul, 1) := by decide +kernel
theorem dX12_crane_158 : decode cX12_crane 158 = .ok (.lload_n 1, 1) := by decide +kernel
theorem dX12_crane_159 : decode cX12_crane 159 = .ok (.lload_n 3, 1) := by decide +kernel
theorem dX12_crane_160 : decode cX12_crane 160 = .ok (.ladd, 1) := by decide +kernel
theorem dX12_crane_161 : decode cX12_crane 161 = .ok (.ldiv, 1) := by decide +kernel
theorem dX12_crane_162 : decode cX12_crane 162 = .ok (.l2i, 1) := by decide +kernel
theorem dX12_crane_163 : decode cX12_crane 163 = .ok (.ireturn, 1) := by decide +kernel
noncomputable def kX12_crane : Nat → Op := (nodeC 85 (nodeC 37 (nodeC 16 (nodeC 6 (nodeC 1 (nodeC 0 (leafC 0 (o_al 0 1)) (leafC 1 (o_ic (0) 2))) (nodeC 2 (leafC 2 (o_pI 12 0 5)) (nodeC 5 (leafC 5 (o_al 0 6)) (leafC 6 (o_gI 12 27 9))))) (nodeC 13 (nodeC 9 (leafC 9 (o_zne 14 12)) (nodeC 12 (leafC 12 (o_ic (-1) 13)) (leafC 13 (o_iret)))) (nodeC 14 (leafC 14 (o_lc (1) 15)) (nodeC 15 (leafC 15 (o_ls 1 16)) (leafC 16 (o_lc (1) 17)))))) (nodeC 24 (nodeC 19 (nodeC 17 (leafC 17 (o_ls 3 18)) (nodeC 18 (leafC 18 (o_ic (0) 19)) (leafC 19 (o_is 5 21)))) (nodeC 21 (leafC 21 (o_mask [2, 4, 6, 7] (o_il 5 23))) (nodeC 23 (leafC 23 (o_al 0 24)) (leafC 24 (o_gI 12 50 27))))) (nodeC 31 (nodeC 27 (leafC 27 (o_cge 153 30)) (nodeC 30 (leafC 30 (o_al 0 31)) (leafC 31 (o_gR 12 45 34)))) (nodeC 34 (leafC 34 (o_il 5 36)) (nodeC 36 (leafC 36 (o_iald 37)) (leafC 37 (o_zne 45 40))))))) (nodeC 61 (nodeC 49 (nodeC 42 (nodeC 40 (leafC 40 (o_ic (9) 42)) (leafC 42 (o_goto 63))) (nodeC 45 (leafC 45 (o_al 0 46)) (nodeC 46 (leafC 46 (o_gR 12 45 49)) (leafC 49 (o_il 5 51))))) (nodeC 53 (nodeC 51 (leafC 51 (o_iald 52)) (nodeC 52 (leafC 52 (o_ic (1) 53)) (leafC 53 (o_cne 61 56)))) (nodeC 56 (leafC 56 (o_ic (8) 58)) (nodeC 58 (leafC 58 (o_goto 63)) (leafC 61 (o_ic (6) 63)))))) (nodeC 72 (nodeC 66 (nodeC 63 (leafC 63 (o_is 6 65)) (nodeC 65 (leafC 65 (o_al 0 66)) (leafC 66 (o_gR 12 45 69)))) (nodeC 69 (leafC 69 (o_il 5 71)) (nodeC 71 (leafC 71 (o_iald 72)) (leafC 72 (o_zne 79 75))))) (nodeC 79 (nodeC 75 (leafC 75 (o_ic (2) 76)) (nodeC 76 (leafC 76 (o_goto 95)) (leafC 79 (o_al 0 80)))) (nodeC 80 (leafC 80 (o_gR 12 45 83)) (nodeC 83 (leafC 83 (o_il 5 85)) (leafC 85 (o_iald 86)))))))) (nodeC 123 (nodeC 104 (nodeC 94 (nodeC 87 (nodeC 86 (leafC 86 (o_ic (1) 87)) (leafC 87 (o_cne 94 90))) (nodeC 90 (leafC 90 (o_ic (3) 91)) (nodeC 91 (leafC 91 (o_goto 95)) (leafC 94 (o_ic (5) 95))))) (nodeC 98 (nodeC 95 (leafC 95 (o_mask [2, 4, 7] (o_is 7 97))) (nodeC 97 (leafC 97 (o_ll 1 98)) (leafC 98 (o_al 0 99)))) (nodeC 99 (leafC 99 (o_gR 12 48 102)) (nodeC 102 (leafC 102 (o_il 5 104)) (leafC 104 (o_zald 105)))))) (nodeC 116 (nodeC 110 (nodeC 105 (leafC 105 (o_zeq 114 108)) (nodeC 108 (leafC 108 (o_il 6 110)) (leafC 110 (o_i2l 111)))) (nodeC 111 (leafC 111 (o_goto 120)) (nodeC 114 (leafC 114 (o_ic (10) 116)) (leafC 116 (o_il 6 118))))) (nodeC 120 (nodeC 118 (leafC 118 (o_isub 119)) (nodeC 119 (leafC 119 (o_i2l 120)) (leafC 120 (o_lmul 121)))) (nodeC 121 (leafC 121 (o_ls 1 122)) (nodeC 122 (leafC 122 (o_ll 3 123)) (leafC 123 (o_al 0 124))))))) (nodeC 145 (nodeC 135 (nodeC 129 (nodeC 124 (leafC 124 (o_gR 12 48 127)) (nodeC 127 (leafC 127 (o_il 5 129)) (leafC 129 (o_zald 130)))) (nodeC 130 (leafC 130 (o_zeq 139 133)) (nodeC 133 (leafC 133 (o_il 7 135)) (leafC 135 (o_i2l 136))))) (nodeC 141 (nodeC 136 (leafC 136 (o_goto 145)) (nodeC 139 (leafC 139 (o_ic (10) 141)) (leafC 141 (o_il 7 143)))) (nodeC 143 (leafC 143 (o_isub 144)) (nodeC 144 (leafC 144 (o_i2l 145)) (leafC 145 (o_lmul 146)))))) (nodeC 157 (nodeC 150 (nodeC 146 (leafC 146 (o_ls 3 147)) (nodeC 147 (leafC 147 (o_inc 5 (1) 150)) (leafC 150 (o_goto 21)))) (nodeC 153 (leafC 153 (o_lc (1000000) 156)) (nodeC 156 (leafC 156 (o_ll 1 157)) (leafC 157 (o_lmul 158))))) (nodeC 160 (nodeC 158 (leafC 158 (o_ll 1 159)) (nodeC 159 (leafC 159 (o_ll 3 160)) (leafC 160 (o_ladd 161)))) (nodeC 161 (leafC 161 (o_ldiv 162)) (nodeC 162 (leafC 162 (o_l2i 163)) (leafC 163 (o_iret)))))))))
theorem sX12_crane : ∀ pc, SoundOp cX12_crane RX12 8 (some .int) false 0 0 pc (kX12_crane pc) := (so_node (so_node (so_node (so_node (so_node (so_node (so_leaf (so_aload_n dX12_crane_0 rfl)) (so_leaf (so_iconst dX12_crane_1 (by decide)))) (so_node (so_leaf (so_pI (by decide) (by decide) wC12 wf_RX12_105 (Or.inl rfl) rfl dX12_crane_2)) (so_node (so_leaf (so_aload_n dX12_crane_5 rfl)) (so_leaf (so_gI (by decide) (by decide) wC12 wf_RX12_302 (fun _ _ _ => rfl) dX12_crane_6))))) (so_node (so_node (so_leaf (so_zne dX12_crane_9 (by decide))) (so_node (so_leaf (so_iconst dX12_crane_12 (by decide))) (so_leaf (so_iret dX12_crane_13 rfl)))) (so_node (so_leaf (so_lconst dX12_crane_14 (by decide))) (so_node (so_leaf (so_lstore_n dX12_crane_15 rfl (by decide))) (so_leaf (so_lconst dX12_crane_16 (by decide))))))) (so_node (so_node (so_node (so_leaf (so_lstore_n dX12_crane_17 rfl (by decide))) (so_node (so_leaf (so_iconst dX12_crane_18 (by decide))) (so_leaf (so_istore dX12_crane_19 (by decide))))) (so_node (so_leaf (so_mask (so_iload dX12_crane_21))) (so_node (so_leaf (so_aload_n dX12_crane_23 rfl)) (so_leaf (so_gI (by decide) (by decide) wC12 wf_RX12_305 (fun _ _ _ => rfl) dX12_crane_24))))) (so_node (so_node (so_leaf (so_cge dX12_crane_27 (by decide))) (so_node (so_leaf (so_aload_n dX12_crane_30 rfl)) (so_leaf (so_gR (by decide) (by decide) wC12 wf_RX12_87 (fun _ _ _ => rfl) dX12_crane_31)))) (so_node (so_leaf (so_iload dX12_crane_34)) (so_node (so_leaf (so_iald dX12_crane_36)) (so_leaf (so_zne dX12_crane_37 (by decide)))))))) (so_node (so_node (so_node (so_node (so_leaf (so_bipush dX12_crane_40 (by decide))) (so_leaf (so_goto dX12_crane_42 (by decide)))) (so_node (so_leaf (so_aload_n dX12_crane_45 rfl)) (so_node (so_leaf (so_gR (by decide) (by decide) wC12 wf_RX12_87 (fun _ _ _ => rfl) dX12_crane_46)) (so_leaf (so_iload dX12_crane_49))))) (so_node (so_node (so_leaf (so_iald dX12_crane_51)) (so_node (so_leaf (so_iconst dX12_crane_52 (by decide))) (so_leaf (so_cne dX12_crane_53 (by decide))))) (so_node (so_leaf (so_bipush dX12_crane_56 (by decide))) (so_node (so_leaf (so_goto dX12_crane_58 (by decide))) (so_leaf (so_bipush dX12_crane_61 (by decide))))))) (so_node (so_node (so_node (so_leaf (so_istore dX12_crane_63 (by decide))) (so_node (so_leaf (so_aload_n dX12_crane_65 rfl)) (so_leaf (so_gR (by decide) (by decide) wC12 wf_RX12_87 (fun _ _ _ => rfl) dX12_crane_66)))) (so_node (so_leaf (so_iload dX12_crane_69)) (so_node (so_leaf (so_iald dX12_crane_71)) (so_leaf (so_zne dX12_crane_72 (by decide)))))) (so_node (so_node (so_leaf (so_iconst dX12_crane_75 (by decide))) (so_node (so_leaf (so_goto dX12_crane_76 (by decide))) (so_leaf (so_aload_n dX12_crane_79 rfl)))) (so_node (so_leaf (so_gR (by decide) (by decide) wC12 wf_RX12_87 (fun _ _ _ => rfl) dX12_crane_80)) (so_node (so_leaf (so_iload dX12_crane_83)) (so_leaf (so_iald dX12_crane_85)))))))) (so_node (so_node (so_node (so_node (so_node (so_leaf (so_iconst dX12_crane_86 (by decide))) (so_leaf (so_cne dX12_crane_87 (by decide)))) (so_node (so_leaf (so_iconst dX12_crane_90 (by decide))) (so_node (so_leaf (so_goto dX12_crane_91 (by decide))) (so_leaf (so_iconst dX12_crane_94 (by decide)))))) (so_node (so_node (so_leaf (so_mask (so_istore dX12_crane_95 (by decide)))) (so_node (so_leaf (so_lload_n dX12_crane_97 rfl)) (so_leaf (so_aload_n dX12_crane_98 rfl)))) (so_node (so_leaf (so_gR (by decide) (by decide) wC12 wf_RX12_96 (fun _ _ _ => rfl) dX12_crane_99)) (so_node (so_leaf (so_iload dX12_crane_102)) (so_leaf (so_zald dX12_crane_104)))))) (so_node (so_node (so_node (so_leaf (so_zeq dX12_crane_105 (by decide))) (so_node (so_leaf (so_iload dX12_crane_108)) (so_leaf (so_i2l dX12_crane_110)))) (so_node (so_leaf (so_goto dX12_crane_111 (by decide))) (so_node (so_leaf (so_bipush dX12_crane_114 (by decide))) (so_leaf (so_iload dX12_crane_116))))) (so_node (so_node (so_leaf (so_isub dX12_crane_118)) (so_node (so_leaf (so_i2l dX12_crane_119)) (so_leaf (so_lmul dX12_crane_120)))) (so_node (so_leaf (so_lstore_n dX12_crane_121 rfl (by decide))) (so_node (so_leaf (so_lload_n dX12_crane_122 rfl)) (so_leaf (so_aload_n dX12_crane_123 rfl))))))) (so_node (so_node (so_node (so_node (so_leaf (so_gR (by decide) (by decide) wC12 wf_RX12_96 (fun _ _ _ => rfl) dX12_crane_124)) (so_node (so_leaf (so_iload dX12_crane_127)) (so_leaf (so_zald dX12_crane_129)))) (so_node (so_leaf (so_zeq dX12_crane_130 (by decide))) (so_node (so_leaf (so_iload dX12_crane_133)) (so_leaf (so_i2l dX12_crane_135))))) (so_node (so_node (so_leaf (so_goto dX12_crane_136 (by decide))) (so_node (so_leaf (so_bipush dX12_crane_139 (by decide))) (so_leaf (so_iload dX12_crane_141)))) (so_node (so_leaf (so_isub dX12_crane_143)) (so_node (so_leaf (so_i2l dX12_crane_144)) (so_leaf (so_lmul dX12_crane_145)))))) (so_node (so_node (so_node (so_leaf (so_lstore_n dX12_crane_146 rfl (by decide))) (so_node (so_leaf (so_iinc dX12_crane_147 (by decide) (by decide))) (so_leaf (so_goto dX12_crane_150 (by decide))))) (so_node (so_leaf (so_ldc2 wk_RX12_152 dX12_crane_153)) (so_node (so_leaf (so_lload_n dX12_crane_156 rfl)) (so_leaf (so_lmul dX12_crane_157))))) (so_node (so_node (so_leaf (so_lload_n dX12_crane_158 rfl)) (so_node (so_leaf (so_lload_n dX12_crane_159 rfl)) (so_leaf (so_ladd dX12_crane_160)))) (so_node (so_leaf (so_ldiv dX12_crane_161)) (so_node (so_leaf (so_l2i dX12_crane_162)) (so_leaf (so_iret dX12_crane_163 rfl)))))))))
theorem pX12_crane : ∀ pc, Pr (kX12_crane pc) := (pr_node (pr_node (pr_node (pr_node (pr_node (pr_node (pr_leaf (pr_al _ _)) (pr_leaf (pr_ic _ _))) (pr_node (pr_leaf (pr_pI _ _ _)) (pr_node (pr_leaf (pr_al _ _)) (pr_leaf (pr_gI _ _ _))))) (pr_node (pr_node (pr_leaf (pr_zne _ _)) (pr_node (pr_leaf (pr_ic _ _)) (pr_leaf (pr_iret)))) (pr_node (pr_leaf (pr_lc _ _)) (pr_node (pr_leaf (pr_ls _ _)) (pr_leaf (pr_lc _ _)))))) (pr_node (pr_node (pr_node (pr_leaf (pr_ls _ _)) (pr_node (pr_leaf (pr_ic _ _)) (pr_leaf (pr_is _ _)))) (pr_node (pr_leaf (pr_mask (pr_il _ _))) (pr_node (pr_leaf (pr_al _ _)) (pr_leaf (pr_gI _ _ _))))) (pr_node (pr_node (pr_leaf (pr_cge _ _)) (pr_node (pr_leaf (pr_al _ _)) (pr_leaf (pr_gR _ _ _)))) (pr_node (pr_leaf (pr_il _ _)) (pr_node (pr_leaf (pr_iald _)) (pr_leaf (pr_zne _ _))))))) (pr_node (pr_node (pr_node (pr_node (pr_leaf (pr_ic _ _)) (pr_leaf (pr_goto _))) (pr_node (pr_leaf (pr_al _ _)) (pr_node (pr_leaf (pr_gR _ _ _)) (pr_leaf (pr_il _ _))))) (pr_node (pr_node (pr_leaf (pr_iald _)) (pr_node (pr_leaf (pr_ic _ _)) (pr_leaf (pr_cne _ _)))) (pr_node (pr_leaf (pr_ic _ _)) (pr_node (pr_leaf (pr_goto _)) (pr_leaf (pr_ic _ _)))))) (pr_node (pr_node (pr_node (pr_leaf (pr_is _ _)) (pr_node (pr_leaf (pr_al _ _)) (pr_leaf (pr_gR _ _ _)))) (pr_node (pr_leaf (pr_il _ _)) (pr_node (pr_leaf (pr_iald _)) (pr_leaf (pr_zne _ _))))) (pr_node (pr_node (pr_leaf (pr_ic _ _)) (pr_node (pr_leaf (pr_goto _)) (pr_leaf (pr_al _ _)))) (pr_node (pr_leaf (pr_gR _ _ _)) (pr_node (pr_leaf (pr_il _ _)) (pr_leaf (pr_iald _)))))))) (pr_node (pr_node (pr_node (pr_node (pr_node (pr_leaf (pr_ic _ _)) (pr_leaf (pr_cne _ _))) (pr_node (pr_leaf (pr_ic _ _)) (pr_node (pr_leaf (pr_goto _)) (pr_leaf (pr_ic _ _))))) (pr_node (pr_node (pr_leaf (pr_mask (pr_is _ _))) (pr_node (pr_leaf (pr_ll _ _)) (pr_leaf (pr_al _ _)))) (pr_node (pr_leaf (pr_gR _ _ _)) (pr_node (pr_leaf (pr_il _ _)) (pr_leaf (pr_zald _)))))) (pr_node (pr_node (pr_node (pr_leaf (pr_zeq _ _)) (pr_node (pr_leaf (pr_il _ _)) (pr_leaf (pr_i2l _)))) (pr_node (pr_leaf (pr_goto _)) (pr_node (pr_leaf (pr_ic _ _)) (pr_leaf (pr_il _ _))))) (pr_node (pr_node (pr_leaf (pr_isub _)) (pr_node (pr_leaf (pr_i2l _)) (pr_leaf (pr_lmul _)))) (pr_node (pr_leaf (pr_ls _ _)) (pr_node (pr_leaf (pr_ll _ _)) (pr_leaf (pr_al _ _))))))) (pr_node (pr_node (pr_node (pr_node (pr_leaf (pr_gR _ _ _)) (pr_node (pr_leaf (pr_il _ _)) (pr_leaf (pr_zald _)))) (pr_node (pr_leaf (pr_zeq _ _)) (pr_node (pr_leaf (pr_il _ _)) (pr_leaf (pr_i2l _))))) (pr_node (pr_node (pr_leaf (pr_goto _)) (pr_node (pr_leaf (pr_ic _ _)) (pr_leaf (pr_il _ _)))) (pr_node (pr_leaf (pr_isub _)) (pr_node (pr_leaf (pr_i2l _)) (pr_leaf (pr_lmul _)))))) (pr_node (pr_node (pr_node (pr_leaf (pr_ls _ _)) (pr_node (pr_leaf (pr_inc _ _ _)) (pr_leaf (pr_goto _)))) (pr_node (pr_leaf (pr_lc _ _)) (pr_node (pr_leaf (pr_ll _ _)) (pr_leaf (pr_lmul _))))) (pr_node (pr_node (pr_leaf (pr_ll _ _)) (pr_node (pr_leaf (pr_ll _ _)) (pr_leaf (pr_ladd _)))) (pr_node (pr_leaf (pr_ldiv _)) (pr_node (pr_leaf (pr_l2i _)) (pr_leaf (pr_iret)))))))))
noncomputable def FX12_crane : List EV → Hp → Option (RV × Hp) := Fm kX12_crane 8
theorem CX12_crane : Con yX12_crane cX12_crane 8 (some .int) 0 0 FX12_crane := con_of (own := RX12) rfl (by decide +kernel) sX12_crane pX12_crane (fun z => by cases z)
theorem GX12_crane : Gr FX12_crane := Gr_Fm pX12_crane 8
theorem dX12_sign_0 : decode cX12_sign 0 = .ok (.aload_n 0, 1) := by decide +kernel
theorem dX12_sign_1 : decode cX12_sign 1 = .ok (.iconst 0, 1) := by decide +kernel
theorem dX12_sign_2 : decode cX12_sign 2 = .ok (.putfield 105, 3) := by decide +kernel
theorem dX12_sign_5 : decode cX12_sign 5 = .ok (.aload_n 0, 1) := by decide +kernel
theorem dX12_sign_6 : decode cX12_sign 6 = .ok (.getfield 302, 3) := by decide +kernel
theorem dX12_sign_9 : decode cX12_sign 9 = .ok (.ifCond .eq 36, 3) := by decide +kernel
theorem dX12_sign_12 : decode cX12_sign 12 = .ok (.iload_n 1, 1) := by decide +kernel
theorem dX12_sign_13 : decode cX12_sign 13 = .ok (.i2l, 1) := by decide +kernel
theorem dX12_sign_14 : decode cX12_sign 14 = .ok (.lconst 0, 1) := by decide +kernel
theorem dX12_sign_15 : decode cX12_sign 15 = .ok (.ldc2_w 280, 3) := by decide +kernel
theorem dX12_sign_18 : decode cX12_sign 18 = .ok (.invokestatic 225, 3) := by decide +kernel
theorem dX12_sign_21 : decode cX12_sign 21 = .ok (.ifCond .eq 24, 3) := by decide +kernel
theorem dX12_sign_24 : decode cX12_sign 24 = .ok (.iload_n 2, 1) := by decide +kernel
theorem dX12_sign_25 : decode cX12_sign 25 = .ok (.i2l, 1) := by decide +kernel
theorem dX12_sign_26 : decode cX12_sign 26 = .ok (.lconst 0, 1) := by decide +kernel
theorem dX12_sign_27 : decode cX12_sign 27 = .ok (.ldc2_w 391, 3) := by decide +kernel
theorem dX12_sign_30 : decode cX12_sign 30 = .ok (.invokestatic 225, 3) := by decide +kernel
theorem dX12_sign_33 : decode cX12_sign 33 = .ok (.ifCond .eq 12, 3) := by decide +kernel
theorem dX12_sign_36 : decode cX12_sign 36 = .ok (.aload_n 0, 1) := by decide +kernel
theorem dX12_sign_37 : decode cX12_sign 37 = .ok (.getfield 308, 3) := by decide +kernel
theorem dX12_sign_40 : decode cX12_sign 40 = .ok (.bipush 10, 2) := by decide +kernel
theorem dX12_sign_42 : decode cX12_sign 42 = .ok (.if_icmp .ne 5, 3) := by decide +kernel
theorem dX12_sign_45 : decode cX12_sign 45 = .ok (.iconst (-1), 1) := by decide +kernel
theorem dX12_sign_46 : decode cX12_sign 46 = .ok (.ireturn, 1) := by decide +kernel
theorem dX12_sign_47 : decode cX12_sign 47 = .ok (.aload_n 0, 1) := by decide +kernel
theorem dX12_sign_48 : decode cX12_sign 48 = .ok (.getfield 90, 3) := by decide +kernel
theorem dX12_sign_51 : decode cX12_sign 51 = .ok (.aload_n 0, 1) := by decide +kernel
theorem dX12_sign_52 : decode cX12_sign 52 = .ok (.getfield 308, 3) := by decide +kernel
theorem dX12_sign_55 : decode cX12_sign 55 = .ok (.iload_n 1, 1) := by decide +kernel
theorem dX12_sign_56 : decode cX12_sign 56 = .ok (.iastore, 1) := by decide +kernel
theorem dX12_sign_57 : decode cX12_sign 57 = .ok (.aload_n 0, 1) := by decide +kernel
theorem dX12_sign_58 : decode cX12_sign 58 = .ok (.getfield 93, 3) := by decide +kernel
theorem dX12_sign_61 : decode cX12_sign 61 = .ok (.aload_n 0, 1) := by decide +kernel
theorem dX12_sign_62 : decode cX12_sign 62 = .ok (.getfield 308, 3) := by decide +kernel
theorem dX12_sign_65 : decode cX12_sign 65 = .ok (.iload_n 2, 1) := by decide +kernel
theorem dX12_sign_66 : decode cX12_sign 66 = .ok (.iastore, 1) := by decide +kernel
theorem dX12_sign_67 : decode cX12_sign 67 = .ok (.aload_n 0, 1) := by decide +kernel
theorem dX12_sign_68 : decode cX12_sign 68 = .ok (.getfield 99, 3) := by decide +kernel
theorem dX12_sign_71 : decode cX12_sign 71 = .ok (.aload_n 0, 1) := by decide +kernel
theorem dX12_sign_72 : decode cX12_sign 72 = .ok (.getfield 308, 3) := by decide +kernel
theorem dX12_sign_75 : decode cX12_sign 75 = .ok (.iload_n 3, 1) := by decide +kernel
theorem dX12_sign_76 : decode cX12_sign 76 = .ok (.bastore, 1) := by decide +kernel
theorem dX12_sign_77 : decode cX12_sign 77 = .ok (.aload_n 0, 1) := by decide +kernel
theorem dX12_sign_78 : decode cX12_sign 78 = .ok (.dup, 1) := by decide +kernel
theorem dX12_sign_79 : decode cX12_sign 79 = .ok (.getfield 308, 3) := by decide +kernel
theorem dX12_sign_82 : decode cX12_sign 82 = .ok (.iconst 1, 1) := by decide +kernel
theorem dX12_sign_83 : decode cX12_sign 83 = .ok (.iadd, 1) := by decide +kernel
theorem dX12_sign_84 : decode cX12_sign 84 = .ok (.putfield 308, 3) := by decide +kernel
theorem dX12_sign_87 : decode cX12_sign 87 = .ok (.aload_n 0, 1) := by decide +kernel
theorem dX12_sign_88 : decode cX12_sign 88 = .ok (.getfield 308, 3) := by decide +kernel
theorem dX12_sign_91 : decode cX12_sign 91 = .ok (.ireturn, 1) := by decide +kernel
noncomputable def kX12_sign : Nat → Op := (nodeC 47 (nodeC 21 (nodeC 9 (nodeC 2 (nodeC 0 (leafC 0 (o_al 0 1)) (nodeC 1 (leafC 1 (o_ic (0) 2)) (leafC 2 (o_pI 12 0 5)))) (nodeC 5 (leafC 5 (o_al 0 6)) (nodeC 6 (leafC 6 (o_gI 12 27 9)) (leafC 9 (o_zeq 45 12))))) (nodeC 14 (nodeC 12 (leafC 12 (o_il 1 13)) (nodeC 13 (leafC 13 (o_i2l 14)) (leafC 14 (o_lc (0) 15)))) (nodeC 15 (leafC 15 (o_lc (2) 18)) (nodeC 18 (leafC 18 (o_ist 3 1 FX12_isIn 21)) (leafC 21 (o_zeq 45 24)))))) (nodeC 33 (nodeC 26 (nodeC 24 (leafC 24 (o_il 2 25)) (nodeC 25 (leafC 25 (o_i2l 26)) (leafC 26 (o_lc (0) 27)))) (nodeC 27 (leafC 27 (o_lc (99) 30)) (nodeC 30 (leafC 30 (o_ist 3 1 FX12_isIn 33)) (leafC 33 (o_zeq 45 36))))) (nodeC 40 (nodeC 36 (leafC 36 (o_al 0 37)) (nodeC 37 (leafC 37 (o_gI 12 51 40)) (leafC 40 (o_ic (10) 42)))) (nodeC 45 (nodeC 42 (leafC 42 (o_cne 47 45)) (leafC 45 (o_ic (-1) 46))) (nodeC 46 (leafC 46 (o_iret)) (leafC 47 (o_al 0 48))))))) (nodeC 68 (nodeC 57 (nodeC 52 (nodeC 48 (leafC 48 (o_gR 12 46 51)) (nodeC 51 (leafC 51 (o_al 0 52)) (leafC 52 (o_gI 12 51 55)))) (nodeC 55 (leafC 55 (o_il 1 56)) (nodeC 56 (leafC 56 (o_iast 57)) (leafC 57 (o_al 0 58))))) (nodeC 62 (nodeC 58 (leafC 58 (o_gR 12 47 61)) (nodeC 61 (leafC 61 (o_al 0 62)) (leafC 62 (o_gI 12 51 65)))) (nodeC 66 (nodeC 65 (leafC 65 (o_il 2 66)) (leafC 66 (o_iast 67))) (nodeC 67 (leafC 67 (o_al 0 68)) (leafC 68 (o_gR 12 49 71)))))) (nodeC 78 (nodeC 75 (nodeC 71 (leafC 71 (o_al 0 72)) (nodeC 72 (leafC 72 (o_gI 12 51 75)) (leafC 75 (o_il 3 76)))) (nodeC 76 (leafC 76 (o_zast 77)) (nodeC 77 (leafC 77 (o_al 0 78)) (leafC 78 (o_dupR 79))))) (nodeC 83 (nodeC 79 (leafC 79 (o_gI 12 51 82)) (nodeC 82 (leafC 82 (o_ic (1) 83)) (leafC 83 (o_iadd 84)))) (nodeC 87 (nodeC 84 (leafC 84 (o_pI 12 51 87)) (leafC 87 (o_al 0 88))) (nodeC 88 (leafC 88 (o_gI 12 51 91)) (leafC 91 (o_iret))))))))
theorem sX12_sign : ∀ pc, SoundOp cX12_sign RX12 4 (some .int) false 1 25 pc (kX12_sign pc) := (so_node (so_node (so_node (so_node (so_node (so_leaf (so_aload_n dX12_sign_0 rfl)) (so_node (so_leaf (so_iconst dX12_sign_1 (by decide))) (so_leaf (so_pI (by decide) (by decide) wC12 wf_RX12_105 (Or.inl rfl) rfl dX12_sign_2)))) (so_node (so_leaf (so_aload_n dX12_sign_5 rfl)) (so_node (so_leaf (so_gI (by decide) (by decide) wC12 wf_RX12_302 (fun _ _ _ => rfl) dX12_sign_6)) (so_leaf (so_zeq dX12_sign_9 (by decide)))))) (so_node (so_node (so_leaf (so_iload_n dX12_sign_12 rfl)) (so_node (so_leaf (so_i2l dX12_sign_13)) (so_leaf (so_lconst dX12_sign_14 (by decide))))) (so_node (so_leaf (so_ldc2 wk_RX12_280 dX12_sign_15)) (so_node (so_leaf (so_ist CX12_isIn rfl wm_RX12_225 wst_X12_isIn wny_X12_isIn wc_X12_isIn (by decide +kernel) (by decide) (by decide) dX12_sign_18)) (so_leaf (so_zeq dX12_sign_21 (by decide))))))) (so_node (so_node (so_node (so_leaf (so_iload_n dX12_sign_24 rfl)) (so_node (so_leaf (so_i2l dX12_sign_25)) (so_leaf (so_lconst dX12_sign_26 (by decide))))) (so_node (so_leaf (so_ldc2 wk_RX12_391 dX12_sign_27)) (so_node (so_leaf (so_ist CX12_isIn rfl wm_RX12_225 wst_X12_isIn wny_X12_isIn wc_X12_isIn (by decide +kernel) (by decide) (by decide) dX12_sign_30)) (so_leaf (so_zeq dX12_sign_33 (by decide)))))) (so_node (so_node (so_leaf (so_aload_n dX12_sign_36 rfl)) (so_node (so_leaf (so_gI (by decide) (by decide) wC12 wf_RX12_308 (fun _ _ _ => rfl) dX12_sign_37)) (so_leaf (so_bipush dX12_sign_40 (by decide))))) (so_node (so_node (so_leaf (so_cne dX12_sign_42 (by decide))) (so_leaf (so_iconst dX12_sign_45 (by decide)))) (so_node (so_leaf (so_iret dX12_sign_46 rfl)) (so_leaf (so_aload_n dX12_sign_47 rfl))))))) (so_node (so_node (so_node (so_node (so_leaf (so_gR (by decide) (by decide) wC12 wf_RX12_90 (fun _ _ _ => rfl) dX12_sign_48)) (so_node (so_leaf (so_aload_n dX12_sign_51 rfl)) (so_leaf (so_gI (by decide) (by decide) wC12 wf_RX12_308 (fun _ _ _ => rfl) dX12_sign_52)))) (so_node (so_leaf (so_iload_n dX12_sign_55 rfl)) (so_node (so_leaf (so_iast dX12_sign_56)) (so_leaf (so_aload_n dX12_sign_57 rfl))))) (so_node (so_node (so_leaf (so_gR (by decide) (by decide) wC12 wf_RX12_93 (fun _ _ _ => rfl) dX12_sign_58)) (so_node (so_leaf (so_aload_n dX12_sign_61 rfl)) (so_leaf (so_gI (by decide) (by decide) wC12 wf_RX12_308 (fun _ _ _ => rfl) dX12_sign_62)))) (so_node (so_node (so_leaf (so_iload_n dX12_sign_65 rfl)) (so_leaf (so_iast dX12_sign_66))) (so_node (so_leaf (so_aload_n dX12_sign_67 rfl)) (so_leaf (so_gR (by decide) (by decide) wC12 wf_RX12_99 (fun _ _ _ => rfl) dX12_sign_68)))))) (so_node (so_node (so_node (so_leaf (so_aload_n dX12_sign_71 rfl)) (so_node (so_leaf (so_gI (by decide) (by decide) wC12 wf_RX12_308 (fun _ _ _ => rfl) dX12_sign_72)) (so_leaf (so_iload_n dX12_sign_75 rfl)))) (so_node (so_leaf (so_zast dX12_sign_76)) (so_node (so_leaf (so_aload_n dX12_sign_77 rfl)) (so_leaf (so_dupR dX12_sign_78))))) (so_node (so_node (so_leaf (so_gI (by decide) (by decide) wC12 wf_RX12_308 (fun _ _ _ => rfl) dX12_sign_79)) (so_node (so_leaf (so_iconst dX12_sign_82 (by decide))) (so_leaf (so_iadd dX12_sign_83)))) (so_node (so_node (so_leaf (so_pI (by decide) (by decide) wC12 wf_RX12_308 (Or.inl rfl) rfl dX12_sign_84)) (so_leaf (so_aload_n dX12_sign_87 rfl))) (so_node (so_leaf (so_gI (by decide) (by decide) wC12 wf_RX12_308 (fun _ _ _ => rfl) dX12_sign_88)) (so_leaf (so_iret dX12_sign_91 rfl))))))))
theorem pX12_sign : ∀ pc, Pr (kX12_sign pc) := (pr_node (pr_node (pr_node (pr_node (pr_node (pr_leaf (pr_al _ _)) (pr_node (pr_leaf (pr_ic _ _)) (pr_leaf (pr_pI _ _ _)))) (pr_node (pr_leaf (pr_al _ _)) (pr_node (pr_leaf (pr_gI _ _ _)) (pr_leaf (pr_zeq _ _))))) (pr_node (pr_node (pr_leaf (pr_il _ _)) (pr_node (pr_leaf (pr_i2l _)) (pr_leaf (pr_lc _ _)))) (pr_node (pr_leaf (pr_lc _ _)) (pr_node (pr_leaf (pr_ist _ _ GX12_isIn _)) (pr_leaf (pr_zeq _ _)))))) (pr_node (pr_node (pr_node (pr_leaf (pr_il _ _)) (pr_node (pr_leaf (pr_i2l _)) (pr_leaf (pr_lc _ _)))) (pr_node (pr_leaf (pr_lc _ _)) (pr_node (pr_leaf (pr_ist _ _ GX12_isIn _)) (pr_leaf (pr_zeq _ _))))) (pr_node (pr_node (pr_leaf (pr_al _ _)) (pr_node (pr_leaf (pr_gI _ _ _)) (pr_leaf (pr_ic _ _)))) (pr_node (pr_node (pr_leaf (pr_cne _ _)) (pr_leaf (pr_ic _ _))) (pr_node (pr_leaf (pr_iret)) (pr_leaf (pr_al _ _))))))) (pr_node (pr_node (pr_node (pr_node (pr_leaf (pr_gR _ _ _)) (pr_node (pr_leaf (pr_al _ _)) (pr_leaf (pr_gI _ _ _)))) (pr_node (pr_leaf (pr_il _ _)) (pr_node (pr_leaf (pr_iast _)) (pr_leaf (pr_al _ _))))) (pr_node (pr_node (pr_leaf (pr_gR _ _ _)) (pr_node (pr_leaf (pr_al _ _)) (pr_leaf (pr_gI _ _ _)))) (pr_node (pr_node (pr_leaf (pr_il _ _)) (pr_leaf (pr_iast _))) (pr_node (pr_leaf (pr_al _ _)) (pr_leaf (pr_gR _ _ _)))))) (pr_node (pr_node (pr_node (pr_leaf (pr_al _ _)) (pr_node (pr_leaf (pr_gI _ _ _)) (pr_leaf (pr_il _ _)))) (pr_node (pr_leaf (pr_zast _)) (pr_node (pr_leaf (pr_al _ _)) (pr_leaf (pr_dupR _))))) (pr_node (pr_node (pr_leaf (pr_gI _ _ _)) (pr_node (pr_leaf (pr_ic _ _)) (pr_leaf (pr_iadd _)))) (pr_node (pr_node (pr_leaf (pr_pI _ _ _)) (pr_leaf (pr_al _ _))) (pr_node (pr_leaf (pr_gI _ _ _)) (pr_leaf (pr_iret))))))))
noncomputable def FX12_sign : List EV → Hp → Option (RV × Hp) := Fm kX12_sign 4
theorem CX12_sign : Con yX12_sign cX12_sign 4 (some .int) 1 25 FX12_sign := con_of (own := RX12) rfl (by decide +kernel) sX12_sign pX12_sign (fun z => by cases z)
theorem GX12_sign : Gr FX12_sign := Gr_Fm pX12_sign 4
theorem dX12_isFrom_0 : decode cX12_isFrom 0 = .ok (.iconst 0, 1) := by decide +kernel
theorem dX12_isFrom_1 : decode cX12_isFrom 1 = .ok (.istore_n 2, 1) := by decide +kernel
theorem dX12_isFrom_2 : decode cX12_isFrom 2 = .ok (.iload_n 2, 1) := by decide +kernel
theorem dX12_isFrom_3 : decode cX12_isFrom 3 = .ok (.aload_n 0, 1) := by decide +kernel
theorem dX12_isFrom_4 : decode cX12_isFrom 4 = .ok (.getfield 308, 3) := by decide +kernel
theorem dX12_isFrom_7 : decode cX12_isFrom 7 = .ok (.if_icmp .ge 45, 3) := by decide +kernel
theorem dX12_isFrom_10 : decode cX12_isFrom 10 = .ok (.aload_n 0, 1) := by decide +kernel
theorem dX12_isFrom_11 : decode cX12_isFrom 11 = .ok (.iload_n 1, 1) := by decide +kernel
theorem dX12_isFrom_12 : decode cX12_isFrom 12 = .ok (.aload_n 0, 1) := by decide +kernel
theorem dX12_isFrom_13 : decode cX12_isFrom 13 = .ok (.getfield 90, 3) := by decide +kernel
theorem dX12_isFrom_16 : decode cX12_isFrom 16 = .ok (.iload_n 2, 1) := by decide +kernel
theorem dX12_isFrom_17 : decode cX12_isFrom 17 = .ok (.iaload, 1) := by decide +kernel
theorem dX12_isFrom_18 : decode cX12_isFrom 18 = .ok (.invokevirtual 406, 3) := by decide +kernel
theorem dX12_isFrom_21 : decode cX12_isFrom 21 = .ok (.aload_n 0, 1) := by decide +kernel
theorem dX12_isFrom_22 : decode cX12_isFrom 22 = .ok (.getfield 93, 3) := by decide +kernel
theorem dX12_isFrom_25 : decode cX12_isFrom 25 = .ok (.iload_n 2, 1) := by decide +kernel
theorem dX12_isFrom_26 : decode cX12_isFrom 26 = .ok (.iaload, 1) := by decide +kernel
theorem dX12_isFrom_27 : decode cX12_isFrom 27 = .ok (.if_icmp .lt 7, 3) := by decide +kernel
theorem dX12_isFrom_30 : decode cX12_isFrom 30 = .ok (.iconst 1, 1) := by decide +kernel
theorem dX12_isFrom_31 : decode cX12_isFrom 31 = .ok (.goto 4, 3) := by decide +kernel
theorem dX12_isFrom_34 : decode cX12_isFrom 34 = .ok (.iconst 0, 1) := by decide +kernel
theorem dX12_isFrom_35 : decode cX12_isFrom 35 = .ok (.aload_n 0, 1) := by decide +kernel
theorem dX12_isFrom_36 : decode cX12_isFrom 36 = .ok (.getfield 99, 3) := by decide +kernel
theorem dX12_isFrom_39 : decode cX12_isFrom 39 = .ok (.iload_n 2, 1) := by decide +kernel
theorem dX12_isFrom_40 : decode cX12_isFrom 40 = .ok (.baload, 1) := by decide +kernel
theorem dX12_isFrom_41 : decode cX12_isFrom 41 = .ok (.if_icmp .eq 5, 3) := by decide +kernel
theorem dX12_isFrom_44 : decode cX12_isFrom 44 = .ok (.iconst 0, 1) := by decide +kernel
theorem dX12_isFrom_45 : decode cX12_isFrom 45 = .ok (.ireturn, 1) := by decide +kernel
theorem dX12_isFrom_46 : decode cX12_isFrom 46 = .ok (.iinc 2 1, 3) := by decide +kernel
theorem dX12_isFrom_49 : decode cX12_isFrom 49 = .ok (.goto (-47), 3) := by decide +kernel
theorem dX12_isFrom_52 : decode cX12_isFrom 52 = .ok (.iconst 1, 1) := by decide +kernel
theorem dX12_isFrom_53 : decode cX12_isFrom 53 = .ok (.ireturn, 1) := by decide +kernel
noncomputable def kX12_isFrom : Nat → Op := (nodeC 25 (nodeC 11 (nodeC 3 (nodeC 1 (nodeC 0 (leafC 0 (o_ic (0) 1)) (leafC 1 (o_is 2 2))) (nodeC 2 (leafC 2 (o_il 2 3)) (leafC 3 (o_al 0 4)))) (nodeC 7 (nodeC 4 (leafC 4 (o_gI 12 51 7)) (leafC 7 (o_cge 52 10))) (nodeC 10 (leafC 10 (o_al 0 11)) (leafC 11 (o_il 1 12))))) (nodeC 17 (nodeC 13 (nodeC 12 (leafC 12 (o_al 0 13)) (leafC 13 (o_gR 12 46 16))) (nodeC 16 (leafC 16 (o_il 2 17)) (leafC 17 (o_iald 18)))) (nodeC 21 (nodeC 18 (leafC 18 (o_inv 2 12 1 FX12_page 21)) (leafC 21 (o_al 0 22))) (nodeC 22 (leafC 22 (o_gR 12 47 25)) (leafC 25 (o_il 2 26)))))) (nodeC 39 (nodeC 31 (nodeC 27 (nodeC 26 (leafC 26 (o_iald 27)) (leafC 27 (o_clt 34 30))) (nodeC 30 (leafC 30 (o_ic (1) 31)) (leafC 31 (o_goto 35)))) (nodeC 35 (nodeC 34 (leafC 34 (o_ic (0) 35)) (leafC 35 (o_al 0 36))) (nodeC 36 (leafC 36 (o_gR 12 49 39)) (leafC 39 (o_il 2 40))))) (nodeC 45 (nodeC 41 (nodeC 40 (leafC 40 (o_zald 41)) (leafC 41 (o_ceq 46 44))) (nodeC 44 (leafC 44 (o_ic (0) 45)) (leafC 45 (o_zret)))) (nodeC 49 (nodeC 46 (leafC 46 (o_inc 2 (1) 49)) (leafC 49 (o_goto 2))) (nodeC 52 (leafC 52 (o_ic (1) 53)) (leafC 53 (o_zret)))))))
theorem sX12_isFrom : ∀ pc, SoundOp cX12_isFrom RX12 3 (some .boolean) false 1 22 pc (kX12_isFrom pc) := (so_node (so_node (so_node (so_node (so_node (so_leaf (so_iconst dX12_isFrom_0 (by decide))) (so_leaf (so_istore_n dX12_isFrom_1 rfl (by decide)))) (so_node (so_leaf (so_iload_n dX12_isFrom_2 rfl)) (so_leaf (so_aload_n dX12_isFrom_3 rfl)))) (so_node (so_node (so_leaf (so_gI (by decide) (by decide) wC12 wf_RX12_308 (fun _ _ _ => rfl) dX12_isFrom_4)) (so_leaf (so_cge dX12_isFrom_7 (by decide)))) (so_node (so_leaf (so_aload_n dX12_isFrom_10 rfl)) (so_leaf (so_iload_n dX12_isFrom_11 rfl))))) (so_node (so_node (so_node (so_leaf (so_aload_n dX12_isFrom_12 rfl)) (so_leaf (so_gR (by decide) (by decide) wC12 wf_RX12_90 (fun _ _ _ => rfl) dX12_isFrom_13))) (so_node (so_leaf (so_iload_n dX12_isFrom_16 rfl)) (so_leaf (so_iald dX12_isFrom_17)))) (so_node (so_node (so_leaf (so_inv CX12_page (by decide) rfl wm_RX12_406 win_X12_page wse_X12_page wn_12 wc_X12_page (by decide +kernel) (by decide) (by decide) dX12_isFrom_18)) (so_leaf (so_aload_n dX12_isFrom_21 rfl))) (so_node (so_leaf (so_gR (by decide) (by decide) wC12 wf_RX12_93 (fun _ _ _ => rfl) dX12_isFrom_22)) (so_leaf (so_iload_n dX12_isFrom_25 rfl)))))) (so_node (so_node (so_node (so_node (so_leaf (so_iald dX12_isFrom_26)) (so_leaf (so_clt dX12_isFrom_27 (by decide)))) (so_node (so_leaf (so_iconst dX12_isFrom_30 (by decide))) (so_leaf (so_goto dX12_isFrom_31 (by decide))))) (so_node (so_node (so_leaf (so_iconst dX12_isFrom_34 (by decide))) (so_leaf (so_aload_n dX12_isFrom_35 rfl))) (so_node (so_leaf (so_gR (by decide) (by decide) wC12 wf_RX12_99 (fun _ _ _ => rfl) dX12_isFrom_36)) (so_leaf (so_iload_n dX12_isFrom_39 rfl))))) (so_node (so_node (so_node (so_leaf (so_zald dX12_isFrom_40)) (so_leaf (so_ceq dX12_isFrom_41 (by decide)))) (so_node (so_leaf (so_iconst dX12_isFrom_44 (by decide))) (so_leaf (so_zret dX12_isFrom_45 rfl)))) (so_node (so_node (so_leaf (so_iinc dX12_isFrom_46 (by decide) (by decide))) (so_leaf (so_goto dX12_isFrom_49 (by decide)))) (so_node (so_leaf (so_iconst dX12_isFrom_52 (by decide))) (so_leaf (so_zret dX12_isFrom_53 rfl)))))))
theorem pX12_isFrom : ∀ pc, Pr (kX12_isFrom pc) := (pr_node (pr_node (pr_node (pr_node (pr_node (pr_leaf (pr_ic _ _)) (pr_leaf (pr_is _ _))) (pr_node (pr_leaf (pr_il _ _)) (pr_leaf (pr_al _ _)))) (pr_node (pr_node (pr_leaf (pr_gI _ _ _)) (pr_leaf (pr_cge _ _))) (pr_node (pr_leaf (pr_al _ _)) (pr_leaf (pr_il _ _))))) (pr_node (pr_node (pr_node (pr_leaf (pr_al _ _)) (pr_leaf (pr_gR _ _ _))) (pr_node (pr_leaf (pr_il _ _)) (pr_leaf (pr_iald _)))) (pr_node (pr_node (pr_leaf (pr_inv _ _ _ GX12_page _)) (pr_leaf (pr_al _ _))) (pr_node (pr_leaf (pr_gR _ _ _)) (pr_leaf (pr_il _ _)))))) (pr_node (pr_node (pr_node (pr_node (pr_leaf (pr_iald _)) (pr_leaf (pr_clt _ _))) (pr_node (pr_leaf (pr_ic _ _)) (pr_leaf (pr_goto _)))) (pr_node (pr_node (pr_leaf (pr_ic _ _)) (pr_leaf (pr_al _ _))) (pr_node (pr_leaf (pr_gR _ _ _)) (pr_leaf (pr_il _ _))))) (pr_node (pr_node (pr_node (pr_leaf (pr_zald _)) (pr_leaf (pr_ceq _ _))) (pr_node (pr_leaf (pr_ic _ _)) (pr_leaf (pr_zret)))) (pr_node (pr_node (pr_leaf (pr_inc _ _ _)) (pr_leaf (pr_goto _))) (pr_node (pr_leaf (pr_ic _ _)) (pr_leaf (pr_zret)))))))
noncomputable def FX12_isFrom : List EV → Hp → Option (RV × Hp) := Fm kX12_isFrom 3
theorem CX12_isFrom : Con yX12_isFrom cX12_isFrom 3 (some .boolean) 1 22 FX12_isFrom := con_of (own := RX12) rfl (by decide +kernel) sX12_isFrom pX12_isFrom (fun z => by cases z)
theorem GX12_isFrom : Gr FX12_isFrom := Gr_Fm pX12_isFrom 3
theorem dX12_from_0 : decode cX12_from 0 = .ok (.aload_n 0, 1) := by decide +kernel
theorem dX12_from_1 : decode cX12_from 1 = .ok (.iconst 0, 1) := by decide +kernel
theorem dX12_from_2 : decode cX12_from 2 = .ok (.putfield 105, 3) := by decide +kernel
theorem dX12_from_5 : decode cX12_from 5 = .ok (.aload_n 0, 1) := by decide +kernel
theorem dX12_from_6 : decode cX12_from 6 = .ok (.getfield 302, 3) := by decide +kernel
theorem dX12_from_9 : decode cX12_from 9 = .ok (.ifCond .eq 8, 3) := by decide +kernel
theorem dX12_from_12 : decode cX12_from 12 = .ok (.iload_n 1, 1) := by decide +kernel
theorem dX12_from_13 : decode cX12_from 13 = .ok (.iconst (-1), 1) := by decide +kernel
theorem dX12_from_14 : decode cX12_from 14 = .ok (.if_icmp .ge 5, 3) := by decide +kernel
theorem dX12_from_17 : decode cX12_from 17 = .ok (.iconst (-1), 1) := by decide +kernel
theorem dX12_from_18 : decode cX12_from 18 = .ok (.ireturn, 1) := by decide +kernel
theorem dX12_from_19 : decode cX12_from 19 = .ok (.iconst 0, 1) := by decide +kernel
theorem dX12_from_20 : decode cX12_from 20 = .ok (.istore_n 2, 1) := by decide +kernel
theorem dX12_from_21 : decode cX12_from 21 = .ok (.iconst 0, 1) := by decide +kernel
theorem dX12_from_22 : decode cX12_from 22 = .ok (.istore_n 3, 1) := by decide +kernel
theorem dX12_from_23 : decode cX12_from 23 = .ok (.iload_n 3, 1) := by decide +kernel
theorem dX12_from_24 : decode cX12_from 24 = .ok (.aload_n 0, 1) := by decide +kernel
theorem dX12_from_25 : decode cX12_from 25 = .ok (.getfield 61, 3) := by decide +kernel
theorem dX12_from_28 : decode cX12_from 28 = .ok (.bipush 19, 2) := by decide +kernel
theorem dX12_from_30 : decode cX12_from 30 = .ok (.iaload, 1) := by decide +kernel
theorem dX12_from_31 : decode cX12_from 31 = .ok (.if_icmp .ge 30, 3) := by decide +kernel
theorem dX12_from_34 : decode cX12_from 34 = .ok (.aload_n 0, 1) := by decide +kernel
theorem dX12_from_35 : decode cX12_from 35 = .ok (.iload_n 3, 1) := by decide +kernel
theorem dX12_from_36 : decode cX12_from 36 = .ok (.invokevirtual 471, 3) := by decide +kernel
theorem dX12_from_39 : decode cX12_from 39 = .ok (.ifCond .ne 6, 3) := by decide +kernel
theorem dX12_from_42 : decode cX12_from 42 = .ok (.goto 13, 3) := by decide +kernel
theorem dX12_from_45 : decode cX12_from 45 = .ok (.iload_n 2, 1) := by decide +kernel
theorem dX12_from_46 : decode cX12_from 46 = .ok (.iload_n 1, 1) := by decide +kernel
theorem dX12_from_47 : decode cX12_from 47 = .ok (.if_icmp .ne 5, 3) := by decide +kernel
theorem dX12_from_50 : decode cX12_from 50 = .ok (.iload_n 3, 1) := by decide +kernel
theorem dX12_from_51 : decode cX12_from 51 = .ok (.ireturn, 1) := by decide +kernel
theorem dX12_from_52 : decode cX12_from 52 = .ok (.iinc 2 1, 3) := by decide +kernel
theorem dX12_from_55 : decode cX12_from 55 = .ok (.iinc 3 1, 3) := by decide +kernel
theorem dX12_from_58 : decode cX12_from 58 = .ok (.goto (-35), 3) := by decide +kernel
theorem dX12_from_61 : decode cX12_from 61 = .ok (.iload_n 1, 1) := by decide +kernel
theorem dX12_from_62 : decode cX12_from 62 = .ok (.iconst (-1), 1) := by decide +kernel
theorem dX12_from_63 : decode cX12_from 63 = .ok (.if_icmp .ne 7, 3) := by decide +kernel
theorem dX12_from_66 : decode cX12_from 66 = .ok (.iload_n 2, 1) := by decide +kernel
theorem dX12_from_67 : decode cX12_from 67 = .ok (.goto 4, 3) := by decide +kernel
theorem dX12_from_70 : decode cX12_from 70 = .ok (.iconst (-1), 1) := by decide +kernel
theorem dX12_from_71 : decode cX12_from 71 = .ok (.ireturn, 1) := by decide +kernel
noncomputable def kX12_from : Nat → Op := (nodeC 30 (nodeC 17 (nodeC 6 (nodeC 1 (nodeC 0 (leafC 0 (o_al 0 1)) (leafC 1 (o_ic (0) 2))) (nodeC 2 (leafC 2 (o_pI 12 0 5)) (nodeC 5 (leafC 5 (o_al 0 6)) (leafC 6 (o_gI 12 27 9))))) (nodeC 12 (nodeC 9 (leafC 9 (o_zeq 17 12)) (leafC 12 (o_il 1 13))) (nodeC 13 (leafC 13 (o_ic (-1) 14)) (nodeC 14 (leafC 14 (o_cge 19 17)) (leafC 17 (o_ic (-1) 18)))))) (nodeC 22 (nodeC 19 (nodeC 18 (leafC 18 (o_iret)) (leafC 19 (o_ic (0) 20))) (nodeC 20 (leafC 20 (o_is 2 21)) (nodeC 21 (leafC 21 (o_ic (0) 22)) (leafC 22 (o_is 3 23))))) (nodeC 24 (nodeC 23 (leafC 23 (o_il 3 24)) (leafC 24 (o_al 0 25))) (nodeC 25 (leafC 25 (o_gR 12 32 28)) (nodeC 28 (leafC 28 (o_ic (19) 30)) (leafC 30 (o_iald 31))))))) (nodeC 50 (nodeC 39 (nodeC 34 (nodeC 31 (leafC 31 (o_cge 61 34)) (leafC 34 (o_al 0 35))) (nodeC 35 (leafC 35 (o_il 3 36)) (nodeC 36 (leafC 36 (o_inv 1 12 1 FX12_isFrom 39)) (leafC 39 (o_zne 45 42))))) (nodeC 45 (nodeC 42 (leafC 42 (o_goto 55)) (leafC 45 (o_il 2 46))) (nodeC 46 (leafC 46 (o_il 1 47)) (nodeC 47 (leafC 47 (o_cne 52 50)) (leafC 50 (o_il 3 51)))))) (nodeC 61 (nodeC 52 (nodeC 51 (leafC 51 (o_iret)) (leafC 52 (o_inc 2 (1) 55))) (nodeC 55 (leafC 55 (o_inc 3 (1) 58)) (nodeC 58 (leafC 58 (o_goto 23)) (leafC 61 (o_il 1 62))))) (nodeC 66 (nodeC 62 (leafC 62 (o_ic (-1) 63)) (nodeC 63 (leafC 63 (o_cne 70 66)) (leafC 66 (o_il 2 67)))) (nodeC 67 (leafC 67 (o_goto 71)) (nodeC 70 (leafC 70 (o_ic (-1) 71)) (leafC 71 (o_iret))))))))
theorem sX12_from : ∀ pc, SoundOp cX12_from RX12 4 (some .int) false 2 44 pc (kX12_from pc) := (so_node (so_node (so_node (so_node (so_node (so_leaf (so_aload_n dX12_from_0 rfl)) (so_leaf (so_iconst dX12_from_1 (by decide)))) (so_node (so_leaf (so_pI (by decide) (by decide) wC12 wf_RX12_105 (Or.inl rfl) rfl dX12_from_2)) (so_node (so_leaf (so_aload_n dX12_from_5 rfl)) (so_leaf (so_gI (by decide) (by decide) wC12 wf_RX12_302 (fun _ _ _ => rfl) dX12_from_6))))) (so_node (so_node (so_leaf (so_zeq dX12_from_9 (by decide))) (so_leaf (so_iload_n dX12_from_12 rfl))) (so_node (so_leaf (so_iconst dX12_from_13 (by decide))) (so_node (so_leaf (so_cge dX12_from_14 (by decide))) (so_leaf (so_iconst dX12_from_17 (by decide))))))) (so_node (so_node (so_node (so_leaf (so_iret dX12_from_18 rfl)) (so_leaf (so_iconst dX12_from_19 (by decide)))) (so_node (so_leaf (so_istore_n dX12_from_20 rfl (by decide))) (so_node (so_leaf (so_iconst dX12_from_21 (by decide))) (so_leaf (so_istore_n dX12_from_22 rfl (by decide)))))) (so_node (so_node (so_leaf (so_iload_n dX12_from_23 rfl)) (so_leaf (so_aload_n dX12_from_24 rfl))) (so_node (so_leaf (so_gR (by decide) (by decide) wC12 wf_RX12_61 (fun _ _ _ => rfl) dX12_from_25)) (so_node (so_leaf (so_bipush dX12_from_28 (by decide))) (so_leaf (so_iald dX12_from_30))))))) (so_node (so_node (so_node (so_node (so_leaf (so_cge dX12_from_31 (by decide))) (so_leaf (so_aload_n dX12_from_34 rfl))) (so_node (so_leaf (so_iload_n dX12_from_35 rfl)) (so_node (so_leaf (so_inv CX12_isFrom (by decide) rfl wm_RX12_471 win_X12_isFrom wse_X12_isFrom wn_12 wc_X12_isFrom (by decide +kernel) (by decide) (by decide) dX12_from_36)) (so_leaf (so_zne dX12_from_39 (by decide)))))) (so_node (so_node (so_leaf (so_goto dX12_from_42 (by decide))) (so_leaf (so_iload_n dX12_from_45 rfl))) (so_node (so_leaf (so_iload_n dX12_from_46 rfl)) (so_node (so_leaf (so_cne dX12_from_47 (by decide))) (so_leaf (so_iload_n dX12_from_50 rfl)))))) (so_node (so_node (so_node (so_leaf (so_iret dX12_from_51 rfl)) (so_leaf (so_iinc dX12_from_52 (by decide) (by decide)))) (so_node (so_leaf (so_iinc dX12_from_55 (by decide) (by decide))) (so_node (so_leaf (so_goto dX12_from_58 (by decide))) (so_leaf (so_iload_n dX12_from_61 rfl))))) (so_node (so_node (so_leaf (so_iconst dX12_from_62 (by decide))) (so_node (so_leaf (so_cne dX12_from_63 (by decide))) (so_leaf (so_iload_n dX12_from_66 rfl)))) (so_node (so_leaf (so_goto dX12_from_67 (by decide))) (so_node (so_leaf (so_iconst dX12_from_70 (by decide))) (so_leaf (so_iret dX12_from_71 rfl))))))))
theorem pX12_from : ∀ pc, Pr (kX12_from pc) := (pr_node (pr_node (pr_node (pr_node (pr_node (pr_leaf (pr_al _ _)) (pr_leaf (pr_ic _ _))) (pr_node (pr_leaf (pr_pI _ _ _)) (pr_node (pr_leaf (pr_al _ _)) (pr_leaf (pr_gI _ _ _))))) (pr_node (pr_node (pr_leaf (pr_zeq _ _)) (pr_leaf (pr_il _ _))) (pr_node (pr_leaf (pr_ic _ _)) (pr_node (pr_leaf (pr_cge _ _)) (pr_leaf (pr_ic _ _)))))) (pr_node (pr_node (pr_node (pr_leaf (pr_iret)) (pr_leaf (pr_ic _ _))) (pr_node (pr_leaf (pr_is _ _)) (pr_node (pr_leaf (pr_ic _ _)) (pr_leaf (pr_is _ _))))) (pr_node (pr_node (pr_leaf (pr_il _ _)) (pr_leaf (pr_al _ _))) (pr_node (pr_leaf (pr_gR _ _ _)) (pr_node (pr_leaf (pr_ic _ _)) (pr_leaf (pr_iald _))))))) (pr_node (pr_node (pr_node (pr_node (pr_leaf (pr_cge _ _)) (pr_leaf (pr_al _ _))) (pr_node (pr_leaf (pr_il _ _)) (pr_node (pr_leaf (pr_inv _ _ _ GX12_isFrom _)) (pr_leaf (pr_zne _ _))))) (pr_node (pr_node (pr_leaf (pr_goto _)) (pr_leaf (pr_il _ _))) (pr_node (pr_leaf (pr_il _ _)) (pr_node (pr_leaf (pr_cne _ _)) (pr_leaf (pr_il _ _)))))) (pr_node (pr_node (pr_node (pr_leaf (pr_iret)) (pr_leaf (pr_inc _ _ _))) (pr_node (pr_leaf (pr_inc _ _ _)) (pr_node (pr_leaf (pr_goto _)) (pr_leaf (pr_il _ _))))) (pr_node (pr_node (pr_leaf (pr_ic _ _)) (pr_node (pr_leaf (pr_cne _ _)) (pr_leaf (pr_il _ _)))) (pr_node (pr_leaf (pr_goto _)) (pr_node (pr_leaf (pr_ic _ _)) (pr_leaf (pr_iret))))))))
noncomputable def FX12_from : List EV → Hp → Option (RV × Hp) := Fm kX12_from 4
theorem CX12_from : Con yX12_from cX12_from 4 (some .int) 2 44 FX12_from := con_of (own := RX12) rfl (by decide +kernel) sX12_from pX12_from (fun z => by cases z)
theorem GX12_from : Gr FX12_from := Gr_Fm pX12_from 4
theorem dX12_ask_0 : decode cX12_ask 0 = .ok (.aload_n 0, 1) := by decide +kernel
theorem dX12_ask_1 : decode cX12_ask 1 = .ok (.iconst 0, 1) := by decide +kernel
theorem dX12_ask_2 : decode cX12_ask 2 = .ok (.putfield 105, 3) := by decide +kernel
theorem dX12_ask_5 : decode cX12_ask 5 = .ok (.aload_n 0, 1) := by decide +kernel
theorem dX12_ask_6 : decode cX12_ask 6 = .ok (.getfield 302, 3) := by decide +kernel
theorem dX12_ask_9 : decode cX12_ask 9 = .ok (.ifCond .eq 11, 3) := by decide +kernel
theorem dX12_ask_12 : decode cX12_ask 12 = .ok (.aload_n 0, 1) := by decide +kernel
theorem dX12_ask_13 : decode cX12_ask 13 = .ok (.iconst (-1), 1) := by decide +kernel
theorem dX12_ask_14 : decode cX12_ask 14 = .ok (.invokevirtual 474, 3) := by decide +kernel
theorem dX12_ask_17 : decode cX12_ask 17 = .ok (.ifCond .ne 5, 3) := by decide +kernel
theorem dX12_ask_20 : decode cX12_ask 20 = .ok (.iconst (-1), 1) := by decide +kernel
theorem dX12_ask_21 : decode cX12_ask 21 = .ok (.ireturn, 1) := by decide +kernel
theorem dX12_ask_22 : decode cX12_ask 22 = .ok (.iconst (-1), 1) := by decide +kernel
theorem dX12_ask_23 : decode cX12_ask 23 = .ok (.istore_n 1, 1) := by decide +kernel
theorem dX12_ask_24 : decode cX12_ask 24 = .ok (.iconst 0, 1) := by decide +kernel
theorem dX12_ask_25 : decode cX12_ask 25 = .ok (.istore_n 2, 1) := by decide +kernel
theorem dX12_ask_26 : decode cX12_ask 26 = .ok (.iconst 0, 1) := by decide +kernel
theorem dX12_ask_27 : decode cX12_ask 27 = .ok (.istore_n 3, 1) := by decide +kernel
theorem dX12_ask_28 : decode cX12_ask 28 = .ok (.iload_n 3, 1) := by decide +kernel
theorem dX12_ask_29 : decode cX12_ask 29 = .ok (.sipush 300, 3) := by decide +kernel
theorem dX12_ask_32 : decode cX12_ask 32 = .ok (.if_icmp .ge 95, 3) := by decide +kernel
theorem dX12_ask_35 : decode cX12_ask 35 = .ok (.iconst 0, 1) := by decide +kernel
theorem dX12_ask_36 : decode cX12_ask 36 = .ok (.istore 4, 2) := by decide +kernel
theorem dX12_ask_38 : decode cX12_ask 38 = .ok (.iconst 0, 1) := by decide +kernel
theorem dX12_ask_39 : decode cX12_ask 39 = .ok (.istore 5, 2) := by decide +kernel
theorem dX12_ask_41 : decode cX12_ask 41 = .ok (.iload 5, 2) := by decide +kernel
theorem dX12_ask_43 : decode cX12_ask 43 = .ok (.aload_n 0, 1) := by decide +kernel
theorem dX12_ask_44 : decode cX12_ask 44 = .ok (.getfield 61, 3) := by decide +kernel
theorem dX12_ask_47 : decode cX12_ask 47 = .ok (.bipush 19, 2) := by decide +kernel
theorem dX12_ask_49 : decode cX12_ask 49 = .ok (.iaload, 1) := by decide +kernel
theorem dX12_ask_50 : decode cX12_ask 50 = .ok (.if_icmp .ge 45, 3) := by decide +kernel
theorem dX12_ask_53 : decode cX12_ask 53 = .ok (.aload_n 0, 1) := by decide +kernel
theorem dX12_ask_54 : decode cX12_ask 54 = .ok (.iload 5, 2) := by decide +kernel
theorem dX12_ask_56 : decode cX12_ask 56 = .ok (.invokevirtual 471, 3) := by decide +kernel
theorem dX12_ask_59 : decode cX12_ask 59 = .ok (.ifCond .eq 30, 3) := by decide +kernel
theorem dX12_ask_62 : decode cX12_ask 62 = .ok (.iload 4, 2) := by decide +kernel
theorem dX12_ask_64 : decode cX12_ask 64 = .ok (.aload_n 0, 1) := by decide +kernel
theorem dX12_ask_65 : decode cX12_ask 65 = .ok (.iload 5, 2) := by decide +kernel
theorem dX12_ask_67 : decode cX12_ask 67 = .ok (.iload_n 3, 1) := by decide +kernel
theorem dX12_ask_68 : decode cX12_ask 68 = .ok (.bipush 100, 2) := by decide +kernel
theorem dX12_ask_70 : decode cX12_ask 70 = .ok (.idiv, 1) := by decide +kernel
theorem dX12_ask_71 : decode cX12_ask 71 = .ok (.invokevirtual 406, 3) := by decide +kernel
theorem dX12_ask_74 : decode cX12_ask 74 = .ok (.iload_n 3, 1) := by decide +kernel
theorem dX12_ask_75 : decode cX12_ask 75 = .ok (.bipush 100, 2) := by decide +kernel
theorem dX12_ask_77 : decode cX12_ask 77 = .ok (.irem, 1) := by decide +kernel
theorem dX12_ask_78 : decode cX12_ask 78 = .ok (.if_icmp .lt 7, 3) := by decide +kernel
theorem dX12_ask_81 : decode cX12_ask 81 = .ok (.iconst 1, 1) := by decide +kernel
theorem dX12_ask_82 : decode cX12_ask 82 = .ok (.goto 4, 3) := by decide +kernel
theorem dX12_ask_85 : decode cX12_ask 85 = .ok (.iconst (-1), 1) := by decide +kernel
theorem dX12_ask_86 : decode cX12_ask 86 = .ok (.iadd, 1) := by decide +kernel
theorem dX12_ask_87 : decode cX12_ask 87 = .ok (.istore 4, 2) := by decide +kernel
theorem dX12_ask_89 : decode cX12_ask 89 = .ok (.iinc 5 1, 3) := by decide +kernel
theorem dX12_ask_92 : decode cX12_ask 92 = .ok (.goto (-51), 3) := by decide +kernel
theorem dX12_ask_95 : decode cX12_ask 95 = .ok (.iload 4, 2) := by decide +kernel
theorem dX12_ask_97 : decode cX12_ask 97 = .ok (.invokestatic 477, 3) := by decide +kernel
theorem dX12_ask_100 : decode cX12_ask 100 = .ok (.istore 4, 2) := by decide +kernel
theorem dX12_ask_102 : decode cX12_ask 102 = .ok (.iload_n 1, 1) := by decide +kernel
theorem dX12_ask_103 : decode cX12_ask 103 = .ok (.iconst (-1), 1) := by decide +kernel
theorem dX12_ask_104 : decode cX12_ask 104 = .ok (.if_icmp .eq 12, 3) := by decide +kernel
theorem dX12_ask_107 : decode cX12_ask 107 = .ok (.iload 4, 2) := by decide +kernel
theorem dX12_ask_109 : decode cX12_ask 109 = .ok (.iload_n 2, 1) := by decide +kernel
theorem dX12_ask_110 : decode cX12_ask 110 = .ok (.if_icmp .lt 6, 3) := by decide +kernel
theorem dX12_ask_113 : decode cX12_ask 113 = .ok (.goto 8, 3) := by decide +kernel
theorem dX12_ask_116 : decode cX12_ask 116 = .ok (.iload_n 3, 1) := by decide +kernel
theorem dX12_ask_117 : decode cX12_ask 117 = .ok (.istore_n 1, 1) := by decide +kernel
theorem dX12_ask_118 : decode cX12_ask 118 = .ok (.iload 4, 2) := by decide +kernel
theorem dX12_ask_120 : decode cX12_ask 120 = .ok (.istore_n 2, 1) := by decide +kernel
theorem dX12_ask_121 : decode cX12_ask 121 = .ok (.iinc 3 1, 3) := by decide +kernel
theorem dX12_ask_124 : decode cX12_ask 124 = .ok (.goto (-96), 3) := by decide +kernel
theorem dX12_ask_127 : decode cX12_ask 127 = .ok (.iload_n 1, 1) := by decide +kernel
theorem dX12_ask_128 : decode cX12_ask 128 = .ok (.ireturn, 1) := by decide +kernel
noncomputable def kX12_ask : Nat → Op := (nodeC 59 (nodeC 26 (nodeC 13 (nodeC 5 (nodeC 1 (nodeC 0 (leafC 0 (o_al 0 1)) (leafC 1 (o_ic (0) 2))) (nodeC 2 (leafC 2 (o_pI 12 0 5)) (leafC 5 (o_al 0 6)))) (nodeC 9 (nodeC 6 (leafC 6 (o_gI 12 27 9)) (leafC 9 (o_zeq 20 12))) (nodeC 12 (leafC 12 (o_al 0 13)) (leafC 13 (o_ic (-1) 14))))) (nodeC 21 (nodeC 17 (nodeC 14 (leafC 14 (o_inv 1 12 1 FX12_from 17)) (leafC 17 (o_zne 22 20))) (nodeC 20 (leafC 20 (o_ic (-1) 21)) (leafC 21 (o_iret)))) (nodeC 23 (nodeC 22 (leafC 22 (o_ic (-1) 23)) (leafC 23 (o_is 1 24))) (nodeC 24 (leafC 24 (o_ic (0) 25)) (nodeC 25 (leafC 25 (o_is 2 26)) (leafC 26 (o_ic (0) 27))))))) (nodeC 41 (nodeC 32 (nodeC 28 (nodeC 27 (leafC 27 (o_is 3 28)) (leafC 28 (o_mask [4, 5] (o_il 3 29)))) (nodeC 29 (leafC 29 (o_ic (300) 32)) (leafC 32 (o_cge 127 35)))) (nodeC 36 (nodeC 35 (leafC 35 (o_ic (0) 36)) (leafC 36 (o_is 4 38))) (nodeC 38 (leafC 38 (o_ic (0) 39)) (nodeC 39 (leafC 39 (o_is 5 41)) (leafC 41 (o_il 5 43)))))) (nodeC 49 (nodeC 44 (nodeC 43 (leafC 43 (o_al 0 44)) (leafC 44 (o_gR 12 32 47))) (nodeC 47 (leafC 47 (o_ic (19) 49)) (leafC 49 (o_iald 50)))) (nodeC 53 (nodeC 50 (leafC 50 (o_cge 95 53)) (leafC 53 (o_al 0 54))) (nodeC 54 (leafC 54 (o_il 5 56)) (nodeC 56 (leafC 56 (o_inv 1 12 1 FX12_isFrom 59)) (leafC 59 (o_zeq 89 62)))))))) (nodeC 92 (nodeC 75 (nodeC 67 (nodeC 64 (nodeC 62 (leafC 62 (o_il 4 64)) (leafC 64 (o_al 0 65))) (nodeC 65 (leafC 65 (o_il 5 67)) (leafC 67 (o_il 3 68)))) (nodeC 70 (nodeC 68 (leafC 68 (o_ic (100) 70)) (leafC 70 (o_idiv 71))) (nodeC 71 (leafC 71 (o_inv 2 12 1 FX12_page 74)) (nodeC 74 (leafC 74 (o_il 3 75)) (leafC 75 (o_ic (100) 77)))))) (nodeC 82 (nodeC 78 (nodeC 77 (leafC 77 (o_irem 78)) (leafC 78 (o_clt 85 81))) (nodeC 81 (leafC 81 (o_ic (1) 82)) (leafC 82 (o_goto 86)))) (nodeC 86 (nodeC 85 (leafC 85 (o_ic (-1) 86)) (leafC 86 (o_iadd 87))) (nodeC 87 (leafC 87 (o_is 4 89)) (nodeC 89 (leafC 89 (o_inc 5 (1) 92)) (leafC 92 (o_goto 41))))))) (nodeC 110 (nodeC 102 (nodeC 97 (nodeC 95 (leafC 95 (o_il 4 97)) (leafC 97 (o_abs 100))) (nodeC 100 (leafC 100 (o_is 4 102)) (leafC 102 (o_il 1 103)))) (nodeC 104 (nodeC 103 (leafC 103 (o_ic (-1) 104)) (leafC 104 (o_ceq 116 107))) (nodeC 107 (leafC 107 (o_il 4 109)) (nodeC 109 (leafC 109 (o_il 2 110)) (leafC 110 (o_clt 116 113)))))) (nodeC 118 (nodeC 116 (nodeC 113 (leafC 113 (o_goto 121)) (leafC 116 (o_il 3 117))) (nodeC 117 (leafC 117 (o_is 1 118)) (leafC 118 (o_il 4 120)))) (nodeC 121 (nodeC 120 (leafC 120 (o_is 2 121)) (leafC 121 (o_inc 3 (1) 124))) (nodeC 124 (leafC 124 (o_goto 28)) (nodeC 127 (leafC 127 (o_il 1 128)) (leafC 128 (o_iret)))))))))
theorem sX12_ask : ∀ pc, SoundOp cX12_ask RX12 6 (some .int) false 3 67 pc (kX12_ask pc) := (so_node (so_node (so_node (so_node (so_node (so_node (so_leaf (so_aload_n dX12_ask_0 rfl)) (so_leaf (so_iconst dX12_ask_1 (by decide)))) (so_node (so_leaf (so_pI (by decide) (by decide) wC12 wf_RX12_105 (Or.inl rfl) rfl dX12_ask_2)) (so_leaf (so_aload_n dX12_ask_5 rfl)))) (so_node (so_node (so_leaf (so_gI (by decide) (by decide) wC12 wf_RX12_302 (fun _ _ _ => rfl) dX12_ask_6)) (so_leaf (so_zeq dX12_ask_9 (by decide)))) (so_node (so_leaf (so_aload_n dX12_ask_12 rfl)) (so_leaf (so_iconst dX12_ask_13 (by decide)))))) (so_node (so_node (so_node (so_leaf (so_inv CX12_from (by decide) rfl wm_RX12_474 win_X12_from wse_X12_from wn_12 wc_X12_from (by decide +kernel) (by decide) (by decide) dX12_ask_14)) (so_leaf (so_zne dX12_ask_17 (by decide)))) (so_node (so_leaf (so_iconst dX12_ask_20 (by decide))) (so_leaf (so_iret dX12_ask_21 rfl)))) (so_node (so_node (so_leaf (so_iconst dX12_ask_22 (by decide))) (so_leaf (so_istore_n dX12_ask_23 rfl (by decide)))) (so_node (so_leaf (so_iconst dX12_ask_24 (by decide))) (so_node (so_leaf (so_istore_n dX12_ask_25 rfl (by decide))) (so_leaf (so_iconst dX12_ask_26 (by decide)))))))) (so_node (so_node (so_node (so_node (so_leaf (so_istore_n dX12_ask_27 rfl (by decide))) (so_leaf (so_mask (so_iload_n dX12_ask_28 rfl)))) (so_node (so_leaf (so_sipush dX12_ask_29 (by decide))) (so_leaf (so_cge dX12_ask_32 (by decide))))) (so_node (so_node (so_leaf (so_iconst dX12_ask_35 (by decide))) (so_leaf (so_istore dX12_ask_36 (by decide)))) (so_node (so_leaf (so_iconst dX12_ask_38 (by decide))) (so_node (so_leaf (so_istore dX12_ask_39 (by decide))) (so_leaf (so_iload dX12_ask_41)))))) (so_node (so_node (so_node (so_leaf (so_aload_n dX12_ask_43 rfl)) (so_leaf (so_gR (by decide) (by decide) wC12 wf_RX12_61 (fun _ _ _ => rfl) dX12_ask_44))) (so_node (so_leaf (so_bipush dX12_ask_47 (by decide))) (so_leaf (so_iald dX12_ask_49)))) (so_node (so_node (so_leaf (so_cge dX12_ask_50 (by decide))) (so_leaf (so_aload_n dX12_ask_53 rfl))) (so_node (so_leaf (so_iload dX12_ask_54)) (so_node (so_leaf (so_inv CX12_isFrom (by decide) rfl wm_RX12_471 win_X12_isFrom wse_X12_isFrom wn_12 wc_X12_isFrom (by decide +kernel) (by decide) (by decide) dX12_ask_56)) (so_leaf (so_zeq dX12_ask_59 (by decide))))))))) (so_node (so_node (so_node (so_node (so_node (so_leaf (so_iload dX12_ask_62)) (so_leaf (so_aload_n dX12_ask_64 rfl))) (so_node (so_leaf (so_iload dX12_ask_65)) (so_leaf (so_iload_n dX12_ask_67 rfl)))) (so_node (so_node (so_leaf (so_bipush dX12_ask_68 (by decide))) (so_leaf (so_idiv dX12_ask_70))) (so_node (so_leaf (so_inv CX12_page (by decide) rfl wm_RX12_406 win_X12_page wse_X12_page wn_12 wc_X12_page (by decide +kernel) (by decide) (by decide) dX12_ask_71)) (so_node (so_leaf (so_iload_n dX12_ask_74 rfl)) (so_leaf (so_bipush dX12_ask_75 (by decide))))))) (so_node (so_node (so_node (so_leaf (so_irem dX12_ask_77)) (so_leaf (so_clt dX12_ask_78 (by decide)))) (so_node (so_leaf (so_iconst dX12_ask_81 (by decide))) (so_leaf (so_goto dX12_ask_82 (by decide))))) (so_node (so_node (so_leaf (so_iconst dX12_ask_85 (by decide))) (so_leaf (so_iadd dX12_ask_86))) (so_node (so_leaf (so_istore dX12_ask_87 (by decide))) (so_node (so_leaf (so_iinc dX12_ask_89 (by decide) (by decide))) (so_leaf (so_goto dX12_ask_92 (by decide)))))))) (so_node (so_node (so_node (so_node (so_leaf (so_iload dX12_ask_95)) (so_leaf (so_abs wm_RX12_477 wms_abs wmi wmc_abs (by decide) (by decide) dX12_ask_97))) (so_node (so_leaf (so_istore dX12_ask_100 (by decide))) (so_leaf (so_iload_n dX12_ask_102 rfl)))) (so_node (so_node (so_leaf (so_iconst dX12_ask_103 (by decide))) (so_leaf (so_ceq dX12_ask_104 (by decide)))) (so_node (so_leaf (so_iload dX12_ask_107)) (so_node (so_leaf (so_iload_n dX12_ask_109 rfl)) (so_leaf (so_clt dX12_ask_110 (by decide))))))) (so_node (so_node (so_node (so_leaf (so_goto dX12_ask_113 (by decide))) (so_leaf (so_iload_n dX12_ask_116 rfl))) (so_node (so_leaf (so_istore_n dX12_ask_117 rfl (by decide))) (so_leaf (so_iload dX12_ask_118)))) (so_node (so_node (so_leaf (so_istore_n dX12_ask_120 rfl (by decide))) (so_leaf (so_iinc dX12_ask_121 (by decide) (by decide)))) (so_node (so_leaf (so_goto dX12_ask_124 (by decide))) (so_node (so_leaf (so_iload_n dX12_ask_127 rfl)) (so_leaf (so_iret dX12_ask_128 rfl)))))))))
theorem pX12_ask : ∀ pc, Pr (kX12_ask pc) := (pr_node (pr_node (pr_node (pr_node (pr_node (pr_node (pr_leaf (pr_al _ _)) (pr_leaf (pr_ic _ _))) (pr_node (pr_leaf (pr_pI _ _ _)) (pr_leaf (pr_al _ _)))) (pr_node (pr_node (pr_leaf (pr_gI _ _ _)) (pr_leaf (pr_zeq _ _))) (pr_node (pr_leaf (pr_al _ _)) (pr_leaf (pr_ic _ _))))) (pr_node (pr_node (pr_node (pr_leaf (pr_inv _ _ _ GX12_from _)) (pr_leaf (pr_zne _ _))) (pr_node (pr_leaf (pr_ic _ _)) (pr_leaf (pr_iret)))) (pr_node (pr_node (pr_leaf (pr_ic _ _)) (pr_leaf (pr_is _ _))) (pr_node (pr_leaf (pr_ic _ _)) (pr_node (pr_leaf (pr_is _ _)) (pr_leaf (pr_ic _ _))))))) (pr_node (pr_node (pr_node (pr_node (pr_leaf (pr_is _ _)) (pr_leaf (pr_mask (pr_il _ _)))) (pr_node (pr_leaf (pr_ic _ _)) (pr_leaf (pr_cge _ _)))) (pr_node (pr_node (pr_leaf (pr_ic _ _)) (pr_leaf (pr_is _ _))) (pr_node (pr_leaf (pr_ic _ _)) (pr_node (pr_leaf (pr_is _ _)) (pr_leaf (pr_il _ _)))))) (pr_node (pr_node (pr_node (pr_leaf (pr_al _ _)) (pr_leaf (pr_gR _ _ _))) (pr_node (pr_leaf (pr_ic _ _)) (pr_leaf (pr_iald _)))) (pr_node (pr_node (pr_leaf (pr_cge _ _)) (pr_leaf (pr_al _ _))) (pr_node (pr_leaf (pr_il _ _)) (pr_node (pr_leaf (pr_inv _ _ _ GX12_isFrom _)) (pr_leaf (pr_zeq _ _)))))))) (pr_node (pr_node (pr_node (pr_node (pr_node (pr_leaf (pr_il _ _)) (pr_leaf (pr_al _ _))) (pr_node (pr_leaf (pr_il _ _)) (pr_leaf (pr_il _ _)))) (pr_node (pr_node (pr_leaf (pr_ic _ _)) (pr_leaf (pr_idiv _))) (pr_node (pr_leaf (pr_inv _ _ _ GX12_page _)) (pr_node (pr_leaf (pr_il _ _)) (pr_leaf (pr_ic _ _)))))) (pr_node (pr_node (pr_node (pr_leaf (pr_irem _)) (pr_leaf (pr_clt _ _))) (pr_node (pr_leaf (pr_ic _ _)) (pr_leaf (pr_goto _)))) (pr_node (pr_node (pr_leaf (pr_ic _ _)) (pr_leaf (pr_iadd _))) (pr_node (pr_leaf (pr_is _ _)) (pr_node (pr_leaf (pr_inc _ _ _)) (pr_leaf (pr_goto _))))))) (pr_node (pr_node (pr_node (pr_node (pr_leaf (pr_il _ _)) (pr_leaf (pr_abs _))) (pr_node (pr_leaf (pr_is _ _)) (pr_leaf (pr_il _ _)))) (pr_node (pr_node (pr_leaf (pr_ic _ _)) (pr_leaf (pr_ceq _ _))) (pr_node (pr_leaf (pr_il _ _)) (pr_node (pr_leaf (pr_il _ _)) (pr_leaf (pr_clt _ _)))))) (pr_node (pr_node (pr_node (pr_leaf (pr_goto _)) (pr_leaf (pr_il _ _))) (pr_node (pr_leaf (pr_is _ _)) (pr_leaf (pr_il _ _)))) (pr_node (pr_node (pr_leaf (pr_is _ _)) (pr_leaf (pr_inc _ _ _))) (pr_node (pr_leaf (pr_goto _)) (pr_node (pr_leaf (pr_il _ _)) (pr_leaf (pr_iret)))))))))
noncomputable def FX12_ask : List EV → Hp → Option (RV × Hp) := Fm kX12_ask 6
theorem CX12_ask : Con yX12_ask cX12_ask 6 (some .int) 3 67 FX12_ask := con_of (own := RX12) rfl (by decide +kernel) sX12_ask pX12_ask (fun z => by cases z)
theorem GX12_ask : Gr FX12_ask := Gr_Fm pX12_ask 6
theorem dX12_odds_0 : decode cX12_odds 0 = .ok (.aload_n 0, 1) := by decide +kernel
theorem dX12_odds_1 : decode cX12_odds 1 = .ok (.iconst 0, 1) := by decide +kernel
theorem dX12_odds_2 : decode cX12_odds 2 = .ok (.putfield 105, 3) := by decide +kernel
theorem dX12_odds_5 : decode cX12_odds 5 = .ok (.aload_n 0, 1) := by decide +kernel
theorem dX12_odds_6 : decode cX12_odds 6 = .ok (.getfield 302, 3) := by decide +kernel
theorem dX12_odds_9 : decode cX12_odds 9 = .ok (.ifCond .eq 27, 3) := by decide +kernel
theorem dX12_odds_12 : decode cX12_odds 12 = .ok (.iload_n 1, 1) := by decide +kernel
theorem dX12_odds_13 : decode cX12_odds 13 = .ok (.i2l, 1) := by decide +kernel
theorem dX12_odds_14 : decode cX12_odds 14 = .ok (.lconst 0, 1) := by decide +kernel
theorem dX12_odds_15 : decode cX12_odds 15 = .ok (.ldc2_w 480, 3) := by decide +kernel
theorem dX12_odds_18 : decode cX12_odds 18 = .ok (.invokestatic 225, 3) := by decide +kernel
theorem dX12_odds_21 : decode cX12_odds 21 = .ok (.ifCond .eq 15, 3) := by decide +kernel
theorem dX12_odds_24 : decode cX12_odds 24 = .ok (.iload_n 2, 1) := by decide +kernel
theorem dX12_odds_25 : decode cX12_odds 25 = .ok (.i2l, 1) := by decide +kernel
theorem dX12_odds_26 : decode cX12_odds 26 = .ok (.lconst 0, 1) := by decide +kernel
theorem dX12_odds_27 : decode cX12_odds 27 = .ok (.ldc2_w 482, 3) := by decide +kernel
theorem dX12_odds_30 : decode cX12_odds 30 = .ok (.invokestatic 225, 3) := by decide +kernel
theorem dX12_odds_33 : decode cX12_odds 33 = .ok (.ifCond .ne 5, 3) := by decide +kernel
theorem dX12_odds_36 : decode cX12_odds 36 = .ok (.iconst (-1), 1) := by decide +kernel
theorem dX12_odds_37 : decode cX12_odds 37 = .ok (.ireturn, 1) := by decide +kernel
theorem dX12_odds_38 : decode cX12_odds 38 = .ok (.aload_n 0, 1) := by decide +kernel
theorem dX12_odds_39 : decode cX12_odds 39 = .ok (.getfield 61, 3) := by decide +kernel
theorem dX12_odds_42 : decode cX12_odds 42 = .ok (.iconst 1, 1) := by decide +kernel
theorem dX12_odds_43 : decode cX12_odds 43 = .ok (.iaload, 1) := by decide +kernel
theorem dX12_odds_44 : decode cX12_odds 44 = .ok (.iconst 1, 1) := by decide +kernel
theorem dX12_odds_45 : decode cX12_odds 45 = .ok (.if_icmp .ne 5, 3) := by decide +kernel
theorem dX12_odds_48 : decode cX12_odds 48 = .ok (.iconst 0, 1) := by decide +kernel
theorem dX12_odds_49 : decode cX12_odds 49 = .ok (.ireturn, 1) := by decide +kernel
theorem dX12_odds_50 : decode cX12_odds 50 = .ok (.ldc2_w 484, 3) := by decide +kernel
theorem dX12_odds_53 : decode cX12_odds 53 = .ok (.lstore_n 3, 1) := by decide +kernel
theorem dX12_odds_54 : decode cX12_odds 54 = .ok (.iconst 0, 1) := by decide +kernel
theorem dX12_odds_55 : decode cX12_odds 55 = .ok (.istore 5, 2) := by decide +kernel
theorem dX12_odds_57 : decode cX12_odds 57 = .ok (.iload 5, 2) := by decide +kernel
theorem dX12_odds_59 : decode cX12_odds 59 = .ok (.iload_n 1, 1) := by decide +kernel
theorem dX12_odds_60 : decode cX12_odds 60 = .ok (.if_icmp .ge 20, 3) := by decide +kernel
theorem dX12_odds_63 : decode cX12_odds 63 = .ok (.lload_n 3, 1) := by decide +kernel
theorem dX12_odds_64 : decode cX12_odds 64 = .ok (.lload_n 3, 1) := by decide +kernel
theorem dX12_odds_65 : decode cX12_odds 65 = .ok (.iload_n 2, 1) := by decide +kernel
theorem dX12_odds_66 : decode cX12_odds 66 = .ok (.i2l, 1) := by decide +kernel
theorem dX12_odds_67 : decode cX12_odds 67 = .ok (.lmul, 1) := by decide +kernel
theorem dX12_odds_68 : decode cX12_odds 68 = .ok (.ldc2_w 482, 3) := by decide +kernel
theorem dX12_odds_71 : decode cX12_odds 71 = .ok (.ldiv, 1) := by decide +kernel
theorem dX12_odds_72 : decode cX12_odds 72 = .ok (.lsub, 1) := by decide +kernel
theorem dX12_odds_73 : decode cX12_odds 73 = .ok (.lstore_n 3, 1) := by decide +kernel
theorem dX12_odds_74 : decode cX12_odds 74 = .ok (.iinc 5 1, 3) := by decide +kernel
theorem dX12_odds_77 : decode cX12_odds 77 = .ok (.goto (-20), 3) := by decide +kernel
theorem dX12_odds_80 : decode cX12_odds 80 = .ok (.lload_n 3, 1) := by decide +kernel
theorem dX12_odds_81 : decode cX12_odds 81 = .ok (.l2i, 1) := by decide +kernel
theorem dX12_odds_82 : decode cX12_odds 82 = .ok (.ireturn, 1) := by decide +kernel
noncomputable def kX12_odds : Nat → Op := (nodeC 43 (nodeC 21 (nodeC 9 (nodeC 2 (nodeC 0 (leafC 0 (o_al 0 1)) (nodeC 1 (leafC 1 (o_ic (0) 2)) (leafC 2 (o_pI 12 0 5)))) (nodeC 5 (leafC 5 (o_al 0 6)) (nodeC 6 (leafC 6 (o_gI 12 27 9)) (leafC 9 (o_zeq 36 12))))) (nodeC 14 (nodeC 12 (leafC 12 (o_il 1 13)) (nodeC 13 (leafC 13 (o_i2l 14)) (leafC 14 (o_lc (0) 15)))) (nodeC 15 (leafC 15 (o_lc (30) 18)) (nodeC 18 (leafC 18 (o_ist 3 1 FX12_isIn 21)) (leafC 21 (o_zeq 36 24)))))) (nodeC 33 (nodeC 26 (nodeC 24 (leafC 24 (o_il 2 25)) (nodeC 25 (leafC 25 (o_i2l 26)) (leafC 26 (o_lc (0) 27)))) (nodeC 27 (leafC 27 (o_lc (100) 30)) (nodeC 30 (leafC 30 (o_ist 3 1 FX12_isIn 33)) (leafC 33 (o_zne 38 36))))) (nodeC 38 (nodeC 36 (leafC 36 (o_ic (-1) 37)) (nodeC 37 (leafC 37 (o_iret)) (leafC 38 (o_al 0 39)))) (nodeC 39 (leafC 39 (o_gR 12 32 42)) (nodeC 42 (leafC 42 (o_ic (1) 43)) (leafC 43 (o_iald 44))))))) (nodeC 63 (nodeC 53 (nodeC 48 (nodeC 44 (leafC 44 (o_ic (1) 45)) (nodeC 45 (leafC 45 (o_cne 50 48)) (leafC 48 (o_ic (0) 49)))) (nodeC 49 (leafC 49 (o_iret)) (nodeC 50 (leafC 50 (o_lc (1000000000) 53)) (leafC 53 (o_ls 3 54))))) (nodeC 57 (nodeC 54 (leafC 54 (o_ic (0) 55)) (nodeC 55 (leafC 55 (o_is 5 57)) (leafC 57 (o_mask [0, 4] (o_il 5 59))))) (nodeC 59 (leafC 59 (o_il 1 60)) (nodeC 60 (leafC 60 (o_cge 80 63)) (leafC 63 (o_ll 3 64)))))) (nodeC 71 (nodeC 66 (nodeC 64 (leafC 64 (o_ll 3 65)) (nodeC 65 (leafC 65 (o_il 2 66)) (leafC 66 (o_i2l 67)))) (nodeC 67 (leafC 67 (o_lmul 68)) (nodeC 68 (leafC 68 (o_lc (100) 71)) (leafC 71 (o_ldiv 72))))) (nodeC 74 (nodeC 72 (leafC 72 (o_lsub 73)) (nodeC 73 (leafC 73 (o_ls 3 74)) (leafC 74 (o_inc 5 (1) 77)))) (nodeC 80 (nodeC 77 (leafC 77 (o_goto 57)) (leafC 80 (o_ll 3 81))) (nodeC 81 (leafC 81 (o_l2i 82)) (leafC 82 (o_iret))))))))
theorem sX12_odds : ∀ pc, SoundOp cX12_odds RX12 6 (some .int) false 1 25 pc (kX12_odds pc) := (so_node (so_node (so_node (so_node (so_node (so_leaf (so_aload_n dX12_odds_0 rfl)) (so_node (so_leaf (so_iconst dX12_odds_1 (by decide))) (so_leaf (so_pI (by decide) (by decide) wC12 wf_RX12_105 (Or.inl rfl) rfl dX12_odds_2)))) (so_node (so_leaf (so_aload_n dX12_odds_5 rfl)) (so_node (so_leaf (so_gI (by decide) (by decide) wC12 wf_RX12_302 (fun _ _ _ => rfl) dX12_odds_6)) (so_leaf (so_zeq dX12_odds_9 (by decide)))))) (so_node (so_node (so_leaf (so_iload_n dX12_odds_12 rfl)) (so_node (so_leaf (so_i2l dX12_odds_13)) (so_leaf (so_lconst dX12_odds_14 (by decide))))) (so_node (so_leaf (so_ldc2 wk_RX12_480 dX12_odds_15)) (so_node (so_leaf (so_ist CX12_isIn rfl wm_RX12_225 wst_X12_isIn wny_X12_isIn wc_X12_isIn (by decide +kernel) (by decide) (by decide) dX12_odds_18)) (so_leaf (so_zeq dX12_odds_21 (by decide))))))) (so_node (so_node (so_node (so_leaf (so_iload_n dX12_odds_24 rfl)) (so_node (so_leaf (so_i2l dX12_odds_25)) (so_leaf (so_lconst dX12_odds_26 (by decide))))) (so_node (so_leaf (so_ldc2 wk_RX12_482 dX12_odds_27)) (so_node (so_leaf (so_ist CX12_isIn rfl wm_RX12_225 wst_X12_isIn wny_X12_isIn wc_X12_isIn (by decide +kernel) (by decide) (by decide) dX12_odds_30)) (so_leaf (so_zne dX12_odds_33 (by decide)))))) (so_node (so_node (so_leaf (so_iconst dX12_odds_36 (by decide))) (so_node (so_leaf (so_iret dX12_odds_37 rfl)) (so_leaf (so_aload_n dX12_odds_38 rfl)))) (so_node (so_leaf (so_gR (by decide) (by decide) wC12 wf_RX12_61 (fun _ _ _ => rfl) dX12_odds_39)) (so_node (so_leaf (so_iconst dX12_odds_42 (by decide))) (so_leaf (so_iald dX12_odds_43))))))) (so_node (so_node (so_node (so_node (so_leaf (so_iconst dX12_odds_44 (by decide))) (so_node (so_leaf (so_cne dX12_odds_45 (by decide))) (so_leaf (so_iconst dX12_odds_48 (by decide))))) (so_node (so_leaf (so_iret dX12_odds_49 rfl)) (so_node (so_leaf (so_ldc2 wk_RX12_484 dX12_odds_50)) (so_leaf (so_lstore_n dX12_odds_53 rfl (by decide)))))) (so_node (so_node (so_leaf (so_iconst dX12_odds_54 (by decide))) (so_node (so_leaf (so_istore dX12_odds_55 (by decide))) (so_leaf (so_mask (so_iload dX12_odds_57))))) (so_node (so_leaf (so_iload_n dX12_odds_59 rfl)) (so_node (so_leaf (so_cge dX12_odds_60 (by decide))) (so_leaf (so_lload_n dX12_odds_63 rfl)))))) (so_node (so_node (so_node (so_leaf (so_lload_n dX12_odds_64 rfl)) (so_node (so_leaf (so_iload_n dX12_odds_65 rfl)) (so_leaf (so_i2l dX12_odds_66)))) (so_node (so_leaf (so_lmul dX12_odds_67)) (so_node (so_leaf (so_ldc2 wk_RX12_482 dX12_odds_68)) (so_leaf (so_ldiv dX12_odds_71))))) (so_node (so_node (so_leaf (so_lsub dX12_odds_72)) (so_node (so_leaf (so_lstore_n dX12_odds_73 rfl (by decide))) (so_leaf (so_iinc dX12_odds_74 (by decide) (by decide))))) (so_node (so_node (so_leaf (so_goto dX12_odds_77 (by decide))) (so_leaf (so_lload_n dX12_odds_80 rfl))) (so_node (so_leaf (so_l2i dX12_odds_81)) (so_leaf (so_iret dX12_odds_82 rfl))))))))
theorem pX12_odds : ∀ pc, Pr (kX12_odds pc) := (pr_node (pr_node (pr_node (pr_node (pr_node (pr_leaf (pr_al _ _)) (pr_node (pr_leaf (pr_ic _ _)) (pr_leaf (pr_pI _ _ _)))) (pr_node (pr_leaf (pr_al _ _)) (pr_node (pr_leaf (pr_gI _ _ _)) (pr_leaf (pr_zeq _ _))))) (pr_node (pr_node (pr_leaf (pr_il _ _)) (pr_node (pr_leaf (pr_i2l _)) (pr_leaf (pr_lc _ _)))) (pr_node (pr_leaf (pr_lc _ _)) (pr_node (pr_leaf (pr_ist _ _ GX12_isIn _)) (pr_leaf (pr_zeq _ _)))))) (pr_node (pr_node (pr_node (pr_leaf (pr_il _ _)) (pr_node (pr_leaf (pr_i2l _)) (pr_leaf (pr_lc _ _)))) (pr_node (pr_leaf (pr_lc _ _)) (pr_node (pr_leaf (pr_ist _ _ GX12_isIn _)) (pr_leaf (pr_zne _ _))))) (pr_node (pr_node (pr_leaf (pr_ic _ _)) (pr_node (pr_leaf (pr_iret)) (pr_leaf (pr_al _ _)))) (pr_node (pr_leaf (pr_gR _ _ _)) (pr_node (pr_leaf (pr_ic _ _)) (pr_leaf (pr_iald _))))))) (pr_node (pr_node (pr_node (pr_node (pr_leaf (pr_ic _ _)) (pr_node (pr_leaf (pr_cne _ _)) (pr_leaf (pr_ic _ _)))) (pr_node (pr_leaf (pr_iret)) (pr_node (pr_leaf (pr_lc _ _)) (pr_leaf (pr_ls _ _))))) (pr_node (pr_node (pr_leaf (pr_ic _ _)) (pr_node (pr_leaf (pr_is _ _)) (pr_leaf (pr_mask (pr_il _ _))))) (pr_node (pr_leaf (pr_il _ _)) (pr_node (pr_leaf (pr_cge _ _)) (pr_leaf (pr_ll _ _)))))) (pr_node (pr_node (pr_node (pr_leaf (pr_ll _ _)) (pr_node (pr_leaf (pr_il _ _)) (pr_leaf (pr_i2l _)))) (pr_node (pr_leaf (pr_lmul _)) (pr_node (pr_leaf (pr_lc _ _)) (pr_leaf (pr_ldiv _))))) (pr_node (pr_node (pr_leaf (pr_lsub _)) (pr_node (pr_leaf (pr_ls _ _)) (pr_leaf (pr_inc _ _ _)))) (pr_node (pr_node (pr_leaf (pr_goto _)) (pr_leaf (pr_ll _ _))) (pr_node (pr_leaf (pr_l2i _)) (pr_leaf (pr_iret))))))))
noncomputable def FX12_odds : List EV → Hp → Option (RV × Hp) := Fm kX12_odds 6
theorem CX12_odds : Con yX12_odds cX12_odds 6 (some .int) 1 25 FX12_odds := con_of (own := RX12) rfl (by decide +kernel) sX12_odds pX12_odds (fun z => by cases z)
theorem GX12_odds : Gr FX12_odds := Gr_Fm pX12_odds 6
theorem dX12_owed_0 : decode cX12_owed 0 = .ok (.aload_n 0, 1) := by decide +kernel
theorem dX12_owed_1 : decode cX12_owed 1 = .ok (.iconst 0, 1) := by decide +kernel
theorem dX12_owed_2 : decode cX12_owed 2 = .ok (.putfield 105, 3) := by decide +kernel
theorem dX12_owed_5 : decode cX12_owed 5 = .ok (.aload_n 0, 1) := by decide +kernel
theorem dX12_owed_6 : decode cX12_owed 6 = .ok (.getfield 302, 3) := by decide +kernel
theorem dX12_owed_9 : decode cX12_owed 9 = .ok (.ifCond .eq 15, 3) := by decide +kernel
theorem dX12_owed_12 : decode cX12_owed 12 = .ok (.iload_n 1, 1) := by decide +kernel
theorem dX12_owed_13 : decode cX12_owed 13 = .ok (.i2l, 1) := by decide +kernel
theorem dX12_owed_14 : decode cX12_owed 14 = .ok (.lconst 0, 1) := by decide +kernel
theorem dX12_owed_15 : decode cX12_owed 15 = .ok (.ldc2_w 280, 3) := by decide +kernel
theorem dX12_owed_18 : decode cX12_owed 18 = .ok (.invokestatic 225, 3) := by decide +kernel
theorem dX12_owed_21 : decode cX12_owed 21 = .ok (.ifCond .ne 7, 3) := by decide +kernel
theorem dX12_owed_24 : decode cX12_owed 24 = .ok (.ldc_w 412, 3) := by decide +kernel
theorem dX12_owed_27 : decode cX12_owed 27 = .ok (.ireturn, 1) := by decide +kernel
theorem dX12_owed_28 : decode cX12_owed 28 = .ok (.iconst 0, 1) := by decide +kernel
theorem dX12_owed_29 : decode cX12_owed 29 = .ok (.istore_n 2, 1) := by decide +kernel
theorem dX12_owed_30 : decode cX12_owed 30 = .ok (.iconst 0, 1) := by decide +kernel
theorem dX12_owed_31 : decode cX12_owed 31 = .ok (.istore_n 3, 1) := by decide +kernel
theorem dX12_owed_32 : decode cX12_owed 32 = .ok (.iconst (-1), 1) := by decide +kernel
theorem dX12_owed_33 : decode cX12_owed 33 = .ok (.istore 4, 2) := by decide +kernel
theorem dX12_owed_35 : decode cX12_owed 35 = .ok (.iconst 0, 1) := by decide +kernel
theorem dX12_owed_36 : decode cX12_owed 36 = .ok (.istore 5, 2) := by decide +kernel
theorem dX12_owed_38 : decode cX12_owed 38 = .ok (.iload 5, 2) := by decide +kernel
theorem dX12_owed_40 : decode cX12_owed 40 = .ok (.aload_n 0, 1) := by decide +kernel
theorem dX12_owed_41 : decode cX12_owed 41 = .ok (.getfield 299, 3) := by decide +kernel
theorem dX12_owed_44 : decode cX12_owed 44 = .ok (.if_icmp .ge 100, 3) := by decide +kernel
theorem dX12_owed_47 : decode cX12_owed 47 = .ok (.aload_n 0, 1) := by decide +kernel
theorem dX12_owed_48 : decode cX12_owed 48 = .ok (.iload 5, 2) := by decide +kernel
theorem dX12_owed_50 : decode cX12_owed 50 = .ok (.invokevirtual 450, 3) := by decide +kernel
theorem dX12_owed_53 : decode cX12_owed 53 = .ok (.ifCond .ne 6, 3) := by decide +kernel
theorem dX12_owed_56 : decode cX12_owed 56 = .ok (.goto 82, 3) := by decide +kernel
theorem dX12_owed_59 : decode cX12_owed 59 = .ok (.iload_n 2, 1) := by decide +kernel
theorem dX12_owed_60 : decode cX12_owed 60 = .ok (.aload_n 0, 1) := by decide +kernel
theorem dX12_owed_61 : decode cX12_owed 61 = .ok (.aload_n 0, 1) := by decide +kernel
theorem dX12_owed_62 : decode cX12_owed 62 = .ok (.getfield 61, 3) := by decide +kernel
theorem dX12_owed_65 : decode cX12_owed 65 = .ok (.iload 5, 2) := by decide +kernel
theorem dX12_owed_67 : decode cX12_owed 67 = .ok (.invokevirtual 346, 3) := by decide +kernel
theorem dX12_owed_70 : decode cX12_owed 70 = .ok (.iadd, 1) := by decide +kernel
theorem dX12_owed_71 : decode cX12_owed 71 = .ok (.istore_n 2, 1) := by decide +kernel
theorem dX12_owed_72 : decode cX12_owed 72 = .ok (.iload_n 3, 1) := by decide +kernel
theorem dX12_owed_73 : decode cX12_owed 73 = .ok (.aload_n 0, 1) := by decide +kernel
theorem dX12_owed_74 : decode cX12_owed 74 = .ok (.getfield 61, 3) := by decide +kernel
theorem dX12_owed_77 : decode cX12_owed 77 = .ok (.bipush 7, 2) := by decide +kernel
theorem dX12_owed_79 : decode cX12_owed 79 = .ok (.iaload, 1) := by decide +kernel
theorem dX12_owed_80 : decode cX12_owed 80 = .ok (.aload_n 0, 1) := by decide +kernel
theorem dX12_owed_81 : decode cX12_owed 81 = .ok (.getfield 43, 3) := by decide +kernel
theorem dX12_owed_84 : decode cX12_owed 84 = .ok (.iconst 3, 1) := by decide +kernel
theorem dX12_owed_85 : decode cX12_owed 85 = .ok (.iload 5, 2) := by decide +kernel
theorem dX12_owed_87 : decode cX12_owed 87 = .ok (.imul, 1) := by decide +kernel
theorem dX12_owed_88 : decode cX12_owed 88 = .ok (.iaload, 1) := by decide +kernel
theorem dX12_owed_89 : decode cX12_owed 89 = .ok (.if_icmp .le 10, 3) := by decide +kernel
theorem dX12_owed_92 : decode cX12_owed 92 = .ok (.iconst 1, 1) := by decide +kernel
theorem dX12_owed_93 : decode cX12_owed 93 = .ok (.iload 5, 2) := by decide +kernel
theorem dX12_owed_95 : decode cX12_owed 95 = .ok (.ishl, 1) := by decide +kernel
theorem dX12_owed_96 : decode cX12_owed 96 = .ok (.goto 4, 3) := by decide +kernel
theorem dX12_owed_99 : decode cX12_owed 99 = .ok (.iconst 0, 1) := by decide +kernel
theorem dX12_owed_100 : decode cX12_owed 100 = .ok (.ior, 1) := by decide +kernel
theorem dX12_owed_101 : decode cX12_owed 101 = .ok (.istore_n 3, 1) := by decide +kernel
theorem dX12_owed_102 : decode cX12_owed 102 = .ok (.iload 4, 2) := by decide +kernel
theorem dX12_owed_104 : decode cX12_owed 104 = .ok (.iconst (-1), 1) := by decide +kernel
theorem dX12_owed_105 : decode cX12_owed 105 = .ok (.if_icmp .eq 24, 3) := by decide +kernel
theorem dX12_owed_108 : decode cX12_owed 108 = .ok (.aload_n 0, 1) := by decide +kernel
theorem dX12_owed_109 : decode cX12_owed 109 = .ok (.getfield 43, 3) := by decide +kernel
theorem dX12_owed_112 : decode cX12_owed 112 = .ok (.iconst 3, 1) := by decide +kernel
theorem dX12_owed_113 : decode cX12_owed 113 = .ok (.iload 5, 2) := by decide +kernel
theorem dX12_owed_115 : decode cX12_owed 115 = .ok (.imul, 1) := by decide +kernel
theorem dX12_owed_116 : decode cX12_owed 116 = .ok (.iaload, 1) := by decide +kernel
theorem dX12_owed_117 : decode cX12_owed 117 = .ok (.aload_n 0, 1) := by decide +kernel
theorem dX12_owed_118 : decode cX12_owed 118 = .ok (.getfield 43, 3) := by decide +kernel
theorem dX12_owed_121 : decode cX12_owed 121 = .ok (.iconst 3, 1) := by decide +kernel
theorem dX12_owed_122 : decode cX12_owed 122 = .ok (.iload 4, 2) := by decide +kernel
theorem dX12_owed_124 : decode cX12_owed 124 = .ok (.imul, 1) := by decide +kernel
theorem dX12_owed_125 : decode cX12_owed 125 = .ok (.iaload, 1) := by decide +kernel
theorem dX12_owed_126 : decode cX12_owed 126 = .ok (.if_icmp .ge 8, 3) := by decide +kernel
theorem dX12_owed_129 : decode cX12_owed 129 = .ok (.iload 5, 2) := by decide +kernel
theorem dX12_owed_131 : decode cX12_owed 131 = .ok (.goto 5, 3) := by decide +kernel
theorem dX12_owed_134 : decode cX12_owed 134 = .ok (.iload 4, 2) := by decide +kernel
theorem dX12_owed_136 : decode cX12_owed 136 = .ok (.istore 4, 2) := by decide +kernel
theorem dX12_owed_138 : decode cX12_owed 138 = .ok (.iinc 5 1, 3) := by decide +kernel
theorem dX12_owed_141 : decode cX12_owed 141 = .ok (.goto (-103), 3) := by decide +kernel
theorem dX12_owed_144 : decode cX12_owed 144 = .ok (.iload_n 1, 1) := by decide +kernel
theorem dX12_owed_145 : decode cX12_owed 145 = .ok (.ifCond .ne 7, 3) := by decide +kernel
theorem dX12_owed_148 : decode cX12_owed 148 = .ok (.iload_n 2, 1) := by decide +kernel
theorem dX12_owed_149 : decode cX12_owed 149 = .ok (.goto 14, 3) := by decide +kernel
theorem dX12_owed_152 : decode cX12_owed 152 = .ok (.iload_n 1, 1) := by decide +kernel
theorem dX12_owed_153 : decode cX12_owed 153 = .ok (.iconst 1, 1) := by decide +kernel
theorem dX12_owed_154 : decode cX12_owed 154 = .ok (.if_icmp .ne 7, 3) := by decide +kernel
theorem dX12_owed_157 : decode cX12_owed 157 = .ok (.iload_n 3, 1) := by decide +kernel
theorem dX12_owed_158 : decode cX12_owed 158 = .ok (.goto 5, 3) := by decide +kernel
theorem dX12_owed_161 : decode cX12_owed 161 = .ok (.iload 4, 2) := by decide +kernel
theorem dX12_owed_163 : decode cX12_owed 163 = .ok (.ireturn, 1) := by decide +kernel
noncomputable def kX12_owed : Nat → Op := (nodeC 80 (nodeC 36 (nodeC 18 (nodeC 6 (nodeC 1 (nodeC 0 (leafC 0 (o_al 0 1)) (leafC 1 (o_ic (0) 2))) (nodeC 2 (leafC 2 (o_pI 12 0 5)) (nodeC 5 (leafC 5 (o_al 0 6)) (leafC 6 (o_gI 12 27 9))))) (nodeC 13 (nodeC 9 (leafC 9 (o_zeq 24 12)) (nodeC 12 (leafC 12 (o_il 1 13)) (leafC 13 (o_i2l 14)))) (nodeC 14 (leafC 14 (o_lc (0) 15)) (nodeC 15 (leafC 15 (o_lc (2) 18)) (leafC 18 (o_ist 3 1 FX12_isIn 21)))))) (nodeC 29 (nodeC 24 (nodeC 21 (leafC 21 (o_zne 28 24)) (leafC 24 (o_ic (-1000000) 27))) (nodeC 27 (leafC 27 (o_iret)) (nodeC 28 (leafC 28 (o_ic (0) 29)) (leafC 29 (o_is 2 30))))) (nodeC 32 (nodeC 30 (leafC 30 (o_ic (0) 31)) (nodeC 31 (leafC 31 (o_is 3 32)) (leafC 32 (o_ic (-1) 33)))) (nodeC 33 (leafC 33 (o_is 4 35)) (nodeC 35 (leafC 35 (o_ic (0) 36)) (leafC 36 (o_is 5 38))))))) (nodeC 60 (nodeC 47 (nodeC 40 (nodeC 38 (leafC 38 (o_il 5 40)) (leafC 40 (o_al 0 41))) (nodeC 41 (leafC 41 (o_gI 12 26 44)) (nodeC 44 (leafC 44 (o_cge 144 47)) (leafC 47 (o_al 0 48))))) (nodeC 53 (nodeC 48 (leafC 48 (o_il 5 50)) (nodeC 50 (leafC 50 (o_inv 1 12 1 FX12_isOpen 53)) (leafC 53 (o_zne 59 56)))) (nodeC 56 (leafC 56 (o_goto 138)) (nodeC 59 (leafC 59 (o_il 2 60)) (leafC 60 (o_al 0 61)))))) (nodeC 71 (nodeC 65 (nodeC 61 (leafC 61 (o_al 0 62)) (nodeC 62 (leafC 62 (o_gR 12 32 65)) (leafC 65 (o_il 5 67)))) (nodeC 67 (leafC 67 (o_inv 2 12 1 FX12_debtNow 70)) (nodeC 70 (leafC 70 (o_iadd 71)) (leafC 71 (o_is 2 72))))) (nodeC 74 (nodeC 72 (leafC 72 (o_il 3 73)) (nodeC 73 (leafC 73 (o_al 0 74)) (leafC 74 (o_gR 12 32 77)))) (nodeC 77 (leafC 77 (o_ic (7) 79)) (nodeC 79 (leafC 79 (o_iald 80)) (leafC 80 (o_al 0 81)))))))) (nodeC 117 (nodeC 99 (nodeC 88 (nodeC 84 (nodeC 81 (leafC 81 (o_gR 12 20 84)) (leafC 84 (o_ic (3) 85))) (nodeC 85 (leafC 85 (o_il 5 87)) (nodeC 87 (leafC 87 (o_imul 88)) (leafC 88 (o_iald 89))))) (nodeC 93 (nodeC 89 (leafC 89 (o_cle 99 92)) (nodeC 92 (leafC 92 (o_ic (1) 93)) (leafC 93 (o_il 5 95)))) (nodeC 95 (leafC 95 (o_ishl 96)) (nodeC 96 (leafC 96 (o_goto 100)) (leafC 99 (o_ic (0) 100)))))) (nodeC 108 (nodeC 102 (nodeC 100 (leafC 100 (o_ior 101)) (nodeC 101 (leafC 101 (o_is 3 102)) (leafC 102 (o_il 4 104)))) (nodeC 104 (leafC 104 (o_ic (-1) 105)) (nodeC 105 (leafC 105 (o_ceq 129 108)) (leafC 108 (o_al 0 109))))) (nodeC 113 (nodeC 109 (leafC 109 (o_gR 12 20 112)) (nodeC 112 (leafC 112 (o_ic (3) 113)) (leafC 113 (o_il 5 115)))) (nodeC 115 (leafC 115 (o_imul 116)) (nodeC 116 (leafC 116 (o_iald 117)) (leafC 117 (o_al 0 118))))))) (nodeC 138 (nodeC 125 (nodeC 121 (nodeC 118 (leafC 118 (o_gR 12 20 121)) (leafC 121 (o_ic (3) 122))) (nodeC 122 (leafC 122 (o_il 4 124)) (nodeC 124 (leafC 124 (o_imul 125)) (leafC 125 (o_iald 126))))) (nodeC 131 (nodeC 126 (leafC 126 (o_cge 134 129)) (nodeC 129 (leafC 129 (o_il 5 131)) (leafC 131 (o_goto 136)))) (nodeC 134 (leafC 134 (o_il 4 136)) (nodeC 136 (leafC 136 (o_is 4 138)) (leafC 138 (o_inc 5 (1) 141)))))) (nodeC 152 (nodeC 145 (nodeC 141 (leafC 141 (o_goto 38)) (nodeC 144 (leafC 144 (o_il 1 145)) (leafC 145 (o_zne 152 148)))) (nodeC 148 (leafC 148 (o_il 2 149)) (nodeC 149 (leafC 149 (o_goto 163)) (leafC 152 (o_il 1 153))))) (nodeC 157 (nodeC 153 (leafC 153 (o_ic (1) 154)) (nodeC 154 (leafC 154 (o_cne 161 157)) (leafC 157 (o_il 3 158)))) (nodeC 158 (leafC 158 (o_goto 163)) (nodeC 161 (leafC 161 (o_il 4 163)) (leafC 163 (o_iret)))))))))
theorem sX12_owed : ∀ pc, SoundOp cX12_owed RX12 6 (some .int) false 3 67 pc (kX12_owed pc) := (so_node (so_node (so_node (so_node (so_node (so_node (so_leaf (so_aload_n dX12_owed_0 rfl)) (so_leaf (so_iconst dX12_owed_1 (by decide)))) (so_node (so_leaf (so_pI (by decide) (by decide) wC12 wf_RX12_105 (Or.inl rfl) rfl dX12_owed_2)) (so_node (so_leaf (so_aload_n dX12_owed_5 rfl)) (so_leaf (so_gI (by decide) (by decide) wC12 wf_RX12_302 (fun _ _ _ => rfl) dX12_owed_6))))) (so_node (so_node (so_leaf (so_zeq dX12_owed_9 (by decide))) (so_node (so_leaf (so_iload_n dX12_owed_12 rfl)) (so_leaf (so_i2l dX12_owed_13)))) (so_node (so_leaf (so_lconst dX12_owed_14 (by decide))) (so_node (so_leaf (so_ldc2 wk_RX12_280 dX12_owed_15)) (so_leaf (so_ist CX12_isIn rfl wm_RX12_225 wst_X12_isIn wny_X12_isIn wc_X12_isIn (by decide +kernel) (by decide) (by decide) dX12_owed_18)))))) (so_node (so_node (so_node (so_leaf (so_zne dX12_owed_21 (by decide))) (so_leaf (so_ldcw wk_RX12_412 dX12_owed_24))) (so_node (so_leaf (so_iret dX12_owed_27 rfl)) (so_node (so_leaf (so_iconst dX12_owed_28 (by decide))) (so_leaf (so_istore_n dX12_owed_29 rfl (by decide)))))) (so_node (so_node (so_leaf (so_iconst dX12_owed_30 (by decide))) (so_node (so_leaf (so_istore_n dX12_owed_31 rfl (by decide))) (so_leaf (so_iconst dX12_owed_32 (by decide))))) (so_node (so_leaf (so_istore dX12_owed_33 (by decide))) (so_node (so_leaf (so_iconst dX12_owed_35 (by decide))) (so_leaf (so_istore dX12_owed_36 (by decide)))))))) (so_node (so_node (so_node (so_node (so_leaf (so_iload dX12_owed_38)) (so_leaf (so_aload_n dX12_owed_40 rfl))) (so_node (so_leaf (so_gI (by decide) (by decide) wC12 wf_RX12_299 (fun _ _ _ => rfl) dX12_owed_41)) (so_node (so_leaf (so_cge dX12_owed_44 (by decide))) (so_leaf (so_aload_n dX12_owed_47 rfl))))) (so_node (so_node (so_leaf (so_iload dX12_owed_48)) (so_node (so_leaf (so_inv CX12_isOpen (by decide) rfl wm_RX12_450 win_X12_isOpen wse_X12_isOpen wn_12 wc_X12_isOpen (by decide +kernel) (by decide) (by decide) dX12_owed_50)) (so_leaf (so_zne dX12_owed_53 (by decide))))) (so_node (so_leaf (so_goto dX12_owed_56 (by decide))) (so_node (so_leaf (so_iload_n dX12_owed_59 rfl)) (so_leaf (so_aload_n dX12_owed_60 rfl)))))) (so_node (so_node (so_node (so_leaf (so_aload_n dX12_owed_61 rfl)) (so_node (so_leaf (so_gR (by decide) (by decide) wC12 wf_RX12_61 (fun _ _ _ => rfl) dX12_owed_62)) (so_leaf (so_iload dX12_owed_65)))) (so_node (so_leaf (so_inv CX12_debtNow (by decide) rfl wm_RX12_346 win_X12_debtNow wse_X12_debtNow wn_12 wc_X12_debtNow (by decide +kernel) (by decide) (by decide) dX12_owed_67)) (so_node (so_leaf (so_iadd dX12_owed_70)) (so_leaf (so_istore_n dX12_owed_71 rfl (by decide)))))) (so_node (so_node (so_leaf (so_iload_n dX12_owed_72 rfl)) (so_node (so_leaf (so_aload_n dX12_owed_73 rfl)) (so_leaf (so_gR (by decide) (by decide) wC12 wf_RX12_61 (fun _ _ _ => rfl) dX12_owed_74)))) (so_node (so_leaf (so_bipush dX12_owed_77 (by decide))) (so_node (so_leaf (so_iald dX12_owed_79)) (so_leaf (so_aload_n dX12_owed_80 rfl)))))))) (so_node (so_node (so_node (so_node (so_node (so_leaf (so_gR (by decide) (by decide) wC12 wf_RX12_43 (fun _ _ _ => rfl) dX12_owed_81)) (so_leaf (so_iconst dX12_owed_84 (by decide)))) (so_node (so_leaf (so_iload dX12_owed_85)) (so_node (so_leaf (so_imul dX12_owed_87)) (so_leaf (so_iald dX12_owed_88))))) (so_node (so_node (so_leaf (so_cle dX12_owed_89 (by decide))) (so_node (so_leaf (so_iconst dX12_owed_92 (by decide))) (so_leaf (so_iload dX12_owed_93)))) (so_node (so_leaf (so_ishl dX12_owed_95)) (so_node (so_leaf (so_goto dX12_owed_96 (by decide))) (so_leaf (so_iconst dX12_owed_99 (by decide))))))) (so_node (so_node (so_node (so_leaf (so_ior dX12_owed_100)) (so_node (so_leaf (so_istore_n dX12_owed_101 rfl (by decide))) (so_leaf (so_iload dX12_owed_102)))) (so_node (so_leaf (so_iconst dX12_owed_104 (by decide))) (so_node (so_leaf (so_ceq dX12_owed_105 (by decide))) (so_leaf (so_aload_n dX12_owed_108 rfl))))) (so_node (so_node (so_leaf (so_gR (by decide) (by decide) wC12 wf_RX12_43 (fun _ _ _ => rfl) dX12_owed_109)) (so_node (so_leaf (so_iconst dX12_owed_112 (by decide))) (so_leaf (so_iload dX12_owed_113)))) (so_node (so_leaf (so_imul dX12_owed_115)) (so_node (so_leaf (so_iald dX12_owed_116)) (so_leaf (so_aload_n dX12_owed_117 rfl))))))) (so_node (so_node (so_node (so_node (so_leaf (so_gR (by decide) (by decide) wC12 wf_RX12_43 (fun _ _ _ => rfl) dX12_owed_118)) (so_leaf (so_iconst dX12_owed_121 (by decide)))) (so_node (so_leaf (so_iload dX12_owed_122)) (so_node (so_leaf (so_imul dX12_owed_124)) (so_leaf (so_iald dX12_owed_125))))) (so_node (so_node (so_leaf (so_cge dX12_owed_126 (by decide))) (so_node (so_leaf (so_iload dX12_owed_129)) (so_leaf (so_goto dX12_owed_131 (by decide))))) (so_node (so_leaf (so_iload dX12_owed_134)) (so_node (so_leaf (so_istore dX12_owed_136 (by decide))) (so_leaf (so_iinc dX12_owed_138 (by decide) (by decide))))))) (so_node (so_node (so_node (so_leaf (so_goto dX12_owed_141 (by decide))) (so_node (so_leaf (so_iload_n dX12_owed_144 rfl)) (so_leaf (so_zne dX12_owed_145 (by decide))))) (so_node (so_leaf (so_iload_n dX12_owed_148 rfl)) (so_node (so_leaf (so_goto dX12_owed_149 (by decide))) (so_leaf (so_iload_n dX12_owed_152 rfl))))) (so_node (so_node (so_leaf (so_iconst dX12_owed_153 (by decide))) (so_node (so_leaf (so_cne dX12_owed_154 (by decide))) (so_leaf (so_iload_n dX12_owed_157 rfl)))) (so_node (so_leaf (so_goto dX12_owed_158 (by decide))) (so_node (so_leaf (so_iload dX12_owed_161)) (so_leaf (so_iret dX12_owed_163 rfl)))))))))
theorem pX12_owed : ∀ pc, Pr (kX12_owed pc) := (pr_node (pr_node (pr_node (pr_node (pr_node (pr_node (pr_leaf (pr_al _ _)) (pr_leaf (pr_ic _ _))) (pr_node (pr_leaf (pr_pI _ _ _)) (pr_node (pr_leaf (pr_al _ _)) (pr_leaf (pr_gI _ _ _))))) (pr_node (pr_node (pr_leaf (pr_zeq _ _)) (pr_node (pr_leaf (pr_il _ _)) (pr_leaf (pr_i2l _)))) (pr_node (pr_leaf (pr_lc _ _)) (pr_node (pr_leaf (pr_lc _ _)) (pr_leaf (pr_ist _ _ GX12_isIn _)))))) (pr_node (pr_node (pr_node (pr_leaf (pr_zne _ _)) (pr_leaf (pr_ic _ _))) (pr_node (pr_leaf (pr_iret)) (pr_node (pr_leaf (pr_ic _ _)) (pr_leaf (pr_is _ _))))) (pr_node (pr_node (pr_leaf (pr_ic _ _)) (pr_node (pr_leaf (pr_is _ _)) (pr_leaf (pr_ic _ _)))) (pr_node (pr_leaf (pr_is _ _)) (pr_node (pr_leaf (pr_ic _ _)) (pr_leaf (pr_is _ _))))))) (pr_node (pr_node (pr_node (pr_node (pr_leaf (pr_il _ _)) (pr_leaf (pr_al _ _))) (pr_node (pr_leaf (pr_gI _ _ _)) (pr_node (pr_leaf (pr_cge _ _)) (pr_leaf (pr_al _ _))))) (pr_node (pr_node (pr_leaf (pr_il _ _)) (pr_node (pr_leaf (pr_inv _ _ _ GX12_isOpen _)) (pr_leaf (pr_zne _ _)))) (pr_node (pr_leaf (pr_goto _)) (pr_node (pr_leaf (pr_il _ _)) (pr_leaf (pr_al _ _)))))) (pr_node (pr_node (pr_node (pr_leaf (pr_al _ _)) (pr_node (pr_leaf (pr_gR _ _ _)) (pr_leaf (pr_il _ _)))) (pr_node (pr_leaf (pr_inv _ _ _ GX12_debtNow _)) (pr_node (pr_leaf (pr_iadd _)) (pr_leaf (pr_is _ _))))) (pr_node (pr_node (pr_leaf (pr_il _ _)) (pr_node (pr_leaf (pr_al _ _)) (pr_leaf (pr_gR _ _ _)))) (pr_node (pr_leaf (pr_ic _ _)) (pr_node (pr_leaf (pr_iald _)) (pr_leaf (pr_al _ _)))))))) (pr_node (pr_node (pr_node (pr_node (pr_node (pr_leaf (pr_gR _ _ _)) (pr_leaf (pr_ic _ _))) (pr_node (pr_leaf (pr_il _ _)) (pr_node (pr_leaf (pr_imul _)) (pr_leaf (pr_iald _))))) (pr_node (pr_node (pr_leaf (pr_cle _ _)) (pr_node (pr_leaf (pr_ic _ _)) (pr_leaf (pr_il _ _)))) (pr_node (pr_leaf (pr_ishl _)) (pr_node (pr_leaf (pr_goto _)) (pr_leaf (pr_ic _ _)))))) (pr_node (pr_node (pr_node (pr_leaf (pr_ior _)) (pr_node (pr_leaf (pr_is _ _)) (pr_leaf (pr_il _ _)))) (pr_node (pr_leaf (pr_ic _ _)) (pr_node (pr_leaf (pr_ceq _ _)) (pr_leaf (pr_al _ _))))) (pr_node (pr_node (pr_leaf (pr_gR _ _ _)) (pr_node (pr_leaf (pr_ic _ _)) (pr_leaf (pr_il _ _)))) (pr_node (pr_leaf (pr_imul _)) (pr_node (pr_leaf (pr_iald _)) (pr_leaf (pr_al _ _))))))) (pr_node (pr_node (pr_node (pr_node (pr_leaf (pr_gR _ _ _)) (pr_leaf (pr_ic _ _))) (pr_node (pr_leaf (pr_il _ _)) (pr_node (pr_leaf (pr_imul _)) (pr_leaf (pr_iald _))))) (pr_node (pr_node (pr_leaf (pr_cge _ _)) (pr_node (pr_leaf (pr_il _ _)) (pr_leaf (pr_goto _)))) (pr_node (pr_leaf (pr_il _ _)) (pr_node (pr_leaf (pr_is _ _)) (pr_leaf (pr_inc _ _ _)))))) (pr_node (pr_node (pr_node (pr_leaf (pr_goto _)) (pr_node (pr_leaf (pr_il _ _)) (pr_leaf (pr_zne _ _)))) (pr_node (pr_leaf (pr_il _ _)) (pr_node (pr_leaf (pr_goto _)) (pr_leaf (pr_il _ _))))) (pr_node (pr_node (pr_leaf (pr_ic _ _)) (pr_node (pr_leaf (pr_cne _ _)) (pr_leaf (pr_il _ _)))) (pr_node (pr_leaf (pr_goto _)) (pr_node (pr_leaf (pr_il _ _)) (pr_leaf (pr_iret)))))))))
noncomputable def FX12_owed : List EV → Hp → Option (RV × Hp) := Fm kX12_owed 6
theorem CX12_owed : Con yX12_owed cX12_owed 6 (some .int) 3 67 FX12_owed := con_of (own := RX12) rfl (by decide +kernel) sX12_owed pX12_owed (fun z => by cases z)
theorem GX12_owed : Gr FX12_owed := Gr_Fm pX12_owed 6
theorem dX12_bears_0 : decode cX12_bears 0 = .ok (.aload_n 0, 1) := by decide +kernel
theorem dX12_bears_1 : decode cX12_bears 1 = .ok (.iconst 0, 1) := by decide +kernel
theorem dX12_bears_2 : decode cX12_bears 2 = .ok (.putfield 105, 3) := by decide +kernel
theorem dX12_bears_5 : decode cX12_bears 5 = .ok (.aload_n 0, 1) := by decide +kernel
theorem dX12_bears_6 : decode cX12_bears 6 = .ok (.getfield 302, 3) := by decide +kernel
theorem dX12_bears_9 : decode cX12_bears 9 = .ok (.ifCond .eq 15, 3) := by decide +kernel
theorem dX12_bears_12 : decode cX12_bears 12 = .ok (.iload_n 1, 1) := by decide +kernel
theorem dX12_bears_13 : decode cX12_bears 13 = .ok (.i2l, 1) := by decide +kernel
theorem dX12_bears_14 : decode cX12_bears 14 = .ok (.lconst 0, 1) := by decide +kernel
theorem dX12_bears_15 : decode cX12_bears 15 = .ok (.ldc2_w 401, 3) := by decide +kernel
theorem dX12_bears_18 : decode cX12_bears 18 = .ok (.invokestatic 225, 3) := by decide +kernel
theorem dX12_bears_21 : decode cX12_bears 21 = .ok (.ifCond .ne 5, 3) := by decide +kernel
theorem dX12_bears_24 : decode cX12_bears 24 = .ok (.iconst (-1), 1) := by decide +kernel
theorem dX12_bears_25 : decode cX12_bears 25 = .ok (.ireturn, 1) := by decide +kernel
theorem dX12_bears_26 : decode cX12_bears 26 = .ok (.aload_n 0, 1) := by decide +kernel
theorem dX12_bears_27 : decode cX12_bears 27 = .ok (.getfield 61, 3) := by decide +kernel
theorem dX12_bears_30 : decode cX12_bears 30 = .ok (.aload_n 0, 1) := by decide +kernel
theorem dX12_bears_31 : decode cX12_bears 31 = .ok (.getfield 64, 3) := by decide +kernel
theorem dX12_bears_34 : decode cX12_bears 34 = .ok (.invokestatic 413, 3) := by decide +kernel
theorem dX12_bears_37 : decode cX12_bears 37 = .ok (.iconst 0, 1) := by decide +kernel
theorem dX12_bears_38 : decode cX12_bears 38 = .ok (.istore_n 2, 1) := by decide +kernel
theorem dX12_bears_39 : decode cX12_bears 39 = .ok (.iload_n 2, 1) := by decide +kernel
theorem dX12_bears_40 : decode cX12_bears 40 = .ok (.bipush 60, 2) := by decide +kernel
theorem dX12_bears_42 : decode cX12_bears 42 = .ok (.if_icmp .gt 30, 3) := by decide +kernel
theorem dX12_bears_45 : decode cX12_bears 45 = .ok (.aload_n 0, 1) := by decide +kernel
theorem dX12_bears_46 : decode cX12_bears 46 = .ok (.getfield 64, 3) := by decide +kernel
theorem dX12_bears_49 : decode cX12_bears 49 = .ok (.iconst 0, 1) := by decide +kernel
theorem dX12_bears_50 : decode cX12_bears 50 = .ok (.iaload, 1) := by decide +kernel
theorem dX12_bears_51 : decode cX12_bears 51 = .ok (.iload_n 1, 1) := by decide +kernel
theorem dX12_bears_52 : decode cX12_bears 52 = .ok (.if_icmp .lt 5, 3) := by decide +kernel
theorem dX12_bears_55 : decode cX12_bears 55 = .ok (.iload_n 2, 1) := by decide +kernel
theorem dX12_bears_56 : decode cX12_bears 56 = .ok (.ireturn, 1) := by decide +kernel
theorem dX12_bears_57 : decode cX12_bears 57 = .ok (.aload_n 0, 1) := by decide +kernel
theorem dX12_bears_58 : decode cX12_bears 58 = .ok (.aload_n 0, 1) := by decide +kernel
theorem dX12_bears_59 : decode cX12_bears 59 = .ok (.getfield 64, 3) := by decide +kernel
theorem dX12_bears_62 : decode cX12_bears 62 = .ok (.iconst 0, 1) := by decide +kernel
theorem dX12_bears_63 : decode cX12_bears 63 = .ok (.invokevirtual 370, 3) := by decide +kernel
theorem dX12_bears_66 : decode cX12_bears 66 = .ok (.iinc 2 1, 3) := by decide +kernel
theorem dX12_bears_69 : decode cX12_bears 69 = .ok (.goto (-30), 3) := by decide +kernel
theorem dX12_bears_72 : decode cX12_bears 72 = .ok (.iconst (-1), 1) := by decide +kernel
theorem dX12_bears_73 : decode cX12_bears 73 = .ok (.ireturn, 1) := by decide +kernel
noncomputable def kX12_bears : Nat → Op := (nodeC 37 (nodeC 15 (nodeC 6 (nodeC 1 (nodeC 0 (leafC 0 (o_al 0 1)) (leafC 1 (o_ic (0) 2))) (nodeC 2 (leafC 2 (o_pI 12 0 5)) (nodeC 5 (leafC 5 (o_al 0 6)) (leafC 6 (o_gI 12 27 9))))) (nodeC 12 (nodeC 9 (leafC 9 (o_zeq 24 12)) (leafC 12 (o_il 1 13))) (nodeC 13 (leafC 13 (o_i2l 14)) (nodeC 14 (leafC 14 (o_lc (0) 15)) (leafC 15 (o_lc (60) 18)))))) (nodeC 26 (nodeC 21 (nodeC 18 (leafC 18 (o_ist 3 1 FX12_isIn 21)) (leafC 21 (o_zne 26 24))) (nodeC 24 (leafC 24 (o_ic (-1) 25)) (nodeC 25 (leafC 25 (o_iret)) (leafC 26 (o_al 0 27))))) (nodeC 30 (nodeC 27 (leafC 27 (o_gR 12 32 30)) (leafC 30 (o_al 0 31))) (nodeC 31 (leafC 31 (o_gR 12 33 34)) (nodeC 34 (leafC 34 (o_ist 2 0 FX12_copy 37)) (leafC 37 (o_ic (0) 38))))))) (nodeC 52 (nodeC 45 (nodeC 39 (nodeC 38 (leafC 38 (o_is 2 39)) (leafC 39 (o_il 2 40))) (nodeC 40 (leafC 40 (o_ic (60) 42)) (nodeC 42 (leafC 42 (o_cgt 72 45)) (leafC 45 (o_al 0 46))))) (nodeC 49 (nodeC 46 (leafC 46 (o_gR 12 33 49)) (leafC 49 (o_ic (0) 50))) (nodeC 50 (leafC 50 (o_iald 51)) (nodeC 51 (leafC 51 (o_il 1 52)) (leafC 52 (o_clt 57 55)))))) (nodeC 59 (nodeC 56 (nodeC 55 (leafC 55 (o_il 2 56)) (leafC 56 (o_iret))) (nodeC 57 (leafC 57 (o_al 0 58)) (nodeC 58 (leafC 58 (o_al 0 59)) (leafC 59 (o_gR 12 33 62))))) (nodeC 66 (nodeC 62 (leafC 62 (o_ic (0) 63)) (nodeC 63 (leafC 63 (o_inv 2 12 0 FX12_goWeek 66)) (leafC 66 (o_inc 2 (1) 69)))) (nodeC 69 (leafC 69 (o_goto 39)) (nodeC 72 (leafC 72 (o_ic (-1) 73)) (leafC 73 (o_iret))))))))
theorem sX12_bears : ∀ pc, SoundOp cX12_bears RX12 3 (some .int) false 92 2271 pc (kX12_bears pc) := (so_node (so_node (so_node (so_node (so_node (so_leaf (so_aload_n dX12_bears_0 rfl)) (so_leaf (so_iconst dX12_bears_1 (by decide)))) (so_node (so_leaf (so_pI (by decide) (by decide) wC12 wf_RX12_105 (Or.inl rfl) rfl dX12_bears_2)) (so_node (so_leaf (so_aload_n dX12_bears_5 rfl)) (so_leaf (so_gI (by decide) (by decide) wC12 wf_RX12_302 (fun _ _ _ => rfl) dX12_bears_6))))) (so_node (so_node (so_leaf (so_zeq dX12_bears_9 (by decide))) (so_leaf (so_iload_n dX12_bears_12 rfl))) (so_node (so_leaf (so_i2l dX12_bears_13)) (so_node (so_leaf (so_lconst dX12_bears_14 (by decide))) (so_leaf (so_ldc2 wk_RX12_401 dX12_bears_15)))))) (so_node (so_node (so_node (so_leaf (so_ist CX12_isIn rfl wm_RX12_225 wst_X12_isIn wny_X12_isIn wc_X12_isIn (by decide +kernel) (by decide) (by decide) dX12_bears_18)) (so_leaf (so_zne dX12_bears_21 (by decide)))) (so_node (so_leaf (so_iconst dX12_bears_24 (by decide))) (so_node (so_leaf (so_iret dX12_bears_25 rfl)) (so_leaf (so_aload_n dX12_bears_26 rfl))))) (so_node (so_node (so_leaf (so_gR (by decide) (by decide) wC12 wf_RX12_61 (fun _ _ _ => rfl) dX12_bears_27)) (so_leaf (so_aload_n dX12_bears_30 rfl))) (so_node (so_leaf (so_gR (by decide) (by decide) wC12 wf_RX12_64 (fun _ _ _ => rfl) dX12_bears_31)) (so_node (so_leaf (so_ist CX12_copy rfl wm_RX12_413 wst_X12_copy wny_X12_copy wc_X12_copy (by decide +kernel) (by decide) (by decide) dX12_bears_34)) (so_leaf (so_iconst dX12_bears_37 (by decide)))))))) (so_node (so_node (so_node (so_node (so_leaf (so_istore_n dX12_bears_38 rfl (by decide))) (so_leaf (so_iload_n dX12_bears_39 rfl))) (so_node (so_leaf (so_bipush dX12_bears_40 (by decide))) (so_node (so_leaf (so_cgt dX12_bears_42 (by decide))) (so_leaf (so_aload_n dX12_bears_45 rfl))))) (so_node (so_node (so_leaf (so_gR (by decide) (by decide) wC12 wf_RX12_64 (fun _ _ _ => rfl) dX12_bears_46)) (so_leaf (so_iconst dX12_bears_49 (by decide)))) (so_node (so_leaf (so_iald dX12_bears_50)) (so_node (so_leaf (so_iload_n dX12_bears_51 rfl)) (so_leaf (so_clt dX12_bears_52 (by decide))))))) (so_node (so_node (so_node (so_leaf (so_iload_n dX12_bears_55 rfl)) (so_leaf (so_iret dX12_bears_56 rfl))) (so_node (so_leaf (so_aload_n dX12_bears_57 rfl)) (so_node (so_leaf (so_aload_n dX12_bears_58 rfl)) (so_leaf (so_gR (by decide) (by decide) wC12 wf_RX12_64 (fun _ _ _ => rfl) dX12_bears_59))))) (so_node (so_node (so_leaf (so_iconst dX12_bears_62 (by decide))) (so_node (so_leaf (so_inv CX12_goWeek (by decide) rfl wm_RX12_370 win_X12_goWeek wse_X12_goWeek wn_12 wc_X12_goWeek (by decide +kernel) (by decide) (by decide) dX12_bears_63)) (so_leaf (so_iinc dX12_bears_66 (by decide) (by decide))))) (so_node (so_leaf (so_goto dX12_bears_69 (by decide))) (so_node (so_leaf (so_iconst dX12_bears_72 (by decide))) (so_leaf (so_iret dX12_bears_73 rfl))))))))
theorem pX12_bears : ∀ pc, Pr (kX12_bears pc) := (pr_node (pr_node (pr_node (pr_node (pr_node (pr_leaf (pr_al _ _)) (pr_leaf (pr_ic _ _))) (pr_node (pr_leaf (pr_pI _ _ _)) (pr_node (pr_leaf (pr_al _ _)) (pr_leaf (pr_gI _ _ _))))) (pr_node (pr_node (pr_leaf (pr_zeq _ _)) (pr_leaf (pr_il _ _))) (pr_node (pr_leaf (pr_i2l _)) (pr_node (pr_leaf (pr_lc _ _)) (pr_leaf (pr_lc _ _)))))) (pr_node (pr_node (pr_node (pr_leaf (pr_ist _ _ GX12_isIn _)) (pr_leaf (pr_zne _ _))) (pr_node (pr_leaf (pr_ic _ _)) (pr_node (pr_leaf (pr_iret)) (pr_leaf (pr_al _ _))))) (pr_node (pr_node (pr_leaf (pr_gR _ _ _)) (pr_leaf (pr_al _ _))) (pr_node (pr_leaf (pr_gR _ _ _)) (pr_node (pr_leaf (pr_ist _ _ GX12_copy _)) (pr_leaf (pr_ic _ _))))))) (pr_node (pr_node (pr_node (pr_node (pr_leaf (pr_is _ _)) (pr_leaf (pr_il _ _))) (pr_node (pr_leaf (pr_ic _ _)) (pr_node (pr_leaf (pr_cgt _ _)) (pr_leaf (pr_al _ _))))) (pr_node (pr_node (pr_leaf (pr_gR _ _ _)) (pr_leaf (pr_ic _ _))) (pr_node (pr_leaf (pr_iald _)) (pr_node (pr_leaf (pr_il _ _)) (pr_leaf (pr_clt _ _)))))) (pr_node (pr_node (pr_node (pr_leaf (pr_il _ _)) (pr_leaf (pr_iret))) (pr_node (pr_leaf (pr_al _ _)) (pr_node (pr_leaf (pr_al _ _)) (pr_leaf (pr_gR _ _ _))))) (pr_node (pr_node (pr_leaf (pr_ic _ _)) (pr_node (pr_leaf (pr_inv _ _ _ GX12_goWeek _)) (pr_leaf (pr_inc _ _ _)))) (pr_node (pr_leaf (pr_goto _)) (pr_node (pr_leaf (pr_ic _ _)) (pr_leaf (pr_iret))))))))
noncomputable def FX12_bears : List EV → Hp → Option (RV × Hp) := Fm kX12_bears 3
theorem CX12_bears : Con yX12_bears cX12_bears 3 (some .int) 92 2271 FX12_bears := con_of (own := RX12) rfl (by decide +kernel) sX12_bears pX12_bears (fun z => by cases z)
theorem GX12_bears : Gr FX12_bears := Gr_Fm pX12_bears 3
theorem dX12_bestBuyer_0 : decode cX12_bestBuyer 0 = .ok (.iconst (-1), 1) := by decide +kernel
theorem dX12_bestBuyer_1 : decode cX12_bestBuyer 1 = .ok (.istore_n 1, 1) := by decide +kernel
theorem dX12_bestBuyer_2 : decode cX12_bestBuyer 2 = .ok (.iconst 0, 1) := by decide +kernel
theorem dX12_bestBuyer_3 : decode cX12_bestBuyer 3 = .ok (.istore_n 2, 1) := by decide +kernel
theorem dX12_bestBuyer_4 : decode cX12_bestBuyer 4 = .ok (.iload_n 2, 1) := by decide +kernel
theorem dX12_bestBuyer_5 : decode cX12_bestBuyer 5 = .ok (.aload_n 0, 1) := by decide +kernel
theorem dX12_bestBuyer_6 : decode cX12_bestBuyer 6 = .ok (.getfield 302, 3) := by decide +kernel
theorem dX12_bestBuyer_9 : decode cX12_bestBuyer 9 = .ok (.if_icmp .ge 47, 3) := by decide +kernel
theorem dX12_bestBuyer_12 : decode cX12_bestBuyer 12 = .ok (.aload_n 0, 1) := by decide +kernel
theorem dX12_bestBuyer_13 : decode cX12_bestBuyer 13 = .ok (.aload_n 0, 1) := by decide +kernel
theorem dX12_bestBuyer_14 : decode cX12_bestBuyer 14 = .ok (.getfield 61, 3) := by decide +kernel
theorem dX12_bestBuyer_17 : decode cX12_bestBuyer 17 = .ok (.iload_n 2, 1) := by decide +kernel
theorem dX12_bestBuyer_18 : decode cX12_bestBuyer 18 = .ok (.invokevirtual 355, 3) := by decide +kernel
theorem dX12_bestBuyer_21 : decode cX12_bestBuyer 21 = .ok (.ifCond .le 29, 3) := by decide +kernel
theorem dX12_bestBuyer_24 : decode cX12_bestBuyer 24 = .ok (.iload_n 1, 1) := by decide +kernel
theorem dX12_bestBuyer_25 : decode cX12_bestBuyer 25 = .ok (.iconst (-1), 1) := by decide +kernel
theorem dX12_bestBuyer_26 : decode cX12_bestBuyer 26 = .ok (.if_icmp .eq 22, 3) := by decide +kernel
theorem dX12_bestBuyer_29 : decode cX12_bestBuyer 29 = .ok (.aload_n 0, 1) := by decide +kernel
theorem dX12_bestBuyer_30 : decode cX12_bestBuyer 30 = .ok (.getfield 49, 3) := by decide +kernel
theorem dX12_bestBuyer_33 : decode cX12_bestBuyer 33 = .ok (.iconst 3, 1) := by decide +kernel
theorem dX12_bestBuyer_34 : decode cX12_bestBuyer 34 = .ok (.iload_n 2, 1) := by decide +kernel
theorem dX12_bestBuyer_35 : decode cX12_bestBuyer 35 = .ok (.imul, 1) := by decide +kernel
theorem dX12_bestBuyer_36 : decode cX12_bestBuyer 36 = .ok (.iaload, 1) := by decide +kernel
theorem dX12_bestBuyer_37 : decode cX12_bestBuyer 37 = .ok (.aload_n 0, 1) := by decide +kernel
theorem dX12_bestBuyer_38 : decode cX12_bestBuyer 38 = .ok (.getfield 49, 3) := by decide +kernel
theorem dX12_bestBuyer_41 : decode cX12_bestBuyer 41 = .ok (.iconst 3, 1) := by decide +kernel
theorem dX12_bestBuyer_42 : decode cX12_bestBuyer 42 = .ok (.iload_n 1, 1) := by decide +kernel
theorem dX12_bestBuyer_43 : decode cX12_bestBuyer 43 = .ok (.imul, 1) := by decide +kernel
theorem dX12_bestBuyer_44 : decode cX12_bestBuyer 44 = .ok (.iaload, 1) := by decide +kernel
theorem dX12_bestBuyer_45 : decode cX12_bestBuyer 45 = .ok (.if_icmp .le 5, 3) := by decide +kernel
theorem dX12_bestBuyer_48 : decode cX12_bestBuyer 48 = .ok (.iload_n 2, 1) := by decide +kernel
theorem dX12_bestBuyer_49 : decode cX12_bestBuyer 49 = .ok (.istore_n 1, 1) := by decide +kernel
theorem dX12_bestBuyer_50 : decode cX12_bestBuyer 50 = .ok (.iinc 2 1, 3) := by decide +kernel
theorem dX12_bestBuyer_53 : decode cX12_bestBuyer 53 = .ok (.goto (-49), 3) := by decide +kernel
theorem dX12_bestBuyer_56 : decode cX12_bestBuyer 56 = .ok (.iload_n 1, 1) := by decide +kernel
theorem dX12_bestBuyer_57 : decode cX12_bestBuyer 57 = .ok (.ireturn, 1) := by decide +kernel
noncomputable def kX12_bestBuyer : Nat → Op := (nodeC 29 (nodeC 12 (nodeC 3 (nodeC 1 (nodeC 0 (leafC 0 (o_ic (-1) 1)) (leafC 1 (o_is 1 2))) (nodeC 2 (leafC 2 (o_ic (0) 3)) (leafC 3 (o_is 2 4)))) (nodeC 5 (nodeC 4 (leafC 4 (o_il 2 5)) (leafC 5 (o_al 0 6))) (nodeC 6 (leafC 6 (o_gI 12 27 9)) (nodeC 9 (leafC 9 (o_cge 56 12)) (leafC 12 (o_al 0 13)))))) (nodeC 18 (nodeC 14 (nodeC 13 (leafC 13 (o_al 0 14)) (leafC 14 (o_gR 12 32 17))) (nodeC 17 (leafC 17 (o_il 2 18)) (leafC 18 (o_inv 2 12 1 FX12_wants 21)))) (nodeC 24 (nodeC 21 (leafC 21 (o_zle 50 24)) (leafC 24 (o_il 1 25))) (nodeC 25 (leafC 25 (o_ic (-1) 26)) (nodeC 26 (leafC 26 (o_ceq 48 29)) (leafC 29 (o_al 0 30))))))) (nodeC 42 (nodeC 35 (nodeC 33 (nodeC 30 (leafC 30 (o_gR 12 22 33)) (leafC 33 (o_ic (3) 34))) (nodeC 34 (leafC 34 (o_il 2 35)) (leafC 35 (o_imul 36)))) (nodeC 37 (nodeC 36 (leafC 36 (o_iald 37)) (leafC 37 (o_al 0 38))) (nodeC 38 (leafC 38 (o_gR 12 22 41)) (nodeC 41 (leafC 41 (o_ic (3) 42)) (leafC 42 (o_il 1 43)))))) (nodeC 48 (nodeC 44 (nodeC 43 (leafC 43 (o_imul 44)) (leafC 44 (o_iald 45))) (nodeC 45 (leafC 45 (o_cle 50 48)) (leafC 48 (o_il 2 49)))) (nodeC 50 (nodeC 49 (leafC 49 (o_is 1 50)) (leafC 50 (o_inc 2 (1) 53))) (nodeC 53 (leafC 53 (o_goto 4)) (nodeC 56 (leafC 56 (o_il 1 57)) (leafC 57 (o_iret))))))))
theorem sX12_bestBuyer : ∀ pc, SoundOp cX12_bestBuyer RX12 3 (some .int) false 1 22 pc (kX12_bestBuyer pc) := (so_node (so_node (so_node (so_node (so_node (so_leaf (so_iconst dX12_bestBuyer_0 (by decide))) (so_leaf (so_istore_n dX12_bestBuyer_1 rfl (by decide)))) (so_node (so_leaf (so_iconst dX12_bestBuyer_2 (by decide))) (so_leaf (so_istore_n dX12_bestBuyer_3 rfl (by decide))))) (so_node (so_node (so_leaf (so_iload_n dX12_bestBuyer_4 rfl)) (so_leaf (so_aload_n dX12_bestBuyer_5 rfl))) (so_node (so_leaf (so_gI (by decide) (by decide) wC12 wf_RX12_302 (fun _ _ _ => rfl) dX12_bestBuyer_6)) (so_node (so_leaf (so_cge dX12_bestBuyer_9 (by decide))) (so_leaf (so_aload_n dX12_bestBuyer_12 rfl)))))) (so_node (so_node (so_node (so_leaf (so_aload_n dX12_bestBuyer_13 rfl)) (so_leaf (so_gR (by decide) (by decide) wC12 wf_RX12_61 (fun _ _ _ => rfl) dX12_bestBuyer_14))) (so_node (so_leaf (so_iload_n dX12_bestBuyer_17 rfl)) (so_leaf (so_inv CX12_wants (by decide) rfl wm_RX12_355 win_X12_wants wse_X12_wants wn_12 wc_X12_wants (by decide +kernel) (by decide) (by decide) dX12_bestBuyer_18)))) (so_node (so_node (so_leaf (so_zle dX12_bestBuyer_21 (by decide))) (so_leaf (so_iload_n dX12_bestBuyer_24 rfl))) (so_node (so_leaf (so_iconst dX12_bestBuyer_25 (by decide))) (so_node (so_leaf (so_ceq dX12_bestBuyer_26 (by decide))) (so_leaf (so_aload_n dX12_bestBuyer_29 rfl))))))) (so_node (so_node (so_node (so_node (so_leaf (so_gR (by decide) (by decide) wC12 wf_RX12_49 (fun _ _ _ => rfl) dX12_bestBuyer_30)) (so_leaf (so_iconst dX12_bestBuyer_33 (by decide)))) (so_node (so_leaf (so_iload_n dX12_bestBuyer_34 rfl)) (so_leaf (so_imul dX12_bestBuyer_35)))) (so_node (so_node (so_leaf (so_iald dX12_bestBuyer_36)) (so_leaf (so_aload_n dX12_bestBuyer_37 rfl))) (so_node (so_leaf (so_gR (by decide) (by decide) wC12 wf_RX12_49 (fun _ _ _ => rfl) dX12_bestBuyer_38)) (so_node (so_leaf (so_iconst dX12_bestBuyer_41 (by decide))) (so_leaf (so_iload_n dX12_bestBuyer_42 rfl)))))) (so_node (so_node (so_node (so_leaf (so_imul dX12_bestBuyer_43)) (so_leaf (so_iald dX12_bestBuyer_44))) (so_node (so_leaf (so_cle dX12_bestBuyer_45 (by decide))) (so_leaf (so_iload_n dX12_bestBuyer_48 rfl)))) (so_node (so_node (so_leaf (so_istore_n dX12_bestBuyer_49 rfl (by decide))) (so_leaf (so_iinc dX12_bestBuyer_50 (by decide) (by decide)))) (so_node (so_leaf (so_goto dX12_bestBuyer_53 (by decide))) (so_node (so_leaf (so_iload_n dX12_bestBuyer_56 rfl)) (so_leaf (so_iret dX12_bestBuyer_57 rfl))))))))
theorem pX12_bestBuyer : ∀ pc, Pr (kX12_bestBuyer pc) := (pr_node (pr_node (pr_node (pr_node (pr_node (pr_leaf (pr_ic _ _)) (pr_leaf (pr_is _ _))) (pr_node (pr_leaf (pr_ic _ _)) (pr_leaf (pr_is _ _)))) (pr_node (pr_node (pr_leaf (pr_il _ _)) (pr_leaf (pr_al _ _))) (pr_node (pr_leaf (pr_gI _ _ _)) (pr_node (pr_leaf (pr_cge _ _)) (pr_leaf (pr_al _ _)))))) (pr_node (pr_node (pr_node (pr_leaf (pr_al _ _)) (pr_leaf (pr_gR _ _ _))) (pr_node (pr_leaf (pr_il _ _)) (pr_leaf (pr_inv _ _ _ GX12_wants _)))) (pr_node (pr_node (pr_leaf (pr_zle _ _)) (pr_leaf (pr_il _ _))) (pr_node (pr_leaf (pr_ic _ _)) (pr_node (pr_leaf (pr_ceq _ _)) (pr_leaf (pr_al _ _))))))) (pr_node (pr_node (pr_node (pr_node (pr_leaf (pr_gR _ _ _)) (pr_leaf (pr_ic _ _))) (pr_node (pr_leaf (pr_il _ _)) (pr_leaf (pr_imul _)))) (pr_node (pr_node (pr_leaf (pr_iald _)) (pr_leaf (pr_al _ _))) (pr_node (pr_leaf (pr_gR _ _ _)) (pr_node (pr_leaf (pr_ic _ _)) (pr_leaf (pr_il _ _)))))) (pr_node (pr_node (pr_node (pr_leaf (pr_imul _)) (pr_leaf (pr_iald _))) (pr_node (pr_leaf (pr_cle _ _)) (pr_leaf (pr_il _ _)))) (pr_node (pr_node (pr_leaf (pr_is _ _)) (pr_leaf (pr_inc _ _ _))) (pr_node (pr_leaf (pr_goto _)) (pr_node (pr_leaf (pr_il _ _)) (pr_leaf (pr_iret))))))))
noncomputable def FX12_bestBuyer : List EV → Hp → Option (RV × Hp) := Fm kX12_bestBuyer 3
theorem CX12_bestBuyer : Con yX12_bestBuyer cX12_bestBuyer 3 (some .int) 1 22 FX12_bestBuyer := con_of (own := RX12) rfl (by decide +kernel) sX12_bestBuyer pX12_bestBuyer (fun z => by cases z)
theorem GX12_bestBuyer : Gr FX12_bestBuyer := Gr_Fm pX12_bestBuyer 3
theorem dX12_best_0 : decode cX12_best 0 = .ok (.aload_n 0, 1) := by decide +kernel
theorem dX12_best_1 : decode cX12_best 1 = .ok (.iconst 0, 1) := by decide +kernel
theorem dX12_best_2 : decode cX12_best 2 = .ok (.putfield 105, 3) := by decide +kernel
theorem dX12_best_5 : decode cX12_best 5 = .ok (.aload_n 0, 1) := by decide +kernel
theorem dX12_best_6 : decode cX12_best 6 = .ok (.invokevirtual 486, 3) := by decide +kernel
theorem dX12_best_9 : decode cX12_best 9 = .ok (.ireturn, 1) := by decide +kernel
noncomputable def kX12_best : Nat → Op := (nodeC 2 (nodeC 0 (leafC 0 (o_al 0 1)) (nodeC 1 (leafC 1 (o_ic (0) 2)) (leafC 2 (o_pI 12 0 5)))) (nodeC 5 (leafC 5 (o_al 0 6)) (nodeC 6 (leafC 6 (o_inv 0 12 1 FX12_bestBuyer 9)) (leafC 9 (o_iret)))))
theorem sX12_best : ∀ pc, SoundOp cX12_best RX12 1 (some .int) false 2 44 pc (kX12_best pc) := (so_node (so_node (so_leaf (so_aload_n dX12_best_0 rfl)) (so_node (so_leaf (so_iconst dX12_best_1 (by decide))) (so_leaf (so_pI (by decide) (by decide) wC12 wf_RX12_105 (Or.inl rfl) rfl dX12_best_2)))) (so_node (so_leaf (so_aload_n dX12_best_5 rfl)) (so_node (so_leaf (so_inv CX12_bestBuyer (by decide) rfl wm_RX12_486 win_X12_bestBuyer wse_X12_bestBuyer wn_12 wc_X12_bestBuyer (by decide +kernel) (by decide) (by decide) dX12_best_6)) (so_leaf (so_iret dX12_best_9 rfl)))))
theorem pX12_best : ∀ pc, Pr (kX12_best pc) := (pr_node (pr_node (pr_leaf (pr_al _ _)) (pr_node (pr_leaf (pr_ic _ _)) (pr_leaf (pr_pI _ _ _)))) (pr_node (pr_leaf (pr_al _ _)) (pr_node (pr_leaf (pr_inv _ _ _ GX12_bestBuyer _)) (pr_leaf (pr_iret)))))
noncomputable def FX12_best : List EV → Hp → Option (RV × Hp) := Fm kX12_best 1
theorem CX12_best : Con yX12_best cX12_best 1 (some .int) 2 44 FX12_best := con_of (own := RX12) rfl (by decide +kernel) sX12_best pX12_best (fun z => by cases z)
theorem GX12_best : Gr FX12_best := Gr_Fm pX12_best 1
theorem dX12_thin_0 : decode cX12_thin 0 = .ok (.aload_n 0, 1) := by decide +kernel
theorem dX12_thin_1 : decode cX12_thin 1 = .ok (.iconst 0, 1) := by decide +kernel
theorem dX12_thin_2 : decode cX12_thin 2 = .ok (.putfield 105, 3) := by decide +kernel
theorem dX12_thin_5 : decode cX12_thin 5 = .ok (.aload_n 0, 1) := by decide +kernel
theorem dX12_thin_6 : decode cX12_thin 6 = .ok (.getfield 61, 3) := by decide +kernel
theorem dX12_thin_9 : decode cX12_thin 9 = .ok (.bipush 19, 2) := by decide +kernel
theorem dX12_thin_11 : decode cX12_thin 11 = .ok (.iaload, 1) := by decide +kernel
theorem dX12_thin_12 : decode cX12_thin 12 = .ok (.ifCond .ne 5, 3) := by decide +kernel
theorem dX12_thin_15 : decode cX12_thin 15 = .ok (.iconst (-1), 1) := by decide +kernel
theorem dX12_thin_16 : decode cX12_thin 16 = .ok (.ireturn, 1) := by decide +kernel
theorem dX12_thin_17 : decode cX12_thin 17 = .ok (.iconst 0, 1) := by decide +kernel
theorem dX12_thin_18 : decode cX12_thin 18 = .ok (.istore_n 1, 1) := by decide +kernel
theorem dX12_thin_19 : decode cX12_thin 19 = .ok (.iconst 1, 1) := by decide +kernel
theorem dX12_thin_20 : decode cX12_thin 20 = .ok (.istore_n 2, 1) := by decide +kernel
theorem dX12_thin_21 : decode cX12_thin 21 = .ok (.iload_n 2, 1) := by decide +kernel
theorem dX12_thin_22 : decode cX12_thin 22 = .ok (.aload_n 0, 1) := by decide +kernel
theorem dX12_thin_23 : decode cX12_thin 23 = .ok (.getfield 61, 3) := by decide +kernel
theorem dX12_thin_26 : decode cX12_thin 26 = .ok (.bipush 19, 2) := by decide +kernel
theorem dX12_thin_28 : decode cX12_thin 28 = .ok (.iaload, 1) := by decide +kernel
theorem dX12_thin_29 : decode cX12_thin 29 = .ok (.if_icmp .ge 30, 3) := by decide +kernel
theorem dX12_thin_32 : decode cX12_thin 32 = .ok (.aload_n 0, 1) := by decide +kernel
theorem dX12_thin_33 : decode cX12_thin 33 = .ok (.iload_n 2, 1) := by decide +kernel
theorem dX12_thin_34 : decode cX12_thin 34 = .ok (.iconst 1, 1) := by decide +kernel
theorem dX12_thin_35 : decode cX12_thin 35 = .ok (.invokevirtual 406, 3) := by decide +kernel
theorem dX12_thin_38 : decode cX12_thin 38 = .ok (.aload_n 0, 1) := by decide +kernel
theorem dX12_thin_39 : decode cX12_thin 39 = .ok (.iload_n 1, 1) := by decide +kernel
theorem dX12_thin_40 : decode cX12_thin 40 = .ok (.iconst 1, 1) := by decide +kernel
theorem dX12_thin_41 : decode cX12_thin 41 = .ok (.invokevirtual 406, 3) := by decide +kernel
theorem dX12_thin_44 : decode cX12_thin 44 = .ok (.if_icmp .ge 7, 3) := by decide +kernel
theorem dX12_thin_47 : decode cX12_thin 47 = .ok (.iload_n 2, 1) := by decide +kernel
theorem dX12_thin_48 : decode cX12_thin 48 = .ok (.goto 4, 3) := by decide +kernel
theorem dX12_thin_51 : decode cX12_thin 51 = .ok (.iload_n 1, 1) := by decide +kernel
theorem dX12_thin_52 : decode cX12_thin 52 = .ok (.istore_n 1, 1) := by decide +kernel
theorem dX12_thin_53 : decode cX12_thin 53 = .ok (.iinc 2 1, 3) := by decide +kernel
theorem dX12_thin_56 : decode cX12_thin 56 = .ok (.goto (-35), 3) := by decide +kernel
theorem dX12_thin_59 : decode cX12_thin 59 = .ok (.aload_n 0, 1) := by decide +kernel
theorem dX12_thin_60 : decode cX12_thin 60 = .ok (.iload_n 1, 1) := by decide +kernel
theorem dX12_thin_61 : decode cX12_thin 61 = .ok (.iconst 0, 1) := by decide +kernel
theorem dX12_thin_62 : decode cX12_thin 62 = .ok (.invokevirtual 406, 3) := by decide +kernel
theorem dX12_thin_65 : decode cX12_thin 65 = .ok (.ireturn, 1) := by decide +kernel
noncomputable def kX12_thin : Nat → Op := (nodeC 29 (nodeC 16 (nodeC 6 (nodeC 1 (nodeC 0 (leafC 0 (o_al 0 1)) (leafC 1 (o_ic (0) 2))) (nodeC 2 (leafC 2 (o_pI 12 0 5)) (nodeC 5 (leafC 5 (o_al 0 6)) (leafC 6 (o_gR 12 32 9))))) (nodeC 11 (nodeC 9 (leafC 9 (o_ic (19) 11)) (leafC 11 (o_iald 12))) (nodeC 12 (leafC 12 (o_zne 17 15)) (nodeC 15 (leafC 15 (o_ic (-1) 16)) (leafC 16 (o_iret)))))) (nodeC 21 (nodeC 18 (nodeC 17 (leafC 17 (o_ic (0) 18)) (leafC 18 (o_is 1 19))) (nodeC 19 (leafC 19 (o_ic (1) 20)) (nodeC 20 (leafC 20 (o_is 2 21)) (leafC 21 (o_il 2 22))))) (nodeC 23 (nodeC 22 (leafC 22 (o_al 0 23)) (leafC 23 (o_gR 12 32 26))) (nodeC 26 (leafC 26 (o_ic (19) 28)) (nodeC 28 (leafC 28 (o_iald 29)) (leafC 29 (o_cge 59 32))))))) (nodeC 47 (nodeC 38 (nodeC 33 (nodeC 32 (leafC 32 (o_al 0 33)) (leafC 33 (o_il 2 34))) (nodeC 34 (leafC 34 (o_ic (1) 35)) (nodeC 35 (leafC 35 (o_inv 2 12 1 FX12_page 38)) (leafC 38 (o_al 0 39))))) (nodeC 40 (nodeC 39 (leafC 39 (o_il 1 40)) (leafC 40 (o_ic (1) 41))) (nodeC 41 (leafC 41 (o_inv 2 12 1 FX12_page 44)) (nodeC 44 (leafC 44 (o_cge 51 47)) (leafC 47 (o_il 2 48)))))) (nodeC 56 (nodeC 51 (nodeC 48 (leafC 48 (o_goto 52)) (leafC 51 (o_il 1 52))) (nodeC 52 (leafC 52 (o_is 1 53)) (nodeC 53 (leafC 53 (o_inc 2 (1) 56)) (leafC 56 (o_goto 21))))) (nodeC 60 (nodeC 59 (leafC 59 (o_al 0 60)) (leafC 60 (o_il 1 61))) (nodeC 61 (leafC 61 (o_ic (0) 62)) (nodeC 62 (leafC 62 (o_inv 2 12 1 FX12_page 65)) (leafC 65 (o_iret))))))))
theorem sX12_thin : ∀ pc, SoundOp cX12_thin RX12 3 (some .int) false 1 22 pc (kX12_thin pc) := (so_node (so_node (so_node (so_node (so_node (so_leaf (so_aload_n dX12_thin_0 rfl)) (so_leaf (so_iconst dX12_thin_1 (by decide)))) (so_node (so_leaf (so_pI (by decide) (by decide) wC12 wf_RX12_105 (Or.inl rfl) rfl dX12_thin_2)) (so_node (so_leaf (so_aload_n dX12_thin_5 rfl)) (so_leaf (so_gR (by decide) (by decide) wC12 wf_RX12_61 (fun _ _ _ => rfl) dX12_thin_6))))) (so_node (so_node (so_leaf (so_bipush dX12_thin_9 (by decide))) (so_leaf (so_iald dX12_thin_11))) (so_node (so_leaf (so_zne dX12_thin_12 (by decide))) (so_node (so_leaf (so_iconst dX12_thin_15 (by decide))) (so_leaf (so_iret dX12_thin_16 rfl)))))) (so_node (so_node (so_node (so_leaf (so_iconst dX12_thin_17 (by decide))) (so_leaf (so_istore_n dX12_thin_18 rfl (by decide)))) (so_node (so_leaf (so_iconst dX12_thin_19 (by decide))) (so_node (so_leaf (so_istore_n dX12_thin_20 rfl (by decide))) (so_leaf (so_iload_n dX12_thin_21 rfl))))) (so_node (so_node (so_leaf (so_aload_n dX12_thin_22 rfl)) (so_leaf (so_gR (by decide) (by decide) wC12 wf_RX12_61 (fun _ _ _ => rfl) dX12_thin_23))) (so_node (so_leaf (so_bipush dX12_thin_26 (by decide))) (so_node (so_leaf (so_iald dX12_thin_28)) (so_leaf (so_cge dX12_thin_29 (by decide)))))))) (so_node (so_node (so_node (so_node (so_leaf (so_aload_n dX12_thin_32 rfl)) (so_leaf (so_iload_n dX12_thin_33 rfl))) (so_node (so_leaf (so_iconst dX12_thin_34 (by decide))) (so_node (so_leaf (so_inv CX12_page (by decide) rfl wm_RX12_406 win_X12_page wse_X12_page wn_12 wc_X12_page (by decide +kernel) (by decide) (by decide) dX12_thin_35)) (so_leaf (so_aload_n dX12_thin_38 rfl))))) (so_node (so_node (so_leaf (so_iload_n dX12_thin_39 rfl)) (so_leaf (so_iconst dX12_thin_40 (by decide)))) (so_node (so_leaf (so_inv CX12_page (by decide) rfl wm_RX12_406 win_X12_page wse_X12_page wn_12 wc_X12_page (by decide +kernel) (by decide) (by decide) dX12_thin_41)) (so_node (so_leaf (so_cge dX12_thin_44 (by decide))) (so_leaf (so_iload_n dX12_thin_47 rfl)))))) (so_node (so_node (so_node (so_leaf (so_goto dX12_thin_48 (by decide))) (so_leaf (so_iload_n dX12_thin_51 rfl))) (so_node (so_leaf (so_istore_n dX12_thin_52 rfl (by decide))) (so_node (so_leaf (so_iinc dX12_thin_53 (by decide) (by decide))) (so_leaf (so_goto dX12_thin_56 (by decide)))))) (so_node (so_node (so_leaf (so_aload_n dX12_thin_59 rfl)) (so_leaf (so_iload_n dX12_thin_60 rfl))) (so_node (so_leaf (so_iconst dX12_thin_61 (by decide))) (so_node (so_leaf (so_inv CX12_page (by decide) rfl wm_RX12_406 win_X12_page wse_X12_page wn_12 wc_X12_page (by decide +kernel) (by decide) (by decide) dX12_thin_62)) (so_leaf (so_iret dX12_thin_65 rfl))))))))
theorem pX12_thin : ∀ pc, Pr (kX12_thin pc) := (pr_node (pr_node (pr_node (pr_node (pr_node (pr_leaf (pr_al _ _)) (pr_leaf (pr_ic _ _))) (pr_node (pr_leaf (pr_pI _ _ _)) (pr_node (pr_leaf (pr_al _ _)) (pr_leaf (pr_gR _ _ _))))) (pr_node (pr_node (pr_leaf (pr_ic _ _)) (pr_leaf (pr_iald _))) (pr_node (pr_leaf (pr_zne _ _)) (pr_node (pr_leaf (pr_ic _ _)) (pr_leaf (pr_iret)))))) (pr_node (pr_node (pr_node (pr_leaf (pr_ic _ _)) (pr_leaf (pr_is _ _))) (pr_node (pr_leaf (pr_ic _ _)) (pr_node (pr_leaf (pr_is _ _)) (pr_leaf (pr_il _ _))))) (pr_node (pr_node (pr_leaf (pr_al _ _)) (pr_leaf (pr_gR _ _ _))) (pr_node (pr_leaf (pr_ic _ _)) (pr_node (pr_leaf (pr_iald _)) (pr_leaf (pr_cge _ _))))))) (pr_node (pr_node (pr_node (pr_node (pr_leaf (pr_al _ _)) (pr_leaf (pr_il _ _))) (pr_node (pr_leaf (pr_ic _ _)) (pr_node (pr_leaf (pr_inv _ _ _ GX12_page _)) (pr_leaf (pr_al _ _))))) (pr_node (pr_node (pr_leaf (pr_il _ _)) (pr_leaf (pr_ic _ _))) (pr_node (pr_leaf (pr_inv _ _ _ GX12_page _)) (pr_node (pr_leaf (pr_cge _ _)) (pr_leaf (pr_il _ _)))))) (pr_node (pr_node (pr_node (pr_leaf (pr_goto _)) (pr_leaf (pr_il _ _))) (pr_node (pr_leaf (pr_is _ _)) (pr_node (pr_leaf (pr_inc _ _ _)) (pr_leaf (pr_goto _))))) (pr_node (pr_node (pr_leaf (pr_al _ _)) (pr_leaf (pr_il _ _))) (pr_node (pr_leaf (pr_ic _ _)) (pr_node (pr_leaf (pr_inv _ _ _ GX12_page _)) (pr_leaf (pr_iret))))))))
noncomputable def FX12_thin : List EV → Hp → Option (RV × Hp) := Fm kX12_thin 3
theorem CX12_thin : Con yX12_thin cX12_thin 3 (some .int) 1 22 FX12_thin := con_of (own := RX12) rfl (by decide +kernel) sX12_thin pX12_thin (fun z => by cases z)
theorem GX12_thin : Gr FX12_thin := Gr_Fm pX12_thin 3
theorem dX12_weaves_0 : decode cX12_weaves 0 = .ok (.aload_n 0, 1) := by decide +kernel
theorem dX12_weaves_1 : decode cX12_weaves 1 = .ok (.iconst 0, 1) := by decide +kernel
theorem dX12_weaves_2 : decode cX12_weaves 2 = .ok (.putfield 105, 3) := by decide +kernel
theorem dX12_weaves_5 : decode cX12_weaves 5 = .ok (.aload_n 0, 1) := by decide +kernel
theorem dX12_weaves_6 : decode cX12_weaves 6 = .ok (.invokevirtual 486, 3) := by decide +kernel
theorem dX12_weaves_9 : decode cX12_weaves 9 = .ok (.istore_n 1, 1) := by decide +kernel
theorem dX12_weaves_10 : decode cX12_weaves 10 = .ok (.iload_n 1, 1) := by decide +kernel
theorem dX12_weaves_11 : decode cX12_weaves 11 = .ok (.iconst (-1), 1) := by decide +kernel
theorem dX12_weaves_12 : decode cX12_weaves 12 = .ok (.if_icmp .ne 5, 3) := by decide +kernel
theorem dX12_weaves_15 : decode cX12_weaves 15 = .ok (.iconst (-1), 1) := by decide +kernel
theorem dX12_weaves_16 : decode cX12_weaves 16 = .ok (.ireturn, 1) := by decide +kernel
theorem dX12_weaves_17 : decode cX12_weaves 17 = .ok (.aload_n 0, 1) := by decide +kernel
theorem dX12_weaves_18 : decode cX12_weaves 18 = .ok (.getfield 37, 3) := by decide +kernel
theorem dX12_weaves_21 : decode cX12_weaves 21 = .ok (.iconst 2, 1) := by decide +kernel
theorem dX12_weaves_22 : decode cX12_weaves 22 = .ok (.iaload, 1) := by decide +kernel
theorem dX12_weaves_23 : decode cX12_weaves 23 = .ok (.ifCond .ne 7, 3) := by decide +kernel
theorem dX12_weaves_26 : decode cX12_weaves 26 = .ok (.iconst 1, 1) := by decide +kernel
theorem dX12_weaves_27 : decode cX12_weaves 27 = .ok (.goto 27, 3) := by decide +kernel
theorem dX12_weaves_30 : decode cX12_weaves 30 = .ok (.aload_n 0, 1) := by decide +kernel
theorem dX12_weaves_31 : decode cX12_weaves 31 = .ok (.aload_n 0, 1) := by decide +kernel
theorem dX12_weaves_32 : decode cX12_weaves 32 = .ok (.getfield 61, 3) := by decide +kernel
theorem dX12_weaves_35 : decode cX12_weaves 35 = .ok (.invokevirtual 325, 3) := by decide +kernel
theorem dX12_weaves_38 : decode cX12_weaves 38 = .ok (.aload_n 0, 1) := by decide +kernel
theorem dX12_weaves_39 : decode cX12_weaves 39 = .ok (.getfield 37, 3) := by decide +kernel
theorem dX12_weaves_42 : decode cX12_weaves 42 = .ok (.iconst 2, 1) := by decide +kernel
theorem dX12_weaves_43 : decode cX12_weaves 43 = .ok (.iaload, 1) := by decide +kernel
theorem dX12_weaves_44 : decode cX12_weaves 44 = .ok (.iadd, 1) := by decide +kernel
theorem dX12_weaves_45 : decode cX12_weaves 45 = .ok (.iconst 1, 1) := by decide +kernel
theorem dX12_weaves_46 : decode cX12_weaves 46 = .ok (.isub, 1) := by decide +kernel
theorem dX12_weaves_47 : decode cX12_weaves 47 = .ok (.aload_n 0, 1) := by decide +kernel
theorem dX12_weaves_48 : decode cX12_weaves 48 = .ok (.getfield 37, 3) := by decide +kernel
theorem dX12_weaves_51 : decode cX12_weaves 51 = .ok (.iconst 2, 1) := by decide +kernel
theorem dX12_weaves_52 : decode cX12_weaves 52 = .ok (.iaload, 1) := by decide +kernel
theorem dX12_weaves_53 : decode cX12_weaves 53 = .ok (.idiv, 1) := by decide +kernel
theorem dX12_weaves_54 : decode cX12_weaves 54 = .ok (.istore_n 2, 1) := by decide +kernel
theorem dX12_weaves_55 : decode cX12_weaves 55 = .ok (.aload_n 0, 1) := by decide +kernel
theorem dX12_weaves_56 : decode cX12_weaves 56 = .ok (.getfield 49, 3) := by decide +kernel
theorem dX12_weaves_59 : decode cX12_weaves 59 = .ok (.iconst 3, 1) := by decide +kernel
theorem dX12_weaves_60 : decode cX12_weaves 60 = .ok (.iload_n 1, 1) := by decide +kernel
theorem dX12_weaves_61 : decode cX12_weaves 61 = .ok (.imul, 1) := by decide +kernel
theorem dX12_weaves_62 : decode cX12_weaves 62 = .ok (.iaload, 1) := by decide +kernel
theorem dX12_weaves_63 : decode cX12_weaves 63 = .ok (.aload_n 0, 1) := by decide +kernel
theorem dX12_weaves_64 : decode cX12_weaves 64 = .ok (.getfield 37, 3) := by decide +kernel
theorem dX12_weaves_67 : decode cX12_weaves 67 = .ok (.iconst 4, 1) := by decide +kernel
theorem dX12_weaves_68 : decode cX12_weaves 68 = .ok (.iaload, 1) := by decide +kernel
theorem dX12_weaves_69 : decode cX12_weaves 69 = .ok (.iload_n 2, 1) := by decide +kernel
theorem dX12_weaves_70 : decode cX12_weaves 70 = .ok (.imul, 1) := by decide +kernel
theorem dX12_weaves_71 : decode cX12_weaves 71 = .ok (.if_icmp .le 7, 3) := by decide +kernel
theorem dX12_weaves_74 : decode cX12_weaves 74 = .ok (.iconst 1, 1) := by decide +kernel
theorem dX12_weaves_75 : decode cX12_weaves 75 = .ok (.goto 4, 3) := by decide +kernel
theorem dX12_weaves_78 : decode cX12_weaves 78 = .ok (.iconst 0, 1) := by decide +kernel
theorem dX12_weaves_79 : decode cX12_weaves 79 = .ok (.ireturn, 1) := by decide +kernel
noncomputable def kX12_weaves : Nat → Op := (nodeC 43 (nodeC 18 (nodeC 9 (nodeC 2 (nodeC 0 (leafC 0 (o_al 0 1)) (nodeC 1 (leafC 1 (o_ic (0) 2)) (leafC 2 (o_pI 12 0 5)))) (nodeC 5 (leafC 5 (o_al 0 6)) (nodeC 6 (leafC 6 (o_inv 0 12 1 FX12_bestBuyer 9)) (leafC 9 (o_is 1 10))))) (nodeC 12 (nodeC 10 (leafC 10 (o_il 1 11)) (nodeC 11 (leafC 11 (o_ic (-1) 12)) (leafC 12 (o_cne 17 15)))) (nodeC 16 (nodeC 15 (leafC 15 (o_ic (-1) 16)) (leafC 16 (o_iret))) (nodeC 17 (leafC 17 (o_al 0 18)) (leafC 18 (o_gR 12 18 21)))))) (nodeC 30 (nodeC 23 (nodeC 21 (leafC 21 (o_ic (2) 22)) (nodeC 22 (leafC 22 (o_iald 23)) (leafC 23 (o_zne 30 26)))) (nodeC 26 (leafC 26 (o_ic (1) 27)) (nodeC 27 (leafC 27 (o_goto 54)) (leafC 30 (o_al 0 31))))) (nodeC 35 (nodeC 31 (leafC 31 (o_al 0 32)) (nodeC 32 (leafC 32 (o_gR 12 32 35)) (leafC 35 (o_inv 1 12 1 FX12_takes_ 38)))) (nodeC 39 (nodeC 38 (leafC 38 (o_al 0 39)) (leafC 39 (o_gR 12 18 42))) (nodeC 42 (leafC 42 (o_ic (2) 43)) (leafC 43 (o_iald 44))))))) (nodeC 60 (nodeC 51 (nodeC 46 (nodeC 44 (leafC 44 (o_iadd 45)) (nodeC 45 (leafC 45 (o_ic (1) 46)) (leafC 46 (o_isub 47)))) (nodeC 47 (leafC 47 (o_al 0 48)) (nodeC 48 (leafC 48 (o_gR 12 18 51)) (leafC 51 (o_ic (2) 52))))) (nodeC 54 (nodeC 52 (leafC 52 (o_iald 53)) (nodeC 53 (leafC 53 (o_idiv 54)) (leafC 54 (o_is 2 55)))) (nodeC 56 (nodeC 55 (leafC 55 (o_al 0 56)) (leafC 56 (o_gR 12 22 59))) (nodeC 59 (leafC 59 (o_ic (3) 60)) (leafC 60 (o_il 1 61)))))) (nodeC 68 (nodeC 63 (nodeC 61 (leafC 61 (o_imul 62)) (nodeC 62 (leafC 62 (o_iald 63)) (leafC 63 (o_al 0 64)))) (nodeC 64 (leafC 64 (o_gR 12 18 67)) (nodeC 67 (leafC 67 (o_ic (4) 68)) (leafC 68 (o_iald 69))))) (nodeC 71 (nodeC 69 (leafC 69 (o_il 2 70)) (nodeC 70 (leafC 70 (o_imul 71)) (leafC 71 (o_cle 78 74)))) (nodeC 75 (nodeC 74 (leafC 74 (o_ic (1) 75)) (leafC 75 (o_goto 79))) (nodeC 78 (leafC 78 (o_ic (0) 79)) (leafC 79 (o_iret))))))))
theorem sX12_weaves : ∀ pc, SoundOp cX12_weaves RX12 3 (some .int) false 90 2225 pc (kX12_weaves pc) := (so_node (so_node (so_node (so_node (so_node (so_leaf (so_aload_n dX12_weaves_0 rfl)) (so_node (so_leaf (so_iconst dX12_weaves_1 (by decide))) (so_leaf (so_pI (by decide) (by decide) wC12 wf_RX12_105 (Or.inl rfl) rfl dX12_weaves_2)))) (so_node (so_leaf (so_aload_n dX12_weaves_5 rfl)) (so_node (so_leaf (so_inv CX12_bestBuyer (by decide) rfl wm_RX12_486 win_X12_bestBuyer wse_X12_bestBuyer wn_12 wc_X12_bestBuyer (by decide +kernel) (by decide) (by decide) dX12_weaves_6)) (so_leaf (so_istore_n dX12_weaves_9 rfl (by decide)))))) (so_node (so_node (so_leaf (so_iload_n dX12_weaves_10 rfl)) (so_node (so_leaf (so_iconst dX12_weaves_11 (by decide))) (so_leaf (so_cne dX12_weaves_12 (by decide))))) (so_node (so_node (so_leaf (so_iconst dX12_weaves_15 (by decide))) (so_leaf (so_iret dX12_weaves_16 rfl))) (so_node (so_leaf (so_aload_n dX12_weaves_17 rfl)) (so_leaf (so_gR (by decide) (by decide) wC12 wf_RX12_37 (fun _ _ _ => rfl) dX12_weaves_18)))))) (so_node (so_node (so_node (so_leaf (so_iconst dX12_weaves_21 (by decide))) (so_node (so_leaf (so_iald dX12_weaves_22)) (so_leaf (so_zne dX12_weaves_23 (by decide))))) (so_node (so_leaf (so_iconst dX12_weaves_26 (by decide))) (so_node (so_leaf (so_goto dX12_weaves_27 (by decide))) (so_leaf (so_aload_n dX12_weaves_30 rfl))))) (so_node (so_node (so_leaf (so_aload_n dX12_weaves_31 rfl)) (so_node (so_leaf (so_gR (by decide) (by decide) wC12 wf_RX12_61 (fun _ _ _ => rfl) dX12_weaves_32)) (so_leaf (so_inv CX12_takes_ (by decide) rfl wm_RX12_325 win_X12_takes_ wse_X12_takes_ wn_12 wc_X12_takes_ (by decide +kernel) (by decide) (by decide) dX12_weaves_35)))) (so_node (so_node (so_leaf (so_aload_n dX12_weaves_38 rfl)) (so_leaf (so_gR (by decide) (by decide) wC12 wf_RX12_37 (fun _ _ _ => rfl) dX12_weaves_39))) (so_node (so_leaf (so_iconst dX12_weaves_42 (by decide))) (so_leaf (so_iald dX12_weaves_43))))))) (so_node (so_node (so_node (so_node (so_leaf (so_iadd dX12_weaves_44)) (so_node (so_leaf (so_iconst dX12_weaves_45 (by decide))) (so_leaf (so_isub dX12_weaves_46)))) (so_node (so_leaf (so_aload_n dX12_weaves_47 rfl)) (so_node (so_leaf (so_gR (by decide) (by decide) wC12 wf_RX12_37 (fun _ _ _ => rfl) dX12_weaves_48)) (so_leaf (so_iconst dX12_weaves_51 (by decide)))))) (so_node (so_node (so_leaf (so_iald dX12_weaves_52)) (so_node (so_leaf (so_idiv dX12_weaves_53)) (so_leaf (so_istore_n dX12_weaves_54 rfl (by decide))))) (so_node (so_node (so_leaf (so_aload_n dX12_weaves_55 rfl)) (so_leaf (so_gR (by decide) (by decide) wC12 wf_RX12_49 (fun _ _ _ => rfl) dX12_weaves_56))) (so_node (so_leaf (so_iconst dX12_weaves_59 (by decide))) (so_leaf (so_iload_n dX12_weaves_60 rfl)))))) (so_node (so_node (so_node (so_leaf (so_imul dX12_weaves_61)) (so_node (so_leaf (so_iald dX12_weaves_62)) (so_leaf (so_aload_n dX12_weaves_63 rfl)))) (so_node (so_leaf (so_gR (by decide) (by decide) wC12 wf_RX12_37 (fun _ _ _ => rfl) dX12_weaves_64)) (so_node (so_leaf (so_iconst dX12_weaves_67 (by decide))) (so_leaf (so_iald dX12_weaves_68))))) (so_node (so_node (so_leaf (so_iload_n dX12_weaves_69 rfl)) (so_node (so_leaf (so_imul dX12_weaves_70)) (so_leaf (so_cle dX12_weaves_71 (by decide))))) (so_node (so_node (so_leaf (so_iconst dX12_weaves_74 (by decide))) (so_leaf (so_goto dX12_weaves_75 (by decide)))) (so_node (so_leaf (so_iconst dX12_weaves_78 (by decide))) (so_leaf (so_iret dX12_weaves_79 rfl))))))))
theorem pX12_weaves : ∀ pc, Pr (kX12_weaves pc) := (pr_node (pr_node (pr_node (pr_node (pr_node (pr_leaf (pr_al _ _)) (pr_node (pr_leaf (pr_ic _ _)) (pr_leaf (pr_pI _ _ _)))) (pr_node (pr_leaf (pr_al _ _)) (pr_node (pr_leaf (pr_inv _ _ _ GX12_bestBuyer _)) (pr_leaf (pr_is _ _))))) (pr_node (pr_node (pr_leaf (pr_il _ _)) (pr_node (pr_leaf (pr_ic _ _)) (pr_leaf (pr_cne _ _)))) (pr_node (pr_node (pr_leaf (pr_ic _ _)) (pr_leaf (pr_iret))) (pr_node (pr_leaf (pr_al _ _)) (pr_leaf (pr_gR _ _ _)))))) (pr_node (pr_node (pr_node (pr_leaf (pr_ic _ _)) (pr_node (pr_leaf (pr_iald _)) (pr_leaf (pr_zne _ _)))) (pr_node (pr_leaf (pr_ic _ _)) (pr_node (pr_leaf (pr_goto _)) (pr_leaf (pr_al _ _))))) (pr_node (pr_node (pr_leaf (pr_al _ _)) (pr_node (pr_leaf (pr_gR _ _ _)) (pr_leaf (pr_inv _ _ _ GX12_takes_ _)))) (pr_node (pr_node (pr_leaf (pr_al _ _)) (pr_leaf (pr_gR _ _ _))) (pr_node (pr_leaf (pr_ic _ _)) (pr_leaf (pr_iald _))))))) (pr_node (pr_node (pr_node (pr_node (pr_leaf (pr_iadd _)) (pr_node (pr_leaf (pr_ic _ _)) (pr_leaf (pr_isub _)))) (pr_node (pr_leaf (pr_al _ _)) (pr_node (pr_leaf (pr_gR _ _ _)) (pr_leaf (pr_ic _ _))))) (pr_node (pr_node (pr_leaf (pr_iald _)) (pr_node (pr_leaf (pr_idiv _)) (pr_leaf (pr_is _ _)))) (pr_node (pr_node (pr_leaf (pr_al _ _)) (pr_leaf (pr_gR _ _ _))) (pr_node (pr_leaf (pr_ic _ _)) (pr_leaf (pr_il _ _)))))) (pr_node (pr_node (pr_node (pr_leaf (pr_imul _)) (pr_node (pr_leaf (pr_iald _)) (pr_leaf (pr_al _ _)))) (pr_node (pr_leaf (pr_gR _ _ _)) (pr_node (pr_leaf (pr_ic _ _)) (pr_leaf (pr_iald _))))) (pr_node (pr_node (pr_leaf (pr_il _ _)) (pr_node (pr_leaf (pr_imul _)) (pr_leaf (pr_cle _ _)))) (pr_node (pr_node (pr_leaf (pr_ic _ _)) (pr_leaf (pr_goto _))) (pr_node (pr_leaf (pr_ic _ _)) (pr_leaf (pr_iret))))))))
noncomputable def FX12_weaves : List EV → Hp → Option (RV × Hp) := Fm kX12_weaves 3
theorem CX12_weaves : Con yX12_weaves cX12_weaves 3 (some .int) 90 2225 FX12_weaves := con_of (own := RX12) rfl (by decide +kernel) sX12_weaves pX12_weaves (fun z => by cases z)
theorem GX12_weaves : Gr FX12_weaves := Gr_Fm pX12_weaves 3
theorem dX12_image_0 : decode cX12_image 0 = .ok (.aload_n 0, 1) := by decide +kernel
theorem dX12_image_1 : decode cX12_image 1 = .ok (.iconst 0, 1) := by decide +kernel
theorem dX12_image_2 : decode cX12_image 2 = .ok (.putfield 105, 3) := by decide +kernel
theorem dX12_image_5 : decode cX12_image 5 = .ok (.aload_n 0, 1) := by decide +kernel
theorem dX12_image_6 : decode cX12_image 6 = .ok (.getfield 302, 3) := by decide +kernel
theorem dX12_image_9 : decode cX12_image 9 = .ok (.ifCond .ne 5, 3) := by decide +kernel
theorem dX12_image_12 : decode cX12_image 12 = .ok (.iconst (-1), 1) := by decide +kernel
theorem dX12_image_13 : decode cX12_image 13 = .ok (.ireturn, 1) := by decide +kernel
theorem dX12_image_14 : decode cX12_image 14 = .ok (.aload_n 0, 1) := by decide +kernel
theorem dX12_image_15 : decode cX12_image 15 = .ok (.getfield 61, 3) := by decide +kernel
theorem dX12_image_18 : decode cX12_image 18 = .ok (.aload_n 0, 1) := by decide +kernel
theorem dX12_image_19 : decode cX12_image 19 = .ok (.getfield 102, 3) := by decide +kernel
theorem dX12_image_22 : decode cX12_image 22 = .ok (.invokestatic 413, 3) := by decide +kernel
theorem dX12_image_25 : decode cX12_image 25 = .ok (.aload_n 0, 1) := by decide +kernel
theorem dX12_image_26 : decode cX12_image 26 = .ok (.iconst 1, 1) := by decide +kernel
theorem dX12_image_27 : decode cX12_image 27 = .ok (.putfield 314, 3) := by decide +kernel
theorem dX12_image_30 : decode cX12_image 30 = .ok (.aload_n 0, 1) := by decide +kernel
theorem dX12_image_31 : decode cX12_image 31 = .ok (.getfield 61, 3) := by decide +kernel
theorem dX12_image_34 : decode cX12_image 34 = .ok (.bipush 7, 2) := by decide +kernel
theorem dX12_image_36 : decode cX12_image 36 = .ok (.iaload, 1) := by decide +kernel
theorem dX12_image_37 : decode cX12_image 37 = .ok (.ireturn, 1) := by decide +kernel
noncomputable def kX12_image : Nat → Op := (nodeC 15 (nodeC 6 (nodeC 1 (nodeC 0 (leafC 0 (o_al 0 1)) (leafC 1 (o_ic (0) 2))) (nodeC 2 (leafC 2 (o_pI 12 0 5)) (nodeC 5 (leafC 5 (o_al 0 6)) (leafC 6 (o_gI 12 27 9))))) (nodeC 12 (nodeC 9 (leafC 9 (o_zne 14 12)) (leafC 12 (o_ic (-1) 13))) (nodeC 13 (leafC 13 (o_iret)) (nodeC 14 (leafC 14 (o_al 0 15)) (leafC 15 (o_gR 12 32 18)))))) (nodeC 26 (nodeC 19 (nodeC 18 (leafC 18 (o_al 0 19)) (leafC 19 (o_gR 12 52 22))) (nodeC 22 (leafC 22 (o_ist 2 0 FX12_copy 25)) (nodeC 25 (leafC 25 (o_al 0 26)) (leafC 26 (o_ic (1) 27))))) (nodeC 31 (nodeC 27 (leafC 27 (o_pZ 12 53 30)) (nodeC 30 (leafC 30 (o_al 0 31)) (leafC 31 (o_gR 12 32 34)))) (nodeC 34 (leafC 34 (o_ic (7) 36)) (nodeC 36 (leafC 36 (o_iald 37)) (leafC 37 (o_iret)))))))
theorem sX12_image : ∀ pc, SoundOp cX12_image RX12 1 (some .int) false 1 23 pc (kX12_image pc) := (so_node (so_node (so_node (so_node (so_leaf (so_aload_n dX12_image_0 rfl)) (so_leaf (so_iconst dX12_image_1 (by decide)))) (so_node (so_leaf (so_pI (by decide) (by decide) wC12 wf_RX12_105 (Or.inl rfl) rfl dX12_image_2)) (so_node (so_leaf (so_aload_n dX12_image_5 rfl)) (so_leaf (so_gI (by decide) (by decide) wC12 wf_RX12_302 (fun _ _ _ => rfl) dX12_image_6))))) (so_node (so_node (so_leaf (so_zne dX12_image_9 (by decide))) (so_leaf (so_iconst dX12_image_12 (by decide)))) (so_node (so_leaf (so_iret dX12_image_13 rfl)) (so_node (so_leaf (so_aload_n dX12_image_14 rfl)) (so_leaf (so_gR (by decide) (by decide) wC12 wf_RX12_61 (fun _ _ _ => rfl) dX12_image_15)))))) (so_node (so_node (so_node (so_leaf (so_aload_n dX12_image_18 rfl)) (so_leaf (so_gR (by decide) (by decide) wC12 wf_RX12_102 (fun _ _ _ => rfl) dX12_image_19))) (so_node (so_leaf (so_ist CX12_copy rfl wm_RX12_413 wst_X12_copy wny_X12_copy wc_X12_copy (by decide +kernel) (by decide) (by decide) dX12_image_22)) (so_node (so_leaf (so_aload_n dX12_image_25 rfl)) (so_leaf (so_iconst dX12_image_26 (by decide)))))) (so_node (so_node (so_leaf (so_pZ (by decide) (by decide) wC12 wf_RX12_314 (Or.inl rfl) rfl dX12_image_27)) (so_node (so_leaf (so_aload_n dX12_image_30 rfl)) (so_leaf (so_gR (by decide) (by decide) wC12 wf_RX12_61 (fun _ _ _ => rfl) dX12_image_31)))) (so_node (so_leaf (so_bipush dX12_image_34 (by decide))) (so_node (so_leaf (so_iald dX12_image_36)) (so_leaf (so_iret dX12_image_37 rfl)))))))
theorem pX12_image : ∀ pc, Pr (kX12_image pc) := (pr_node (pr_node (pr_node (pr_node (pr_leaf (pr_al _ _)) (pr_leaf (pr_ic _ _))) (pr_node (pr_leaf (pr_pI _ _ _)) (pr_node (pr_leaf (pr_al _ _)) (pr_leaf (pr_gI _ _ _))))) (pr_node (pr_node (pr_leaf (pr_zne _ _)) (pr_leaf (pr_ic _ _))) (pr_node (pr_leaf (pr_iret)) (pr_node (pr_leaf (pr_al _ _)) (pr_leaf (pr_gR _ _ _)))))) (pr_node (pr_node (pr_node (pr_leaf (pr_al _ _)) (pr_leaf (pr_gR _ _ _))) (pr_node (pr_leaf (pr_ist _ _ GX12_copy _)) (pr_node (pr_leaf (pr_al _ _)) (pr_leaf (pr_ic _ _))))) (pr_node (pr_node (pr_leaf (pr_pZ _ _ _)) (pr_node (pr_leaf (pr_al _ _)) (pr_leaf (pr_gR _ _ _)))) (pr_node (pr_leaf (pr_ic _ _)) (pr_node (pr_leaf (pr_iald _)) (pr_leaf (pr_iret)))))))
noncomputable def FX12_image : List EV → Hp → Option (RV × Hp) := Fm kX12_image 1
theorem CX12_image : Con yX12_image cX12_image 1 (some .int) 1 23 FX12_image := con_of (own := RX12) rfl (by decide +kernel) sX12_image pX12_image (fun z => by cases z)
theorem GX12_image : Gr FX12_image := Gr_Fm pX12_image 1
theorem dX12_back_0 : decode cX12_back 0 = .ok (.aload_n 0, 1) := by decide +kernel
theorem dX12_back_1 : decode cX12_back 1 = .ok (.iconst 0, 1) := by decide +kernel
theorem dX12_back_2 : decode cX12_back 2 = .ok (.putfield 105, 3) := by decide +kernel
theorem dX12_back_5 : decode cX12_back 5 = .ok (.aload_n 0, 1) := by decide +kernel
theorem dX12_back_6 : decode cX12_back 6 = .ok (.getfield 314, 3) := by decide +kernel
theorem dX12_back_9 : decode cX12_back 9 = .ok (.ifCond .ne 5, 3) := by decide +kernel
theorem dX12_back_12 : decode cX12_back 12 = .ok (.iconst (-1), 1) := by decide +kernel
theorem dX12_back_13 : decode cX12_back 13 = .ok (.ireturn, 1) := by decide +kernel
theorem dX12_back_14 : decode cX12_back 14 = .ok (.aload_n 0, 1) := by decide +kernel
theorem dX12_back_15 : decode cX12_back 15 = .ok (.getfield 102, 3) := by decide +kernel
theorem dX12_back_18 : decode cX12_back 18 = .ok (.aload_n 0, 1) := by decide +kernel
theorem dX12_back_19 : decode cX12_back 19 = .ok (.getfield 61, 3) := by decide +kernel
theorem dX12_back_22 : decode cX12_back 22 = .ok (.invokestatic 413, 3) := by decide +kernel
theorem dX12_back_25 : decode cX12_back 25 = .ok (.aload_n 0, 1) := by decide +kernel
theorem dX12_back_26 : decode cX12_back 26 = .ok (.iconst 0, 1) := by decide +kernel
theorem dX12_back_27 : decode cX12_back 27 = .ok (.putfield 311, 3) := by decide +kernel
theorem dX12_back_30 : decode cX12_back 30 = .ok (.aload_n 0, 1) := by decide +kernel
theorem dX12_back_31 : decode cX12_back 31 = .ok (.getfield 61, 3) := by decide +kernel
theorem dX12_back_34 : decode cX12_back 34 = .ok (.bipush 7, 2) := by decide +kernel
theorem dX12_back_36 : decode cX12_back 36 = .ok (.iaload, 1) := by decide +kernel
theorem dX12_back_37 : decode cX12_back 37 = .ok (.ireturn, 1) := by decide +kernel
noncomputable def kX12_back : Nat → Op := (nodeC 15 (nodeC 6 (nodeC 1 (nodeC 0 (leafC 0 (o_al 0 1)) (leafC 1 (o_ic (0) 2))) (nodeC 2 (leafC 2 (o_pI 12 0 5)) (nodeC 5 (leafC 5 (o_al 0 6)) (leafC 6 (o_gI 12 53 9))))) (nodeC 12 (nodeC 9 (leafC 9 (o_zne 14 12)) (leafC 12 (o_ic (-1) 13))) (nodeC 13 (leafC 13 (o_iret)) (nodeC 14 (leafC 14 (o_al 0 15)) (leafC 15 (o_gR 12 52 18)))))) (nodeC 26 (nodeC 19 (nodeC 18 (leafC 18 (o_al 0 19)) (leafC 19 (o_gR 12 32 22))) (nodeC 22 (leafC 22 (o_ist 2 0 FX12_copy 25)) (nodeC 25 (leafC 25 (o_al 0 26)) (leafC 26 (o_ic (0) 27))))) (nodeC 31 (nodeC 27 (leafC 27 (o_pI 12 37 30)) (nodeC 30 (leafC 30 (o_al 0 31)) (leafC 31 (o_gR 12 32 34)))) (nodeC 34 (leafC 34 (o_ic (7) 36)) (nodeC 36 (leafC 36 (o_iald 37)) (leafC 37 (o_iret)))))))
theorem sX12_back : ∀ pc, SoundOp cX12_back RX12 1 (some .int) false 1 23 pc (kX12_back pc) := (so_node (so_node (so_node (so_node (so_leaf (so_aload_n dX12_back_0 rfl)) (so_leaf (so_iconst dX12_back_1 (by decide)))) (so_node (so_leaf (so_pI (by decide) (by decide) wC12 wf_RX12_105 (Or.inl rfl) rfl dX12_back_2)) (so_node (so_leaf (so_aload_n dX12_back_5 rfl)) (so_leaf (so_gI (by decide) (by decide) wC12 wf_RX12_314 (fun _ _ _ => rfl) dX12_back_6))))) (so_node (so_node (so_leaf (so_zne dX12_back_9 (by decide))) (so_leaf (so_iconst dX12_back_12 (by decide)))) (so_node (so_leaf (so_iret dX12_back_13 rfl)) (so_node (so_leaf (so_aload_n dX12_back_14 rfl)) (so_leaf (so_gR (by decide) (by decide) wC12 wf_RX12_102 (fun _ _ _ => rfl) dX12_back_15)))))) (so_node (so_node (so_node (so_leaf (so_aload_n dX12_back_18 rfl)) (so_leaf (so_gR (by decide) (by decide) wC12 wf_RX12_61 (fun _ _ _ => rfl) dX12_back_19))) (so_node (so_leaf (so_ist CX12_copy rfl wm_RX12_413 wst_X12_copy wny_X12_copy wc_X12_copy (by decide +kernel) (by decide) (by decide) dX12_back_22)) (so_node (so_leaf (so_aload_n dX12_back_25 rfl)) (so_leaf (so_iconst dX12_back_26 (by decide)))))) (so_node (so_node (so_leaf (so_pI (by decide) (by decide) wC12 wf_RX12_311 (Or.inl rfl) rfl dX12_back_27)) (so_node (so_leaf (so_aload_n dX12_back_30 rfl)) (so_leaf (so_gR (by decide) (by decide) wC12 wf_RX12_61 (fun _ _ _ => rfl) dX12_back_31)))) (so_node (so_leaf (so_bipush dX12_back_34 (by decide))) (so_node (so_leaf (so_iald dX12_back_36)) (so_leaf (so_iret dX12_back_37 rfl)))))))
theorem pX12_back : ∀ pc, Pr (kX12_back pc) := (pr_node (pr_node (pr_node (pr_node (pr_leaf (pr_al _ _)) (pr_leaf (pr_ic _ _))) (pr_node (pr_leaf (pr_pI _ _ _)) (pr_node (pr_leaf (pr_al _ _)) (pr_leaf (pr_gI _ _ _))))) (pr_node (pr_node (pr_leaf (pr_zne _ _)) (pr_leaf (pr_ic _ _))) (pr_node (pr_leaf (pr_iret)) (pr_node (pr_leaf (pr_al _ _)) (pr_leaf (pr_gR _ _ _)))))) (pr_node (pr_node (pr_node (pr_leaf (pr_al _ _)) (pr_leaf (pr_gR _ _ _))) (pr_node (pr_leaf (pr_ist _ _ GX12_copy _)) (pr_node (pr_leaf (pr_al _ _)) (pr_leaf (pr_ic _ _))))) (pr_node (pr_node (pr_leaf (pr_pI _ _ _)) (pr_node (pr_leaf (pr_al _ _)) (pr_leaf (pr_gR _ _ _)))) (pr_node (pr_leaf (pr_ic _ _)) (pr_node (pr_leaf (pr_iald _)) (pr_leaf (pr_iret)))))))
noncomputable def FX12_back : List EV → Hp → Option (RV × Hp) := Fm kX12_back 1
theorem CX12_back : Con yX12_back cX12_back 1 (some .int) 1 23 FX12_back := con_of (own := RX12) rfl (by decide +kernel) sX12_back pX12_back (fun z => by cases z)
theorem GX12_back : Gr FX12_back := Gr_Fm pX12_back 1
theorem dX12_count_0 : decode cX12_count 0 = .ok (.aload_n 0, 1) := by decide +kernel
theorem dX12_count_1 : decode cX12_count 1 = .ok (.iconst 0, 1) := by decide +kernel
theorem dX12_count_2 : decode cX12_count 2 = .ok (.putfield 105, 3) := by decide +kernel
theorem dX12_count_5 : decode cX12_count 5 = .ok (.iload_n 1, 1) := by decide +kernel
theorem dX12_count_6 : decode cX12_count 6 = .ok (.tableswitch 197 0 17 #[86, 91, 96, 101, 106, 111, 116, 124, 131, 138, 146, 153, 160, 165, 170, 175, 183, 192], 86) := by decide +kernel
theorem dX12_count_92 : decode cX12_count 92 = .ok (.aload_n 0, 1) := by decide +kernel
theorem dX12_count_93 : decode cX12_count 93 = .ok (.getfield 302, 3) := by decide +kernel
theorem dX12_count_96 : decode cX12_count 96 = .ok (.ireturn, 1) := by decide +kernel
theorem dX12_count_97 : decode cX12_count 97 = .ok (.aload_n 0, 1) := by decide +kernel
theorem dX12_count_98 : decode cX12_count 98 = .ok (.getfield 299, 3) := by decide +kernel
theorem dX12_count_101 : decode cX12_count 101 = .ok (.ireturn, 1) := by decide +kernel
theorem dX12_count_102 : decode cX12_count 102 = .ok (.aload_n 0, 1) := by decide +kernel
theorem dX12_count_103 : decode cX12_count 103 = .ok (.getfield 291, 3) := by decide +kernel
theorem dX12_count_106 : decode cX12_count 106 = .ok (.ireturn, 1) := by decide +kernel
theorem dX12_count_107 : decode cX12_count 107 = .ok (.aload_n 0, 1) := by decide +kernel
theorem dX12_count_108 : decode cX12_count 108 = .ok (.getfield 294, 3) := by decide +kernel
theorem dX12_count_111 : decode cX12_count 111 = .ok (.ireturn, 1) := by decide +kernel
theorem dX12_count_112 : decode cX12_count 112 = .ok (.aload_n 0, 1) := by decide +kernel
theorem dX12_count_113 : decode cX12_count 113 = .ok (.getfield 118, 3) := by decide +kernel
theorem dX12_count_116 : decode cX12_count 116 = .ok (.ireturn, 1) := by decide +kernel
theorem dX12_count_117 : decode cX12_count 117 = .ok (.aload_n 0, 1) := by decide +kernel
theorem dX12_count_118 : decode cX12_count 118 = .ok (.getfield 67, 3) := by decide +kernel
theorem dX12_count_121 : decode cX12_count 121 = .ok (.ireturn, 1) := by decide +kernel
theorem dX12_count_122 : decode cX12_count 122 = .ok (.aload_n 0, 1) := by decide +kernel
theorem dX12_count_123 : decode cX12_count 123 = .ok (.getfield 61, 3) := by decide +kernel
theorem dX12_count_126 : decode cX12_count 126 = .ok (.bipush 7, 2) := by decide +kernel
theorem dX12_count_128 : decode cX12_count 128 = .ok (.iaload, 1) := by decide +kernel
theorem dX12_count_129 : decode cX12_count 129 = .ok (.ireturn, 1) := by decide +kernel
theorem dX12_count_130 : decode cX12_count 130 = .ok (.aload_n 0, 1) := by decide +kernel
theorem dX12_count_131 : decode cX12_count 131 = .ok (.getfield 61, 3) := by decide +kernel
theorem dX12_count_134 : decode cX12_count 134 = .ok (.iconst 4, 1) := by decide +kernel
theorem dX12_count_135 : decode cX12_count 135 = .ok (.iaload, 1) := by decide +kernel
theorem dX12_count_136 : decode cX12_count 136 = .ok (.ireturn, 1) := by decide +kernel
theorem dX12_count_137 : decode cX12_count 137 = .ok (.aload_n 0, 1) := by decide +kernel
theorem dX12_count_138 : decode cX12_count 138 = .ok (.getfield 61, 3) := by decide +kernel
theorem dX12_count_141 : decode cX12_count 141 = .ok (.iconst 5, 1) := by decide +kernel
theorem dX12_count_142 : decode cX12_count 142 = .ok (.iaload, 1) := by decide +kernel
theorem dX12_count_143 : decode cX12_count 143 = .ok (.ireturn, 1) := by decide +kernel
theorem dX12_count_144 : decode cX12_count 144 = .ok (.aload_n 0, 1) := by decide +kernel
theorem dX12_count_145 : decode cX12_count 145 = .ok (.getfield 61, 3) := by decide +kernel
theorem dX12_count_148 : decode cX12_count 148 = .ok (.bipush 6, 2) := by decide +kernel
theorem dX12_count_150 : decode cX12_count 150 = .ok (.iaload, 1) := by decide +kernel
theorem dX12_count_151 : decode cX12_count 151 = .ok (.ireturn, 1) := by decide +kernel
theorem dX12_count_152 : decode cX12_count 152 = .ok (.aload_n 0, 1) := by decide +kernel
theorem dX12_count_153 : decode cX12_count 153 = .ok (.getfield 61, 3) := by decide +kernel
theorem dX12_count_156 : decode cX12_count 156 = .ok (.iconst 1, 1) := by decide +kernel
theorem dX12_count_157 : decode cX12_count 157 = .ok (.iaload, 1) := by decide +kernel
theorem dX12_count_158 : decode cX12_count 158 = .ok (.ireturn, 1) := by decide +kernel
theorem dX12_count_159 : decode cX12_count 159 = .ok (.aload_n 0, 1) := by decide +kernel
theorem dX12_count_160 : decode cX12_count 160 = .ok (.getfield 61, 3) := by decide +kernel
theorem dX12_count_163 : decode cX12_count 163 = .ok (.iconst 3, 1) := by decide +kernel
theorem dX12_count_164 : decode cX12_count 164 = .ok (.iaload, 1) := by decide +kernel
theorem dX12_count_165 : decode cX12_count 165 = .ok (.ireturn, 1) := by decide +kernel
theorem dX12_count_166 : decode cX12_count 166 = .ok (.aload_n 0, 1) := by decide +kernel
theorem dX12_count_167 : decode cX12_count 167 = .ok (.getfield 71, 3) := by decide +kernel
theorem dX12_count_170 : decode cX12_count 170 = .ok (.ireturn, 1) := by decide +kernel
theorem dX12_count_171 : decode cX12_count 171 = .ok (.aload_n 0, 1) := by decide +kernel
theorem dX12_count_172 : decode cX12_count 172 = .ok (.getfield 305, 3) := by decide +kernel
theorem dX12_count_175 : decode cX12_count 175 = .ok (.ireturn, 1) := by decide +kernel
theorem dX12_count_176 : decode cX12_count 176 = .ok (.aload_n 0, 1) := by decide +kernel
theorem dX12_count_177 : decode cX12_count 177 = .ok (.getfield 308, 3) := by decide +kernel
theorem dX12_count_180 : decode cX12_count 180 = .ok (.ireturn, 1) := by decide +kernel
theorem dX12_count_181 : decode cX12_count 181 = .ok (.aload_n 0, 1) := by decide +kernel
theorem dX12_count_182 : decode cX12_count 182 = .ok (.getfield 61, 3) := by decide +kernel
theorem dX12_count_185 : decode cX12_count 185 = .ok (.bipush 19, 2) := by decide +kernel
theorem dX12_count_187 : decode cX12_count 187 = .ok (.iaload, 1) := by decide +kernel
theorem dX12_count_188 : decode cX12_count 188 = .ok (.ireturn, 1) := by decide +kernel
theorem dX12_count_189 : decode cX12_count 189 = .ok (.aload_n 0, 1) := by decide +kernel
theorem dX12_count_190 : decode cX12_count 190 = .ok (.getfield 61, 3) := by decide +kernel
theorem dX12_count_193 : decode cX12_count 193 = .ok (.sipush 200, 3) := by decide +kernel
theorem dX12_count_196 : decode cX12_count 196 = .ok (.iaload, 1) := by decide +kernel
theorem dX12_count_197 : decode cX12_count 197 = .ok (.ireturn, 1) := by decide +kernel
theorem dX12_count_198 : decode cX12_count 198 = .ok (.aload_n 0, 1) := by decide +kernel
theorem dX12_count_199 : decode cX12_count 199 = .ok (.getfield 311, 3) := by decide +kernel
theorem dX12_count_202 : decode cX12_count 202 = .ok (.ireturn, 1) := by decide +kernel
theorem dX12_count_203 : decode cX12_count 203 = .ok (.ldc_w 412, 3) := by decide +kernel
theorem dX12_count_206 : decode cX12_count 206 = .ok (.ireturn, 1) := by decide +kernel
noncomputable def kX12_count : Nat → Op := (nodeC 143 (nodeC 113 (nodeC 97 (nodeC 5 (nodeC 1 (nodeC 0 (leafC 0 (o_al 0 1)) (leafC 1 (o_ic (0) 2))) (nodeC 2 (leafC 2 (o_pI 12 0 5)) (leafC 5 (o_il 1 6)))) (nodeC 92 (nodeC 6 (leafC 6 (o_sw [(0, 92), (1, 97), (2, 102), (3, 107), (4, 112), (5, 117), (6, 122), (7, 130), (8, 137), (9, 144), (10, 152), (11, 159), (12, 166), (13, 171), (14, 176), (15, 181), (16, 189), (17, 198)] 203)) (leafC 92 (o_al 0 93))) (nodeC 93 (leafC 93 (o_gI 12 27 96)) (nodeC 96 (leafC 96 (o_iret)) (leafC 97 (o_al 0 98)))))) (nodeC 106 (nodeC 101 (nodeC 98 (leafC 98 (o_gI 12 26 101)) (leafC 101 (o_iret))) (nodeC 102 (leafC 102 (o_al 0 103)) (nodeC 103 (leafC 103 (o_gI 12 7 106)) (leafC 106 (o_iret))))) (nodeC 108 (nodeC 107 (leafC 107 (o_al 0 108)) (leafC 108 (o_gI 12 30 111))) (nodeC 111 (leafC 111 (o_iret)) (nodeC 112 (leafC 112 (o_al 0 113)) (leafC 113 (o_gI 12 6 116))))))) (nodeC 129 (nodeC 121 (nodeC 117 (nodeC 116 (leafC 116 (o_iret)) (leafC 117 (o_al 0 118))) (nodeC 118 (leafC 118 (o_gI 12 34 121)) (leafC 121 (o_iret)))) (nodeC 123 (nodeC 122 (leafC 122 (o_al 0 123)) (leafC 123 (o_gR 12 32 126))) (nodeC 126 (leafC 126 (o_ic (7) 128)) (nodeC 128 (leafC 128 (o_iald 129)) (leafC 129 (o_iret)))))) (nodeC 136 (nodeC 131 (nodeC 130 (leafC 130 (o_al 0 131)) (leafC 131 (o_gR 12 32 134))) (nodeC 134 (leafC 134 (o_ic (4) 135)) (nodeC 135 (leafC 135 (o_iald 136)) (leafC 136 (o_iret))))) (nodeC 138 (nodeC 137 (leafC 137 (o_al 0 138)) (leafC 138 (o_gR 12 32 141))) (nodeC 141 (leafC 141 (o_ic (5) 142)) (nodeC 142 (leafC 142 (o_iald 143)) (leafC 143 (o_iret)))))))) (nodeC 171 (nodeC 157 (nodeC 150 (nodeC 145 (nodeC 144 (leafC 144 (o_al 0 145)) (leafC 145 (o_gR 12 32 148))) (nodeC 148 (leafC 148 (o_ic (6) 150)) (leafC 150 (o_iald 151)))) (nodeC 152 (nodeC 151 (leafC 151 (o_iret)) (leafC 152 (o_al 0 153))) (nodeC 153 (leafC 153 (o_gR 12 32 156)) (nodeC 156 (leafC 156 (o_ic (1) 157)) (leafC 157 (o_iald 158)))))) (nodeC 164 (nodeC 159 (nodeC 158 (leafC 158 (o_iret)) (leafC 159 (o_al 0 160))) (nodeC 160 (leafC 160 (o_gR 12 32 163)) (nodeC 163 (leafC 163 (o_ic (3) 164)) (leafC 164 (o_iald 165))))) (nodeC 166 (nodeC 165 (leafC 165 (o_iret)) (leafC 166 (o_al 0 167))) (nodeC 167 (leafC 167 (o_gI 12 35 170)) (nodeC 170 (leafC 170 (o_iret)) (leafC 171 (o_al 0 172))))))) (nodeC 188 (nodeC 180 (nodeC 175 (nodeC 172 (leafC 172 (o_gI 12 50 175)) (leafC 175 (o_iret))) (nodeC 176 (leafC 176 (o_al 0 177)) (nodeC 177 (leafC 177 (o_gI 12 51 180)) (leafC 180 (o_iret))))) (nodeC 182 (nodeC 181 (leafC 181 (o_al 0 182)) (leafC 182 (o_gR 12 32 185))) (nodeC 185 (leafC 185 (o_ic (19) 187)) (nodeC 187 (leafC 187 (o_iald 188)) (leafC 188 (o_iret)))))) (nodeC 197 (nodeC 190 (nodeC 189 (leafC 189 (o_al 0 190)) (leafC 190 (o_gR 12 32 193))) (nodeC 193 (leafC 193 (o_ic (200) 196)) (nodeC 196 (leafC 196 (o_iald 197)) (leafC 197 (o_iret))))) (nodeC 199 (nodeC 198 (leafC 198 (o_al 0 199)) (leafC 199 (o_gI 12 37 202))) (nodeC 202 (leafC 202 (o_iret)) (nodeC 203 (leafC 203 (o_ic (-1000000) 206)) (leafC 206 (o_iret)))))))))
theorem sX12_count : ∀ pc, SoundOp cX12_count RX12 2 (some .int) false 0 0 pc (kX12_count pc) := (so_node (so_node (so_node (so_node (so_node (so_node (so_leaf (so_aload_n dX12_count_0 rfl)) (so_leaf (so_iconst dX12_count_1 (by decide)))) (so_node (so_leaf (so_pI (by decide) (by decide) wC12 wf_RX12_105 (Or.inl rfl) rfl dX12_count_2)) (so_leaf (so_iload_n dX12_count_5 rfl)))) (so_node (so_node (so_leaf (so_table dX12_count_6 (by decide) (by decide) (by decide) (by decide))) (so_leaf (so_aload_n dX12_count_92 rfl))) (so_node (so_leaf (so_gI (by decide) (by decide) wC12 wf_RX12_302 (fun _ _ _ => rfl) dX12_count_93)) (so_node (so_leaf (so_iret dX12_count_96 rfl)) (so_leaf (so_aload_n dX12_count_97 rfl)))))) (so_node (so_node (so_node (so_leaf (so_gI (by decide) (by decide) wC12 wf_RX12_299 (fun _ _ _ => rfl) dX12_count_98)) (so_leaf (so_iret dX12_count_101 rfl))) (so_node (so_leaf (so_aload_n dX12_count_102 rfl)) (so_node (so_leaf (so_gI (by decide) (by decide) wC12 wf_RX12_291 (fun _ _ _ => rfl) dX12_count_103)) (so_leaf (so_iret dX12_count_106 rfl))))) (so_node (so_node (so_leaf (so_aload_n dX12_count_107 rfl)) (so_leaf (so_gI (by decide) (by decide) wC12 wf_RX12_294 (fun _ _ _ => rfl) dX12_count_108))) (so_node (so_leaf (so_iret dX12_count_111 rfl)) (so_node (so_leaf (so_aload_n dX12_count_112 rfl)) (so_leaf (so_gI (by decide) (by decide) wC12 wf_RX12_118 (fun _ _ _ => rfl) dX12_count_113))))))) (so_node (so_node (so_node (so_node (so_leaf (so_iret dX12_count_116 rfl)) (so_leaf (so_aload_n dX12_count_117 rfl))) (so_node (so_leaf (so_gI (by decide) (by decide) wC12 wf_RX12_67 (fun _ _ _ => rfl) dX12_count_118)) (so_leaf (so_iret dX12_count_121 rfl)))) (so_node (so_node (so_leaf (so_aload_n dX12_count_122 rfl)) (so_leaf (so_gR (by decide) (by decide) wC12 wf_RX12_61 (fun _ _ _ => rfl) dX12_count_123))) (so_node (so_leaf (so_bipush dX12_count_126 (by decide))) (so_node (so_leaf (so_iald dX12_count_128)) (so_leaf (so_iret dX12_count_129 rfl)))))) (so_node (so_node (so_node (so_leaf (so_aload_n dX12_count_130 rfl)) (so_leaf (so_gR (by decide) (by decide) wC12 wf_RX12_61 (fun _ _ _ => rfl) dX12_count_131))) (so_node (so_leaf (so_iconst dX12_count_134 (by decide))) (so_node (so_leaf (so_iald dX12_count_135)) (so_leaf (so_iret dX12_count_136 rfl))))) (so_node (so_node (so_leaf (so_aload_n dX12_count_137 rfl)) (so_leaf (so_gR (by decide) (by decide) wC12 wf_RX12_61 (fun _ _ _ => rfl) dX12_count_138))) (so_node (so_leaf (so_iconst dX12_count_141 (by decide))) (so_node (so_leaf (so_iald dX12_count_142)) (so_leaf (so_iret dX12_count_143 rfl)))))))) (so_node (so_node (so_node (so_node (so_node (so_leaf (so_aload_n dX12_count_144 rfl)) (so_leaf (so_gR (by decide) (by decide) wC12 wf_RX12_61 (fun _ _ _ => rfl) dX12_count_145))) (so_node (so_leaf (so_bipush dX12_count_148 (by decide))) (so_leaf (so_iald dX12_count_150)))) (so_node (so_node (so_leaf (so_iret dX12_count_151 rfl)) (so_leaf (so_aload_n dX12_count_152 rfl))) (so_node (so_leaf (so_gR (by decide) (by decide) wC12 wf_RX12_61 (fun _ _ _ => rfl) dX12_count_153)) (so_node (so_leaf (so_iconst dX12_count_156 (by decide))) (so_leaf (so_iald dX12_count_157)))))) (so_node (so_node (so_node (so_leaf (so_iret dX12_count_158 rfl)) (so_leaf (so_aload_n dX12_count_159 rfl))) (so_node (so_leaf (so_gR (by decide) (by decide) wC12 wf_RX12_61 (fun _ _ _ => rfl) dX12_count_160)) (so_node (so_leaf (so_iconst dX12_count_163 (by decide))) (so_leaf (so_iald dX12_count_164))))) (so_node (so_node (so_leaf (so_iret dX12_count_165 rfl)) (so_leaf (so_aload_n dX12_count_166 rfl))) (so_node (so_leaf (so_gI (by decide) (by decide) wC12 wf_RX12_71 (fun _ _ _ => rfl) dX12_count_167)) (so_node (so_leaf (so_iret dX12_count_170 rfl)) (so_leaf (so_aload_n dX12_count_171 rfl))))))) (so_node (so_node (so_node (so_node (so_leaf (so_gI (by decide) (by decide) wC12 wf_RX12_305 (fun _ _ _ => rfl) dX12_count_172)) (so_leaf (so_iret dX12_count_175 rfl))) (so_node (so_leaf (so_aload_n dX12_count_176 rfl)) (so_node (so_leaf (so_gI (by decide) (by decide) wC12 wf_RX12_308 (fun _ _ _ => rfl) dX12_count_177)) (so_leaf (so_iret dX12_count_180 rfl))))) (so_node (so_node (so_leaf (so_aload_n dX12_count_181 rfl)) (so_leaf (so_gR (by decide) (by decide) wC12 wf_RX12_61 (fun _ _ _ => rfl) dX12_count_182))) (so_node (so_leaf (so_bipush dX12_count_185 (by decide))) (so_node (so_leaf (so_iald dX12_count_187)) (so_leaf (so_iret dX12_count_188 rfl)))))) (so_node (so_node (so_node (so_leaf (so_aload_n dX12_count_189 rfl)) (so_leaf (so_gR (by decide) (by decide) wC12 wf_RX12_61 (fun _ _ _ => rfl) dX12_count_190))) (so_node (so_leaf (so_sipush dX12_count_193 (by decide))) (so_node (so_leaf (so_iald dX12_count_196)) (so_leaf (so_iret dX12_count_197 rfl))))) (so_node (so_node (so_leaf (so_aload_n dX12_count_198 rfl)) (so_leaf (so_gI (by decide) (by decide) wC12 wf_RX12_311 (fun _ _ _ => rfl) dX12_count_199))) (so_node (so_leaf (so_iret dX12_count_202 rfl)) (so_node (so_leaf (so_ldcw wk_RX12_412 dX12_count_203)) (so_leaf (so_iret dX12_count_206 rfl)))))))))
theorem pX12_count : ∀ pc, Pr (kX12_count pc) := (pr_node (pr_node (pr_node (pr_node (pr_node (pr_node (pr_leaf (pr_al _ _)) (pr_leaf (pr_ic _ _))) (pr_node (pr_leaf (pr_pI _ _ _)) (pr_leaf (pr_il _ _)))) (pr_node (pr_node (pr_leaf (pr_sw _ _)) (pr_leaf (pr_al _ _))) (pr_node (pr_leaf (pr_gI _ _ _)) (pr_node (pr_leaf (pr_iret)) (pr_leaf (pr_al _ _)))))) (pr_node (pr_node (pr_node (pr_leaf (pr_gI _ _ _)) (pr_leaf (pr_iret))) (pr_node (pr_leaf (pr_al _ _)) (pr_node (pr_leaf (pr_gI _ _ _)) (pr_leaf (pr_iret))))) (pr_node (pr_node (pr_leaf (pr_al _ _)) (pr_leaf (pr_gI _ _ _))) (pr_node (pr_leaf (pr_iret)) (pr_node (pr_leaf (pr_al _ _)) (pr_leaf (pr_gI _ _ _))))))) (pr_node (pr_node (pr_node (pr_node (pr_leaf (pr_iret)) (pr_leaf (pr_al _ _))) (pr_node (pr_leaf (pr_gI _ _ _)) (pr_leaf (pr_iret)))) (pr_node (pr_node (pr_leaf (pr_al _ _)) (pr_leaf (pr_gR _ _ _))) (pr_node (pr_leaf (pr_ic _ _)) (pr_node (pr_leaf (pr_iald _)) (pr_leaf (pr_iret)))))) (pr_node (pr_node (pr_node (pr_leaf (pr_al _ _)) (pr_leaf (pr_gR _ _ _))) (pr_node (pr_leaf (pr_ic _ _)) (pr_node (pr_leaf (pr_iald _)) (pr_leaf (pr_iret))))) (pr_node (pr_node (pr_leaf (pr_al _ _)) (pr_leaf (pr_gR _ _ _))) (pr_node (pr_leaf (pr_ic _ _)) (pr_node (pr_leaf (pr_iald _)) (pr_leaf (pr_iret)))))))) (pr_node (pr_node (pr_node (pr_node (pr_node (pr_leaf (pr_al _ _)) (pr_leaf (pr_gR _ _ _))) (pr_node (pr_leaf (pr_ic _ _)) (pr_leaf (pr_iald _)))) (pr_node (pr_node (pr_leaf (pr_iret)) (pr_leaf (pr_al _ _))) (pr_node (pr_leaf (pr_gR _ _ _)) (pr_node (pr_leaf (pr_ic _ _)) (pr_leaf (pr_iald _)))))) (pr_node (pr_node (pr_node (pr_leaf (pr_iret)) (pr_leaf (pr_al _ _))) (pr_node (pr_leaf (pr_gR _ _ _)) (pr_node (pr_leaf (pr_ic _ _)) (pr_leaf (pr_iald _))))) (pr_node (pr_node (pr_leaf (pr_iret)) (pr_leaf (pr_al _ _))) (pr_node (pr_leaf (pr_gI _ _ _)) (pr_node (pr_leaf (pr_iret)) (pr_leaf (pr_al _ _))))))) (pr_node (pr_node (pr_node (pr_node (pr_leaf (pr_gI _ _ _)) (pr_leaf (pr_iret))) (pr_node (pr_leaf (pr_al _ _)) (pr_node (pr_leaf (pr_gI _ _ _)) (pr_leaf (pr_iret))))) (pr_node (pr_node (pr_leaf (pr_al _ _)) (pr_leaf (pr_gR _ _ _))) (pr_node (pr_leaf (pr_ic _ _)) (pr_node (pr_leaf (pr_iald _)) (pr_leaf (pr_iret)))))) (pr_node (pr_node (pr_node (pr_leaf (pr_al _ _)) (pr_leaf (pr_gR _ _ _))) (pr_node (pr_leaf (pr_ic _ _)) (pr_node (pr_leaf (pr_iald _)) (pr_leaf (pr_iret))))) (pr_node (pr_node (pr_leaf (pr_al _ _)) (pr_leaf (pr_gI _ _ _))) (pr_node (pr_leaf (pr_iret)) (pr_node (pr_leaf (pr_ic _ _)) (pr_leaf (pr_iret)))))))))
noncomputable def FX12_count : List EV → Hp → Option (RV × Hp) := Fm kX12_count 2
theorem CX12_count : Con yX12_count cX12_count 2 (some .int) 0 0 FX12_count := con_of (own := RX12) rfl (by decide +kernel) sX12_count pX12_count (fun z => by cases z)
theorem GX12_count : Gr FX12_count := Gr_Fm pX12_count 2
