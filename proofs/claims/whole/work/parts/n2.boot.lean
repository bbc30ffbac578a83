/-! ===== the constructor of the reference ===== -/
set_option maxRecDepth 20000 in
theorem b12_218 {h0 : Hp} (B : h0.1 = (0, 0)) : Run kX12_init 218 [some (vR (some 147))] [] (Zb h0 349) = some (rV, (Zb h0 353)) := by
  have n349 : nw (Zb h0 349) 22 (Int32.toNatClampNeg 10) (Int32.toNatClampNeg 10) = (Zb h0 350) := z_nw (by decide +kernel)
  have N349 : hN (Zb h0 349) = 170 := zNn B (by decide +kernel)
  have g10 : (decide ((10 : Int32) < 0) || decide (1000000 < (Int32.toNatClampNeg 10))) = false := by decide +kernel
  have K350_147 : hK (Zb h0 350) 147 = 12 := zK B (by decide +kernel)
  have r350 : sR (Zb h0 350) 147 49 (some 170) = (Zb h0 351) := z_sR (by decide +kernel)
  have n351 : nw (Zb h0 351) 20 (Int32.toNatClampNeg 381) (Int32.toNatClampNeg 381) = (Zb h0 352) := z_nw (by decide +kernel)
  have N351 : hN (Zb h0 351) = 171 := zNn B (by decide +kernel)
  have g381 : (decide ((381 : Int32) < 0) || decide (1000000 < (Int32.toNatClampNeg 381))) = false := by decide +kernel
  have K352_147 : hK (Zb h0 352) 147 = 12 := zK B (by decide +kernel)
  have r352 : sR (Zb h0 352) 147 52 (some 171) = (Zb h0 353) := z_sR (by decide +kernel)
  rw [tX12_init_218]
  simp only [oB_some, dR_some, cond_true, cond_false, if_true, if_false, Bool.true_and, Bool.and_true, Nat.beq_refl, n349, N349, g10, K350_147, r350, n351, N351, g381, K352_147, r352]
set_option maxRecDepth 20000 in
theorem b12_194 {h0 : Hp} (B : h0.1 = (0, 0)) : Run kX12_init 194 [some (vR (some 147))] [] (Zb h0 343) = some (rV, (Zb h0 353)) := by
  have n343 : nw (Zb h0 343) 20 (Int32.toNatClampNeg 10) (Int32.toNatClampNeg 10) = (Zb h0 344) := z_nw (by decide +kernel)
  have N343 : hN (Zb h0 343) = 167 := zNn B (by decide +kernel)
  have g10 : (decide ((10 : Int32) < 0) || decide (1000000 < (Int32.toNatClampNeg 10))) = false := by decide +kernel
  have K344_147 : hK (Zb h0 344) 147 = 12 := zK B (by decide +kernel)
  have r344 : sR (Zb h0 344) 147 46 (some 167) = (Zb h0 345) := z_sR (by decide +kernel)
  have n345 : nw (Zb h0 345) 20 (Int32.toNatClampNeg 10) (Int32.toNatClampNeg 10) = (Zb h0 346) := z_nw (by decide +kernel)
  have N345 : hN (Zb h0 345) = 168 := zNn B (by decide +kernel)
  have K346_147 : hK (Zb h0 346) 147 = 12 := zK B (by decide +kernel)
  have r346 : sR (Zb h0 346) 147 47 (some 168) = (Zb h0 347) := z_sR (by decide +kernel)
  have n347 : nw (Zb h0 347) 22 (Int32.toNatClampNeg 12) (Int32.toNatClampNeg 12) = (Zb h0 348) := z_nw (by decide +kernel)
  have N347 : hN (Zb h0 347) = 169 := zNn B (by decide +kernel)
  have g12 : (decide ((12 : Int32) < 0) || decide (1000000 < (Int32.toNatClampNeg 12))) = false := by decide +kernel
  have K348_147 : hK (Zb h0 348) 147 = 12 := zK B (by decide +kernel)
  have r348 : sR (Zb h0 348) 147 48 (some 169) = (Zb h0 349) := z_sR (by decide +kernel)
  rw [tX12_init_194]
  simp only [oB_some, dR_some, cond_true, cond_false, if_true, if_false, Bool.true_and, Bool.and_true, Nat.beq_refl, n343, N343, g10, K344_147, r344, n345, N345, K346_147, r346, n347, N347, g12, K348_147, r348, b12_218 B]
set_option maxRecDepth 20000 in
theorem b12_168 {h0 : Hp} (B : h0.1 = (0, 0)) : Run kX12_init 168 [some (vR (some 147))] [] (Zb h0 337) = some (rV, (Zb h0 353)) := by
  have n337 : nw (Zb h0 337) 22 (Int32.toNatClampNeg 19520) (Int32.toNatClampNeg 19520) = (Zb h0 338) := z_nw (by decide +kernel)
  have N337 : hN (Zb h0 337) = 164 := zNn B (by decide +kernel)
  have g19520 : (decide ((19520 : Int32) < 0) || decide (1000000 < (Int32.toNatClampNeg 19520))) = false := by decide +kernel
  have K338_147 : hK (Zb h0 338) 147 = 12 := zK B (by decide +kernel)
  have r338 : sR (Zb h0 338) 147 42 (some 164) = (Zb h0 339) := z_sR (by decide +kernel)
  have n339 : nw (Zb h0 339) 20 (Int32.toNatClampNeg 2116) (Int32.toNatClampNeg 2116) = (Zb h0 340) := z_nw (by decide +kernel)
  have N339 : hN (Zb h0 339) = 165 := zNn B (by decide +kernel)
  have g2116 : (decide ((2116 : Int32) < 0) || decide (1000000 < (Int32.toNatClampNeg 2116))) = false := by decide +kernel
  have K340_147 : hK (Zb h0 340) 147 = 12 := zK B (by decide +kernel)
  have r340 : sR (Zb h0 340) 147 43 (some 165) = (Zb h0 341) := z_sR (by decide +kernel)
  have n341 : nw (Zb h0 341) 20 (Int32.toNatClampNeg 12) (Int32.toNatClampNeg 12) = (Zb h0 342) := z_nw (by decide +kernel)
  have N341 : hN (Zb h0 341) = 166 := zNn B (by decide +kernel)
  have g12 : (decide ((12 : Int32) < 0) || decide (1000000 < (Int32.toNatClampNeg 12))) = false := by decide +kernel
  have K342_147 : hK (Zb h0 342) 147 = 12 := zK B (by decide +kernel)
  have r342 : sR (Zb h0 342) 147 45 (some 166) = (Zb h0 343) := z_sR (by decide +kernel)
  rw [tX12_init_168]
  simp only [oB_some, dR_some, cond_true, cond_false, if_true, if_false, Bool.true_and, Bool.and_true, Nat.beq_refl, n337, N337, g19520, K338_147, r338, n339, N339, g2116, K340_147, r340, n341, N341, g12, K342_147, r342, b12_194 B]
set_option maxRecDepth 20000 in
theorem b12_145 {h0 : Hp} (B : h0.1 = (0, 0)) : Run kX12_init 145 [some (vR (some 147))] [] (Zb h0 332) = some (rV, (Zb h0 353)) := by
  have K332_147 : hK (Zb h0 332) 147 = 12 := zK B (by decide +kernel)
  have i332 : sI (Zb h0 332) 147 35 (2) = (Zb h0 333) := z_sI (v := 3) (by decide +kernel) (by decide +kernel)
  have n333 : nw (Zb h0 333) 20 (Int32.toNatClampNeg 15240) (Int32.toNatClampNeg 15240) = (Zb h0 334) := z_nw (by decide +kernel)
  have N333 : hN (Zb h0 333) = 162 := zNn B (by decide +kernel)
  have g15240 : (decide ((15240 : Int32) < 0) || decide (1000000 < (Int32.toNatClampNeg 15240))) = false := by decide +kernel
  have K334_147 : hK (Zb h0 334) 147 = 12 := zK B (by decide +kernel)
  have r334 : sR (Zb h0 334) 147 36 (some 162) = (Zb h0 335) := z_sR (by decide +kernel)
  have n335 : nw (Zb h0 335) 22 (Int32.toNatClampNeg 19520) (Int32.toNatClampNeg 19520) = (Zb h0 336) := z_nw (by decide +kernel)
  have N335 : hN (Zb h0 335) = 163 := zNn B (by decide +kernel)
  have g19520 : (decide ((19520 : Int32) < 0) || decide (1000000 < (Int32.toNatClampNeg 19520))) = false := by decide +kernel
  have K336_147 : hK (Zb h0 336) 147 = 12 := zK B (by decide +kernel)
  have r336 : sR (Zb h0 336) 147 41 (some 163) = (Zb h0 337) := z_sR (by decide +kernel)
  rw [tX12_init_145]
  simp only [oB_some, dR_some, cond_true, cond_false, if_true, if_false, Bool.true_and, Bool.and_true, Nat.beq_refl, K332_147, i332, n333, N333, g15240, K334_147, r334, n335, N335, g19520, K336_147, r336, b12_168 B]
set_option maxRecDepth 20000 in
theorem b12_122 {h0 : Hp} (B : h0.1 = (0, 0)) : Run kX12_init 122 [some (vR (some 147))] [] (Zb h0 327) = some (rV, (Zb h0 353)) := by
  have n327 : nw (Zb h0 327) 20 (Int32.toNatClampNeg 381) (Int32.toNatClampNeg 381) = (Zb h0 328) := z_nw (by decide +kernel)
  have N327 : hN (Zb h0 327) = 160 := zNn B (by decide +kernel)
  have g381 : (decide ((381 : Int32) < 0) || decide (1000000 < (Int32.toNatClampNeg 381))) = false := by decide +kernel
  have K328_147 : hK (Zb h0 328) 147 = 12 := zK B (by decide +kernel)
  have r328 : sR (Zb h0 328) 147 32 (some 160) = (Zb h0 329) := z_sR (by decide +kernel)
  have n329 : nw (Zb h0 329) 20 (Int32.toNatClampNeg 381) (Int32.toNatClampNeg 381) = (Zb h0 330) := z_nw (by decide +kernel)
  have N329 : hN (Zb h0 329) = 161 := zNn B (by decide +kernel)
  have K330_147 : hK (Zb h0 330) 147 = 12 := zK B (by decide +kernel)
  have r330 : sR (Zb h0 330) 147 33 (some 161) = (Zb h0 331) := z_sR (by decide +kernel)
  have K331_147 : hK (Zb h0 331) 147 = 12 := zK B (by decide +kernel)
  have i331 : sI (Zb h0 331) 147 34 (-1) = (Zb h0 332) := z_sI (v := 0) (by decide +kernel) (by decide +kernel)
  rw [tX12_init_122]
  simp only [oB_some, dR_some, cond_true, cond_false, if_true, if_false, Bool.true_and, Bool.and_true, Nat.beq_refl, n327, N327, g381, K328_147, r328, n329, N329, K330_147, r330, K331_147, i331, b12_145 B]
set_option maxRecDepth 20000 in
theorem b12_98 {h0 : Hp} (B : h0.1 = (0, 0)) : Run kX12_init 98 [some (vR (some 147))] [] (Zb h0 321) = some (rV, (Zb h0 353)) := by
  have n321 : nw (Zb h0 321) 20 (Int32.toNatClampNeg 15) (Int32.toNatClampNeg 15) = (Zb h0 322) := z_nw (by decide +kernel)
  have N321 : hN (Zb h0 321) = 157 := zNn B (by decide +kernel)
  have g15 : (decide ((15 : Int32) < 0) || decide (1000000 < (Int32.toNatClampNeg 15))) = false := by decide +kernel
  have K322_147 : hK (Zb h0 322) 147 = 12 := zK B (by decide +kernel)
  have r322 : sR (Zb h0 322) 147 23 (some 157) = (Zb h0 323) := z_sR (by decide +kernel)
  have n323 : nw (Zb h0 323) 20 (Int32.toNatClampNeg 240) (Int32.toNatClampNeg 240) = (Zb h0 324) := z_nw (by decide +kernel)
  have N323 : hN (Zb h0 323) = 158 := zNn B (by decide +kernel)
  have g240 : (decide ((240 : Int32) < 0) || decide (1000000 < (Int32.toNatClampNeg 240))) = false := by decide +kernel
  have K324_147 : hK (Zb h0 324) 147 = 12 := zK B (by decide +kernel)
  have r324 : sR (Zb h0 324) 147 24 (some 158) = (Zb h0 325) := z_sR (by decide +kernel)
  have n325 : nw (Zb h0 325) 20 (Int32.toNatClampNeg 5) (Int32.toNatClampNeg 5) = (Zb h0 326) := z_nw (by decide +kernel)
  have N325 : hN (Zb h0 325) = 159 := zNn B (by decide +kernel)
  have g5 : (decide ((5 : Int32) < 0) || decide (1000000 < (Int32.toNatClampNeg 5))) = false := by decide +kernel
  have K326_147 : hK (Zb h0 326) 147 = 12 := zK B (by decide +kernel)
  have r326 : sR (Zb h0 326) 147 25 (some 159) = (Zb h0 327) := z_sR (by decide +kernel)
  rw [tX12_init_98]
  simp only [oB_some, dR_some, cond_true, cond_false, if_true, if_false, Bool.true_and, Bool.and_true, Nat.beq_refl, n321, N321, g15, K322_147, r322, n323, N323, g240, K324_147, r324, n325, N325, g5, K326_147, r326, b12_122 B]
set_option maxRecDepth 20000 in
theorem b12_74 {h0 : Hp} (B : h0.1 = (0, 0)) : Run kX12_init 74 [some (vR (some 147))] [] (Zb h0 315) = some (rV, (Zb h0 353)) := by
  have n315 : nw (Zb h0 315) 20 (Int32.toNatClampNeg 18) (Int32.toNatClampNeg 18) = (Zb h0 316) := z_nw (by decide +kernel)
  have N315 : hN (Zb h0 315) = 154 := zNn B (by decide +kernel)
  have g18 : (decide ((18 : Int32) < 0) || decide (1000000 < (Int32.toNatClampNeg 18))) = false := by decide +kernel
  have K316_147 : hK (Zb h0 316) 147 = 12 := zK B (by decide +kernel)
  have r316 : sR (Zb h0 316) 147 20 (some 154) = (Zb h0 317) := z_sR (by decide +kernel)
  have n317 : nw (Zb h0 317) 20 (Int32.toNatClampNeg 18) (Int32.toNatClampNeg 18) = (Zb h0 318) := z_nw (by decide +kernel)
  have N317 : hN (Zb h0 317) = 155 := zNn B (by decide +kernel)
  have K318_147 : hK (Zb h0 318) 147 = 12 := zK B (by decide +kernel)
  have r318 : sR (Zb h0 318) 147 21 (some 155) = (Zb h0 319) := z_sR (by decide +kernel)
  have n319 : nw (Zb h0 319) 20 (Int32.toNatClampNeg 15) (Int32.toNatClampNeg 15) = (Zb h0 320) := z_nw (by decide +kernel)
  have N319 : hN (Zb h0 319) = 156 := zNn B (by decide +kernel)
  have g15 : (decide ((15 : Int32) < 0) || decide (1000000 < (Int32.toNatClampNeg 15))) = false := by decide +kernel
  have K320_147 : hK (Zb h0 320) 147 = 12 := zK B (by decide +kernel)
  have r320 : sR (Zb h0 320) 147 22 (some 156) = (Zb h0 321) := z_sR (by decide +kernel)
  rw [tX12_init_74]
  simp only [oB_some, dR_some, cond_true, cond_false, if_true, if_false, Bool.true_and, Bool.and_true, Nat.beq_refl, n315, N315, g18, K316_147, r316, n317, N317, K318_147, r318, n319, N319, g15, K320_147, r320, b12_98 B]
set_option maxRecDepth 20000 in
theorem b12_52 {h0 : Hp} (B : h0.1 = (0, 0)) : Run kX12_init 52 [some (vR (some 147))] [] (Zb h0 310) = some (rV, (Zb h0 353)) := by
  have K310_147 : hK (Zb h0 310) 147 = 12 := zK B (by decide +kernel)
  have r310 : sR (Zb h0 310) 147 16 (some (PRE + 11)) = (Zb h0 311) := z_sR (by decide +kernel)
  have n311 : nw (Zb h0 311) 20 (Int32.toNatClampNeg 7) (Int32.toNatClampNeg 7) = (Zb h0 312) := z_nw (by decide +kernel)
  have N311 : hN (Zb h0 311) = 152 := zNn B (by decide +kernel)
  have g7 : (decide ((7 : Int32) < 0) || decide (1000000 < (Int32.toNatClampNeg 7))) = false := by decide +kernel
  have K312_147 : hK (Zb h0 312) 147 = 12 := zK B (by decide +kernel)
  have r312 : sR (Zb h0 312) 147 18 (some 152) = (Zb h0 313) := z_sR (by decide +kernel)
  have n313 : nw (Zb h0 313) 20 (Int32.toNatClampNeg 7) (Int32.toNatClampNeg 7) = (Zb h0 314) := z_nw (by decide +kernel)
  have N313 : hN (Zb h0 313) = 153 := zNn B (by decide +kernel)
  have K314_147 : hK (Zb h0 314) 147 = 12 := zK B (by decide +kernel)
  have r314 : sR (Zb h0 314) 147 19 (some 153) = (Zb h0 315) := z_sR (by decide +kernel)
  rw [tX12_init_52]
  simp only [oB_some, dR_some, cond_true, cond_false, if_true, if_false, Bool.true_and, Bool.and_true, Nat.beq_refl, K310_147, r310, n311, N311, g7, K312_147, r312, n313, N313, K314_147, r314, b12_74 B]
set_option maxRecDepth 20000 in
theorem b12_29 {h0 : Hp} (B : h0.1 = (0, 0)) : Run kX12_init 29 [some (vR (some 147))] [] (Zb h0 306) = some (rV, (Zb h0 353)) := by
  have n306 : nw (Zb h0 306) 20 (Int32.toNatClampNeg 128) (Int32.toNatClampNeg 128) = (Zb h0 307) := z_nw (by decide +kernel)
  have N306 : hN (Zb h0 306) = 151 := zNn B (by decide +kernel)
  have g128 : (decide ((128 : Int32) < 0) || decide (1000000 < (Int32.toNatClampNeg 128))) = false := by decide +kernel
  have K307_147 : hK (Zb h0 307) 147 = 12 := zK B (by decide +kernel)
  have r307 : sR (Zb h0 307) 147 4 (some 151) = (Zb h0 308) := z_sR (by decide +kernel)
  have K308_147 : hK (Zb h0 308) 147 = 12 := zK B (by decide +kernel)
  have q308 : hR (Zb h0 308) 147 1 = some 148 := zR B (by decide +kernel)
  have r308 : sR (Zb h0 308) 147 5 (some 148) = (Zb h0 309) := z_sR (by decide +kernel)
  have K309_147 : hK (Zb h0 309) 147 = 12 := zK B (by decide +kernel)
  have r309 : sR (Zb h0 309) 147 15 (some (PRE + 10)) = (Zb h0 310) := z_sR (by decide +kernel)
  rw [tX12_init_29]
  simp only [oB_some, dR_some, cond_true, cond_false, if_true, if_false, Bool.true_and, Bool.and_true, Nat.beq_refl, n306, N306, g128, K307_147, r307, K308_147, q308, r308, K309_147, r309, b12_52 B]
set_option maxRecDepth 20000 in
theorem b12_0 {h0 : Hp} (B : h0.1 = (0, 0)) : FX12_init [vR (some 147)] (Zb h0 300) = some (rV, (Zb h0 353)) := by
  have n300 : nw (Zb h0 300) 21 (Int32.toNatClampNeg 240) (Int32.toNatClampNeg 240) = (Zb h0 301) := z_nw (by decide +kernel)
  have N300 : hN (Zb h0 300) = 148 := zNn B (by decide +kernel)
  have g240 : (decide ((240 : Int32) < 0) || decide (1000000 < (Int32.toNatClampNeg 240))) = false := by decide +kernel
  have K301_147 : hK (Zb h0 301) 147 = 12 := zK B (by decide +kernel)
  have r301 : sR (Zb h0 301) 147 1 (some 148) = (Zb h0 302) := z_sR (by decide +kernel)
  have n302 : nw (Zb h0 302) 21 (Int32.toNatClampNeg 960) (Int32.toNatClampNeg 960) = (Zb h0 303) := z_nw (by decide +kernel)
  have N302 : hN (Zb h0 302) = 149 := zNn B (by decide +kernel)
  have g960 : (decide ((960 : Int32) < 0) || decide (1000000 < (Int32.toNatClampNeg 960))) = false := by decide +kernel
  have K303_147 : hK (Zb h0 303) 147 = 12 := zK B (by decide +kernel)
  have r303 : sR (Zb h0 303) 147 2 (some 149) = (Zb h0 304) := z_sR (by decide +kernel)
  have n304 : nw (Zb h0 304) 20 (Int32.toNatClampNeg 4) (Int32.toNatClampNeg 4) = (Zb h0 305) := z_nw (by decide +kernel)
  have N304 : hN (Zb h0 304) = 150 := zNn B (by decide +kernel)
  have g4 : (decide ((4 : Int32) < 0) || decide (1000000 < (Int32.toNatClampNeg 4))) = false := by decide +kernel
  have K305_147 : hK (Zb h0 305) 147 = 12 := zK B (by decide +kernel)
  have r305 : sR (Zb h0 305) 147 3 (some 150) = (Zb h0 306) := z_sR (by decide +kernel)
  rw [tX12_init]
  simp only [oB_some, dR_some, cond_true, cond_false, if_true, if_false, Bool.true_and, Bool.and_true, Nat.beq_refl, n300, N300, g240, K301_147, r301, n302, N302, g960, K303_147, r303, n304, N304, g4, K305_147, r305, b12_29 B]
