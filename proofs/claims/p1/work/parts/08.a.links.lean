theorem pn_X0 : plainName RX0 = true := by decide +kernel
theorem pn_X1 : plainName RX1 = true := by decide +kernel
theorem pn_X2 : plainName RX2 = true := by decide +kernel
theorem pn_X3 : plainName RX3 = true := by decide +kernel
theorem pn_X4 : plainName RX4 = true := by decide +kernel
theorem pn_X5 : plainName RX5 = true := by decide +kernel
theorem pn_X6 : plainName RX6 = true := by decide +kernel
theorem pn_X7 : plainName RX7 = true := by decide +kernel
theorem pn_X8 : plainName RX8 = true := by decide +kernel
theorem pn_X9 : plainName RX9 = true := by decide +kernel
theorem pn_X10 : plainName RX10 = true := by decide +kernel
theorem lk_X9_9 : zLk RX9 9 9 0 := ⟨_, rfl, Nat.le_of_ble_eq_true rfl, wsG_t (i := 432) (by decide +kernel) rfl⟩
theorem lk_X9_16 : zLk RX9 16 9 4 := ⟨_, rfl, Nat.le_of_ble_eq_true rfl, wsG_t (i := 436) (by decide +kernel) rfl⟩
theorem lk_X9_23 : zLk RX9 23 9 5 := ⟨_, rfl, Nat.le_of_ble_eq_true rfl, wsG_t (i := 437) (by decide +kernel) rfl⟩
theorem lk_X9_30 : zLk RX9 30 9 6 := ⟨_, rfl, Nat.le_of_ble_eq_true rfl, wsG_t (i := 438) (by decide +kernel) rfl⟩
theorem lk_X9_34 : zLk RX9 34 9 8 := ⟨_, rfl, Nat.le_of_ble_eq_true rfl, wsG_t (i := 440) (by decide +kernel) rfl⟩
theorem lk_X9_38 : zLk RX9 38 9 9 := ⟨_, rfl, Nat.le_of_ble_eq_true rfl, wsG_t (i := 441) (by decide +kernel) rfl⟩
theorem lk_X9_41 : zLk RX9 41 9 10 := ⟨_, rfl, Nat.le_of_ble_eq_true rfl, wsG_t (i := 442) (by decide +kernel) rfl⟩
theorem lk_X9_44 : zLk RX9 44 9 11 := ⟨_, rfl, Nat.le_of_ble_eq_true rfl, wsG_t (i := 443) (by decide +kernel) rfl⟩
theorem lk_X9_58 : zLk RX9 58 9 1 := ⟨_, rfl, Nat.le_of_ble_eq_true rfl, wsG_t (i := 433) (by decide +kernel) rfl⟩
theorem lk_X9_62 : zLk RX9 62 9 2 := ⟨_, rfl, Nat.le_of_ble_eq_true rfl, wsG_t (i := 434) (by decide +kernel) rfl⟩
theorem lk_X9_66 : zLk RX9 66 9 3 := ⟨_, rfl, Nat.le_of_ble_eq_true rfl, wsG_t (i := 435) (by decide +kernel) rfl⟩
theorem lk_X9_75 : zLk RX9 75 9 7 := ⟨_, rfl, Nat.le_of_ble_eq_true rfl, wsG_t (i := 439) (by decide +kernel) rfl⟩
theorem lk_X9_94 : zLk RX9 94 3 6 := ⟨_, rfl, Nat.le_of_ble_eq_true rfl, wsG_t (i := 216) (by decide +kernel) rfl⟩
theorem lk_X9_104 : zLk RX9 104 8 0 := ⟨_, rfl, Nat.le_of_ble_eq_true rfl, wsG_t (i := 136) (by decide +kernel) rfl⟩
theorem lk_X9_111 : zLk RX9 111 3 9 := ⟨_, rfl, Nat.le_of_ble_eq_true rfl, wsG_t (i := 227) (by decide +kernel) rfl⟩
theorem lk_X9_114 : zLk RX9 114 3 1 := ⟨_, rfl, Nat.le_of_ble_eq_true rfl, wsG_t (i := 197) (by decide +kernel) rfl⟩
theorem lk_X9_118 : zLk RX9 118 8 4 := ⟨_, rfl, Nat.le_of_ble_eq_true rfl, wsG_t (i := 146) (by decide +kernel) rfl⟩
theorem lk_X9_125 : zLk RX9 125 3 10 := ⟨_, rfl, Nat.le_of_ble_eq_true rfl, wsG_t (i := 232) (by decide +kernel) rfl⟩
theorem lk_X9_128 : zLk RX9 128 3 5 := ⟨_, rfl, Nat.le_of_ble_eq_true rfl, wsG_t (i := 210) (by decide +kernel) rfl⟩
theorem lk_X9_136 : zLk RX9 136 8 5 := ⟨_, rfl, Nat.le_of_ble_eq_true rfl, wsG_t (i := 151) (by decide +kernel) rfl⟩
theorem lk_X9_140 : zLk RX9 140 8 2 := ⟨_, rfl, Nat.le_of_ble_eq_true rfl, wsG_t (i := 141) (by decide +kernel) rfl⟩
theorem lk_X9_147 : zLk RX9 147 4 5 := ⟨_, rfl, Nat.le_of_ble_eq_true rfl, wsG_t (i := 330) (by decide +kernel) rfl⟩
theorem lk_X9_165 : zLk RX9 165 6 4 := ⟨_, rfl, Nat.le_of_ble_eq_true rfl, wsG_t (i := 272) (by decide +kernel) rfl⟩
theorem lk_X9_172 : zLk RX9 172 6 0 := ⟨_, rfl, Nat.le_of_ble_eq_true rfl, wsG_t (i := 266) (by decide +kernel) rfl⟩
theorem sk_X9_213 : Cond.fieldLink RX9 213 "ProbeLoom" "SIZES" "[I" ∈ wsG := wsG_t (i := 517) (by decide +kernel) rfl
theorem lk_X0_9 : zLk RX0 9 0 0 := ⟨_, rfl, Nat.le_of_ble_eq_true rfl, wsG_t (i := 357) (by decide +kernel) rfl⟩
theorem lk_X0_15 : zLk RX0 15 0 1 := ⟨_, rfl, Nat.le_of_ble_eq_true rfl, wsG_t (i := 359) (by decide +kernel) rfl⟩
theorem lk_X0_18 : zLk RX0 18 0 2 := ⟨_, rfl, Nat.le_of_ble_eq_true rfl, wsG_t (i := 360) (by decide +kernel) rfl⟩
theorem lk_X0_22 : zLk RX0 22 0 4 := ⟨_, rfl, Nat.le_of_ble_eq_true rfl, wsG_t (i := 363) (by decide +kernel) rfl⟩
theorem lk_X0_26 : zLk RX0 26 0 5 := ⟨_, rfl, Nat.le_of_ble_eq_true rfl, wsG_t (i := 365) (by decide +kernel) rfl⟩
theorem lk_X0_29 : zLk RX0 29 0 3 := ⟨_, rfl, Nat.le_of_ble_eq_true rfl, wsG_t (i := 361) (by decide +kernel) rfl⟩
theorem lk_X0_39 : zLk RX0 39 3 6 := ⟨_, rfl, Nat.le_of_ble_eq_true rfl, wsG_t (i := 214) (by decide +kernel) rfl⟩
theorem lk_X0_45 : zLk RX0 45 8 0 := ⟨_, rfl, Nat.le_of_ble_eq_true rfl, wsG_t (i := 135) (by decide +kernel) rfl⟩
theorem lk_X0_50 : zLk RX0 50 3 1 := ⟨_, rfl, Nat.le_of_ble_eq_true rfl, wsG_t (i := 193) (by decide +kernel) rfl⟩
theorem lk_X0_62 : zLk RX0 62 8 7 := ⟨_, rfl, Nat.le_of_ble_eq_true rfl, wsG_t (i := 156) (by decide +kernel) rfl⟩
theorem lk_X0_65 : zLk RX0 65 3 10 := ⟨_, rfl, Nat.le_of_ble_eq_true rfl, wsG_t (i := 233) (by decide +kernel) rfl⟩
theorem lk_X0_66 : zLk RX0 66 8 4 := ⟨_, rfl, Nat.le_of_ble_eq_true rfl, wsG_t (i := 147) (by decide +kernel) rfl⟩
theorem lk_X0_69 : zLk RX0 69 3 5 := ⟨_, rfl, Nat.le_of_ble_eq_true rfl, wsG_t (i := 212) (by decide +kernel) rfl⟩
theorem lk_X1_9 : zLk RX1 9 1 0 := ⟨_, rfl, Nat.le_of_ble_eq_true rfl, wsG_t (i := 43) (by decide +kernel) rfl⟩
theorem lk_X1_15 : zLk RX1 15 1 1 := ⟨_, rfl, Nat.le_of_ble_eq_true rfl, wsG_t (i := 44) (by decide +kernel) rfl⟩
theorem lk_X1_19 : zLk RX1 19 1 2 := ⟨_, rfl, Nat.le_of_ble_eq_true rfl, wsG_t (i := 45) (by decide +kernel) rfl⟩
theorem lk_X1_23 : zLk RX1 23 1 3 := ⟨_, rfl, Nat.le_of_ble_eq_true rfl, wsG_t (i := 46) (by decide +kernel) rfl⟩
theorem lk_X1_26 : zLk RX1 26 1 4 := ⟨_, rfl, Nat.le_of_ble_eq_true rfl, wsG_t (i := 47) (by decide +kernel) rfl⟩
theorem lk_X1_29 : zLk RX1 29 1 5 := ⟨_, rfl, Nat.le_of_ble_eq_true rfl, wsG_t (i := 48) (by decide +kernel) rfl⟩
theorem lk_X1_33 : zLk RX1 33 3 3 := ⟨_, rfl, Nat.le_of_ble_eq_true rfl, wsG_t (i := 204) (by decide +kernel) rfl⟩
theorem lk_X1_44 : zLk RX1 44 3 4 := ⟨_, rfl, Nat.le_of_ble_eq_true rfl, wsG_t (i := 206) (by decide +kernel) rfl⟩
theorem lk_X1_48 : zLk RX1 48 3 7 := ⟨_, rfl, Nat.le_of_ble_eq_true rfl, wsG_t (i := 219) (by decide +kernel) rfl⟩
theorem lk_X1_59 : zLk RX1 59 3 10 := ⟨_, rfl, Nat.le_of_ble_eq_true rfl, wsG_t (i := 229) (by decide +kernel) rfl⟩
theorem lk_X1_62 : zLk RX1 62 3 5 := ⟨_, rfl, Nat.le_of_ble_eq_true rfl, wsG_t (i := 208) (by decide +kernel) rfl⟩
theorem lk_X1_70 : zLk RX1 70 3 1 := ⟨_, rfl, Nat.le_of_ble_eq_true rfl, wsG_t (i := 194) (by decide +kernel) rfl⟩
theorem lk_X1_89 : zLk RX1 89 3 2 := ⟨_, rfl, Nat.le_of_ble_eq_true rfl, wsG_t (i := 200) (by decide +kernel) rfl⟩
theorem sk_X1_131 : Cond.fieldLink RX1 131 "ProbeLoom$Judge" "INTS_TAKEN" "[I" ∈ wsG := wsG_t (i := 645) (by decide +kernel) rfl
theorem sk_X1_134 : Cond.fieldLink RX1 134 "ProbeLoom$Judge" "INTS_PUT" "[I" ∈ wsG := wsG_t (i := 647) (by decide +kernel) rfl
theorem lk_X2_11 : zLk RX2 11 2 2 := ⟨_, rfl, Nat.le_of_ble_eq_true rfl, wsG_t (i := 382) (by decide +kernel) rfl⟩
theorem lk_X2_17 : zLk RX2 17 2 3 := ⟨_, rfl, Nat.le_of_ble_eq_true rfl, wsG_t (i := 383) (by decide +kernel) rfl⟩
theorem lk_X2_21 : zLk RX2 21 2 4 := ⟨_, rfl, Nat.le_of_ble_eq_true rfl, wsG_t (i := 384) (by decide +kernel) rfl⟩
theorem lk_X2_24 : zLk RX2 24 2 5 := ⟨_, rfl, Nat.le_of_ble_eq_true rfl, wsG_t (i := 385) (by decide +kernel) rfl⟩
theorem lk_X2_27 : zLk RX2 27 2 7 := ⟨_, rfl, Nat.le_of_ble_eq_true rfl, wsG_t (i := 387) (by decide +kernel) rfl⟩
theorem lk_X2_31 : zLk RX2 31 2 8 := ⟨_, rfl, Nat.le_of_ble_eq_true rfl, wsG_t (i := 388) (by decide +kernel) rfl⟩
theorem lk_X2_34 : zLk RX2 34 2 9 := ⟨_, rfl, Nat.le_of_ble_eq_true rfl, wsG_t (i := 389) (by decide +kernel) rfl⟩
theorem lk_X2_37 : zLk RX2 37 2 10 := ⟨_, rfl, Nat.le_of_ble_eq_true rfl, wsG_t (i := 390) (by decide +kernel) rfl⟩
theorem lk_X2_40 : zLk RX2 40 2 11 := ⟨_, rfl, Nat.le_of_ble_eq_true rfl, wsG_t (i := 391) (by decide +kernel) rfl⟩
theorem lk_X2_43 : zLk RX2 43 2 12 := ⟨_, rfl, Nat.le_of_ble_eq_true rfl, wsG_t (i := 392) (by decide +kernel) rfl⟩
theorem lk_X2_46 : zLk RX2 46 2 13 := ⟨_, rfl, Nat.le_of_ble_eq_true rfl, wsG_t (i := 393) (by decide +kernel) rfl⟩
theorem lk_X2_49 : zLk RX2 49 2 14 := ⟨_, rfl, Nat.le_of_ble_eq_true rfl, wsG_t (i := 394) (by decide +kernel) rfl⟩
theorem lk_X2_52 : zLk RX2 52 2 15 := ⟨_, rfl, Nat.le_of_ble_eq_true rfl, wsG_t (i := 395) (by decide +kernel) rfl⟩
theorem lk_X2_56 : zLk RX2 56 2 16 := ⟨_, rfl, Nat.le_of_ble_eq_true rfl, wsG_t (i := 396) (by decide +kernel) rfl⟩
theorem lk_X2_59 : zLk RX2 59 2 0 := ⟨_, rfl, Nat.le_of_ble_eq_true rfl, wsG_t (i := 380) (by decide +kernel) rfl⟩
theorem lk_X2_63 : zLk RX2 63 2 1 := ⟨_, rfl, Nat.le_of_ble_eq_true rfl, wsG_t (i := 381) (by decide +kernel) rfl⟩
theorem lk_X2_67 : zLk RX2 67 2 6 := ⟨_, rfl, Nat.le_of_ble_eq_true rfl, wsG_t (i := 386) (by decide +kernel) rfl⟩
theorem lk_X2_92 : zLk RX2 92 3 7 := ⟨_, rfl, Nat.le_of_ble_eq_true rfl, wsG_t (i := 220) (by decide +kernel) rfl⟩
theorem lk_X2_106 : zLk RX2 106 6 4 := ⟨_, rfl, Nat.le_of_ble_eq_true rfl, wsG_t (i := 271) (by decide +kernel) rfl⟩
theorem lk_X2_112 : zLk RX2 112 6 0 := ⟨_, rfl, Nat.le_of_ble_eq_true rfl, wsG_t (i := 265) (by decide +kernel) rfl⟩
theorem lk_X2_130 : zLk RX2 130 3 6 := ⟨_, rfl, Nat.le_of_ble_eq_true rfl, wsG_t (i := 215) (by decide +kernel) rfl⟩
theorem lk_X2_134 : zLk RX2 134 8 5 := ⟨_, rfl, Nat.le_of_ble_eq_true rfl, wsG_t (i := 150) (by decide +kernel) rfl⟩
theorem lk_X2_143 : zLk RX2 143 6 8 := ⟨_, rfl, Nat.le_of_ble_eq_true rfl, wsG_t (i := 280) (by decide +kernel) rfl⟩
theorem lk_X2_150 : zLk RX2 150 0 5 := ⟨_, rfl, Nat.le_of_ble_eq_true rfl, wsG_t (i := 366) (by decide +kernel) rfl⟩
theorem lk_X2_161 : zLk RX2 161 0 4 := ⟨_, rfl, Nat.le_of_ble_eq_true rfl, wsG_t (i := 364) (by decide +kernel) rfl⟩
theorem lk_X2_176 : zLk RX2 176 6 6 := ⟨_, rfl, Nat.le_of_ble_eq_true rfl, wsG_t (i := 276) (by decide +kernel) rfl⟩
theorem lk_X2_277 : zLk RX2 277 6 7 := ⟨_, rfl, Nat.le_of_ble_eq_true rfl, wsG_t (i := 278) (by decide +kernel) rfl⟩
theorem lk_X2_283 : zLk RX2 283 6 5 := ⟨_, rfl, Nat.le_of_ble_eq_true rfl, wsG_t (i := 274) (by decide +kernel) rfl⟩
theorem lk_X2_289 : zLk RX2 289 0 3 := ⟨_, rfl, Nat.le_of_ble_eq_true rfl, wsG_t (i := 362) (by decide +kernel) rfl⟩
theorem lk_X2_293 : zLk RX2 293 3 0 := ⟨_, rfl, Nat.le_of_ble_eq_true rfl, wsG_t (i := 191) (by decide +kernel) rfl⟩
theorem lk_X2_304 : zLk RX2 304 6 9 := ⟨_, rfl, Nat.le_of_ble_eq_true rfl, wsG_t (i := 282) (by decide +kernel) rfl⟩
theorem lk_X2_305 : zLk RX2 305 6 10 := ⟨_, rfl, Nat.le_of_ble_eq_true rfl, wsG_t (i := 284) (by decide +kernel) rfl⟩
theorem lk_X2_312 : zLk RX2 312 8 10 := ⟨_, rfl, Nat.le_of_ble_eq_true rfl, wsG_t (i := 164) (by decide +kernel) rfl⟩
theorem lk_X2_330 : zLk RX2 330 0 0 := ⟨_, rfl, Nat.le_of_ble_eq_true rfl, wsG_t (i := 358) (by decide +kernel) rfl⟩
theorem lk_X2_351 : zLk RX2 351 3 1 := ⟨_, rfl, Nat.le_of_ble_eq_true rfl, wsG_t (i := 198) (by decide +kernel) rfl⟩
theorem lk_X3_9 : zLk RX3 9 3 1 := ⟨_, rfl, Nat.le_of_ble_eq_true rfl, wsG_t (i := 192) (by decide +kernel) rfl⟩
theorem lk_X3_15 : zLk RX3 15 3 2 := ⟨_, rfl, Nat.le_of_ble_eq_true rfl, wsG_t (i := 199) (by decide +kernel) rfl⟩
theorem lk_X3_18 : zLk RX3 18 3 3 := ⟨_, rfl, Nat.le_of_ble_eq_true rfl, wsG_t (i := 203) (by decide +kernel) rfl⟩
theorem lk_X3_21 : zLk RX3 21 3 4 := ⟨_, rfl, Nat.le_of_ble_eq_true rfl, wsG_t (i := 205) (by decide +kernel) rfl⟩
theorem lk_X3_24 : zLk RX3 24 3 5 := ⟨_, rfl, Nat.le_of_ble_eq_true rfl, wsG_t (i := 207) (by decide +kernel) rfl⟩
theorem lk_X3_30 : zLk RX3 30 3 6 := ⟨_, rfl, Nat.le_of_ble_eq_true rfl, wsG_t (i := 213) (by decide +kernel) rfl⟩
theorem lk_X3_34 : zLk RX3 34 3 7 := ⟨_, rfl, Nat.le_of_ble_eq_true rfl, wsG_t (i := 218) (by decide +kernel) rfl⟩
theorem lk_X3_38 : zLk RX3 38 3 8 := ⟨_, rfl, Nat.le_of_ble_eq_true rfl, wsG_t (i := 222) (by decide +kernel) rfl⟩
theorem lk_X3_41 : zLk RX3 41 3 9 := ⟨_, rfl, Nat.le_of_ble_eq_true rfl, wsG_t (i := 224) (by decide +kernel) rfl⟩
theorem lk_X3_44 : zLk RX3 44 3 10 := ⟨_, rfl, Nat.le_of_ble_eq_true rfl, wsG_t (i := 228) (by decide +kernel) rfl⟩
theorem lk_X3_47 : zLk RX3 47 3 0 := ⟨_, rfl, Nat.le_of_ble_eq_true rfl, wsG_t (i := 188) (by decide +kernel) rfl⟩
theorem lk_X4_9 : zLk RX4 9 4 0 := ⟨_, rfl, Nat.le_of_ble_eq_true rfl, wsG_t (i := 320) (by decide +kernel) rfl⟩
theorem lk_X4_15 : zLk RX4 15 4 1 := ⟨_, rfl, Nat.le_of_ble_eq_true rfl, wsG_t (i := 322) (by decide +kernel) rfl⟩
theorem lk_X4_18 : zLk RX4 18 4 2 := ⟨_, rfl, Nat.le_of_ble_eq_true rfl, wsG_t (i := 324) (by decide +kernel) rfl⟩
theorem lk_X4_21 : zLk RX4 21 4 3 := ⟨_, rfl, Nat.le_of_ble_eq_true rfl, wsG_t (i := 326) (by decide +kernel) rfl⟩
theorem lk_X4_24 : zLk RX4 24 4 4 := ⟨_, rfl, Nat.le_of_ble_eq_true rfl, wsG_t (i := 327) (by decide +kernel) rfl⟩
theorem lk_X4_27 : zLk RX4 27 4 5 := ⟨_, rfl, Nat.le_of_ble_eq_true rfl, wsG_t (i := 328) (by decide +kernel) rfl⟩
theorem lk_X5_9 : zLk RX5 9 5 0 := ⟨_, rfl, Nat.le_of_ble_eq_true rfl, wsG_t (i := 29) (by decide +kernel) rfl⟩
theorem lk_X5_15 : zLk RX5 15 5 1 := ⟨_, rfl, Nat.le_of_ble_eq_true rfl, wsG_t (i := 30) (by decide +kernel) rfl⟩
theorem lk_X5_39 : zLk RX5 39 3 7 := ⟨_, rfl, Nat.le_of_ble_eq_true rfl, wsG_t (i := 221) (by decide +kernel) rfl⟩
theorem lk_X5_44 : zLk RX5 44 3 8 := ⟨_, rfl, Nat.le_of_ble_eq_true rfl, wsG_t (i := 223) (by decide +kernel) rfl⟩
theorem lk_X5_47 : zLk RX5 47 3 9 := ⟨_, rfl, Nat.le_of_ble_eq_true rfl, wsG_t (i := 225) (by decide +kernel) rfl⟩
theorem lk_X5_50 : zLk RX5 50 3 2 := ⟨_, rfl, Nat.le_of_ble_eq_true rfl, wsG_t (i := 201) (by decide +kernel) rfl⟩
theorem lk_X5_66 : zLk RX5 66 3 1 := ⟨_, rfl, Nat.le_of_ble_eq_true rfl, wsG_t (i := 195) (by decide +kernel) rfl⟩
theorem lk_X5_87 : zLk RX5 87 3 0 := ⟨_, rfl, Nat.le_of_ble_eq_true rfl, wsG_t (i := 190) (by decide +kernel) rfl⟩
theorem lk_X5_90 : zLk RX5 90 3 10 := ⟨_, rfl, Nat.le_of_ble_eq_true rfl, wsG_t (i := 231) (by decide +kernel) rfl⟩
theorem lk_X5_93 : zLk RX5 93 3 5 := ⟨_, rfl, Nat.le_of_ble_eq_true rfl, wsG_t (i := 211) (by decide +kernel) rfl⟩
theorem lk_X6_9 : zLk RX6 9 6 0 := ⟨_, rfl, Nat.le_of_ble_eq_true rfl, wsG_t (i := 264) (by decide +kernel) rfl⟩
theorem lk_X6_15 : zLk RX6 15 6 1 := ⟨_, rfl, Nat.le_of_ble_eq_true rfl, wsG_t (i := 267) (by decide +kernel) rfl⟩
theorem lk_X6_18 : zLk RX6 18 6 2 := ⟨_, rfl, Nat.le_of_ble_eq_true rfl, wsG_t (i := 268) (by decide +kernel) rfl⟩
theorem lk_X6_21 : zLk RX6 21 6 3 := ⟨_, rfl, Nat.le_of_ble_eq_true rfl, wsG_t (i := 269) (by decide +kernel) rfl⟩
theorem lk_X6_24 : zLk RX6 24 6 4 := ⟨_, rfl, Nat.le_of_ble_eq_true rfl, wsG_t (i := 270) (by decide +kernel) rfl⟩
theorem lk_X6_28 : zLk RX6 28 6 5 := ⟨_, rfl, Nat.le_of_ble_eq_true rfl, wsG_t (i := 273) (by decide +kernel) rfl⟩
theorem lk_X6_31 : zLk RX6 31 6 6 := ⟨_, rfl, Nat.le_of_ble_eq_true rfl, wsG_t (i := 275) (by decide +kernel) rfl⟩
theorem lk_X6_34 : zLk RX6 34 6 7 := ⟨_, rfl, Nat.le_of_ble_eq_true rfl, wsG_t (i := 277) (by decide +kernel) rfl⟩
theorem lk_X6_37 : zLk RX6 37 6 8 := ⟨_, rfl, Nat.le_of_ble_eq_true rfl, wsG_t (i := 279) (by decide +kernel) rfl⟩
theorem lk_X6_40 : zLk RX6 40 6 9 := ⟨_, rfl, Nat.le_of_ble_eq_true rfl, wsG_t (i := 281) (by decide +kernel) rfl⟩
theorem lk_X6_43 : zLk RX6 43 6 10 := ⟨_, rfl, Nat.le_of_ble_eq_true rfl, wsG_t (i := 283) (by decide +kernel) rfl⟩
theorem lk_X6_46 : zLk RX6 46 6 11 := ⟨_, rfl, Nat.le_of_ble_eq_true rfl, wsG_t (i := 285) (by decide +kernel) rfl⟩
theorem lk_X6_49 : zLk RX6 49 6 12 := ⟨_, rfl, Nat.le_of_ble_eq_true rfl, wsG_t (i := 286) (by decide +kernel) rfl⟩
theorem lk_X7_9 : zLk RX7 9 7 0 := ⟨_, rfl, Nat.le_of_ble_eq_true rfl, wsG_t (i := 69) (by decide +kernel) rfl⟩
theorem lk_X7_15 : zLk RX7 15 7 1 := ⟨_, rfl, Nat.le_of_ble_eq_true rfl, wsG_t (i := 70) (by decide +kernel) rfl⟩
theorem lk_X7_18 : zLk RX7 18 7 2 := ⟨_, rfl, Nat.le_of_ble_eq_true rfl, wsG_t (i := 71) (by decide +kernel) rfl⟩
theorem lk_X7_21 : zLk RX7 21 7 3 := ⟨_, rfl, Nat.le_of_ble_eq_true rfl, wsG_t (i := 72) (by decide +kernel) rfl⟩
theorem lk_X7_24 : zLk RX7 24 7 4 := ⟨_, rfl, Nat.le_of_ble_eq_true rfl, wsG_t (i := 73) (by decide +kernel) rfl⟩
theorem lk_X7_27 : zLk RX7 27 7 5 := ⟨_, rfl, Nat.le_of_ble_eq_true rfl, wsG_t (i := 74) (by decide +kernel) rfl⟩
theorem lk_X7_30 : zLk RX7 30 7 6 := ⟨_, rfl, Nat.le_of_ble_eq_true rfl, wsG_t (i := 75) (by decide +kernel) rfl⟩
theorem lk_X7_33 : zLk RX7 33 7 7 := ⟨_, rfl, Nat.le_of_ble_eq_true rfl, wsG_t (i := 76) (by decide +kernel) rfl⟩
theorem lk_X7_36 : zLk RX7 36 7 8 := ⟨_, rfl, Nat.le_of_ble_eq_true rfl, wsG_t (i := 77) (by decide +kernel) rfl⟩
theorem lk_X7_40 : zLk RX7 40 7 9 := ⟨_, rfl, Nat.le_of_ble_eq_true rfl, wsG_t (i := 78) (by decide +kernel) rfl⟩
theorem lk_X7_43 : zLk RX7 43 7 10 := ⟨_, rfl, Nat.le_of_ble_eq_true rfl, wsG_t (i := 79) (by decide +kernel) rfl⟩
theorem lk_X7_46 : zLk RX7 46 7 11 := ⟨_, rfl, Nat.le_of_ble_eq_true rfl, wsG_t (i := 80) (by decide +kernel) rfl⟩
theorem lk_X7_50 : zLk RX7 50 7 12 := ⟨_, rfl, Nat.le_of_ble_eq_true rfl, wsG_t (i := 81) (by decide +kernel) rfl⟩
theorem lk_X7_53 : zLk RX7 53 7 13 := ⟨_, rfl, Nat.le_of_ble_eq_true rfl, wsG_t (i := 82) (by decide +kernel) rfl⟩
theorem lk_X7_56 : zLk RX7 56 7 14 := ⟨_, rfl, Nat.le_of_ble_eq_true rfl, wsG_t (i := 83) (by decide +kernel) rfl⟩
theorem lk_X7_59 : zLk RX7 59 7 15 := ⟨_, rfl, Nat.le_of_ble_eq_true rfl, wsG_t (i := 84) (by decide +kernel) rfl⟩
theorem lk_X7_62 : zLk RX7 62 7 16 := ⟨_, rfl, Nat.le_of_ble_eq_true rfl, wsG_t (i := 85) (by decide +kernel) rfl⟩
theorem lk_X7_89 : zLk RX7 89 4 5 := ⟨_, rfl, Nat.le_of_ble_eq_true rfl, wsG_t (i := 329) (by decide +kernel) rfl⟩
theorem lk_X7_94 : zLk RX7 94 4 2 := ⟨_, rfl, Nat.le_of_ble_eq_true rfl, wsG_t (i := 325) (by decide +kernel) rfl⟩
theorem lk_X7_97 : zLk RX7 97 4 1 := ⟨_, rfl, Nat.le_of_ble_eq_true rfl, wsG_t (i := 323) (by decide +kernel) rfl⟩
theorem lk_X7_100 : zLk RX7 100 3 0 := ⟨_, rfl, Nat.le_of_ble_eq_true rfl, wsG_t (i := 189) (by decide +kernel) rfl⟩
theorem lk_X7_109 : zLk RX7 109 4 0 := ⟨_, rfl, Nat.le_of_ble_eq_true rfl, wsG_t (i := 321) (by decide +kernel) rfl⟩
theorem lk_X7_116 : zLk RX7 116 3 9 := ⟨_, rfl, Nat.le_of_ble_eq_true rfl, wsG_t (i := 226) (by decide +kernel) rfl⟩
theorem lk_X7_119 : zLk RX7 119 3 1 := ⟨_, rfl, Nat.le_of_ble_eq_true rfl, wsG_t (i := 196) (by decide +kernel) rfl⟩
theorem lk_X7_122 : zLk RX7 122 3 2 := ⟨_, rfl, Nat.le_of_ble_eq_true rfl, wsG_t (i := 202) (by decide +kernel) rfl⟩
theorem lk_X7_125 : zLk RX7 125 3 10 := ⟨_, rfl, Nat.le_of_ble_eq_true rfl, wsG_t (i := 230) (by decide +kernel) rfl⟩
theorem lk_X7_132 : zLk RX7 132 3 5 := ⟨_, rfl, Nat.le_of_ble_eq_true rfl, wsG_t (i := 209) (by decide +kernel) rfl⟩
theorem lk_X7_160 : zLk RX7 160 3 6 := ⟨_, rfl, Nat.le_of_ble_eq_true rfl, wsG_t (i := 217) (by decide +kernel) rfl⟩
theorem lk_X7_164 : zLk RX7 164 8 8 := ⟨_, rfl, Nat.le_of_ble_eq_true rfl, wsG_t (i := 159) (by decide +kernel) rfl⟩
theorem lk_X7_173 : zLk RX7 173 8 3 := ⟨_, rfl, Nat.le_of_ble_eq_true rfl, wsG_t (i := 144) (by decide +kernel) rfl⟩
theorem lk_X7_187 : zLk RX7 187 8 2 := ⟨_, rfl, Nat.le_of_ble_eq_true rfl, wsG_t (i := 142) (by decide +kernel) rfl⟩
theorem lk_X7_200 : zLk RX7 200 8 6 := ⟨_, rfl, Nat.le_of_ble_eq_true rfl, wsG_t (i := 154) (by decide +kernel) rfl⟩
theorem lk_X7_201 : zLk RX7 201 8 9 := ⟨_, rfl, Nat.le_of_ble_eq_true rfl, wsG_t (i := 161) (by decide +kernel) rfl⟩
theorem lk_X7_204 : zLk RX7 204 8 10 := ⟨_, rfl, Nat.le_of_ble_eq_true rfl, wsG_t (i := 163) (by decide +kernel) rfl⟩
theorem lk_X7_207 : zLk RX7 207 8 5 := ⟨_, rfl, Nat.le_of_ble_eq_true rfl, wsG_t (i := 152) (by decide +kernel) rfl⟩
theorem lk_X7_245 : zLk RX7 245 8 4 := ⟨_, rfl, Nat.le_of_ble_eq_true rfl, wsG_t (i := 148) (by decide +kernel) rfl⟩
theorem lk_X7_250 : zLk RX7 250 8 7 := ⟨_, rfl, Nat.le_of_ble_eq_true rfl, wsG_t (i := 157) (by decide +kernel) rfl⟩
theorem lk_X7_251 : zLk RX7 251 8 0 := ⟨_, rfl, Nat.le_of_ble_eq_true rfl, wsG_t (i := 137) (by decide +kernel) rfl⟩
theorem lk_X7_252 : zLk RX7 252 8 1 := ⟨_, rfl, Nat.le_of_ble_eq_true rfl, wsG_t (i := 139) (by decide +kernel) rfl⟩
theorem lk_X8_9 : zLk RX8 9 8 0 := ⟨_, rfl, Nat.le_of_ble_eq_true rfl, wsG_t (i := 134) (by decide +kernel) rfl⟩
theorem lk_X8_15 : zLk RX8 15 8 1 := ⟨_, rfl, Nat.le_of_ble_eq_true rfl, wsG_t (i := 138) (by decide +kernel) rfl⟩
theorem lk_X8_18 : zLk RX8 18 8 2 := ⟨_, rfl, Nat.le_of_ble_eq_true rfl, wsG_t (i := 140) (by decide +kernel) rfl⟩
theorem lk_X8_21 : zLk RX8 21 8 3 := ⟨_, rfl, Nat.le_of_ble_eq_true rfl, wsG_t (i := 143) (by decide +kernel) rfl⟩
theorem lk_X8_25 : zLk RX8 25 8 4 := ⟨_, rfl, Nat.le_of_ble_eq_true rfl, wsG_t (i := 145) (by decide +kernel) rfl⟩
theorem lk_X8_28 : zLk RX8 28 8 5 := ⟨_, rfl, Nat.le_of_ble_eq_true rfl, wsG_t (i := 149) (by decide +kernel) rfl⟩
theorem lk_X8_32 : zLk RX8 32 8 6 := ⟨_, rfl, Nat.le_of_ble_eq_true rfl, wsG_t (i := 153) (by decide +kernel) rfl⟩
theorem lk_X8_36 : zLk RX8 36 8 7 := ⟨_, rfl, Nat.le_of_ble_eq_true rfl, wsG_t (i := 155) (by decide +kernel) rfl⟩
theorem lk_X8_39 : zLk RX8 39 8 8 := ⟨_, rfl, Nat.le_of_ble_eq_true rfl, wsG_t (i := 158) (by decide +kernel) rfl⟩
theorem lk_X8_42 : zLk RX8 42 8 9 := ⟨_, rfl, Nat.le_of_ble_eq_true rfl, wsG_t (i := 160) (by decide +kernel) rfl⟩
theorem lk_X8_45 : zLk RX8 45 8 10 := ⟨_, rfl, Nat.le_of_ble_eq_true rfl, wsG_t (i := 162) (by decide +kernel) rfl⟩
theorem lk_X10_7 : zLk RX10 7 10 0 := ⟨_, rfl, Nat.le_of_ble_eq_true rfl, wsG_t (i := 1171) (by decide +kernel) rfl⟩
theorem lk_X10_13 : zLk RX10 13 10 2 := ⟨_, rfl, Nat.le_of_ble_eq_true rfl, wsG_t (i := 1173) (by decide +kernel) rfl⟩
theorem lk_X10_17 : zLk RX10 17 10 4 := ⟨_, rfl, Nat.le_of_ble_eq_true rfl, wsG_t (i := 1175) (by decide +kernel) rfl⟩
theorem lk_X10_20 : zLk RX10 20 10 5 := ⟨_, rfl, Nat.le_of_ble_eq_true rfl, wsG_t (i := 1176) (by decide +kernel) rfl⟩
theorem lk_X10_23 : zLk RX10 23 10 6 := ⟨_, rfl, Nat.le_of_ble_eq_true rfl, wsG_t (i := 1177) (by decide +kernel) rfl⟩
theorem lk_X10_26 : zLk RX10 26 10 7 := ⟨_, rfl, Nat.le_of_ble_eq_true rfl, wsG_t (i := 1178) (by decide +kernel) rfl⟩
theorem lk_X10_29 : zLk RX10 29 10 8 := ⟨_, rfl, Nat.le_of_ble_eq_true rfl, wsG_t (i := 1179) (by decide +kernel) rfl⟩
theorem lk_X10_32 : zLk RX10 32 10 9 := ⟨_, rfl, Nat.le_of_ble_eq_true rfl, wsG_t (i := 1180) (by decide +kernel) rfl⟩
theorem lk_X10_35 : zLk RX10 35 10 10 := ⟨_, rfl, Nat.le_of_ble_eq_true rfl, wsG_t (i := 1181) (by decide +kernel) rfl⟩
theorem lk_X10_38 : zLk RX10 38 10 11 := ⟨_, rfl, Nat.le_of_ble_eq_true rfl, wsG_t (i := 1182) (by decide +kernel) rfl⟩
theorem lk_X10_41 : zLk RX10 41 10 12 := ⟨_, rfl, Nat.le_of_ble_eq_true rfl, wsG_t (i := 1183) (by decide +kernel) rfl⟩
theorem lk_X10_44 : zLk RX10 44 10 13 := ⟨_, rfl, Nat.le_of_ble_eq_true rfl, wsG_t (i := 1184) (by decide +kernel) rfl⟩
theorem lk_X10_48 : zLk RX10 48 10 14 := ⟨_, rfl, Nat.le_of_ble_eq_true rfl, wsG_t (i := 1185) (by decide +kernel) rfl⟩
theorem lk_X10_51 : zLk RX10 51 10 15 := ⟨_, rfl, Nat.le_of_ble_eq_true rfl, wsG_t (i := 1186) (by decide +kernel) rfl⟩
theorem lk_X10_54 : zLk RX10 54 10 16 := ⟨_, rfl, Nat.le_of_ble_eq_true rfl, wsG_t (i := 1187) (by decide +kernel) rfl⟩
theorem lk_X10_57 : zLk RX10 57 10 18 := ⟨_, rfl, Nat.le_of_ble_eq_true rfl, wsG_t (i := 1189) (by decide +kernel) rfl⟩
theorem lk_X10_60 : zLk RX10 60 10 19 := ⟨_, rfl, Nat.le_of_ble_eq_true rfl, wsG_t (i := 1190) (by decide +kernel) rfl⟩
theorem lk_X10_63 : zLk RX10 63 10 20 := ⟨_, rfl, Nat.le_of_ble_eq_true rfl, wsG_t (i := 1191) (by decide +kernel) rfl⟩
theorem lk_X10_66 : zLk RX10 66 10 21 := ⟨_, rfl, Nat.le_of_ble_eq_true rfl, wsG_t (i := 1192) (by decide +kernel) rfl⟩
theorem lk_X10_69 : zLk RX10 69 10 22 := ⟨_, rfl, Nat.le_of_ble_eq_true rfl, wsG_t (i := 1193) (by decide +kernel) rfl⟩
theorem lk_X10_72 : zLk RX10 72 10 23 := ⟨_, rfl, Nat.le_of_ble_eq_true rfl, wsG_t (i := 1194) (by decide +kernel) rfl⟩
theorem lk_X10_75 : zLk RX10 75 10 24 := ⟨_, rfl, Nat.le_of_ble_eq_true rfl, wsG_t (i := 1195) (by decide +kernel) rfl⟩
theorem lk_X10_78 : zLk RX10 78 10 25 := ⟨_, rfl, Nat.le_of_ble_eq_true rfl, wsG_t (i := 1196) (by decide +kernel) rfl⟩
theorem lk_X10_81 : zLk RX10 81 10 26 := ⟨_, rfl, Nat.le_of_ble_eq_true rfl, wsG_t (i := 1197) (by decide +kernel) rfl⟩
theorem lk_X10_84 : zLk RX10 84 10 27 := ⟨_, rfl, Nat.le_of_ble_eq_true rfl, wsG_t (i := 1198) (by decide +kernel) rfl⟩
theorem lk_X10_87 : zLk RX10 87 10 28 := ⟨_, rfl, Nat.le_of_ble_eq_true rfl, wsG_t (i := 1199) (by decide +kernel) rfl⟩
theorem lk_X10_90 : zLk RX10 90 10 29 := ⟨_, rfl, Nat.le_of_ble_eq_true rfl, wsG_t (i := 1200) (by decide +kernel) rfl⟩
theorem lk_X10_93 : zLk RX10 93 10 30 := ⟨_, rfl, Nat.le_of_ble_eq_true rfl, wsG_t (i := 1201) (by decide +kernel) rfl⟩
theorem lk_X10_96 : zLk RX10 96 10 31 := ⟨_, rfl, Nat.le_of_ble_eq_true rfl, wsG_t (i := 1202) (by decide +kernel) rfl⟩
theorem lk_X10_99 : zLk RX10 99 10 32 := ⟨_, rfl, Nat.le_of_ble_eq_true rfl, wsG_t (i := 1203) (by decide +kernel) rfl⟩
theorem lk_X10_102 : zLk RX10 102 10 33 := ⟨_, rfl, Nat.le_of_ble_eq_true rfl, wsG_t (i := 1204) (by decide +kernel) rfl⟩
theorem lk_X10_105 : zLk RX10 105 10 34 := ⟨_, rfl, Nat.le_of_ble_eq_true rfl, wsG_t (i := 1205) (by decide +kernel) rfl⟩
theorem lk_X10_108 : zLk RX10 108 10 35 := ⟨_, rfl, Nat.le_of_ble_eq_true rfl, wsG_t (i := 1206) (by decide +kernel) rfl⟩
theorem lk_X10_111 : zLk RX10 111 10 36 := ⟨_, rfl, Nat.le_of_ble_eq_true rfl, wsG_t (i := 1207) (by decide +kernel) rfl⟩
theorem lk_X10_114 : zLk RX10 114 10 40 := ⟨_, rfl, Nat.le_of_ble_eq_true rfl, wsG_t (i := 1211) (by decide +kernel) rfl⟩
theorem lk_X10_117 : zLk RX10 117 10 41 := ⟨_, rfl, Nat.le_of_ble_eq_true rfl, wsG_t (i := 1212) (by decide +kernel) rfl⟩
theorem lk_X10_120 : zLk RX10 120 10 43 := ⟨_, rfl, Nat.le_of_ble_eq_true rfl, wsG_t (i := 1214) (by decide +kernel) rfl⟩
theorem lk_X10_123 : zLk RX10 123 10 44 := ⟨_, rfl, Nat.le_of_ble_eq_true rfl, wsG_t (i := 1215) (by decide +kernel) rfl⟩
theorem lk_X10_126 : zLk RX10 126 10 45 := ⟨_, rfl, Nat.le_of_ble_eq_true rfl, wsG_t (i := 1216) (by decide +kernel) rfl⟩
theorem lk_X10_129 : zLk RX10 129 10 46 := ⟨_, rfl, Nat.le_of_ble_eq_true rfl, wsG_t (i := 1217) (by decide +kernel) rfl⟩
theorem lk_X10_132 : zLk RX10 132 10 49 := ⟨_, rfl, Nat.le_of_ble_eq_true rfl, wsG_t (i := 1220) (by decide +kernel) rfl⟩
theorem lk_X10_135 : zLk RX10 135 10 56 := ⟨_, rfl, Nat.le_of_ble_eq_true rfl, wsG_t (i := 1227) (by decide +kernel) rfl⟩
theorem lk_X10_138 : zLk RX10 138 10 57 := ⟨_, rfl, Nat.le_of_ble_eq_true rfl, wsG_t (i := 1228) (by decide +kernel) rfl⟩
theorem lk_X10_141 : zLk RX10 141 10 58 := ⟨_, rfl, Nat.le_of_ble_eq_true rfl, wsG_t (i := 1229) (by decide +kernel) rfl⟩
theorem lk_X10_144 : zLk RX10 144 10 59 := ⟨_, rfl, Nat.le_of_ble_eq_true rfl, wsG_t (i := 1230) (by decide +kernel) rfl⟩
theorem lk_X10_147 : zLk RX10 147 10 60 := ⟨_, rfl, Nat.le_of_ble_eq_true rfl, wsG_t (i := 1231) (by decide +kernel) rfl⟩
theorem lk_X10_150 : zLk RX10 150 10 61 := ⟨_, rfl, Nat.le_of_ble_eq_true rfl, wsG_t (i := 1232) (by decide +kernel) rfl⟩
theorem lk_X10_153 : zLk RX10 153 10 62 := ⟨_, rfl, Nat.le_of_ble_eq_true rfl, wsG_t (i := 1233) (by decide +kernel) rfl⟩
theorem lk_X10_156 : zLk RX10 156 10 64 := ⟨_, rfl, Nat.le_of_ble_eq_true rfl, wsG_t (i := 1235) (by decide +kernel) rfl⟩
theorem lk_X10_159 : zLk RX10 159 10 69 := ⟨_, rfl, Nat.le_of_ble_eq_true rfl, wsG_t (i := 1240) (by decide +kernel) rfl⟩
theorem lk_X10_162 : zLk RX10 162 10 70 := ⟨_, rfl, Nat.le_of_ble_eq_true rfl, wsG_t (i := 1241) (by decide +kernel) rfl⟩
theorem lk_X10_165 : zLk RX10 165 10 71 := ⟨_, rfl, Nat.le_of_ble_eq_true rfl, wsG_t (i := 1242) (by decide +kernel) rfl⟩
theorem lk_X10_168 : zLk RX10 168 10 72 := ⟨_, rfl, Nat.le_of_ble_eq_true rfl, wsG_t (i := 1243) (by decide +kernel) rfl⟩
theorem lk_X10_171 : zLk RX10 171 10 74 := ⟨_, rfl, Nat.le_of_ble_eq_true rfl, wsG_t (i := 1245) (by decide +kernel) rfl⟩
theorem lk_X10_174 : zLk RX10 174 10 75 := ⟨_, rfl, Nat.le_of_ble_eq_true rfl, wsG_t (i := 1246) (by decide +kernel) rfl⟩
theorem lk_X10_177 : zLk RX10 177 10 76 := ⟨_, rfl, Nat.le_of_ble_eq_true rfl, wsG_t (i := 1247) (by decide +kernel) rfl⟩
theorem lk_X10_180 : zLk RX10 180 10 77 := ⟨_, rfl, Nat.le_of_ble_eq_true rfl, wsG_t (i := 1248) (by decide +kernel) rfl⟩
theorem lk_X10_183 : zLk RX10 183 10 78 := ⟨_, rfl, Nat.le_of_ble_eq_true rfl, wsG_t (i := 1249) (by decide +kernel) rfl⟩
theorem lk_X10_186 : zLk RX10 186 10 79 := ⟨_, rfl, Nat.le_of_ble_eq_true rfl, wsG_t (i := 1250) (by decide +kernel) rfl⟩
theorem lk_X10_189 : zLk RX10 189 10 80 := ⟨_, rfl, Nat.le_of_ble_eq_true rfl, wsG_t (i := 1251) (by decide +kernel) rfl⟩
theorem lk_X10_192 : zLk RX10 192 10 81 := ⟨_, rfl, Nat.le_of_ble_eq_true rfl, wsG_t (i := 1252) (by decide +kernel) rfl⟩
theorem lk_X10_195 : zLk RX10 195 10 82 := ⟨_, rfl, Nat.le_of_ble_eq_true rfl, wsG_t (i := 1253) (by decide +kernel) rfl⟩
theorem lk_X10_198 : zLk RX10 198 10 83 := ⟨_, rfl, Nat.le_of_ble_eq_true rfl, wsG_t (i := 1254) (by decide +kernel) rfl⟩
theorem lk_X10_201 : zLk RX10 201 10 84 := ⟨_, rfl, Nat.le_of_ble_eq_true rfl, wsG_t (i := 1255) (by decide +kernel) rfl⟩
theorem lk_X10_204 : zLk RX10 204 10 85 := ⟨_, rfl, Nat.le_of_ble_eq_true rfl, wsG_t (i := 1256) (by decide +kernel) rfl⟩
theorem lk_X10_207 : zLk RX10 207 10 86 := ⟨_, rfl, Nat.le_of_ble_eq_true rfl, wsG_t (i := 1257) (by decide +kernel) rfl⟩
theorem lk_X10_210 : zLk RX10 210 10 1 := ⟨_, rfl, Nat.le_of_ble_eq_true rfl, wsG_t (i := 1172) (by decide +kernel) rfl⟩
theorem lk_X10_237 : zLk RX10 237 10 3 := ⟨_, rfl, Nat.le_of_ble_eq_true rfl, wsG_t (i := 1174) (by decide +kernel) rfl⟩
theorem lk_X10_278 : zLk RX10 278 10 38 := ⟨_, rfl, Nat.le_of_ble_eq_true rfl, wsG_t (i := 1209) (by decide +kernel) rfl⟩
theorem lk_X10_282 : zLk RX10 282 10 37 := ⟨_, rfl, Nat.le_of_ble_eq_true rfl, wsG_t (i := 1208) (by decide +kernel) rfl⟩
theorem lk_X10_289 : zLk RX10 289 10 39 := ⟨_, rfl, Nat.le_of_ble_eq_true rfl, wsG_t (i := 1210) (by decide +kernel) rfl⟩
theorem lk_X10_335 : zLk RX10 335 10 17 := ⟨_, rfl, Nat.le_of_ble_eq_true rfl, wsG_t (i := 1188) (by decide +kernel) rfl⟩
theorem lk_X10_341 : zLk RX10 341 10 42 := ⟨_, rfl, Nat.le_of_ble_eq_true rfl, wsG_t (i := 1213) (by decide +kernel) rfl⟩
theorem lk_X10_356 : zLk RX10 356 10 47 := ⟨_, rfl, Nat.le_of_ble_eq_true rfl, wsG_t (i := 1218) (by decide +kernel) rfl⟩
theorem lk_X10_373 : zLk RX10 373 10 48 := ⟨_, rfl, Nat.le_of_ble_eq_true rfl, wsG_t (i := 1219) (by decide +kernel) rfl⟩
theorem lk_X10_385 : zLk RX10 385 10 50 := ⟨_, rfl, Nat.le_of_ble_eq_true rfl, wsG_t (i := 1221) (by decide +kernel) rfl⟩
theorem lk_X10_388 : zLk RX10 388 10 51 := ⟨_, rfl, Nat.le_of_ble_eq_true rfl, wsG_t (i := 1222) (by decide +kernel) rfl⟩
theorem lk_X10_391 : zLk RX10 391 10 73 := ⟨_, rfl, Nat.le_of_ble_eq_true rfl, wsG_t (i := 1244) (by decide +kernel) rfl⟩
theorem lk_X10_403 : zLk RX10 403 10 52 := ⟨_, rfl, Nat.le_of_ble_eq_true rfl, wsG_t (i := 1223) (by decide +kernel) rfl⟩
theorem lk_X10_412 : zLk RX10 412 10 53 := ⟨_, rfl, Nat.le_of_ble_eq_true rfl, wsG_t (i := 1224) (by decide +kernel) rfl⟩
theorem lk_X10_415 : zLk RX10 415 10 54 := ⟨_, rfl, Nat.le_of_ble_eq_true rfl, wsG_t (i := 1225) (by decide +kernel) rfl⟩
theorem lk_X10_418 : zLk RX10 418 10 55 := ⟨_, rfl, Nat.le_of_ble_eq_true rfl, wsG_t (i := 1226) (by decide +kernel) rfl⟩
theorem lk_X10_421 : zLk RX10 421 10 63 := ⟨_, rfl, Nat.le_of_ble_eq_true rfl, wsG_t (i := 1234) (by decide +kernel) rfl⟩
theorem lk_X10_424 : zLk RX10 424 10 65 := ⟨_, rfl, Nat.le_of_ble_eq_true rfl, wsG_t (i := 1236) (by decide +kernel) rfl⟩
theorem lk_X10_427 : zLk RX10 427 10 66 := ⟨_, rfl, Nat.le_of_ble_eq_true rfl, wsG_t (i := 1237) (by decide +kernel) rfl⟩
theorem lk_X10_430 : zLk RX10 430 10 67 := ⟨_, rfl, Nat.le_of_ble_eq_true rfl, wsG_t (i := 1238) (by decide +kernel) rfl⟩
theorem lk_X10_433 : zLk RX10 433 10 68 := ⟨_, rfl, Nat.le_of_ble_eq_true rfl, wsG_t (i := 1239) (by decide +kernel) rfl⟩
theorem fi_0_0 : ∀ q : vw_C, vwCl[0]? = some q → (q.2.1 0).2.2.2 = true ∧ (q.2.1 0).1 = RX0 := by intro q h; cases h; exact ⟨rfl, rfl⟩
theorem fi_0_1 : ∀ q : vw_C, vwCl[0]? = some q → (q.2.1 1).2.2.2 = true ∧ (q.2.1 1).1 = RX0 := by intro q h; cases h; exact ⟨rfl, rfl⟩
theorem fi_0_2 : ∀ q : vw_C, vwCl[0]? = some q → (q.2.1 2).2.2.2 = false := by intro q h; cases h; rfl
theorem fi_0_3 : ∀ q : vw_C, vwCl[0]? = some q → (q.2.1 3).2.2.2 = false := by intro q h; cases h; rfl
theorem fi_0_4 : ∀ q : vw_C, vwCl[0]? = some q → (q.2.1 4).2.2.2 = false := by intro q h; cases h; rfl
theorem fi_0_5 : ∀ q : vw_C, vwCl[0]? = some q → (q.2.1 5).2.2.2 = false := by intro q h; cases h; rfl
theorem fi_1_0 : ∀ q : vw_C, vwCl[1]? = some q → (q.2.1 0).2.2.2 = true ∧ (q.2.1 0).1 = RX1 := by intro q h; cases h; exact ⟨rfl, rfl⟩
theorem fi_1_1 : ∀ q : vw_C, vwCl[1]? = some q → (q.2.1 1).2.2.2 = true ∧ (q.2.1 1).1 = RX1 := by intro q h; cases h; exact ⟨rfl, rfl⟩
theorem fi_1_2 : ∀ q : vw_C, vwCl[1]? = some q → (q.2.1 2).2.2.2 = false := by intro q h; cases h; rfl
theorem fi_1_3 : ∀ q : vw_C, vwCl[1]? = some q → (q.2.1 3).2.2.2 = false := by intro q h; cases h; rfl
theorem fi_1_4 : ∀ q : vw_C, vwCl[1]? = some q → (q.2.1 4).2.2.2 = false := by intro q h; cases h; rfl
theorem fi_1_5 : ∀ q : vw_C, vwCl[1]? = some q → (q.2.1 5).2.2.2 = false := by intro q h; cases h; rfl
theorem fi_2_0 : ∀ q : vw_C, vwCl[2]? = some q → (q.2.1 0).2.2.2 = true ∧ (q.2.1 0).1 = RX2 := by intro q h; cases h; exact ⟨rfl, rfl⟩
theorem fi_2_1 : ∀ q : vw_C, vwCl[2]? = some q → (q.2.1 1).2.2.2 = true ∧ (q.2.1 1).1 = RX2 := by intro q h; cases h; exact ⟨rfl, rfl⟩
theorem fi_2_2 : ∀ q : vw_C, vwCl[2]? = some q → (q.2.1 2).2.2.2 = true ∧ (q.2.1 2).1 = RX2 := by intro q h; cases h; exact ⟨rfl, rfl⟩
theorem fi_2_3 : ∀ q : vw_C, vwCl[2]? = some q → (q.2.1 3).2.2.2 = true ∧ (q.2.1 3).1 = RX2 := by intro q h; cases h; exact ⟨rfl, rfl⟩
theorem fi_2_4 : ∀ q : vw_C, vwCl[2]? = some q → (q.2.1 4).2.2.2 = true ∧ (q.2.1 4).1 = RX2 := by intro q h; cases h; exact ⟨rfl, rfl⟩
theorem fi_2_5 : ∀ q : vw_C, vwCl[2]? = some q → (q.2.1 5).2.2.2 = true ∧ (q.2.1 5).1 = RX2 := by intro q h; cases h; exact ⟨rfl, rfl⟩
theorem fi_2_6 : ∀ q : vw_C, vwCl[2]? = some q → (q.2.1 6).2.2.2 = false := by intro q h; cases h; rfl
theorem fi_2_7 : ∀ q : vw_C, vwCl[2]? = some q → (q.2.1 7).2.2.2 = false := by intro q h; cases h; rfl
theorem fi_2_8 : ∀ q : vw_C, vwCl[2]? = some q → (q.2.1 8).2.2.2 = false := by intro q h; cases h; rfl
theorem fi_2_9 : ∀ q : vw_C, vwCl[2]? = some q → (q.2.1 9).2.2.2 = false := by intro q h; cases h; rfl
theorem fi_2_10 : ∀ q : vw_C, vwCl[2]? = some q → (q.2.1 10).2.2.2 = false := by intro q h; cases h; rfl
theorem fi_2_11 : ∀ q : vw_C, vwCl[2]? = some q → (q.2.1 11).2.2.2 = false := by intro q h; cases h; rfl
theorem fi_2_12 : ∀ q : vw_C, vwCl[2]? = some q → (q.2.1 12).2.2.2 = false := by intro q h; cases h; rfl
theorem fi_2_13 : ∀ q : vw_C, vwCl[2]? = some q → (q.2.1 13).2.2.2 = false := by intro q h; cases h; rfl
theorem fi_2_14 : ∀ q : vw_C, vwCl[2]? = some q → (q.2.1 14).2.2.2 = false := by intro q h; cases h; rfl
theorem fi_2_15 : ∀ q : vw_C, vwCl[2]? = some q → (q.2.1 15).2.2.2 = false := by intro q h; cases h; rfl
theorem fi_2_16 : ∀ q : vw_C, vwCl[2]? = some q → (q.2.1 16).2.2.2 = false := by intro q h; cases h; rfl
theorem fi_3_0 : ∀ q : vw_C, vwCl[3]? = some q → (q.2.1 0).2.2.2 = true ∧ (q.2.1 0).1 = RX3 := by intro q h; cases h; exact ⟨rfl, rfl⟩
theorem fi_3_1 : ∀ q : vw_C, vwCl[3]? = some q → (q.2.1 1).2.2.2 = true ∧ (q.2.1 1).1 = RX3 := by intro q h; cases h; exact ⟨rfl, rfl⟩
theorem fi_3_2 : ∀ q : vw_C, vwCl[3]? = some q → (q.2.1 2).2.2.2 = true ∧ (q.2.1 2).1 = RX3 := by intro q h; cases h; exact ⟨rfl, rfl⟩
theorem fi_3_3 : ∀ q : vw_C, vwCl[3]? = some q → (q.2.1 3).2.2.2 = true ∧ (q.2.1 3).1 = RX3 := by intro q h; cases h; exact ⟨rfl, rfl⟩
theorem fi_3_4 : ∀ q : vw_C, vwCl[3]? = some q → (q.2.1 4).2.2.2 = true ∧ (q.2.1 4).1 = RX3 := by intro q h; cases h; exact ⟨rfl, rfl⟩
theorem fi_3_5 : ∀ q : vw_C, vwCl[3]? = some q → (q.2.1 5).2.2.2 = true ∧ (q.2.1 5).1 = RX3 := by intro q h; cases h; exact ⟨rfl, rfl⟩
theorem fi_3_6 : ∀ q : vw_C, vwCl[3]? = some q → (q.2.1 6).2.2.2 = true ∧ (q.2.1 6).1 = RX3 := by intro q h; cases h; exact ⟨rfl, rfl⟩
theorem fi_3_7 : ∀ q : vw_C, vwCl[3]? = some q → (q.2.1 7).2.2.2 = false := by intro q h; cases h; rfl
theorem fi_3_8 : ∀ q : vw_C, vwCl[3]? = some q → (q.2.1 8).2.2.2 = false := by intro q h; cases h; rfl
theorem fi_3_9 : ∀ q : vw_C, vwCl[3]? = some q → (q.2.1 9).2.2.2 = false := by intro q h; cases h; rfl
theorem fi_3_10 : ∀ q : vw_C, vwCl[3]? = some q → (q.2.1 10).2.2.2 = false := by intro q h; cases h; rfl
theorem fi_4_0 : ∀ q : vw_C, vwCl[4]? = some q → (q.2.1 0).2.2.2 = true ∧ (q.2.1 0).1 = RX4 := by intro q h; cases h; exact ⟨rfl, rfl⟩
theorem fi_4_1 : ∀ q : vw_C, vwCl[4]? = some q → (q.2.1 1).2.2.2 = true ∧ (q.2.1 1).1 = RX4 := by intro q h; cases h; exact ⟨rfl, rfl⟩
theorem fi_4_2 : ∀ q : vw_C, vwCl[4]? = some q → (q.2.1 2).2.2.2 = true ∧ (q.2.1 2).1 = RX4 := by intro q h; cases h; exact ⟨rfl, rfl⟩
theorem fi_4_3 : ∀ q : vw_C, vwCl[4]? = some q → (q.2.1 3).2.2.2 = true ∧ (q.2.1 3).1 = RX4 := by intro q h; cases h; exact ⟨rfl, rfl⟩
theorem fi_4_4 : ∀ q : vw_C, vwCl[4]? = some q → (q.2.1 4).2.2.2 = true ∧ (q.2.1 4).1 = RX4 := by intro q h; cases h; exact ⟨rfl, rfl⟩
theorem fi_4_5 : ∀ q : vw_C, vwCl[4]? = some q → (q.2.1 5).2.2.2 = false := by intro q h; cases h; rfl
theorem fi_5_0 : ∀ q : vw_C, vwCl[5]? = some q → (q.2.1 0).2.2.2 = false := by intro q h; cases h; rfl
theorem fi_5_1 : ∀ q : vw_C, vwCl[5]? = some q → (q.2.1 1).2.2.2 = false := by intro q h; cases h; rfl
theorem fi_6_0 : ∀ q : vw_C, vwCl[6]? = some q → (q.2.1 0).2.2.2 = true ∧ (q.2.1 0).1 = RX6 := by intro q h; cases h; exact ⟨rfl, rfl⟩
theorem fi_6_1 : ∀ q : vw_C, vwCl[6]? = some q → (q.2.1 1).2.2.2 = true ∧ (q.2.1 1).1 = RX6 := by intro q h; cases h; exact ⟨rfl, rfl⟩
theorem fi_6_2 : ∀ q : vw_C, vwCl[6]? = some q → (q.2.1 2).2.2.2 = true ∧ (q.2.1 2).1 = RX6 := by intro q h; cases h; exact ⟨rfl, rfl⟩
theorem fi_6_3 : ∀ q : vw_C, vwCl[6]? = some q → (q.2.1 3).2.2.2 = true ∧ (q.2.1 3).1 = RX6 := by intro q h; cases h; exact ⟨rfl, rfl⟩
theorem fi_6_4 : ∀ q : vw_C, vwCl[6]? = some q → (q.2.1 4).2.2.2 = false := by intro q h; cases h; rfl
theorem fi_6_5 : ∀ q : vw_C, vwCl[6]? = some q → (q.2.1 5).2.2.2 = false := by intro q h; cases h; rfl
theorem fi_6_6 : ∀ q : vw_C, vwCl[6]? = some q → (q.2.1 6).2.2.2 = false := by intro q h; cases h; rfl
theorem fi_6_7 : ∀ q : vw_C, vwCl[6]? = some q → (q.2.1 7).2.2.2 = false := by intro q h; cases h; rfl
theorem fi_6_8 : ∀ q : vw_C, vwCl[6]? = some q → (q.2.1 8).2.2.2 = false := by intro q h; cases h; rfl
theorem fi_6_9 : ∀ q : vw_C, vwCl[6]? = some q → (q.2.1 9).2.2.2 = false := by intro q h; cases h; rfl
theorem fi_6_10 : ∀ q : vw_C, vwCl[6]? = some q → (q.2.1 10).2.2.2 = false := by intro q h; cases h; rfl
theorem fi_6_11 : ∀ q : vw_C, vwCl[6]? = some q → (q.2.1 11).2.2.2 = false := by intro q h; cases h; rfl
theorem fi_6_12 : ∀ q : vw_C, vwCl[6]? = some q → (q.2.1 12).2.2.2 = false := by intro q h; cases h; rfl
theorem fi_7_0 : ∀ q : vw_C, vwCl[7]? = some q → (q.2.1 0).2.2.2 = true ∧ (q.2.1 0).1 = RX7 := by intro q h; cases h; exact ⟨rfl, rfl⟩
theorem fi_7_1 : ∀ q : vw_C, vwCl[7]? = some q → (q.2.1 1).2.2.2 = true ∧ (q.2.1 1).1 = RX7 := by intro q h; cases h; exact ⟨rfl, rfl⟩
theorem fi_7_2 : ∀ q : vw_C, vwCl[7]? = some q → (q.2.1 2).2.2.2 = true ∧ (q.2.1 2).1 = RX7 := by intro q h; cases h; exact ⟨rfl, rfl⟩
theorem fi_7_3 : ∀ q : vw_C, vwCl[7]? = some q → (q.2.1 3).2.2.2 = true ∧ (q.2.1 3).1 = RX7 := by intro q h; cases h; exact ⟨rfl, rfl⟩
theorem fi_7_4 : ∀ q : vw_C, vwCl[7]? = some q → (q.2.1 4).2.2.2 = true ∧ (q.2.1 4).1 = RX7 := by intro q h; cases h; exact ⟨rfl, rfl⟩
theorem fi_7_5 : ∀ q : vw_C, vwCl[7]? = some q → (q.2.1 5).2.2.2 = true ∧ (q.2.1 5).1 = RX7 := by intro q h; cases h; exact ⟨rfl, rfl⟩
theorem fi_7_6 : ∀ q : vw_C, vwCl[7]? = some q → (q.2.1 6).2.2.2 = true ∧ (q.2.1 6).1 = RX7 := by intro q h; cases h; exact ⟨rfl, rfl⟩
theorem fi_7_7 : ∀ q : vw_C, vwCl[7]? = some q → (q.2.1 7).2.2.2 = true ∧ (q.2.1 7).1 = RX7 := by intro q h; cases h; exact ⟨rfl, rfl⟩
theorem fi_7_8 : ∀ q : vw_C, vwCl[7]? = some q → (q.2.1 8).2.2.2 = true ∧ (q.2.1 8).1 = RX7 := by intro q h; cases h; exact ⟨rfl, rfl⟩
theorem fi_7_9 : ∀ q : vw_C, vwCl[7]? = some q → (q.2.1 9).2.2.2 = true ∧ (q.2.1 9).1 = RX7 := by intro q h; cases h; exact ⟨rfl, rfl⟩
theorem fi_7_10 : ∀ q : vw_C, vwCl[7]? = some q → (q.2.1 10).2.2.2 = true ∧ (q.2.1 10).1 = RX7 := by intro q h; cases h; exact ⟨rfl, rfl⟩
theorem fi_7_11 : ∀ q : vw_C, vwCl[7]? = some q → (q.2.1 11).2.2.2 = false := by intro q h; cases h; rfl
theorem fi_7_12 : ∀ q : vw_C, vwCl[7]? = some q → (q.2.1 12).2.2.2 = false := by intro q h; cases h; rfl
theorem fi_7_13 : ∀ q : vw_C, vwCl[7]? = some q → (q.2.1 13).2.2.2 = false := by intro q h; cases h; rfl
theorem fi_7_14 : ∀ q : vw_C, vwCl[7]? = some q → (q.2.1 14).2.2.2 = false := by intro q h; cases h; rfl
theorem fi_7_15 : ∀ q : vw_C, vwCl[7]? = some q → (q.2.1 15).2.2.2 = false := by intro q h; cases h; rfl
theorem fi_7_16 : ∀ q : vw_C, vwCl[7]? = some q → (q.2.1 16).2.2.2 = false := by intro q h; cases h; rfl
theorem fi_8_0 : ∀ q : vw_C, vwCl[8]? = some q → (q.2.1 0).2.2.2 = true ∧ (q.2.1 0).1 = RX8 := by intro q h; cases h; exact ⟨rfl, rfl⟩
theorem fi_8_1 : ∀ q : vw_C, vwCl[8]? = some q → (q.2.1 1).2.2.2 = true ∧ (q.2.1 1).1 = RX8 := by intro q h; cases h; exact ⟨rfl, rfl⟩
theorem fi_8_2 : ∀ q : vw_C, vwCl[8]? = some q → (q.2.1 2).2.2.2 = true ∧ (q.2.1 2).1 = RX8 := by intro q h; cases h; exact ⟨rfl, rfl⟩
theorem fi_8_3 : ∀ q : vw_C, vwCl[8]? = some q → (q.2.1 3).2.2.2 = true ∧ (q.2.1 3).1 = RX8 := by intro q h; cases h; exact ⟨rfl, rfl⟩
theorem fi_8_4 : ∀ q : vw_C, vwCl[8]? = some q → (q.2.1 4).2.2.2 = true ∧ (q.2.1 4).1 = RX8 := by intro q h; cases h; exact ⟨rfl, rfl⟩
theorem fi_8_5 : ∀ q : vw_C, vwCl[8]? = some q → (q.2.1 5).2.2.2 = false := by intro q h; cases h; rfl
theorem fi_8_6 : ∀ q : vw_C, vwCl[8]? = some q → (q.2.1 6).2.2.2 = false := by intro q h; cases h; rfl
theorem fi_8_7 : ∀ q : vw_C, vwCl[8]? = some q → (q.2.1 7).2.2.2 = false := by intro q h; cases h; rfl
theorem fi_8_8 : ∀ q : vw_C, vwCl[8]? = some q → (q.2.1 8).2.2.2 = false := by intro q h; cases h; rfl
theorem fi_8_9 : ∀ q : vw_C, vwCl[8]? = some q → (q.2.1 9).2.2.2 = false := by intro q h; cases h; rfl
theorem fi_8_10 : ∀ q : vw_C, vwCl[8]? = some q → (q.2.1 10).2.2.2 = false := by intro q h; cases h; rfl
theorem fi_9_0 : ∀ q : vw_C, vwCl[9]? = some q → (q.2.1 0).2.2.2 = true ∧ (q.2.1 0).1 = RX9 := by intro q h; cases h; exact ⟨rfl, rfl⟩
theorem fi_9_1 : ∀ q : vw_C, vwCl[9]? = some q → (q.2.1 1).2.2.2 = true ∧ (q.2.1 1).1 = RX9 := by intro q h; cases h; exact ⟨rfl, rfl⟩
theorem fi_9_2 : ∀ q : vw_C, vwCl[9]? = some q → (q.2.1 2).2.2.2 = true ∧ (q.2.1 2).1 = RX9 := by intro q h; cases h; exact ⟨rfl, rfl⟩
theorem fi_9_3 : ∀ q : vw_C, vwCl[9]? = some q → (q.2.1 3).2.2.2 = true ∧ (q.2.1 3).1 = RX9 := by intro q h; cases h; exact ⟨rfl, rfl⟩
theorem fi_9_4 : ∀ q : vw_C, vwCl[9]? = some q → (q.2.1 4).2.2.2 = true ∧ (q.2.1 4).1 = RX9 := by intro q h; cases h; exact ⟨rfl, rfl⟩
theorem fi_9_5 : ∀ q : vw_C, vwCl[9]? = some q → (q.2.1 5).2.2.2 = true ∧ (q.2.1 5).1 = RX9 := by intro q h; cases h; exact ⟨rfl, rfl⟩
theorem fi_9_6 : ∀ q : vw_C, vwCl[9]? = some q → (q.2.1 6).2.2.2 = true ∧ (q.2.1 6).1 = RX9 := by intro q h; cases h; exact ⟨rfl, rfl⟩
theorem fi_9_7 : ∀ q : vw_C, vwCl[9]? = some q → (q.2.1 7).2.2.2 = true ∧ (q.2.1 7).1 = RX9 := by intro q h; cases h; exact ⟨rfl, rfl⟩
theorem fi_9_8 : ∀ q : vw_C, vwCl[9]? = some q → (q.2.1 8).2.2.2 = false := by intro q h; cases h; rfl
theorem fi_9_9 : ∀ q : vw_C, vwCl[9]? = some q → (q.2.1 9).2.2.2 = false := by intro q h; cases h; rfl
theorem fi_9_10 : ∀ q : vw_C, vwCl[9]? = some q → (q.2.1 10).2.2.2 = false := by intro q h; cases h; rfl
theorem fi_9_11 : ∀ q : vw_C, vwCl[9]? = some q → (q.2.1 11).2.2.2 = false := by intro q h; cases h; rfl
theorem fi_10_0 : ∀ q : vw_C, vwCl[10]? = some q → (q.2.1 0).2.2.2 = true ∧ (q.2.1 0).1 = RX10 := by intro q h; cases h; exact ⟨rfl, rfl⟩
theorem fi_10_1 : ∀ q : vw_C, vwCl[10]? = some q → (q.2.1 1).2.2.2 = false := by intro q h; cases h; rfl
theorem fi_10_2 : ∀ q : vw_C, vwCl[10]? = some q → (q.2.1 2).2.2.2 = false := by intro q h; cases h; rfl
theorem fi_10_3 : ∀ q : vw_C, vwCl[10]? = some q → (q.2.1 3).2.2.2 = false := by intro q h; cases h; rfl
theorem fi_10_4 : ∀ q : vw_C, vwCl[10]? = some q → (q.2.1 4).2.2.2 = true ∧ (q.2.1 4).1 = RX10 := by intro q h; cases h; exact ⟨rfl, rfl⟩
theorem fi_10_5 : ∀ q : vw_C, vwCl[10]? = some q → (q.2.1 5).2.2.2 = true ∧ (q.2.1 5).1 = RX10 := by intro q h; cases h; exact ⟨rfl, rfl⟩
theorem fi_10_6 : ∀ q : vw_C, vwCl[10]? = some q → (q.2.1 6).2.2.2 = true ∧ (q.2.1 6).1 = RX10 := by intro q h; cases h; exact ⟨rfl, rfl⟩
theorem fi_10_7 : ∀ q : vw_C, vwCl[10]? = some q → (q.2.1 7).2.2.2 = true ∧ (q.2.1 7).1 = RX10 := by intro q h; cases h; exact ⟨rfl, rfl⟩
theorem fi_10_8 : ∀ q : vw_C, vwCl[10]? = some q → (q.2.1 8).2.2.2 = true ∧ (q.2.1 8).1 = RX10 := by intro q h; cases h; exact ⟨rfl, rfl⟩
theorem fi_10_9 : ∀ q : vw_C, vwCl[10]? = some q → (q.2.1 9).2.2.2 = true ∧ (q.2.1 9).1 = RX10 := by intro q h; cases h; exact ⟨rfl, rfl⟩
theorem fi_10_10 : ∀ q : vw_C, vwCl[10]? = some q → (q.2.1 10).2.2.2 = true ∧ (q.2.1 10).1 = RX10 := by intro q h; cases h; exact ⟨rfl, rfl⟩
theorem fi_10_11 : ∀ q : vw_C, vwCl[10]? = some q → (q.2.1 11).2.2.2 = true ∧ (q.2.1 11).1 = RX10 := by intro q h; cases h; exact ⟨rfl, rfl⟩
theorem fi_10_12 : ∀ q : vw_C, vwCl[10]? = some q → (q.2.1 12).2.2.2 = true ∧ (q.2.1 12).1 = RX10 := by intro q h; cases h; exact ⟨rfl, rfl⟩
theorem fi_10_13 : ∀ q : vw_C, vwCl[10]? = some q → (q.2.1 13).2.2.2 = true ∧ (q.2.1 13).1 = RX10 := by intro q h; cases h; exact ⟨rfl, rfl⟩
theorem fi_10_14 : ∀ q : vw_C, vwCl[10]? = some q → (q.2.1 14).2.2.2 = true ∧ (q.2.1 14).1 = RX10 := by intro q h; cases h; exact ⟨rfl, rfl⟩
theorem fi_10_15 : ∀ q : vw_C, vwCl[10]? = some q → (q.2.1 15).2.2.2 = true ∧ (q.2.1 15).1 = RX10 := by intro q h; cases h; exact ⟨rfl, rfl⟩
theorem fi_10_16 : ∀ q : vw_C, vwCl[10]? = some q → (q.2.1 16).2.2.2 = true ∧ (q.2.1 16).1 = RX10 := by intro q h; cases h; exact ⟨rfl, rfl⟩
theorem fi_10_17 : ∀ q : vw_C, vwCl[10]? = some q → (q.2.1 17).2.2.2 = false := by intro q h; cases h; rfl
theorem fi_10_18 : ∀ q : vw_C, vwCl[10]? = some q → (q.2.1 18).2.2.2 = true ∧ (q.2.1 18).1 = RX10 := by intro q h; cases h; exact ⟨rfl, rfl⟩
theorem fi_10_19 : ∀ q : vw_C, vwCl[10]? = some q → (q.2.1 19).2.2.2 = true ∧ (q.2.1 19).1 = RX10 := by intro q h; cases h; exact ⟨rfl, rfl⟩
theorem fi_10_20 : ∀ q : vw_C, vwCl[10]? = some q → (q.2.1 20).2.2.2 = true ∧ (q.2.1 20).1 = RX10 := by intro q h; cases h; exact ⟨rfl, rfl⟩
theorem fi_10_21 : ∀ q : vw_C, vwCl[10]? = some q → (q.2.1 21).2.2.2 = true ∧ (q.2.1 21).1 = RX10 := by intro q h; cases h; exact ⟨rfl, rfl⟩
theorem fi_10_22 : ∀ q : vw_C, vwCl[10]? = some q → (q.2.1 22).2.2.2 = true ∧ (q.2.1 22).1 = RX10 := by intro q h; cases h; exact ⟨rfl, rfl⟩
theorem fi_10_23 : ∀ q : vw_C, vwCl[10]? = some q → (q.2.1 23).2.2.2 = true ∧ (q.2.1 23).1 = RX10 := by intro q h; cases h; exact ⟨rfl, rfl⟩
theorem fi_10_24 : ∀ q : vw_C, vwCl[10]? = some q → (q.2.1 24).2.2.2 = true ∧ (q.2.1 24).1 = RX10 := by intro q h; cases h; exact ⟨rfl, rfl⟩
theorem fi_10_25 : ∀ q : vw_C, vwCl[10]? = some q → (q.2.1 25).2.2.2 = true ∧ (q.2.1 25).1 = RX10 := by intro q h; cases h; exact ⟨rfl, rfl⟩
theorem fi_10_26 : ∀ q : vw_C, vwCl[10]? = some q → (q.2.1 26).2.2.2 = true ∧ (q.2.1 26).1 = RX10 := by intro q h; cases h; exact ⟨rfl, rfl⟩
theorem fi_10_27 : ∀ q : vw_C, vwCl[10]? = some q → (q.2.1 27).2.2.2 = true ∧ (q.2.1 27).1 = RX10 := by intro q h; cases h; exact ⟨rfl, rfl⟩
theorem fi_10_28 : ∀ q : vw_C, vwCl[10]? = some q → (q.2.1 28).2.2.2 = true ∧ (q.2.1 28).1 = RX10 := by intro q h; cases h; exact ⟨rfl, rfl⟩
theorem fi_10_29 : ∀ q : vw_C, vwCl[10]? = some q → (q.2.1 29).2.2.2 = true ∧ (q.2.1 29).1 = RX10 := by intro q h; cases h; exact ⟨rfl, rfl⟩
theorem fi_10_30 : ∀ q : vw_C, vwCl[10]? = some q → (q.2.1 30).2.2.2 = true ∧ (q.2.1 30).1 = RX10 := by intro q h; cases h; exact ⟨rfl, rfl⟩
theorem fi_10_31 : ∀ q : vw_C, vwCl[10]? = some q → (q.2.1 31).2.2.2 = true ∧ (q.2.1 31).1 = RX10 := by intro q h; cases h; exact ⟨rfl, rfl⟩
theorem fi_10_32 : ∀ q : vw_C, vwCl[10]? = some q → (q.2.1 32).2.2.2 = true ∧ (q.2.1 32).1 = RX10 := by intro q h; cases h; exact ⟨rfl, rfl⟩
theorem fi_10_33 : ∀ q : vw_C, vwCl[10]? = some q → (q.2.1 33).2.2.2 = true ∧ (q.2.1 33).1 = RX10 := by intro q h; cases h; exact ⟨rfl, rfl⟩
theorem fi_10_34 : ∀ q : vw_C, vwCl[10]? = some q → (q.2.1 34).2.2.2 = true ∧ (q.2.1 34).1 = RX10 := by intro q h; cases h; exact ⟨rfl, rfl⟩
theorem fi_10_35 : ∀ q : vw_C, vwCl[10]? = some q → (q.2.1 35).2.2.2 = true ∧ (q.2.1 35).1 = RX10 := by intro q h; cases h; exact ⟨rfl, rfl⟩
theorem fi_10_36 : ∀ q : vw_C, vwCl[10]? = some q → (q.2.1 36).2.2.2 = true ∧ (q.2.1 36).1 = RX10 := by intro q h; cases h; exact ⟨rfl, rfl⟩
theorem fi_10_37 : ∀ q : vw_C, vwCl[10]? = some q → (q.2.1 37).2.2.2 = false := by intro q h; cases h; rfl
theorem fi_10_38 : ∀ q : vw_C, vwCl[10]? = some q → (q.2.1 38).2.2.2 = false := by intro q h; cases h; rfl
theorem fi_10_39 : ∀ q : vw_C, vwCl[10]? = some q → (q.2.1 39).2.2.2 = false := by intro q h; cases h; rfl
theorem fi_10_40 : ∀ q : vw_C, vwCl[10]? = some q → (q.2.1 40).2.2.2 = true ∧ (q.2.1 40).1 = RX10 := by intro q h; cases h; exact ⟨rfl, rfl⟩
theorem fi_10_41 : ∀ q : vw_C, vwCl[10]? = some q → (q.2.1 41).2.2.2 = true ∧ (q.2.1 41).1 = RX10 := by intro q h; cases h; exact ⟨rfl, rfl⟩
theorem fi_10_42 : ∀ q : vw_C, vwCl[10]? = some q → (q.2.1 42).2.2.2 = false := by intro q h; cases h; rfl
theorem fi_10_43 : ∀ q : vw_C, vwCl[10]? = some q → (q.2.1 43).2.2.2 = true ∧ (q.2.1 43).1 = RX10 := by intro q h; cases h; exact ⟨rfl, rfl⟩
theorem fi_10_44 : ∀ q : vw_C, vwCl[10]? = some q → (q.2.1 44).2.2.2 = true ∧ (q.2.1 44).1 = RX10 := by intro q h; cases h; exact ⟨rfl, rfl⟩
theorem fi_10_45 : ∀ q : vw_C, vwCl[10]? = some q → (q.2.1 45).2.2.2 = true ∧ (q.2.1 45).1 = RX10 := by intro q h; cases h; exact ⟨rfl, rfl⟩
theorem fi_10_46 : ∀ q : vw_C, vwCl[10]? = some q → (q.2.1 46).2.2.2 = true ∧ (q.2.1 46).1 = RX10 := by intro q h; cases h; exact ⟨rfl, rfl⟩
theorem fi_10_47 : ∀ q : vw_C, vwCl[10]? = some q → (q.2.1 47).2.2.2 = false := by intro q h; cases h; rfl
theorem fi_10_48 : ∀ q : vw_C, vwCl[10]? = some q → (q.2.1 48).2.2.2 = false := by intro q h; cases h; rfl
theorem fi_10_49 : ∀ q : vw_C, vwCl[10]? = some q → (q.2.1 49).2.2.2 = true ∧ (q.2.1 49).1 = RX10 := by intro q h; cases h; exact ⟨rfl, rfl⟩
theorem fi_10_50 : ∀ q : vw_C, vwCl[10]? = some q → (q.2.1 50).2.2.2 = false := by intro q h; cases h; rfl
theorem fi_10_51 : ∀ q : vw_C, vwCl[10]? = some q → (q.2.1 51).2.2.2 = false := by intro q h; cases h; rfl
theorem fi_10_52 : ∀ q : vw_C, vwCl[10]? = some q → (q.2.1 52).2.2.2 = false := by intro q h; cases h; rfl
theorem fi_10_53 : ∀ q : vw_C, vwCl[10]? = some q → (q.2.1 53).2.2.2 = false := by intro q h; cases h; rfl
theorem fi_10_54 : ∀ q : vw_C, vwCl[10]? = some q → (q.2.1 54).2.2.2 = false := by intro q h; cases h; rfl
theorem fi_10_55 : ∀ q : vw_C, vwCl[10]? = some q → (q.2.1 55).2.2.2 = false := by intro q h; cases h; rfl
theorem fi_10_56 : ∀ q : vw_C, vwCl[10]? = some q → (q.2.1 56).2.2.2 = true ∧ (q.2.1 56).1 = RX10 := by intro q h; cases h; exact ⟨rfl, rfl⟩
theorem fi_10_57 : ∀ q : vw_C, vwCl[10]? = some q → (q.2.1 57).2.2.2 = true ∧ (q.2.1 57).1 = RX10 := by intro q h; cases h; exact ⟨rfl, rfl⟩
theorem fi_10_58 : ∀ q : vw_C, vwCl[10]? = some q → (q.2.1 58).2.2.2 = true ∧ (q.2.1 58).1 = RX10 := by intro q h; cases h; exact ⟨rfl, rfl⟩
theorem fi_10_59 : ∀ q : vw_C, vwCl[10]? = some q → (q.2.1 59).2.2.2 = true ∧ (q.2.1 59).1 = RX10 := by intro q h; cases h; exact ⟨rfl, rfl⟩
theorem fi_10_60 : ∀ q : vw_C, vwCl[10]? = some q → (q.2.1 60).2.2.2 = true ∧ (q.2.1 60).1 = RX10 := by intro q h; cases h; exact ⟨rfl, rfl⟩
theorem fi_10_61 : ∀ q : vw_C, vwCl[10]? = some q → (q.2.1 61).2.2.2 = true ∧ (q.2.1 61).1 = RX10 := by intro q h; cases h; exact ⟨rfl, rfl⟩
theorem fi_10_62 : ∀ q : vw_C, vwCl[10]? = some q → (q.2.1 62).2.2.2 = true ∧ (q.2.1 62).1 = RX10 := by intro q h; cases h; exact ⟨rfl, rfl⟩
theorem fi_10_63 : ∀ q : vw_C, vwCl[10]? = some q → (q.2.1 63).2.2.2 = false := by intro q h; cases h; rfl
theorem fi_10_64 : ∀ q : vw_C, vwCl[10]? = some q → (q.2.1 64).2.2.2 = true ∧ (q.2.1 64).1 = RX10 := by intro q h; cases h; exact ⟨rfl, rfl⟩
theorem fi_10_65 : ∀ q : vw_C, vwCl[10]? = some q → (q.2.1 65).2.2.2 = false := by intro q h; cases h; rfl
theorem fi_10_66 : ∀ q : vw_C, vwCl[10]? = some q → (q.2.1 66).2.2.2 = false := by intro q h; cases h; rfl
theorem fi_10_67 : ∀ q : vw_C, vwCl[10]? = some q → (q.2.1 67).2.2.2 = false := by intro q h; cases h; rfl
theorem fi_10_68 : ∀ q : vw_C, vwCl[10]? = some q → (q.2.1 68).2.2.2 = false := by intro q h; cases h; rfl
theorem fi_10_69 : ∀ q : vw_C, vwCl[10]? = some q → (q.2.1 69).2.2.2 = true ∧ (q.2.1 69).1 = RX10 := by intro q h; cases h; exact ⟨rfl, rfl⟩
theorem fi_10_70 : ∀ q : vw_C, vwCl[10]? = some q → (q.2.1 70).2.2.2 = true ∧ (q.2.1 70).1 = RX10 := by intro q h; cases h; exact ⟨rfl, rfl⟩
theorem fi_10_71 : ∀ q : vw_C, vwCl[10]? = some q → (q.2.1 71).2.2.2 = true ∧ (q.2.1 71).1 = RX10 := by intro q h; cases h; exact ⟨rfl, rfl⟩
theorem fi_10_72 : ∀ q : vw_C, vwCl[10]? = some q → (q.2.1 72).2.2.2 = true ∧ (q.2.1 72).1 = RX10 := by intro q h; cases h; exact ⟨rfl, rfl⟩
theorem fi_10_73 : ∀ q : vw_C, vwCl[10]? = some q → (q.2.1 73).2.2.2 = false := by intro q h; cases h; rfl
theorem fi_10_74 : ∀ q : vw_C, vwCl[10]? = some q → (q.2.1 74).2.2.2 = true ∧ (q.2.1 74).1 = RX10 := by intro q h; cases h; exact ⟨rfl, rfl⟩
theorem fi_10_75 : ∀ q : vw_C, vwCl[10]? = some q → (q.2.1 75).2.2.2 = true ∧ (q.2.1 75).1 = RX10 := by intro q h; cases h; exact ⟨rfl, rfl⟩
theorem fi_10_76 : ∀ q : vw_C, vwCl[10]? = some q → (q.2.1 76).2.2.2 = true ∧ (q.2.1 76).1 = RX10 := by intro q h; cases h; exact ⟨rfl, rfl⟩
theorem fi_10_77 : ∀ q : vw_C, vwCl[10]? = some q → (q.2.1 77).2.2.2 = true ∧ (q.2.1 77).1 = RX10 := by intro q h; cases h; exact ⟨rfl, rfl⟩
theorem fi_10_78 : ∀ q : vw_C, vwCl[10]? = some q → (q.2.1 78).2.2.2 = true ∧ (q.2.1 78).1 = RX10 := by intro q h; cases h; exact ⟨rfl, rfl⟩
theorem fi_10_79 : ∀ q : vw_C, vwCl[10]? = some q → (q.2.1 79).2.2.2 = true ∧ (q.2.1 79).1 = RX10 := by intro q h; cases h; exact ⟨rfl, rfl⟩
theorem fi_10_80 : ∀ q : vw_C, vwCl[10]? = some q → (q.2.1 80).2.2.2 = true ∧ (q.2.1 80).1 = RX10 := by intro q h; cases h; exact ⟨rfl, rfl⟩
theorem fi_10_81 : ∀ q : vw_C, vwCl[10]? = some q → (q.2.1 81).2.2.2 = true ∧ (q.2.1 81).1 = RX10 := by intro q h; cases h; exact ⟨rfl, rfl⟩
theorem fi_10_82 : ∀ q : vw_C, vwCl[10]? = some q → (q.2.1 82).2.2.2 = true ∧ (q.2.1 82).1 = RX10 := by intro q h; cases h; exact ⟨rfl, rfl⟩
theorem fi_10_83 : ∀ q : vw_C, vwCl[10]? = some q → (q.2.1 83).2.2.2 = true ∧ (q.2.1 83).1 = RX10 := by intro q h; cases h; exact ⟨rfl, rfl⟩
theorem fi_10_84 : ∀ q : vw_C, vwCl[10]? = some q → (q.2.1 84).2.2.2 = true ∧ (q.2.1 84).1 = RX10 := by intro q h; cases h; exact ⟨rfl, rfl⟩
theorem fi_10_85 : ∀ q : vw_C, vwCl[10]? = some q → (q.2.1 85).2.2.2 = true ∧ (q.2.1 85).1 = RX10 := by intro q h; cases h; exact ⟨rfl, rfl⟩
theorem fi_10_86 : ∀ q : vw_C, vwCl[10]? = some q → (q.2.1 86).2.2.2 = true ∧ (q.2.1 86).1 = RX10 := by intro q h; cases h; exact ⟨rfl, rfl⟩
theorem mo_X0_3 : Cond.methodLink RX0 3 Lib.objectInit ∈ wsG := wsG_t (i := 356) (by decide +kernel) rfl
theorem ml_X0_33 : zMl RX0 33 yJ7_fill_53178 := Or.inl (wsG_t (i := 904) (by decide +kernel) rfl)
theorem ml_X0_51 : zMl RX0 51 yX0_code := Or.inl (wsG_t (i := 953) (by decide +kernel) rfl)
theorem ml_X0_54 : zMl RX0 54 yX9_byteAt := Or.inr ⟨"ProbeLoom", by decide +kernel⟩
theorem ml_X0_58 : zMl RX0 58 yX8_homeOf := Or.inl (wsG_t (i := 941) (by decide +kernel) rfl)
theorem ml_X0_70 : zMl RX0 70 yX9_handlerPart := Or.inr ⟨"ProbeLoom", by decide +kernel⟩
theorem ml_X0_74 : zMl RX0 74 yX0_push := Or.inl (wsG_t (i := 1110) (by decide +kernel) rfl)
theorem ml_X1_101 : zMl RX1 101 yX1_putInLine := Or.inl (wsG_t (i := 594) (by decide +kernel) rfl)
theorem ml_X1_105 : zMl RX1 105 yX1_loadType := Or.inl (wsG_t (i := 612) (by decide +kernel) rfl)
theorem ml_X1_108 : zMl RX1 108 yX1_takeAny := Or.inl (wsG_t (i := 625) (by decide +kernel) rfl)
theorem ml_X1_112 : zMl RX1 112 yX1_setLocalType := Or.inl (wsG_t (i := 629) (by decide +kernel) rfl)
theorem ml_X1_116 : zMl RX1 116 yX1_localType := Or.inl (wsG_t (i := 616) (by decide +kernel) rfl)
theorem ml_X1_119 : zMl RX1 119 yX1_shiftAny := Or.inl (wsG_t (i := 633) (by decide +kernel) rfl)
theorem ml_X1_122 : zMl RX1 122 yX1_takeInts := Or.inl (wsG_t (i := 637) (by decide +kernel) rfl)
theorem ml_X1_125 : zMl RX1 125 yX1_put := Or.inl (wsG_t (i := 620) (by decide +kernel) rfl)
theorem ml_X1_128 : zMl RX1 128 yX1_doTyped := Or.inl (wsG_t (i := 641) (by decide +kernel) rfl)
theorem mo_X1_3 : Cond.methodLink RX1 3 Lib.objectInit ∈ wsG := wsG_t (i := 42) (by decide +kernel) rfl
theorem ml_X1_38 : zMl RX1 38 yJ7_fill_53178 := Or.inl (wsG_t (i := 587) (by decide +kernel) rfl)
theorem ml_X1_51 : zMl RX1 51 yX1_comeTo := Or.inl (wsG_t (i := 589) (by decide +kernel) rfl)
theorem ml_X1_55 : zMl RX1 55 yX1_goFrom := Or.inl (wsG_t (i := 598) (by decide +kernel) rfl)
theorem ml_X1_65 : zMl RX1 65 yX9_handlerPart := Or.inr ⟨"ProbeLoom", by decide +kernel⟩
theorem ml_X1_73 : zMl RX1 73 yX9_shortOf := Or.inr ⟨"ProbeLoom", by decide +kernel⟩
theorem ml_X1_77 : zMl RX1 77 yX9_byteAt := Or.inr ⟨"ProbeLoom", by decide +kernel⟩
theorem ml_X1_81 : zMl RX1 81 yX1_doOp := Or.inl (wsG_t (i := 608) (by decide +kernel) rfl)
theorem ml_X1_85 : zMl RX1 85 yX9_goesOn := Or.inr ⟨"ProbeLoom", by decide +kernel⟩
theorem ml_X1_92 : zMl RX1 92 yX9_targetCount := Or.inr ⟨"ProbeLoom", by decide +kernel⟩
theorem ml_X1_95 : zMl RX1 95 yX9_targetAt := Or.inr ⟨"ProbeLoom", by decide +kernel⟩
theorem ml_X1_98 : zMl RX1 98 yX3_beginsAt := Or.inl (wsG_t (i := 593) (by decide +kernel) rfl)
theorem ml_X2_101 : zMl RX2 101 yX2_noteEnter := Or.inl (wsG_t (i := 909) (by decide +kernel) rfl)
theorem ml_X2_109 : zMl RX2 109 yX2_takeTurn := Or.inl (wsG_t (i := 928) (by decide +kernel) rfl)
theorem ml_X2_121 : zMl RX2 121 yJ9_max_7cf53 := Or.inl (wsG_t (i := 898) (by decide +kernel) rfl)
theorem ml_X2_127 : zMl RX2 127 yJ9_min_7cf53 := Or.inl (wsG_t (i := 899) (by decide +kernel) rfl)
theorem ml_X2_139 : zMl RX2 139 yX0_begin := Or.inl (wsG_t (i := 900) (by decide +kernel) rfl)
theorem ml_X2_146 : zMl RX2 146 yX0_code := Or.inl (wsG_t (i := 932) (by decide +kernel) rfl)
theorem ml_X2_153 : zMl RX2 153 yX9_byteAt := Or.inr ⟨"ProbeLoom", by decide +kernel⟩
theorem ml_X2_157 : zMl RX2 157 yX0_homePlace := Or.inl (wsG_t (i := 937) (by decide +kernel) rfl)
theorem ml_X2_164 : zMl RX2 164 yX2_doWovenOp := Or.inl (wsG_t (i := 945) (by decide +kernel) rfl)
theorem ml_X2_168 : zMl RX2 168 yX9_targetAt := Or.inr ⟨"ProbeLoom", by decide +kernel⟩
theorem ml_X2_172 : zMl RX2 172 yX2_mayBegin := Or.inl (wsG_t (i := 1007) (by decide +kernel) rfl)
theorem ml_X2_179 : zMl RX2 179 yX2_doCall := Or.inl (wsG_t (i := 1027) (by decide +kernel) rfl)
theorem ml_X2_182 : zMl RX2 182 yX2_doGive := Or.inl (wsG_t (i := 1031) (by decide +kernel) rfl)
theorem ml_X2_185 : zMl RX2 185 yX9_shortOf := Or.inr ⟨"ProbeLoom", by decide +kernel⟩
theorem ml_X2_189 : zMl RX2 189 yX2_doInstruction := Or.inl (wsG_t (i := 1041) (by decide +kernel) rfl)
theorem ml_X2_192 : zMl RX2 192 yX2_unwind := Or.inl (wsG_t (i := 1101) (by decide +kernel) rfl)
theorem ml_X2_195 : zMl RX2 195 yX2_isWatchedHere := Or.inl (wsG_t (i := 1011) (by decide +kernel) rfl)
theorem ml_X2_199 : zMl RX2 199 yX2_passAhead := Or.inl (wsG_t (i := 1019) (by decide +kernel) rfl)
theorem ml_X2_202 : zMl RX2 202 yX9_sizeAt := Or.inr ⟨"ProbeLoom", by decide +kernel⟩
theorem ml_X2_205 : zMl RX2 205 yX2_doMove := Or.inl (wsG_t (i := 1046) (by decide +kernel) rfl)
theorem ml_X2_208 : zMl RX2 208 yX2_doSum := Or.inl (wsG_t (i := 1059) (by decide +kernel) rfl)
theorem ml_X2_211 : zMl RX2 211 yX2_whereJumped := Or.inl (wsG_t (i := 1066) (by decide +kernel) rfl)
theorem ml_X2_215 : zMl RX2 215 yX0_pop := Or.inl (wsG_t (i := 998) (by decide +kernel) rfl)
theorem ml_X2_218 : zMl RX2 218 yX2_throwAt := Or.inl (wsG_t (i := 990) (by decide +kernel) rfl)
theorem ml_X2_221 : zMl RX2 221 yX2_doMemory := Or.inl (wsG_t (i := 1073) (by decide +kernel) rfl)
theorem ml_X2_224 : zMl RX2 224 yX2_passBehind := Or.inl (wsG_t (i := 1035) (by decide +kernel) rfl)
theorem ml_X2_227 : zMl RX2 227 yX0_operand := Or.inl (wsG_t (i := 949) (by decide +kernel) rfl)
theorem ml_X2_230 : zMl RX2 230 yX9_signedByteAt := Or.inr ⟨"ProbeLoom", by decide +kernel⟩
theorem ml_X2_233 : zMl RX2 233 yX0_push := Or.inl (wsG_t (i := 1002) (by decide +kernel) rfl)
theorem ml_X2_237 : zMl RX2 237 yX9_wordAt := Or.inr ⟨"ProbeLoom", by decide +kernel⟩
theorem ml_X2_240 : zMl RX2 240 yX0_local := Or.inl (wsG_t (i := 1055) (by decide +kernel) rfl)
theorem ml_X2_243 : zMl RX2 243 yX0_peek := Or.inl (wsG_t (i := 955) (by decide +kernel) rfl)
theorem ml_X2_246 : zMl RX2 246 yX2_sum := Or.inl (wsG_t (i := 1063) (by decide +kernel) rfl)
theorem ml_X2_250 : zMl RX2 250 yX2_choosesJump := Or.inl (wsG_t (i := 1070) (by decide +kernel) rfl)
theorem ml_X2_253 : zMl RX2 253 yX2_fieldCell := Or.inl (wsG_t (i := 963) (by decide +kernel) rfl)
theorem ml_X2_256 : zMl RX2 256 yX2_cellInt := Or.inl (wsG_t (i := 970) (by decide +kernel) rfl)
theorem ml_X2_259 : zMl RX2 259 yX2_setCell := Or.inl (wsG_t (i := 1077) (by decide +kernel) rfl)
theorem ml_X2_262 : zMl RX2 262 yX2_makeRow := Or.inl (wsG_t (i := 1081) (by decide +kernel) rfl)
theorem ml_X2_265 : zMl RX2 265 yX2_sizeOfRow := Or.inl (wsG_t (i := 1085) (by decide +kernel) rfl)
theorem ml_X2_268 : zMl RX2 268 yX2_takeFromRow := Or.inl (wsG_t (i := 1089) (by decide +kernel) rfl)
theorem ml_X2_271 : zMl RX2 271 yX2_layInRow := Or.inl (wsG_t (i := 1093) (by decide +kernel) rfl)
theorem ml_X2_274 : zMl RX2 274 yX6_addMark := Or.inl (wsG_t (i := 1097) (by decide +kernel) rfl)
theorem ml_X2_280 : zMl RX2 280 yX2_rowCell := Or.inl (wsG_t (i := 966) (by decide +kernel) rfl)
theorem ml_X2_286 : zMl RX2 286 yX9_fixedSize := Or.inr ⟨"ProbeLoom", by decide +kernel⟩
theorem ml_X2_296 : zMl RX2 296 yX0_catches := Or.inl (wsG_t (i := 1105) (by decide +kernel) rfl)
theorem mo_X2_3 : Cond.methodLink RX2 3 Lib.objectInit ∈ wsG := wsG_t (i := 349) (by decide +kernel) rfl
theorem ml_X2_300 : zMl RX2 300 yX2_noteAll := Or.inl (wsG_t (i := 1023) (by decide +kernel) rfl)
theorem ml_X2_306 : zMl RX2 306 yX2_isWatched := Or.inl (wsG_t (i := 913) (by decide +kernel) rfl)
theorem ml_X2_309 : zMl RX2 309 yX8_isBusyAt := Or.inl (wsG_t (i := 1015) (by decide +kernel) rfl)
theorem ml_X2_315 : zMl RX2 315 yX4_sortOf := Or.inl (wsG_t (i := 917) (by decide +kernel) rfl)
theorem ml_X2_320 : zMl RX2 320 yX4_isAt := Or.inl (wsG_t (i := 918) (by decide +kernel) rfl)
theorem ml_X2_324 : zMl RX2 324 yX6_addRecord := Or.inl (wsG_t (i := 923) (by decide +kernel) rfl)
theorem ml_X2_327 : zMl RX2 327 yX2_noteArguments := Or.inl (wsG_t (i := 919) (by decide +kernel) rfl)
theorem ml_X2_333 : zMl RX2 333 yX2_passFault := Or.inl (wsG_t (i := 978) (by decide +kernel) rfl)
theorem ml_X2_336 : zMl RX2 336 yX2_keepOld := Or.inl (wsG_t (i := 959) (by decide +kernel) rfl)
theorem ml_X2_339 : zMl RX2 339 yX2_noteStore := Or.inl (wsG_t (i := 974) (by decide +kernel) rfl)
theorem ml_X2_342 : zMl RX2 342 yX2_replaceTop := Or.inl (wsG_t (i := 994) (by decide +kernel) rfl)
theorem ml_X2_345 : zMl RX2 345 yX4_xOf := Or.inl (wsG_t (i := 982) (by decide +kernel) rfl)
theorem ml_X2_348 : zMl RX2 348 yX4_yOf := Or.inl (wsG_t (i := 986) (by decide +kernel) rfl)
theorem ml_X2_71 : zMl RX2 71 yX0_init := Or.inl (wsG_t (i := 353) (by decide +kernel) rfl)
theorem ml_X2_74 : zMl RX2 74 yX6_startAnew := Or.inl (wsG_t (i := 882) (by decide +kernel) rfl)
theorem ml_X2_79 : zMl RX2 79 yJ7_fill_fda19 := Or.inl (wsG_t (i := 887) (by decide +kernel) rfl)
theorem ml_X2_85 : zMl RX2 85 yJ7_fill_53178 := Or.inl (wsG_t (i := 893) (by decide +kernel) rfl)
theorem ml_X2_88 : zMl RX2 88 yX2_openFrame := Or.inl (wsG_t (i := 894) (by decide +kernel) rfl)
theorem ml_X2_97 : zMl RX2 97 yX0_setLocal := Or.inl (wsG_t (i := 905) (by decide +kernel) rfl)
theorem ml_X3_29 : zMl RX3 29 yX8_init := Or.inr ⟨"ProbeLoom", by decide +kernel⟩
theorem mo_X3_3 : Cond.methodLink RX3 3 Lib.objectInit ∈ wsG := wsG_t (i := 127) (by decide +kernel) rfl
theorem ml_X3_50 : zMl RX3 50 yX3_beginsAt := Or.inl (wsG_t (i := 553) (by decide +kernel) rfl)
theorem ml_X3_54 : zMl RX3 54 yX3_jumpsAstray := Or.inl (wsG_t (i := 557) (by decide +kernel) rfl)
theorem ml_X3_57 : zMl RX3 57 yX9_targetCount := Or.inr ⟨"ProbeLoom", by decide +kernel⟩
theorem ml_X3_61 : zMl RX3 61 yX9_targetAt := Or.inr ⟨"ProbeLoom", by decide +kernel⟩
theorem ml_X3_65 : zMl RX3 65 yX9_handlerPart := Or.inr ⟨"ProbeLoom", by decide +kernel⟩
theorem ml_X3_68 : zMl RX3 68 yX9_isChoice := Or.inr ⟨"ProbeLoom", by decide +kernel⟩
theorem ml_X3_71 : zMl RX3 71 yX3_isTarget := Or.inl (wsG_t (i := 731) (by decide +kernel) rfl)
theorem ml_X3_74 : zMl RX3 74 yX9_isReplaceable := Or.inr ⟨"ProbeLoom", by decide +kernel⟩
theorem ml_X3_77 : zMl RX3 77 yX3_instructionCount := Or.inl (wsG_t (i := 670) (by decide +kernel) rfl)
theorem ml_X3_81 : zMl RX3 81 yX3_greatestHeight := Or.inl (wsG_t (i := 674) (by decide +kernel) rfl)
theorem ml_X3_84 : zMl RX3 84 yX8_tell := Or.inl (wsG_t (i := 685) (by decide +kernel) rfl)
theorem ml_X3_88 : zMl RX3 88 yX3_isComeTo := Or.inl (wsG_t (i := 678) (by decide +kernel) rfl)
theorem ml_X3_91 : zMl RX3 91 yJ9_max_7cf53 := Or.inl (wsG_t (i := 682) (by decide +kernel) rfl)
theorem mo_X4_3 : Cond.methodLink RX4 3 Lib.objectInit ∈ wsG := wsG_t (i := 319) (by decide +kernel) rfl
theorem ml_X5_19 : zMl RX5 19 yJ9_min_7cf53 := Or.inl (wsG_t (i := 493) (by decide +kernel) rfl)
theorem ml_X5_25 : zMl RX5 25 yX5_headFault := Or.inl (wsG_t (i := 496) (by decide +kernel) rfl)
theorem ml_X5_29 : zMl RX5 29 yX5_codeFault := Or.inl (wsG_t (i := 503) (by decide +kernel) rfl)
theorem mo_X5_3 : Cond.methodLink RX5 3 Lib.objectInit ∈ wsG := wsG_t (i := 28) (by decide +kernel) rfl
theorem ml_X5_32 : zMl RX5 32 yX5_tailFault := Or.inl (wsG_t (i := 541) (by decide +kernel) rfl)
theorem ml_X5_35 : zMl RX5 35 yX9_byteAt := Or.inr ⟨"ProbeLoom", by decide +kernel⟩
theorem ml_X5_53 : zMl RX5 53 yJ7_fill_53178 := Or.inl (wsG_t (i := 507) (by decide +kernel) rfl)
theorem ml_X5_59 : zMl RX5 59 yX5_instructionFault := Or.inl (wsG_t (i := 510) (by decide +kernel) rfl)
theorem ml_X5_63 : zMl RX5 63 yX9_sizeAt := Or.inr ⟨"ProbeLoom", by decide +kernel⟩
theorem ml_X5_69 : zMl RX5 69 yX9_isOp := Or.inr ⟨"ProbeLoom", by decide +kernel⟩
theorem ml_X5_73 : zMl RX5 73 yX5_tableFault := Or.inl (wsG_t (i := 522) (by decide +kernel) rfl)
theorem ml_X5_76 : zMl RX5 76 yX9_fixedSize := Or.inr ⟨"ProbeLoom", by decide +kernel⟩
theorem ml_X5_80 : zMl RX5 80 yX5_operandFits := Or.inl (wsG_t (i := 532) (by decide +kernel) rfl)
theorem ml_X5_84 : zMl RX5 84 yX9_tableSize := Or.inr ⟨"ProbeLoom", by decide +kernel⟩
theorem ml_X5_96 : zMl RX5 96 yX5_readHandler := Or.inl (wsG_t (i := 545) (by decide +kernel) rfl)
theorem mo_X6_3 : Cond.methodLink RX6 3 Lib.objectInit ∈ wsG := wsG_t (i := 263) (by decide +kernel) rfl
theorem ml_X6_52 : zMl RX6 52 yJ7_fill_53178 := Or.inl (wsG_t (i := 886) (by decide +kernel) rfl)
theorem ml_X6_58 : zMl RX6 58 yJ9_min_7cf53 := Or.inl (wsG_t (i := 1146) (by decide +kernel) rfl)
theorem ml_X6_64 : zMl RX6 64 yX6_recordsKept := Or.inl (wsG_t (i := 1142) (by decide +kernel) rfl)
theorem ml_X7_105 : zMl RX7 105 yX3_beginsAt := Or.inl (wsG_t (i := 763) (by decide +kernel) rfl)
theorem ml_X7_112 : zMl RX7 112 yX7_countProbe := Or.inl (wsG_t (i := 764) (by decide +kernel) rfl)
theorem ml_X7_128 : zMl RX7 128 yX7_caughtAt := Or.inl (wsG_t (i := 772) (by decide +kernel) rfl)
theorem ml_X7_135 : zMl RX7 135 yX9_handlerPart := Or.inr ⟨"ProbeLoom", by decide +kernel⟩
theorem ml_X7_139 : zMl RX7 139 yX9_targetAt := Or.inr ⟨"ProbeLoom", by decide +kernel⟩
theorem ml_X7_142 : zMl RX7 142 yX7_groupAt := Or.inl (wsG_t (i := 787) (by decide +kernel) rfl)
theorem ml_X7_146 : zMl RX7 146 yX9_isShortJump := Or.inr ⟨"ProbeLoom", by decide +kernel⟩
theorem ml_X7_149 : zMl RX7 149 yX7_leadsTo := Or.inl (wsG_t (i := 782) (by decide +kernel) rfl)
theorem ml_X7_153 : zMl RX7 153 yX7_reaches := Or.inl (wsG_t (i := 791) (by decide +kernel) rfl)
theorem ml_X7_157 : zMl RX7 157 yX7_growCaughtPads := Or.inl (wsG_t (i := 794) (by decide +kernel) rfl)
theorem ml_X7_169 : zMl RX7 169 yX7_writeProbes := Or.inl (wsG_t (i := 802) (by decide +kernel) rfl)
theorem ml_X7_176 : zMl RX7 176 yX7_writeAhead := Or.inl (wsG_t (i := 821) (by decide +kernel) rfl)
theorem ml_X7_180 : zMl RX7 180 yX7_writeInstruction := Or.inl (wsG_t (i := 825) (by decide +kernel) rfl)
theorem ml_X7_184 : zMl RX7 184 yX7_writeBehind := Or.inl (wsG_t (i := 840) (by decide +kernel) rfl)
theorem ml_X7_188 : zMl RX7 188 yX7_writeSidePads := Or.inl (wsG_t (i := 848) (by decide +kernel) rfl)
theorem ml_X7_191 : zMl RX7 191 yX7_writeCaughtPads := Or.inl (wsG_t (i := 852) (by decide +kernel) rfl)
theorem ml_X7_194 : zMl RX7 194 yX7_writeLeftPad := Or.inl (wsG_t (i := 856) (by decide +kernel) rfl)
theorem ml_X7_197 : zMl RX7 197 yX7_writeHandlers := Or.inl (wsG_t (i := 860) (by decide +kernel) rfl)
theorem ml_X7_211 : zMl RX7 211 yX4_sortOf := Or.inl (wsG_t (i := 806) (by decide +kernel) rfl)
theorem ml_X7_214 : zMl RX7 214 yX4_isAt := Or.inl (wsG_t (i := 810) (by decide +kernel) rfl)
theorem ml_X7_218 : zMl RX7 218 yX7_aheadOp := Or.inl (wsG_t (i := 814) (by decide +kernel) rfl)
theorem ml_X7_221 : zMl RX7 221 yX7_writeByte := Or.inl (wsG_t (i := 817) (by decide +kernel) rfl)
theorem ml_X7_225 : zMl RX7 225 yX9_isLongJump := Or.inr ⟨"ProbeLoom", by decide +kernel⟩
theorem ml_X7_228 : zMl RX7 228 yX7_writeJump := Or.inl (wsG_t (i := 830) (by decide +kernel) rfl)
theorem ml_X7_232 : zMl RX7 232 yX9_byteAt := Or.inr ⟨"ProbeLoom", by decide +kernel⟩
theorem ml_X7_236 : zMl RX7 236 yX9_targetCount := Or.inr ⟨"ProbeLoom", by decide +kernel⟩
theorem ml_X7_239 : zMl RX7 239 yX7_writePair := Or.inl (wsG_t (i := 834) (by decide +kernel) rfl)
theorem ml_X7_242 : zMl RX7 242 yX7_writeSide := Or.inl (wsG_t (i := 844) (by decide +kernel) rfl)
theorem ml_X7_246 : zMl RX7 246 yX7_writeHandler := Or.inl (wsG_t (i := 864) (by decide +kernel) rfl)
theorem mo_X7_3 : Cond.methodLink RX7 3 Lib.objectInit ∈ wsG := wsG_t (i := 68) (by decide +kernel) rfl
theorem ml_X7_65 : zMl RX7 65 yX7_startAnew := Or.inl (wsG_t (i := 754) (by decide +kernel) rfl)
theorem ml_X7_68 : zMl RX7 68 yX7_countProbes := Or.inl (wsG_t (i := 759) (by decide +kernel) rfl)
theorem ml_X7_72 : zMl RX7 72 yX7_layAll := Or.inl (wsG_t (i := 768) (by decide +kernel) rfl)
theorem ml_X7_76 : zMl RX7 76 yX7_growJumps := Or.inl (wsG_t (i := 777) (by decide +kernel) rfl)
theorem ml_X7_80 : zMl RX7 80 yX7_writeAll := Or.inl (wsG_t (i := 798) (by decide +kernel) rfl)
theorem ml_X7_83 : zMl RX7 83 yJ7_fill_53178 := Or.inl (wsG_t (i := 758) (by decide +kernel) rfl)
theorem mo_X8_3 : Cond.methodLink RX8 3 Lib.objectInit ∈ wsG := wsG_t (i := 133) (by decide +kernel) rfl
theorem ml_X9_107 : zMl RX9 107 yX9_byteAt := Or.inl (wsG_t (i := 538) (by decide +kernel) rfl)
theorem ml_X9_115 : zMl RX9 115 yX8_handlersIfThere := Or.inl (wsG_t (i := 701) (by decide +kernel) rfl)
theorem ml_X9_121 : zMl RX9 121 yX9_handlerPart := Or.inl (wsG_t (i := 705) (by decide +kernel) rfl)
theorem ml_X9_129 : zMl RX9 129 yX3_typeBefore := Or.inl (wsG_t (i := 710) (by decide +kernel) rfl)
theorem ml_X9_133 : zMl RX9 133 yX3_beginsAt := Or.inl (wsG_t (i := 718) (by decide +kernel) rfl)
theorem ml_X9_143 : zMl RX9 143 yX3_takesProbe := Or.inl (wsG_t (i := 723) (by decide +kernel) rfl)
theorem ml_X9_15 : zMl RX9 15 yX5_init := Or.inr ⟨"ProbeLoom", by decide +kernel⟩
theorem ml_X9_150 : zMl RX9 150 yX4_add := Or.inl (wsG_t (i := 738) (by decide +kernel) rfl)
theorem ml_X9_154 : zMl RX9 154 yX7_weaveIn := Or.inl (wsG_t (i := 750) (by decide +kernel) rfl)
theorem ml_X9_158 : zMl RX9 158 yX9_isManner := Or.inl (wsG_t (i := 875) (by decide +kernel) rfl)
theorem ml_X9_161 : zMl RX9 161 yX2_perform := Or.inl (wsG_t (i := 878) (by decide +kernel) rfl)
theorem ml_X9_168 : zMl RX9 168 yX6_tell := Or.inl (wsG_t (i := 1118) (by decide +kernel) rfl)
theorem ml_X9_169 : zMl RX9 169 yX6_markAt := Or.inl (wsG_t (i := 1126) (by decide +kernel) rfl)
theorem ml_X9_175 : zMl RX9 175 yX6_recordPart := Or.inl (wsG_t (i := 1138) (by decide +kernel) rfl)
theorem ml_X9_178 : zMl RX9 178 yX6_recordsOf := Or.inl (wsG_t (i := 1151) (by decide +kernel) rfl)
theorem ml_X9_181 : zMl RX9 181 yX6_recordsKept := Or.inl (wsG_t (i := 1159) (by decide +kernel) rfl)
theorem ml_X9_184 : zMl RX9 184 yJ9_min_7cf53 := Or.inl (wsG_t (i := 1160) (by decide +kernel) rfl)
theorem ml_X9_189 : zMl RX9 189 yX5_formFault := Or.inl (wsG_t (i := 489) (by decide +kernel) rfl)
theorem ml_X9_193 : zMl RX9 193 yX3_jumpFault := Or.inl (wsG_t (i := 549) (by decide +kernel) rfl)
theorem ml_X9_196 : zMl RX9 196 yX3_handlerFault := Or.inl (wsG_t (i := 576) (by decide +kernel) rfl)
theorem ml_X9_199 : zMl RX9 199 yX1_accepts := Or.inl (wsG_t (i := 583) (by decide +kernel) rfl)
theorem ml_X9_203 : zMl RX9 203 yX9_signedPairAt := Or.inl (wsG_t (i := 570) (by decide +kernel) rfl)
theorem ml_X9_207 : zMl RX9 207 yX9_isLongJump := Or.inl (wsG_t (i := 519) (by decide +kernel) rfl)
theorem ml_X9_210 : zMl RX9 210 yX9_shortOf := Or.inl (wsG_t (i := 730) (by decide +kernel) rfl)
theorem ml_X9_216 : zMl RX9 216 yX9_tableSize := Or.inl (wsG_t (i := 539) (by decide +kernel) rfl)
theorem ml_X9_219 : zMl RX9 219 yX9_fixedSize := Or.inl (wsG_t (i := 540) (by decide +kernel) rfl)
theorem ml_X9_22 : zMl RX9 22 yX1_init := Or.inr ⟨"ProbeLoom", by decide +kernel⟩
theorem ml_X9_222 : zMl RX9 222 yX9_isShortJump := Or.inl (wsG_t (i := 564) (by decide +kernel) rfl)
theorem ml_X9_225 : zMl RX9 225 yX9_signedByteAt := Or.inl (wsG_t (i := 573) (by decide +kernel) rfl)
theorem ml_X9_29 : zMl RX9 29 yX7_init := Or.inr ⟨"ProbeLoom", by decide +kernel⟩
theorem mo_X9_3 : Cond.methodLink RX9 3 Lib.objectInit ∈ wsG := wsG_t (i := 20) (by decide +kernel) rfl
theorem ml_X9_49 : zMl RX9 49 yX3_init := Or.inl (wsG_t (i := 124) (by decide +kernel) rfl)
theorem ml_X9_54 : zMl RX9 54 yX6_init := Or.inr ⟨"ProbeLoom", by decide +kernel⟩
theorem ml_X9_57 : zMl RX9 57 yX4_init := Or.inr ⟨"ProbeLoom", by decide +kernel⟩
theorem ml_X9_72 : zMl RX9 72 yX2_init := Or.inl (wsG_t (i := 346) (by decide +kernel) rfl)
theorem ml_X9_79 : zMl RX9 79 yX9_appendWord := Or.inl (wsG_t (i := 473) (by decide +kernel) rfl)
theorem ml_X9_82 : zMl RX9 82 yX9_findFault := Or.inl (wsG_t (i := 485) (by decide +kernel) rfl)
theorem ml_X9_86 : zMl RX9 86 yX9_isMethod := Or.inl (wsG_t (i := 662) (by decide +kernel) rfl)
theorem ml_X9_90 : zMl RX9 90 yX3_tell := Or.inl (wsG_t (i := 666) (by decide +kernel) rfl)
theorem ml_X9_98 : zMl RX9 98 yX8_lengthIfThere := Or.inl (wsG_t (i := 693) (by decide +kernel) rfl)
theorem ml_L_100 : zMl "ProbeLoomLaw" 100 yX9_count := Or.inl (wsG_t (i := 1161) (by decide +kernel) rfl)
theorem ml_L_103 : zMl "ProbeLoomLaw" 103 yX10_count := Or.inl (wsG_t (i := 1850) (by decide +kernel) rfl)
theorem ml_L_12 : zMl "ProbeLoomLaw" 12 yX10_init := Or.inl (wsG_t (i := 1167) (by decide +kernel) rfl)
theorem ml_L_13 : zMl "ProbeLoomLaw" 13 yX9_feed := Or.inl (wsG_t (i := 469) (by decide +kernel) rfl)
theorem ml_L_17 : zMl "ProbeLoomLaw" 17 yX10_feed := Or.inl (wsG_t (i := 1433) (by decide +kernel) rfl)
theorem ml_L_18 : zMl "ProbeLoomLaw" 18 yX9_cut := Or.inl (wsG_t (i := 477) (by decide +kernel) rfl)
theorem ml_L_22 : zMl "ProbeLoomLaw" 22 yX10_cut := Or.inl (wsG_t (i := 1441) (by decide +kernel) rfl)
theorem ml_L_23 : zMl "ProbeLoomLaw" 23 yX9_make := Or.inl (wsG_t (i := 481) (by decide +kernel) rfl)
theorem ml_L_27 : zMl "ProbeLoomLaw" 27 yX10_make := Or.inl (wsG_t (i := 1448) (by decide +kernel) rfl)
theorem ml_L_28 : zMl "ProbeLoomLaw" 28 yX9_place := Or.inl (wsG_t (i := 654) (by decide +kernel) rfl)
theorem ml_L_31 : zMl "ProbeLoomLaw" 31 yX10_place := Or.inl (wsG_t (i := 1547) (by decide +kernel) rfl)
theorem ml_L_32 : zMl "ProbeLoomLaw" 32 yX9_method := Or.inl (wsG_t (i := 658) (by decide +kernel) rfl)
theorem ml_L_36 : zMl "ProbeLoomLaw" 36 yX10_method := Or.inl (wsG_t (i := 1551) (by decide +kernel) rfl)
theorem ml_L_37 : zMl "ProbeLoomLaw" 37 yX9_octet := Or.inl (wsG_t (i := 689) (by decide +kernel) rfl)
theorem ml_L_41 : zMl "ProbeLoomLaw" 41 yX10_octet := Or.inl (wsG_t (i := 1567) (by decide +kernel) rfl)
theorem ml_L_42 : zMl "ProbeLoomLaw" 42 yX9_handler := Or.inl (wsG_t (i := 697) (by decide +kernel) rfl)
theorem ml_L_46 : zMl "ProbeLoomLaw" 46 yX10_handler := Or.inl (wsG_t (i := 1571) (by decide +kernel) rfl)
theorem ml_L_47 : zMl "ProbeLoomLaw" 47 yX9_type := Or.inl (wsG_t (i := 706) (by decide +kernel) rfl)
theorem ml_L_51 : zMl "ProbeLoomLaw" 51 yX10_type := Or.inl (wsG_t (i := 1575) (by decide +kernel) rfl)
theorem ml_L_52 : zMl "ProbeLoomLaw" 52 yX9_moved := Or.inl (wsG_t (i := 714) (by decide +kernel) rfl)
theorem ml_L_55 : zMl "ProbeLoomLaw" 55 yX10_moved := Or.inl (wsG_t (i := 1579) (by decide +kernel) rfl)
theorem ml_L_56 : zMl "ProbeLoomLaw" 56 yX9_probe := Or.inl (wsG_t (i := 719) (by decide +kernel) rfl)
theorem ml_L_59 : zMl "ProbeLoomLaw" 59 yX10_probe := Or.inl (wsG_t (i := 1583) (by decide +kernel) rfl)
theorem ml_L_60 : zMl "ProbeLoomLaw" 60 yX9_clear := Or.inl (wsG_t (i := 742) (by decide +kernel) rfl)
theorem ml_L_63 : zMl "ProbeLoomLaw" 63 yX10_clear := Or.inl (wsG_t (i := 1595) (by decide +kernel) rfl)
theorem ml_L_64 : zMl "ProbeLoomLaw" 64 yX9_weave := Or.inl (wsG_t (i := 746) (by decide +kernel) rfl)
theorem ml_L_67 : zMl "ProbeLoomLaw" 67 yX10_weave := Or.inl (wsG_t (i := 1599) (by decide +kernel) rfl)
theorem ml_L_68 : zMl "ProbeLoomLaw" 68 yX9_unweave := Or.inl (wsG_t (i := 867) (by decide +kernel) rfl)
theorem ml_L_71 : zMl "ProbeLoomLaw" 71 yX10_unweave := Or.inl (wsG_t (i := 1651) (by decide +kernel) rfl)
theorem ml_L_72 : zMl "ProbeLoomLaw" 72 yX9_run := Or.inl (wsG_t (i := 871) (by decide +kernel) rfl)
theorem ml_L_75 : zMl "ProbeLoomLaw" 75 yX10_run := Or.inl (wsG_t (i := 1655) (by decide +kernel) rfl)
theorem ml_L_76 : zMl "ProbeLoomLaw" 76 yX9_told := Or.inl (wsG_t (i := 1114) (by decide +kernel) rfl)
theorem ml_L_79 : zMl "ProbeLoomLaw" 79 yX10_told := Or.inl (wsG_t (i := 1818) (by decide +kernel) rfl)
theorem ml_L_80 : zMl "ProbeLoomLaw" 80 yX9_mark := Or.inl (wsG_t (i := 1122) (by decide +kernel) rfl)
theorem ml_L_83 : zMl "ProbeLoomLaw" 83 yX10_mark := Or.inl (wsG_t (i := 1822) (by decide +kernel) rfl)
theorem ml_L_84 : zMl "ProbeLoomLaw" 84 yX9_field := Or.inl (wsG_t (i := 1130) (by decide +kernel) rfl)
theorem ml_L_87 : zMl "ProbeLoomLaw" 87 yX10_field := Or.inl (wsG_t (i := 1830) (by decide +kernel) rfl)
theorem ml_L_88 : zMl "ProbeLoomLaw" 88 yX9_record := Or.inl (wsG_t (i := 1134) (by decide +kernel) rfl)
theorem ml_L_9 : zMl "ProbeLoomLaw" 9 yX9_init := Or.inl (wsG_t (i := 17) (by decide +kernel) rfl)
theorem ml_L_91 : zMl "ProbeLoomLaw" 91 yX10_record := Or.inl (wsG_t (i := 1834) (by decide +kernel) rfl)
theorem ml_L_92 : zMl "ProbeLoomLaw" 92 yX9_records := Or.inl (wsG_t (i := 1147) (by decide +kernel) rfl)
theorem ml_L_95 : zMl "ProbeLoomLaw" 95 yX10_records := Or.inl (wsG_t (i := 1842) (by decide +kernel) rfl)
theorem ml_L_96 : zMl "ProbeLoomLaw" 96 yX9_differ := Or.inl (wsG_t (i := 1155) (by decide +kernel) rfl)
theorem ml_L_99 : zMl "ProbeLoomLaw" 99 yX10_differ := Or.inl (wsG_t (i := 1846) (by decide +kernel) rfl)
theorem mo_X10_1 : Cond.methodLink RX10 1 Lib.objectInit ∈ wsG := wsG_t (i := 1170) (by decide +kernel) rfl
theorem ml_X10_213 : zMl RX10 213 yX10_four := Or.inl (wsG_t (i := 1437) (by decide +kernel) rfl)
theorem ml_X10_217 : zMl RX10 217 yX10_in := Or.inl (wsG_t (i := 1445) (by decide +kernel) rfl)
theorem ml_X10_222 : zMl RX10 222 yX10_sizeOf := Or.inl (wsG_t (i := 1463) (by decide +kernel) rfl)
theorem ml_X10_226 : zMl RX10 226 yX10_s16 := Or.inl (wsG_t (i := 1493) (by decide +kernel) rfl)
theorem ml_X10_229 : zMl RX10 229 yX10_s8 := Or.inl (wsG_t (i := 1497) (by decide +kernel) rfl)
theorem ml_X10_233 : zMl RX10 233 yX10_isJump := Or.inl (wsG_t (i := 1486) (by decide +kernel) rfl)
theorem ml_X10_240 : zMl RX10 240 yX10_form := Or.inl (wsG_t (i := 1452) (by decide +kernel) rfl)
theorem ml_X10_243 : zMl RX10 243 yX10_fault := Or.inl (wsG_t (i := 1474) (by decide +kernel) rfl)
theorem ml_X10_246 : zMl RX10 246 yX10_wrongJump := Or.inl (wsG_t (i := 1478) (by decide +kernel) rfl)
theorem ml_X10_249 : zMl RX10 249 yX10_wrongHandler := Or.inl (wsG_t (i := 1504) (by decide +kernel) rfl)
theorem ml_X10_252 : zMl RX10 252 yX10_types := Or.inl (wsG_t (i := 1508) (by decide +kernel) rfl)
theorem ml_X10_255 : zMl RX10 255 yX10_instruction := Or.inl (wsG_t (i := 1456) (by decide +kernel) rfl)
theorem ml_X10_259 : zMl RX10 259 yX10_size := Or.inl (wsG_t (i := 1466) (by decide +kernel) rfl)
theorem ml_X10_262 : zMl RX10 262 yX10_rest := Or.inl (wsG_t (i := 1470) (by decide +kernel) rfl)
theorem ml_X10_265 : zMl RX10 265 yX10_isOp := Or.inl (wsG_t (i := 1460) (by decide +kernel) rfl)
theorem ml_X10_268 : zMl RX10 268 yX10_jumps := Or.inl (wsG_t (i := 1482) (by decide +kernel) rfl)
theorem ml_X10_271 : zMl RX10 271 yX10_leads := Or.inl (wsG_t (i := 1489) (by decide +kernel) rfl)
theorem ml_X10_274 : zMl RX10 274 yX10_isBegin := Or.inl (wsG_t (i := 1500) (by decide +kernel) rfl)
theorem ml_X10_285 : zMl RX10 285 yX10_comes := Or.inl (wsG_t (i := 1512) (by decide +kernel) rfl)
theorem ml_X10_292 : zMl RX10 292 yX10_passes := Or.inl (wsG_t (i := 1516) (by decide +kernel) rfl)
theorem ml_X10_295 : zMl RX10 295 yX10_lay := Or.inl (wsG_t (i := 1520) (by decide +kernel) rfl)
theorem ml_X10_298 : zMl RX10 298 yX10_effect := Or.inl (wsG_t (i := 1524) (by decide +kernel) rfl)
theorem ml_X10_302 : zMl RX10 302 yX10_pull := Or.inl (wsG_t (i := 1532) (by decide +kernel) rfl)
theorem ml_X10_306 : zMl RX10 306 yX10_push := Or.inl (wsG_t (i := 1528) (by decide +kernel) rfl)
theorem ml_X10_309 : zMl RX10 309 yX10_ints := Or.inl (wsG_t (i := 1536) (by decide +kernel) rfl)
theorem ml_X10_312 : zMl RX10 312 yX10_rows := Or.inl (wsG_t (i := 1540) (by decide +kernel) rfl)
theorem ml_X10_315 : zMl RX10 315 yX10_taken := Or.inl (wsG_t (i := 1544) (by decide +kernel) rfl)
theorem ml_X10_318 : zMl RX10 318 yX10_isMethod := Or.inl (wsG_t (i := 1555) (by decide +kernel) rfl)
theorem ml_X10_321 : zMl RX10 321 yX10_instructions := Or.inl (wsG_t (i := 1559) (by decide +kernel) rfl)
theorem ml_X10_325 : zMl RX10 325 yX10_isWoven := Or.inl (wsG_t (i := 1563) (by decide +kernel) rfl)
theorem ml_X10_328 : zMl RX10 328 yX10_isTarget := Or.inl (wsG_t (i := 1591) (by decide +kernel) rfl)
theorem ml_X10_331 : zMl RX10 331 yX10_fits := Or.inl (wsG_t (i := 1587) (by decide +kernel) rfl)
theorem ml_X10_338 : zMl RX10 338 yX10_stands := Or.inl (wsG_t (i := 1607) (by decide +kernel) rfl)
theorem ml_X10_344 : zMl RX10 344 yX10_put := Or.inl (wsG_t (i := 1615) (by decide +kernel) rfl)
theorem ml_X10_347 : zMl RX10 347 yX10_layAll := Or.inl (wsG_t (i := 1603) (by decide +kernel) rfl)
theorem ml_X10_350 : zMl RX10 350 yX10_grows := Or.inl (wsG_t (i := 1643) (by decide +kernel) rfl)
theorem ml_X10_353 : zMl RX10 353 yX10_keep := Or.inl (wsG_t (i := 1647) (by decide +kernel) rfl)
theorem ml_X10_359 : zMl RX10 359 yX10_probeOp := Or.inl (wsG_t (i := 1611) (by decide +kernel) rfl)
theorem ml_X10_362 : zMl RX10 362 yX10_group := Or.inl (wsG_t (i := 1619) (by decide +kernel) rfl)
theorem ml_X10_365 : zMl RX10 365 yX10_howMany := Or.inl (wsG_t (i := 1627) (by decide +kernel) rfl)
theorem ml_X10_369 : zMl RX10 369 yX10_pad := Or.inl (wsG_t (i := 1639) (by decide +kernel) rfl)
theorem ml_X10_376 : zMl RX10 376 yX10_itself := Or.inl (wsG_t (i := 1623) (by decide +kernel) rfl)
theorem ml_X10_379 : zMl RX10 379 yX10_padOf := Or.inl (wsG_t (i := 1631) (by decide +kernel) rfl)
theorem ml_X10_382 : zMl RX10 382 yX10_jump := Or.inl (wsG_t (i := 1635) (by decide +kernel) rfl)
theorem ml_X10_394 : zMl RX10 394 yX10_begin := Or.inl (wsG_t (i := 1659) (by decide +kernel) rfl)
theorem ml_X10_397 : zMl RX10 397 yX10_frame := Or.inl (wsG_t (i := 1663) (by decide +kernel) rfl)
theorem ml_X10_400 : zMl RX10 400 yX10_enters := Or.inl (wsG_t (i := 1667) (by decide +kernel) rfl)
theorem ml_X10_406 : zMl RX10 406 yX10_step := Or.inl (wsG_t (i := 1683) (by decide +kernel) rfl)
theorem ml_X10_409 : zMl RX10 409 yX10_keepRun := Or.inl (wsG_t (i := 1814) (by decide +kernel) rfl)
theorem ml_X10_436 : zMl RX10 436 yX10_watched := Or.inl (wsG_t (i := 1671) (by decide +kernel) rfl)
theorem ml_X10_439 : zMl RX10 439 yX10_tellArguments := Or.inl (wsG_t (i := 1675) (by decide +kernel) rfl)
theorem ml_X10_442 : zMl RX10 442 yX10_tell := Or.inl (wsG_t (i := 1679) (by decide +kernel) rfl)
theorem ml_X10_445 : zMl RX10 445 yX10_runsWoven := Or.inl (wsG_t (i := 1691) (by decide +kernel) rfl)
theorem ml_X10_448 : zMl RX10 448 yX10_octetAt := Or.inl (wsG_t (i := 1687) (by decide +kernel) rfl)
theorem ml_X10_451 : zMl RX10 451 yX10_said := Or.inl (wsG_t (i := 1695) (by decide +kernel) rfl)
theorem ml_X10_454 : zMl RX10 454 yX10_jumpTo := Or.inl (wsG_t (i := 1759) (by decide +kernel) rfl)
theorem ml_X10_457 : zMl RX10 457 yX10_ahead := Or.inl (wsG_t (i := 1763) (by decide +kernel) rfl)
theorem ml_X10_460 : zMl RX10 460 yX10_done := Or.inl (wsG_t (i := 1767) (by decide +kernel) rfl)
theorem ml_X10_464 : zMl RX10 464 yX10_isThrown := Or.inl (wsG_t (i := 1727) (by decide +kernel) rfl)
theorem ml_X10_467 : zMl RX10 467 yX10_behind := Or.inl (wsG_t (i := 1786) (by decide +kernel) rfl)
theorem ml_X10_471 : zMl RX10 471 yX10_faults := Or.inl (wsG_t (i := 1723) (by decide +kernel) rfl)
theorem ml_X10_474 : zMl RX10 474 yX10_top := Or.inl (wsG_t (i := 1699) (by decide +kernel) rfl)
theorem ml_X10_477 : zMl RX10 477 yX10_old := Or.inl (wsG_t (i := 1707) (by decide +kernel) rfl)
theorem ml_X10_480 : zMl RX10 480 yX10_stored := Or.inl (wsG_t (i := 1711) (by decide +kernel) rfl)
theorem ml_X10_483 : zMl RX10 483 yX10_setTop := Or.inl (wsG_t (i := 1747) (by decide +kernel) rfl)
theorem ml_X10_486 : zMl RX10 486 yX10_tellStore := Or.inl (wsG_t (i := 1715) (by decide +kernel) rfl)
theorem ml_X10_489 : zMl RX10 489 yX10_replace := Or.inl (wsG_t (i := 1743) (by decide +kernel) rfl)
theorem ml_X10_492 : zMl RX10 492 yX10_oldWoven := Or.inl (wsG_t (i := 1703) (by decide +kernel) rfl)
theorem ml_X10_495 : zMl RX10 495 yX10_faultWoven := Or.inl (wsG_t (i := 1719) (by decide +kernel) rfl)
theorem ml_X10_498 : zMl RX10 498 yX10_take := Or.inl (wsG_t (i := 1751) (by decide +kernel) rfl)
theorem ml_X10_501 : zMl RX10 501 yX10_leaves := Or.inl (wsG_t (i := 1755) (by decide +kernel) rfl)
theorem ml_X10_504 : zMl RX10 504 yX10_catches := Or.inl (wsG_t (i := 1731) (by decide +kernel) rfl)
theorem ml_X10_507 : zMl RX10 507 yX10_caught := Or.inl (wsG_t (i := 1735) (by decide +kernel) rfl)
theorem ml_X10_510 : zMl RX10 510 yX10_give := Or.inl (wsG_t (i := 1739) (by decide +kernel) rfl)
theorem ml_X10_513 : zMl RX10 513 yX10_jump_ := Or.inl (wsG_t (i := 1771) (by decide +kernel) rfl)
theorem ml_X10_515 : zMl RX10 515 yX10_call := Or.inl (wsG_t (i := 1778) (by decide +kernel) rfl)
theorem ml_X10_518 : zMl RX10 518 yX10_gives := Or.inl (wsG_t (i := 1782) (by decide +kernel) rfl)
theorem ml_X10_521 : zMl RX10 521 yX10_plain := Or.inl (wsG_t (i := 1790) (by decide +kernel) rfl)
theorem ml_X10_524 : zMl RX10 524 yX10_holds := Or.inl (wsG_t (i := 1775) (by decide +kernel) rfl)
theorem ml_X10_527 : zMl RX10 527 yX10_swap := Or.inl (wsG_t (i := 1794) (by decide +kernel) rfl)
theorem ml_X10_530 : zMl RX10 530 yX10_marks := Or.inl (wsG_t (i := 1798) (by decide +kernel) rfl)
theorem ml_X10_533 : zMl RX10 533 yX10_other := Or.inl (wsG_t (i := 1802) (by decide +kernel) rfl)
theorem ml_X10_536 : zMl RX10 536 yX10_work := Or.inl (wsG_t (i := 1806) (by decide +kernel) rfl)
theorem ml_X10_539 : zMl RX10 539 yX10_newRow := Or.inl (wsG_t (i := 1810) (by decide +kernel) rfl)
theorem ml_X10_542 : zMl RX10 542 yX10_isRun := Or.inl (wsG_t (i := 1826) (by decide +kernel) rfl)
theorem ml_X10_545 : zMl RX10 545 yX10_kept := Or.inl (wsG_t (i := 1838) (by decide +kernel) rfl)
theorem ml_J7_13 : zMl RJ7 13 yJ7_rangeCheck_23922 := Or.inl (wsG_t (i := 890) (by decide +kernel) rfl)
theorem ldc_X1_47 : Cond.constant RX1 47 (5592405) ∈ wsG := wsG_t (i := 588) (by decide +kernel) rfl
theorem ldc_X1_69 : Cond.constant RX1 69 (1048577) ∈ wsG := wsG_t (i := 603) (by decide +kernel) rfl
theorem ldc_X1_137 : Cond.constant RX1 137 (1048575) ∈ wsG := wsG_t (i := 624) (by decide +kernel) rfl
theorem ldc_X2_105 : Cond.constant RX2 105 (1000000) ∈ wsG := wsG_t (i := 927) (by decide +kernel) rfl
theorem ldc_X9_206 : Cond.constant RX9 206 (65535) ∈ wsG := wsG_t (i := 1054) (by decide +kernel) rfl
theorem ldc_X10_221 : Cond.constant RX10 221 (65536) ∈ wsG := wsG_t (i := 1496) (by decide +kernel) rfl
theorem cl_L_7 : Cond.classLink "ProbeLoomLaw" 7 RX9 ∈ wsG := wsG_t (i := 15) (by decide +kernel) rfl
theorem cl_X9_13 : Cond.classLink RX9 13 RX5 ∈ wsG := wsG_t (i := 23) (by decide +kernel) rfl
theorem cl_X9_20 : Cond.classLink RX9 20 RX1 ∈ wsG := wsG_t (i := 37) (by decide +kernel) rfl
theorem cl_X9_27 : Cond.classLink RX9 27 RX7 ∈ wsG := wsG_t (i := 63) (by decide +kernel) rfl
theorem cl_X9_47 : Cond.classLink RX9 47 RX3 ∈ wsG := wsG_t (i := 121) (by decide +kernel) rfl
theorem cl_X3_27 : Cond.classLink RX3 27 RX8 ∈ wsG := wsG_t (i := 128) (by decide +kernel) rfl
theorem cl_X9_52 : Cond.classLink RX9 52 RX6 ∈ wsG := wsG_t (i := 257) (by decide +kernel) rfl
theorem cl_X9_55 : Cond.classLink RX9 55 RX4 ∈ wsG := wsG_t (i := 314) (by decide +kernel) rfl
theorem cl_X9_70 : Cond.classLink RX9 70 RX2 ∈ wsG := wsG_t (i := 344) (by decide +kernel) rfl
theorem cl_X2_9 : Cond.classLink RX2 9 RX0 ∈ wsG := wsG_t (i := 350) (by decide +kernel) rfl
theorem cl_L_10 : Cond.classLink "ProbeLoomLaw" 10 RX10 ∈ wsG := wsG_t (i := 1165) (by decide +kernel) rfl
theorem ins_X9 : Cond.instantiable RX9 12 ∈ wsG := wsG_t (i := 16) (by decide +kernel) rfl
theorem ini_X9 : Cond.initialized RX9 ∈ wsG := wsG_t (i := 1) (by decide +kernel) rfl
theorem ins_X5 : Cond.instantiable RX5 2 ∈ wsG := wsG_t (i := 24) (by decide +kernel) rfl
theorem ini_X5 : Cond.initialized RX5 ∈ wsG := wsG_t (i := 2) (by decide +kernel) rfl
theorem ins_X1 : Cond.instantiable RX1 6 ∈ wsG := wsG_t (i := 38) (by decide +kernel) rfl
theorem ini_X1 : Cond.initialized RX1 ∈ wsG := wsG_t (i := 3) (by decide +kernel) rfl
theorem ins_X7 : Cond.instantiable RX7 17 ∈ wsG := wsG_t (i := 64) (by decide +kernel) rfl
theorem ini_X7 : Cond.initialized RX7 ∈ wsG := wsG_t (i := 4) (by decide +kernel) rfl
theorem ins_X3 : Cond.instantiable RX3 11 ∈ wsG := wsG_t (i := 123) (by decide +kernel) rfl
theorem ini_X3 : Cond.initialized RX3 ∈ wsG := wsG_t (i := 5) (by decide +kernel) rfl
theorem ins_X8 : Cond.instantiable RX8 11 ∈ wsG := wsG_t (i := 129) (by decide +kernel) rfl
theorem ini_X8 : Cond.initialized RX8 ∈ wsG := wsG_t (i := 6) (by decide +kernel) rfl
theorem ins_X6 : Cond.instantiable RX6 13 ∈ wsG := wsG_t (i := 259) (by decide +kernel) rfl
theorem ini_X6 : Cond.initialized RX6 ∈ wsG := wsG_t (i := 7) (by decide +kernel) rfl
theorem ins_X4 : Cond.instantiable RX4 6 ∈ wsG := wsG_t (i := 315) (by decide +kernel) rfl
theorem ini_X4 : Cond.initialized RX4 ∈ wsG := wsG_t (i := 8) (by decide +kernel) rfl
theorem ins_X2 : Cond.instantiable RX2 17 ∈ wsG := wsG_t (i := 345) (by decide +kernel) rfl
theorem ini_X2 : Cond.initialized RX2 ∈ wsG := wsG_t (i := 9) (by decide +kernel) rfl
theorem ins_X0 : Cond.instantiable RX0 6 ∈ wsG := wsG_t (i := 352) (by decide +kernel) rfl
theorem ini_X0 : Cond.initialized RX0 ∈ wsG := wsG_t (i := 10) (by decide +kernel) rfl
theorem ins_X10 : Cond.instantiable RX10 87 ∈ wsG := wsG_t (i := 1166) (by decide +kernel) rfl
theorem ini_X10 : Cond.initialized RX10 ∈ wsG := wsG_t (i := 11) (by decide +kernel) rfl
theorem bp_m128 : (Int8.ofInt (-128)).toInt32 = (-128 : Int32) := by decide +kernel
theorem bp_m10 : (Int8.ofInt (-10)).toInt32 = (-10 : Int32) := by decide +kernel
theorem bp_m3 : (Int8.ofInt (-3)).toInt32 = (-3 : Int32) := by decide +kernel
theorem bp_m2 : (Int8.ofInt (-2)).toInt32 = (-2 : Int32) := by decide +kernel
theorem bp_6 : (Int8.ofInt (6)).toInt32 = (6 : Int32) := by decide +kernel
theorem bp_7 : (Int8.ofInt (7)).toInt32 = (7 : Int32) := by decide +kernel
theorem bp_8 : (Int8.ofInt (8)).toInt32 = (8 : Int32) := by decide +kernel
theorem bp_9 : (Int8.ofInt (9)).toInt32 = (9 : Int32) := by decide +kernel
theorem bp_10 : (Int8.ofInt (10)).toInt32 = (10 : Int32) := by decide +kernel
theorem bp_11 : (Int8.ofInt (11)).toInt32 = (11 : Int32) := by decide +kernel
theorem bp_12 : (Int8.ofInt (12)).toInt32 = (12 : Int32) := by decide +kernel
theorem bp_13 : (Int8.ofInt (13)).toInt32 = (13 : Int32) := by decide +kernel
theorem bp_16 : (Int8.ofInt (16)).toInt32 = (16 : Int32) := by decide +kernel
theorem bp_18 : (Int8.ofInt (18)).toInt32 = (18 : Int32) := by decide +kernel
theorem bp_19 : (Int8.ofInt (19)).toInt32 = (19 : Int32) := by decide +kernel
theorem bp_20 : (Int8.ofInt (20)).toInt32 = (20 : Int32) := by decide +kernel
theorem bp_21 : (Int8.ofInt (21)).toInt32 = (21 : Int32) := by decide +kernel
theorem bp_22 : (Int8.ofInt (22)).toInt32 = (22 : Int32) := by decide +kernel
theorem bp_24 : (Int8.ofInt (24)).toInt32 = (24 : Int32) := by decide +kernel
theorem bp_26 : (Int8.ofInt (26)).toInt32 = (26 : Int32) := by decide +kernel
theorem bp_27 : (Int8.ofInt (27)).toInt32 = (27 : Int32) := by decide +kernel
theorem bp_30 : (Int8.ofInt (30)).toInt32 = (30 : Int32) := by decide +kernel
theorem bp_31 : (Int8.ofInt (31)).toInt32 = (31 : Int32) := by decide +kernel
theorem bp_32 : (Int8.ofInt (32)).toInt32 = (32 : Int32) := by decide +kernel
theorem bp_33 : (Int8.ofInt (33)).toInt32 = (33 : Int32) := by decide +kernel
theorem bp_34 : (Int8.ofInt (34)).toInt32 = (34 : Int32) := by decide +kernel
theorem bp_35 : (Int8.ofInt (35)).toInt32 = (35 : Int32) := by decide +kernel
theorem bp_36 : (Int8.ofInt (36)).toInt32 = (36 : Int32) := by decide +kernel
theorem bp_37 : (Int8.ofInt (37)).toInt32 = (37 : Int32) := by decide +kernel
theorem bp_38 : (Int8.ofInt (38)).toInt32 = (38 : Int32) := by decide +kernel
theorem bp_39 : (Int8.ofInt (39)).toInt32 = (39 : Int32) := by decide +kernel
theorem bp_40 : (Int8.ofInt (40)).toInt32 = (40 : Int32) := by decide +kernel
theorem bp_41 : (Int8.ofInt (41)).toInt32 = (41 : Int32) := by decide +kernel
theorem bp_42 : (Int8.ofInt (42)).toInt32 = (42 : Int32) := by decide +kernel
theorem bp_43 : (Int8.ofInt (43)).toInt32 = (43 : Int32) := by decide +kernel
theorem bp_48 : (Int8.ofInt (48)).toInt32 = (48 : Int32) := by decide +kernel
theorem bp_49 : (Int8.ofInt (49)).toInt32 = (49 : Int32) := by decide +kernel
theorem bp_50 : (Int8.ofInt (50)).toInt32 = (50 : Int32) := by decide +kernel
theorem bp_51 : (Int8.ofInt (51)).toInt32 = (51 : Int32) := by decide +kernel
theorem bp_52 : (Int8.ofInt (52)).toInt32 = (52 : Int32) := by decide +kernel
theorem bp_53 : (Int8.ofInt (53)).toInt32 = (53 : Int32) := by decide +kernel
theorem bp_54 : (Int8.ofInt (54)).toInt32 = (54 : Int32) := by decide +kernel
theorem bp_55 : (Int8.ofInt (55)).toInt32 = (55 : Int32) := by decide +kernel
theorem bp_56 : (Int8.ofInt (56)).toInt32 = (56 : Int32) := by decide +kernel
theorem bp_57 : (Int8.ofInt (57)).toInt32 = (57 : Int32) := by decide +kernel
theorem bp_58 : (Int8.ofInt (58)).toInt32 = (58 : Int32) := by decide +kernel
theorem bp_60 : (Int8.ofInt (60)).toInt32 = (60 : Int32) := by decide +kernel
theorem bp_64 : (Int8.ofInt (64)).toInt32 = (64 : Int32) := by decide +kernel
theorem bp_84 : (Int8.ofInt (84)).toInt32 = (84 : Int32) := by decide +kernel
theorem bp_85 : (Int8.ofInt (85)).toInt32 = (85 : Int32) := by decide +kernel
theorem bp_90 : (Int8.ofInt (90)).toInt32 = (90 : Int32) := by decide +kernel
theorem bp_91 : (Int8.ofInt (91)).toInt32 = (91 : Int32) := by decide +kernel
theorem bp_96 : (Int8.ofInt (96)).toInt32 = (96 : Int32) := by decide +kernel
theorem bp_99 : (Int8.ofInt (99)).toInt32 = (99 : Int32) := by decide +kernel
theorem bp_100 : (Int8.ofInt (100)).toInt32 = (100 : Int32) := by decide +kernel
theorem bp_101 : (Int8.ofInt (101)).toInt32 = (101 : Int32) := by decide +kernel
theorem bp_102 : (Int8.ofInt (102)).toInt32 = (102 : Int32) := by decide +kernel
theorem bp_103 : (Int8.ofInt (103)).toInt32 = (103 : Int32) := by decide +kernel
theorem bp_104 : (Int8.ofInt (104)).toInt32 = (104 : Int32) := by decide +kernel
theorem bp_105 : (Int8.ofInt (105)).toInt32 = (105 : Int32) := by decide +kernel
theorem bp_127 : (Int8.ofInt (127)).toInt32 = (127 : Int32) := by decide +kernel
theorem ic_m1 : Int32.ofInt (-1) = (-1 : Int32) := by decide +kernel
theorem ic_0 : Int32.ofInt (0) = (0 : Int32) := by decide +kernel
theorem ic_1 : Int32.ofInt (1) = (1 : Int32) := by decide +kernel
theorem ic_2 : Int32.ofInt (2) = (2 : Int32) := by decide +kernel
theorem ic_3 : Int32.ofInt (3) = (3 : Int32) := by decide +kernel
theorem ic_4 : Int32.ofInt (4) = (4 : Int32) := by decide +kernel
theorem ic_5 : Int32.ofInt (5) = (5 : Int32) := by decide +kernel
theorem sp_144 : (Int16.ofInt (144)).toInt32 = (144 : Int32) := by decide +kernel
theorem sp_180 : (Int16.ofInt (180)).toInt32 = (180 : Int32) := by decide +kernel
theorem sp_255 : (Int16.ofInt (255)).toInt32 = (255 : Int32) := by decide +kernel
theorem sp_256 : (Int16.ofInt (256)).toInt32 = (256 : Int32) := by decide +kernel
theorem sp_400 : (Int16.ofInt (400)).toInt32 = (400 : Int32) := by decide +kernel
theorem sp_401 : (Int16.ofInt (401)).toInt32 = (401 : Int32) := by decide +kernel
theorem sp_500 : (Int16.ofInt (500)).toInt32 = (500 : Int32) := by decide +kernel
theorem sp_580 : (Int16.ofInt (580)).toInt32 = (580 : Int32) := by decide +kernel
theorem sp_600 : (Int16.ofInt (600)).toInt32 = (600 : Int32) := by decide +kernel
theorem sp_800 : (Int16.ofInt (800)).toInt32 = (800 : Int32) := by decide +kernel
theorem sp_1000 : (Int16.ofInt (1000)).toInt32 = (1000 : Int32) := by decide +kernel
theorem sp_1200 : (Int16.ofInt (1200)).toInt32 = (1200 : Int32) := by decide +kernel
theorem sp_1508 : (Int16.ofInt (1508)).toInt32 = (1508 : Int32) := by decide +kernel
theorem sp_1550 : (Int16.ofInt (1550)).toInt32 = (1550 : Int32) := by decide +kernel
theorem sp_2400 : (Int16.ofInt (2400)).toInt32 = (2400 : Int32) := by decide +kernel
theorem sp_3000 : (Int16.ofInt (3000)).toInt32 = (3000 : Int32) := by decide +kernel
theorem sp_4000 : (Int16.ofInt (4000)).toInt32 = (4000 : Int32) := by decide +kernel
theorem sp_5200 : (Int16.ofInt (5200)).toInt32 = (5200 : Int32) := by decide +kernel
theorem sp_6000 : (Int16.ofInt (6000)).toInt32 = (6000 : Int32) := by decide +kernel
theorem sp_24000 : (Int16.ofInt (24000)).toInt32 = (24000 : Int32) := by decide +kernel
theorem sp_28800 : (Int16.ofInt (28800)).toInt32 = (28800 : Int32) := by decide +kernel
theorem sp_32767 : (Int16.ofInt (32767)).toInt32 = (32767 : Int32) := by decide +kernel
