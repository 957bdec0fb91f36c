/-! the tables' words by their places: classes, fields, calls, constants -/
theorem mt_cf0 : mt_CF 0 RX0 TX0 11 tyX0 := ⟨rfl, by decide, rfl, mt_mems (by decide +kernel) (by decide +kernel), tyX0_ok, nmX0⟩
theorem mt_cf1 : mt_CF 1 RX1 TX1 7 tyX1 := ⟨rfl, by decide, rfl, mt_mems (by decide +kernel) (by decide +kernel), tyX1_ok, nmX1⟩
theorem mt_cf2 : mt_CF 2 RX2 TX2 3 tyX2 := ⟨rfl, by decide, rfl, mt_mems (by decide +kernel) (by decide +kernel), tyX2_ok, nmX2⟩
theorem mt_cf3 : mt_CF 3 RX3 TX3 4 tyX3 := ⟨rfl, by decide, rfl, mt_mems (by decide +kernel) (by decide +kernel), tyX3_ok, nmX3⟩
theorem mt_cf4 : mt_CF 4 RX4 TX4 5 tyX4 := ⟨rfl, by decide, rfl, mt_mems (by decide +kernel) (by decide +kernel), tyX4_ok, nmX4⟩
theorem mt_cf5 : mt_CF 5 RX5 TX5 2 tyX5 := ⟨rfl, by decide, rfl, mt_mems (by decide +kernel) (by decide +kernel), tyX5_ok, nmX5⟩
theorem mt_cf6 : mt_CF 6 RX6 TX6 7 tyX6 := ⟨rfl, by decide, rfl, mt_mems (by decide +kernel) (by decide +kernel), tyX6_ok, nmX6⟩
theorem mt_cf7 : mt_CF 7 RX7 TX7 2 tyX7 := ⟨rfl, by decide, rfl, mt_mems (by decide +kernel) (by decide +kernel), tyX7_ok, nmX7⟩
theorem mt_cf8 : mt_CF 8 RX8 TX8 3 tyX8 := ⟨rfl, by decide, rfl, mt_mems (by decide +kernel) (by decide +kernel), tyX8_ok, nmX8⟩
theorem mt_cf9 : mt_CF 9 RX9 TX9 4 tyX9 := ⟨rfl, by decide, rfl, mt_mems (by decide +kernel) (by decide +kernel), tyX9_ok, nmX9⟩
theorem mt_cf10 : mt_CF 10 RX10 TX10 10 tyX10 := ⟨rfl, by decide, rfl, mt_mems (by decide +kernel) (by decide +kernel), tyX10_ok, nmX10⟩
theorem mt_cf11 : mt_CF 11 RX11 TX11 39 tyX11 := ⟨rfl, by decide, rfl, mt_mems (by decide +kernel) (by decide +kernel), tyX11_ok, nmX11⟩
set_option maxRecDepth 20000 in
theorem mt_cdX10_init : Cond.code yX10_init cX10_init 2 none ∈ mt_tb := mt_mem (i := 87) rfl rfl
theorem mt_ciL_22 : mt_CI RL 22 yX10_init cX10_init 2 0 := ⟨⟨mt_mem (i := 85) (by decide +kernel) rfl, mt_cdX10_init, mt_mem (i := 63) (by decide +kernel) rfl, by decide, by decide +kernel, by decide +kernel, by decide +kernel⟩, rfl, mt_mem (i := 86) (by decide +kernel) rfl⟩
set_option maxRecDepth 20000 in
theorem mt_cdX7_init : Cond.code yX7_init cX7_init 1 none ∈ mt_tb := mt_mem (i := 95) rfl rfl
theorem mt_ciX10_9 : mt_CI RX10 9 yX7_init cX7_init 1 0 := ⟨⟨mt_mem (i := 93) (by decide +kernel) rfl, mt_cdX7_init, mt_mem (i := 64) (by decide +kernel) rfl, by decide, by decide +kernel, by decide +kernel, by decide +kernel⟩, rfl, mt_mem (i := 94) (by decide +kernel) rfl⟩
theorem mt_flX7_11 : mt_FL RX7 11 7 0 2 true (.array .byte) := ⟨RX7, TX7, 2, tyX7, mt_cf7, rfl, mt_mem (i := 97) (by decide +kernel) rfl, rfl, rfl, rfl⟩
theorem mt_flX7_15 : mt_FL RX7 15 7 1 0 false .int := ⟨RX7, TX7, 2, tyX7, mt_cf7, rfl, mt_mem (i := 98) (by decide +kernel) rfl, rfl, rfl, rfl⟩
set_option maxRecDepth 20000 in
theorem mt_cdX0_init : Cond.code yX0_init cX0_init 1 none ∈ mt_tb := mt_mem (i := 109) rfl rfl
theorem mt_ciX10_18 : mt_CI RX10 18 yX0_init cX0_init 1 0 := ⟨⟨mt_mem (i := 107) (by decide +kernel) rfl, mt_cdX0_init, mt_mem (i := 65) (by decide +kernel) rfl, by decide, by decide +kernel, by decide +kernel, by decide +kernel⟩, rfl, mt_mem (i := 108) (by decide +kernel) rfl⟩
theorem mt_flX0_9 : mt_FL RX0 9 0 0 2 true (.array .int) := ⟨RX0, TX0, 11, tyX0, mt_cf0, rfl, mt_mem (i := 111) (by decide +kernel) rfl, rfl, rfl, rfl⟩
theorem mt_flX0_13 : mt_FL RX0 13 0 1 2 true (.array .int) := ⟨RX0, TX0, 11, tyX0, mt_cf0, rfl, mt_mem (i := 112) (by decide +kernel) rfl, rfl, rfl, rfl⟩
theorem mt_flX0_16 : mt_FL RX0 16 0 2 2 true (.array .int) := ⟨RX0, TX0, 11, tyX0, mt_cf0, rfl, mt_mem (i := 113) (by decide +kernel) rfl, rfl, rfl, rfl⟩
theorem mt_flX0_19 : mt_FL RX0 19 0 3 2 true (.array .int) := ⟨RX0, TX0, 11, tyX0, mt_cf0, rfl, mt_mem (i := 114) (by decide +kernel) rfl, rfl, rfl, rfl⟩
theorem mt_flX0_22 : mt_FL RX0 22 0 4 2 true (.array .int) := ⟨RX0, TX0, 11, tyX0, mt_cf0, rfl, mt_mem (i := 115) (by decide +kernel) rfl, rfl, rfl, rfl⟩
theorem mt_flX0_32 : mt_FL RX0 32 0 5 0 false .int := ⟨RX0, TX0, 11, tyX0, mt_cf0, rfl, mt_mem (i := 116) (by decide +kernel) rfl, rfl, rfl, rfl⟩
theorem mt_flX0_35 : mt_FL RX0 35 0 6 0 false .int := ⟨RX0, TX0, 11, tyX0, mt_cf0, rfl, mt_mem (i := 117) (by decide +kernel) rfl, rfl, rfl, rfl⟩
theorem mt_flX0_38 : mt_FL RX0 38 0 7 0 false .boolean := ⟨RX0, TX0, 11, tyX0, mt_cf0, rfl, mt_mem (i := 118) (by decide +kernel) rfl, rfl, rfl, rfl⟩
theorem mt_flX0_42 : mt_FL RX0 42 0 8 0 false .int := ⟨RX0, TX0, 11, tyX0, mt_cf0, rfl, mt_mem (i := 119) (by decide +kernel) rfl, rfl, rfl, rfl⟩
theorem mt_flX0_25 : mt_FL RX0 25 0 9 0 false .int := ⟨RX0, TX0, 11, tyX0, mt_cf0, rfl, mt_mem (i := 120) (by decide +kernel) rfl, rfl, rfl, rfl⟩
theorem mt_flX0_29 : mt_FL RX0 29 0 10 0 false .int := ⟨RX0, TX0, 11, tyX0, mt_cf0, rfl, mt_mem (i := 121) (by decide +kernel) rfl, rfl, rfl, rfl⟩
set_option maxRecDepth 20000 in
theorem mt_cdX5_init : Cond.code yX5_init cX5_init 1 none ∈ mt_tb := mt_mem (i := 150) rfl rfl
theorem mt_ciX10_25 : mt_CI RX10 25 yX5_init cX5_init 1 0 := ⟨⟨mt_mem (i := 148) (by decide +kernel) rfl, mt_cdX5_init, mt_mem (i := 66) (by decide +kernel) rfl, by decide, by decide +kernel, by decide +kernel, by decide +kernel⟩, rfl, mt_mem (i := 149) (by decide +kernel) rfl⟩
set_option maxRecDepth 20000 in
theorem mt_cdX4_init : Cond.code yX4_init cX4_init 1 none ∈ mt_tb := mt_mem (i := 156) rfl rfl
theorem mt_ciX5_11 : mt_CI RX5 11 yX4_init cX4_init 1 0 := ⟨⟨mt_mem (i := 154) (by decide +kernel) rfl, mt_cdX4_init, mt_mem (i := 67) (by decide +kernel) rfl, by decide, by decide +kernel, by decide +kernel, by decide +kernel⟩, rfl, mt_mem (i := 155) (by decide +kernel) rfl⟩
set_option maxRecDepth 20000 in
theorem mt_cdX4_goHome : Cond.code yX4_goHome cX4_goHome 1 none ∈ mt_tb := mt_mem (i := 161) rfl rfl
theorem mt_cvX4_9 : mt_CV RX4 9 yX4_goHome cX4_goHome 1 none 0 4 := ⟨⟨mt_mem (i := 158) (by decide +kernel) rfl, mt_cdX4_goHome, mt_mem (i := 67) (by decide +kernel) rfl, by decide, by decide +kernel, by decide +kernel, by decide +kernel⟩, mt_mem (i := 159) (by decide +kernel) rfl, mt_mem (i := 160) (by decide +kernel) rfl, by decide, _, rfl, rfl⟩
theorem mt_flX4_14 : mt_FL RX4 14 4 0 0 false .int := ⟨RX4, TX4, 5, tyX4, mt_cf4, rfl, mt_mem (i := 162) (by decide +kernel) rfl, rfl, rfl, rfl⟩
theorem mt_flX4_18 : mt_FL RX4 18 4 1 0 false .int := ⟨RX4, TX4, 5, tyX4, mt_cf4, rfl, mt_mem (i := 163) (by decide +kernel) rfl, rfl, rfl, rfl⟩
theorem mt_flX4_21 : mt_FL RX4 21 4 2 0 false .int := ⟨RX4, TX4, 5, tyX4, mt_cf4, rfl, mt_mem (i := 164) (by decide +kernel) rfl, rfl, rfl, rfl⟩
theorem mt_flX4_24 : mt_FL RX4 24 4 3 0 false .int := ⟨RX4, TX4, 5, tyX4, mt_cf4, rfl, mt_mem (i := 165) (by decide +kernel) rfl, rfl, rfl, rfl⟩
theorem mt_flX4_27 : mt_FL RX4 27 4 4 0 false .int := ⟨RX4, TX4, 5, tyX4, mt_cf4, rfl, mt_mem (i := 166) (by decide +kernel) rfl, rfl, rfl, rfl⟩
set_option maxRecDepth 20000 in
theorem mt_cdX3_init : Cond.code yX3_init cX3_init 1 none ∈ mt_tb := mt_mem (i := 182) rfl rfl
theorem mt_ciX5_20 : mt_CI RX5 20 yX3_init cX3_init 1 0 := ⟨⟨mt_mem (i := 180) (by decide +kernel) rfl, mt_cdX3_init, mt_mem (i := 68) (by decide +kernel) rfl, by decide, by decide +kernel, by decide +kernel, by decide +kernel⟩, rfl, mt_mem (i := 181) (by decide +kernel) rfl⟩
theorem mt_flX3_9 : mt_FL RX3 9 3 0 2 true (.array .long) := ⟨RX3, TX3, 4, tyX3, mt_cf3, rfl, mt_mem (i := 184) (by decide +kernel) rfl, rfl, rfl, rfl⟩
theorem mt_flX3_15 : mt_FL RX3 15 3 1 2 true (.array .int) := ⟨RX3, TX3, 4, tyX3, mt_cf3, rfl, mt_mem (i := 185) (by decide +kernel) rfl, rfl, rfl, rfl⟩
theorem mt_flX3_19 : mt_FL RX3 19 3 2 2 true (.array .int) := ⟨RX3, TX3, 4, tyX3, mt_cf3, rfl, mt_mem (i := 186) (by decide +kernel) rfl, rfl, rfl, rfl⟩
theorem mt_flX3_22 : mt_FL RX3 22 3 3 0 false .int := ⟨RX3, TX3, 4, tyX3, mt_cf3, rfl, mt_mem (i := 187) (by decide +kernel) rfl, rfl, rfl, rfl⟩
theorem mt_flX5_12 : mt_FL RX5 12 5 0 2 true (.object "MarkovTree$Place") := ⟨RX5, TX5, 2, tyX5, mt_cf5, rfl, mt_mem (i := 198) (by decide +kernel) rfl, rfl, rfl, rfl⟩
theorem mt_flX5_21 : mt_FL RX5 21 5 1 2 true (.object "MarkovTree$Marks") := ⟨RX5, TX5, 2, tyX5, mt_cf5, rfl, mt_mem (i := 199) (by decide +kernel) rfl, rfl, rfl, rfl⟩
set_option maxRecDepth 20000 in
theorem mt_cdX2_init : Cond.code yX2_init cX2_init 2 none ∈ mt_tb := mt_mem (i := 209) rfl rfl
theorem mt_ciX10_32 : mt_CI RX10 32 yX2_init cX2_init 2 0 := ⟨⟨mt_mem (i := 207) (by decide +kernel) rfl, mt_cdX2_init, mt_mem (i := 69) (by decide +kernel) rfl, by decide, by decide +kernel, by decide +kernel, by decide +kernel⟩, rfl, mt_mem (i := 208) (by decide +kernel) rfl⟩
theorem mt_ciX2_17 : mt_CI RX2 17 yX5_init cX5_init 1 0 := ⟨⟨mt_mem (i := 213) (by decide +kernel) rfl, mt_cdX5_init, mt_mem (i := 66) (by decide +kernel) rfl, by decide, by decide +kernel, by decide +kernel, by decide +kernel⟩, rfl, mt_mem (i := 149) (by decide +kernel) rfl⟩
theorem mt_flX2_13 : mt_FL RX2 13 2 0 2 true (.array (.object "MarkovTree$State")) := ⟨RX2, TX2, 3, tyX2, mt_cf2, rfl, mt_mem (i := 214) (by decide +kernel) rfl, rfl, rfl, rfl⟩
theorem mt_flX2_18 : mt_FL RX2 18 2 1 0 false .int := ⟨RX2, TX2, 3, tyX2, mt_cf2, rfl, mt_mem (i := 215) (by decide +kernel) rfl, rfl, rfl, rfl⟩
theorem mt_flX2_22 : mt_FL RX2 22 2 2 0 false .int := ⟨RX2, TX2, 3, tyX2, mt_cf2, rfl, mt_mem (i := 216) (by decide +kernel) rfl, rfl, rfl, rfl⟩
set_option maxRecDepth 20000 in
theorem mt_cdX8_init : Cond.code yX8_init cX8_init 1 none ∈ mt_tb := mt_mem (i := 228) rfl rfl
theorem mt_ciX10_47 : mt_CI RX10 47 yX8_init cX8_init 1 0 := ⟨⟨mt_mem (i := 226) (by decide +kernel) rfl, mt_cdX8_init, mt_mem (i := 70) (by decide +kernel) rfl, by decide, by decide +kernel, by decide +kernel, by decide +kernel⟩, rfl, mt_mem (i := 227) (by decide +kernel) rfl⟩
theorem mt_ciX8_17 : mt_CI RX8 17 yX4_init cX4_init 1 0 := ⟨⟨mt_mem (i := 231) (by decide +kernel) rfl, mt_cdX4_init, mt_mem (i := 67) (by decide +kernel) rfl, by decide, by decide +kernel, by decide +kernel, by decide +kernel⟩, rfl, mt_mem (i := 155) (by decide +kernel) rfl⟩
theorem mt_flX8_11 : mt_FL RX8 11 8 0 2 true (.array .byte) := ⟨RX8, TX8, 3, tyX8, mt_cf8, rfl, mt_mem (i := 232) (by decide +kernel) rfl, rfl, rfl, rfl⟩
theorem mt_flX8_18 : mt_FL RX8 18 8 1 2 true (.object "MarkovTree$Place") := ⟨RX8, TX8, 3, tyX8, mt_cf8, rfl, mt_mem (i := 233) (by decide +kernel) rfl, rfl, rfl, rfl⟩
theorem mt_flX8_22 : mt_FL RX8 22 8 2 0 false .int := ⟨RX8, TX8, 3, tyX8, mt_cf8, rfl, mt_mem (i := 234) (by decide +kernel) rfl, rfl, rfl, rfl⟩
set_option maxRecDepth 20000 in
theorem mt_cdX9_init : Cond.code yX9_init cX9_init 1 none ∈ mt_tb := mt_mem (i := 247) rfl rfl
theorem mt_ciX10_54 : mt_CI RX10 54 yX9_init cX9_init 1 0 := ⟨⟨mt_mem (i := 245) (by decide +kernel) rfl, mt_cdX9_init, mt_mem (i := 71) (by decide +kernel) rfl, by decide, by decide +kernel, by decide +kernel, by decide +kernel⟩, rfl, mt_mem (i := 246) (by decide +kernel) rfl⟩
set_option maxRecDepth 20000 in
theorem mt_cdX9_setTo : Cond.code yX9_setTo cX9_setTo 4 none ∈ mt_tb := mt_mem (i := 252) rfl rfl
theorem mt_cvX9_7 : mt_CV RX9 7 yX9_setTo cX9_setTo 4 none 2 9 := ⟨⟨mt_mem (i := 249) (by decide +kernel) rfl, mt_cdX9_setTo, mt_mem (i := 71) (by decide +kernel) rfl, by decide, by decide +kernel, by decide +kernel, by decide +kernel⟩, mt_mem (i := 250) (by decide +kernel) rfl, mt_mem (i := 251) (by decide +kernel) rfl, by decide, _, rfl, rfl⟩
set_option maxRecDepth 20000 in
theorem mt_cdX9_letterIsA : Cond.code yX9_letterIsA cX9_letterIsA 4 (some .boolean) ∈ mt_tb := mt_mem (i := 255) rfl rfl
theorem mt_csX9_26 : mt_CS RX9 26 yX9_letterIsA cX9_letterIsA 4 (some .boolean) 3 := ⟨⟨mt_mem (i := 253) (by decide +kernel) rfl, mt_cdX9_letterIsA, mt_mem (i := 71) (by decide +kernel) rfl, by decide, by decide +kernel, by decide +kernel, by decide +kernel⟩, mt_mem (i := 254) (by decide +kernel) rfl⟩
theorem mt_kX9_30 : Cond.constantLong RX9 30 (2) ∈ mt_tb := mt_mem (i := 256) (by decide +kernel) rfl
set_option maxRecDepth 20000 in
theorem mt_cdX9_multiply : Cond.code yX9_multiply cX9_multiply 11 none ∈ mt_tb := mt_mem (i := 260) rfl rfl
theorem mt_cvX9_32 : mt_CV RX9 32 yX9_multiply cX9_multiply 11 none 3 9 := ⟨⟨mt_mem (i := 257) (by decide +kernel) rfl, mt_cdX9_multiply, mt_mem (i := 71) (by decide +kernel) rfl, by decide, by decide +kernel, by decide +kernel, by decide +kernel⟩, mt_mem (i := 259) (by decide +kernel) rfl, mt_mem (i := 0) (by decide +kernel) rfl, by decide, _, rfl, rfl⟩
theorem mt_kX9_36 : Cond.constantLong RX9 36 (5) ∈ mt_tb := mt_mem (i := 261) (by decide +kernel) rfl
theorem mt_flX9_13 : mt_FL RX9 13 9 0 1 false .long := ⟨RX9, TX9, 4, tyX9, mt_cf9, rfl, mt_mem (i := 262) (by decide +kernel) rfl, rfl, rfl, rfl⟩
theorem mt_flX9_17 : mt_FL RX9 17 9 1 1 false .long := ⟨RX9, TX9, 4, tyX9, mt_cf9, rfl, mt_mem (i := 263) (by decide +kernel) rfl, rfl, rfl, rfl⟩
theorem mt_flX9_20 : mt_FL RX9 20 9 2 1 false .long := ⟨RX9, TX9, 4, tyX9, mt_cf9, rfl, mt_mem (i := 264) (by decide +kernel) rfl, rfl, rfl, rfl⟩
theorem mt_flX9_23 : mt_FL RX9 23 9 3 1 false .long := ⟨RX9, TX9, 4, tyX9, mt_cf9, rfl, mt_mem (i := 265) (by decide +kernel) rfl, rfl, rfl, rfl⟩
set_option maxRecDepth 20000 in
theorem mt_cdX1_init : Cond.code yX1_init cX1_init 1 none ∈ mt_tb := mt_mem (i := 279) rfl rfl
theorem mt_ciX10_61 : mt_CI RX10 61 yX1_init cX1_init 1 0 := ⟨⟨mt_mem (i := 277) (by decide +kernel) rfl, mt_cdX1_init, mt_mem (i := 72) (by decide +kernel) rfl, by decide, by decide +kernel, by decide +kernel, by decide +kernel⟩, rfl, mt_mem (i := 278) (by decide +kernel) rfl⟩
theorem mt_kX1_7 : Cond.constantLong RX1 7 (5) ∈ mt_tb := mt_mem (i := 281) (by decide +kernel) rfl
theorem mt_kX1_9 : Cond.constantLong RX1 9 (3) ∈ mt_tb := mt_mem (i := 282) (by decide +kernel) rfl
set_option maxRecDepth 20000 in
theorem mt_cdX1_set : Cond.code yX1_set cX1_set 7 none ∈ mt_tb := mt_mem (i := 286) rfl rfl
theorem mt_cvX1_11 : mt_CV RX1 11 yX1_set cX1_set 7 none 2 1 := ⟨⟨mt_mem (i := 283) (by decide +kernel) rfl, mt_cdX1_set, mt_mem (i := 72) (by decide +kernel) rfl, by decide, by decide +kernel, by decide +kernel, by decide +kernel⟩, mt_mem (i := 284) (by decide +kernel) rfl, mt_mem (i := 285) (by decide +kernel) rfl, by decide, _, rfl, rfl⟩
theorem mt_kX1_21 : Cond.constantLong RX1 21 (2) ∈ mt_tb := mt_mem (i := 287) (by decide +kernel) rfl
theorem mt_kX1_29 : Cond.constantLong RX1 29 (9) ∈ mt_tb := mt_mem (i := 288) (by decide +kernel) rfl
theorem mt_kX1_31 : Cond.constantLong RX1 31 (4) ∈ mt_tb := mt_mem (i := 289) (by decide +kernel) rfl
theorem mt_flX1_17 : mt_FL RX1 17 1 0 1 false .long := ⟨RX1, TX1, 7, tyX1, mt_cf1, rfl, mt_mem (i := 290) (by decide +kernel) rfl, rfl, rfl, rfl⟩
theorem mt_flX1_23 : mt_FL RX1 23 1 1 1 false .long := ⟨RX1, TX1, 7, tyX1, mt_cf1, rfl, mt_mem (i := 291) (by decide +kernel) rfl, rfl, rfl, rfl⟩
theorem mt_flX1_26 : mt_FL RX1 26 1 2 1 false .long := ⟨RX1, TX1, 7, tyX1, mt_cf1, rfl, mt_mem (i := 292) (by decide +kernel) rfl, rfl, rfl, rfl⟩
theorem mt_flX1_33 : mt_FL RX1 33 1 3 1 false .long := ⟨RX1, TX1, 7, tyX1, mt_cf1, rfl, mt_mem (i := 293) (by decide +kernel) rfl, rfl, rfl, rfl⟩
theorem mt_flX1_36 : mt_FL RX1 36 1 4 1 false .long := ⟨RX1, TX1, 7, tyX1, mt_cf1, rfl, mt_mem (i := 294) (by decide +kernel) rfl, rfl, rfl, rfl⟩
theorem mt_flX1_39 : mt_FL RX1 39 1 5 0 false .int := ⟨RX1, TX1, 7, tyX1, mt_cf1, rfl, mt_mem (i := 295) (by decide +kernel) rfl, rfl, rfl, rfl⟩
theorem mt_flX1_43 : mt_FL RX1 43 1 6 1 false .long := ⟨RX1, TX1, 7, tyX1, mt_cf1, rfl, mt_mem (i := 296) (by decide +kernel) rfl, rfl, rfl, rfl⟩
set_option maxRecDepth 20000 in
theorem mt_cdX6_init : Cond.code yX6_init cX6_init 1 none ∈ mt_tb := mt_mem (i := 316) rfl rfl
theorem mt_ciX10_68 : mt_CI RX10 68 yX6_init cX6_init 1 0 := ⟨⟨mt_mem (i := 314) (by decide +kernel) rfl, mt_cdX6_init, mt_mem (i := 73) (by decide +kernel) rfl, by decide, by decide +kernel, by decide +kernel, by decide +kernel⟩, rfl, mt_mem (i := 315) (by decide +kernel) rfl⟩
theorem mt_flX6_11 : mt_FL RX6 11 6 0 2 true (.array .long) := ⟨RX6, TX6, 7, tyX6, mt_cf6, rfl, mt_mem (i := 318) (by decide +kernel) rfl, rfl, rfl, rfl⟩
theorem mt_flX6_15 : mt_FL RX6 15 6 1 2 true (.array .long) := ⟨RX6, TX6, 7, tyX6, mt_cf6, rfl, mt_mem (i := 319) (by decide +kernel) rfl, rfl, rfl, rfl⟩
theorem mt_flX6_18 : mt_FL RX6 18 6 2 2 true (.array .long) := ⟨RX6, TX6, 7, tyX6, mt_cf6, rfl, mt_mem (i := 320) (by decide +kernel) rfl, rfl, rfl, rfl⟩
theorem mt_flX6_21 : mt_FL RX6 21 6 3 2 true (.array .int) := ⟨RX6, TX6, 7, tyX6, mt_cf6, rfl, mt_mem (i := 321) (by decide +kernel) rfl, rfl, rfl, rfl⟩
theorem mt_flX6_25 : mt_FL RX6 25 6 4 2 true (.array .long) := ⟨RX6, TX6, 7, tyX6, mt_cf6, rfl, mt_mem (i := 322) (by decide +kernel) rfl, rfl, rfl, rfl⟩
theorem mt_flX6_28 : mt_FL RX6 28 6 5 0 false .int := ⟨RX6, TX6, 7, tyX6, mt_cf6, rfl, mt_mem (i := 323) (by decide +kernel) rfl, rfl, rfl, rfl⟩
theorem mt_flX6_32 : mt_FL RX6 32 6 6 0 false .int := ⟨RX6, TX6, 7, tyX6, mt_cf6, rfl, mt_mem (i := 324) (by decide +kernel) rfl, rfl, rfl, rfl⟩
theorem mt_flX10_10 : mt_FL RX10 10 10 0 2 true (.object "MarkovTree$Tape") := ⟨RX10, TX10, 10, tyX10, mt_cf10, rfl, mt_mem (i := 340) (by decide +kernel) rfl, rfl, rfl, rfl⟩
theorem mt_flX10_19 : mt_FL RX10 19 10 1 2 true (.object "MarkovTree$Course") := ⟨RX10, TX10, 10, tyX10, mt_cf10, rfl, mt_mem (i := 341) (by decide +kernel) rfl, rfl, rfl, rfl⟩
theorem mt_flX10_26 : mt_FL RX10 26 10 2 2 true (.object "MarkovTree$State") := ⟨RX10, TX10, 10, tyX10, mt_cf10, rfl, mt_mem (i := 342) (by decide +kernel) rfl, rfl, rfl, rfl⟩
theorem mt_flX10_33 : mt_FL RX10 33 10 3 2 true (.object "MarkovTree$History") := ⟨RX10, TX10, 10, tyX10, mt_cf10, rfl, mt_mem (i := 343) (by decide +kernel) rfl, rfl, rfl, rfl⟩
theorem mt_flX10_37 : mt_FL RX10 37 10 4 2 true (.array (.object "MarkovTree$State")) := ⟨RX10, TX10, 10, tyX10, mt_cf10, rfl, mt_mem (i := 344) (by decide +kernel) rfl, rfl, rfl, rfl⟩
theorem mt_flX10_41 : mt_FL RX10 41 10 5 2 true (.array .boolean) := ⟨RX10, TX10, 10, tyX10, mt_cf10, rfl, mt_mem (i := 345) (by decide +kernel) rfl, rfl, rfl, rfl⟩
theorem mt_flX10_48 : mt_FL RX10 48 10 6 2 true (.object "MarkovTree$Telling") := ⟨RX10, TX10, 10, tyX10, mt_cf10, rfl, mt_mem (i := 346) (by decide +kernel) rfl, rfl, rfl, rfl⟩
theorem mt_flX10_55 : mt_FL RX10 55 10 7 2 true (.object "MarkovTree$Word") := ⟨RX10, TX10, 10, tyX10, mt_cf10, rfl, mt_mem (i := 347) (by decide +kernel) rfl, rfl, rfl, rfl⟩
theorem mt_flX10_62 : mt_FL RX10 62 10 8 2 true (.object "MarkovTree$Form") := ⟨RX10, TX10, 10, tyX10, mt_cf10, rfl, mt_mem (i := 348) (by decide +kernel) rfl, rfl, rfl, rfl⟩
theorem mt_flX10_69 : mt_FL RX10 69 10 9 2 true (.object "MarkovTree$Table") := ⟨RX10, TX10, 10, tyX10, mt_cf10, rfl, mt_mem (i := 349) (by decide +kernel) rfl, rfl, rfl, rfl⟩
set_option maxRecDepth 20000 in
theorem mt_cdX10_feed : Cond.code yX10_feed cX10_feed 6 (some .int) ∈ mt_tb := mt_mem (i := 374) rfl rfl
theorem mt_cvL_26 : mt_CV RL 26 yX10_feed cX10_feed 6 (some .int) 5 10 := ⟨⟨mt_mem (i := 371) (by decide +kernel) rfl, mt_cdX10_feed, mt_mem (i := 63) (by decide +kernel) rfl, by decide, by decide +kernel, by decide +kernel, by decide +kernel⟩, mt_mem (i := 372) (by decide +kernel) rfl, mt_mem (i := 373) (by decide +kernel) rfl, by decide, _, rfl, rfl⟩
set_option maxRecDepth 20000 in
theorem mt_cdX7_hasRoom : Cond.code yX7_hasRoom cX7_hasRoom 1 (some .boolean) ∈ mt_tb := mt_mem (i := 378) rfl rfl
theorem mt_cvX10_73 : mt_CV RX10 73 yX7_hasRoom cX7_hasRoom 1 (some .boolean) 0 7 := ⟨⟨mt_mem (i := 375) (by decide +kernel) rfl, mt_cdX7_hasRoom, mt_mem (i := 64) (by decide +kernel) rfl, by decide, by decide +kernel, by decide +kernel, by decide +kernel⟩, mt_mem (i := 376) (by decide +kernel) rfl, mt_mem (i := 377) (by decide +kernel) rfl, by decide, _, rfl, rfl⟩
set_option maxRecDepth 20000 in
theorem mt_cdX7_putNumber : Cond.code yX7_putNumber cX7_putNumber 3 none ∈ mt_tb := mt_mem (i := 382) rfl rfl
theorem mt_cvX10_77 : mt_CV RX10 77 yX7_putNumber cX7_putNumber 3 none 1 7 := ⟨⟨mt_mem (i := 379) (by decide +kernel) rfl, mt_cdX7_putNumber, mt_mem (i := 64) (by decide +kernel) rfl, by decide, by decide +kernel, by decide +kernel, by decide +kernel⟩, mt_mem (i := 380) (by decide +kernel) rfl, mt_mem (i := 381) (by decide +kernel) rfl, by decide, _, rfl, rfl⟩
set_option maxRecDepth 20000 in
theorem mt_cdX7_length : Cond.code yX7_length cX7_length 1 (some .int) ∈ mt_tb := mt_mem (i := 386) rfl rfl
theorem mt_cvX10_81 : mt_CV RX10 81 yX7_length cX7_length 1 (some .int) 0 7 := ⟨⟨mt_mem (i := 383) (by decide +kernel) rfl, mt_cdX7_length, mt_mem (i := 64) (by decide +kernel) rfl, by decide, by decide +kernel, by decide +kernel, by decide +kernel⟩, mt_mem (i := 384) (by decide +kernel) rfl, mt_mem (i := 385) (by decide +kernel) rfl, by decide, _, rfl, rfl⟩
set_option maxRecDepth 20000 in
theorem mt_cdX10_end : Cond.code yX10_end cX10_end 2 (some .boolean) ∈ mt_tb := mt_mem (i := 390) rfl rfl
theorem mt_cvL_31 : mt_CV RL 31 yX10_end cX10_end 2 (some .boolean) 1 10 := ⟨⟨mt_mem (i := 387) (by decide +kernel) rfl, mt_cdX10_end, mt_mem (i := 63) (by decide +kernel) rfl, by decide, by decide +kernel, by decide +kernel, by decide +kernel⟩, mt_mem (i := 388) (by decide +kernel) rfl, mt_mem (i := 389) (by decide +kernel) rfl, by decide, _, rfl, rfl⟩
set_option maxRecDepth 20000 in
theorem mt_cdX7_cutTo : Cond.code yX7_cutTo cX7_cutTo 2 (some .boolean) ∈ mt_tb := mt_mem (i := 394) rfl rfl
theorem mt_cvX10_85 : mt_CV RX10 85 yX7_cutTo cX7_cutTo 2 (some .boolean) 1 7 := ⟨⟨mt_mem (i := 391) (by decide +kernel) rfl, mt_cdX7_cutTo, mt_mem (i := 64) (by decide +kernel) rfl, by decide, by decide +kernel, by decide +kernel, by decide +kernel⟩, mt_mem (i := 392) (by decide +kernel) rfl, mt_mem (i := 393) (by decide +kernel) rfl, by decide, _, rfl, rfl⟩
set_option maxRecDepth 20000 in
theorem mt_cdX10_path : Cond.code yX10_path cX10_path 2 (some .int) ∈ mt_tb := mt_mem (i := 398) rfl rfl
theorem mt_cvL_36 : mt_CV RL 36 yX10_path cX10_path 2 (some .int) 0 10 := ⟨⟨mt_mem (i := 395) (by decide +kernel) rfl, mt_cdX10_path, mt_mem (i := 63) (by decide +kernel) rfl, by decide, by decide +kernel, by decide +kernel, by decide +kernel⟩, mt_mem (i := 396) (by decide +kernel) rfl, mt_mem (i := 397) (by decide +kernel) rfl, by decide, _, rfl, rfl⟩
set_option maxRecDepth 20000 in
theorem mt_cdX0_read : Cond.code yX0_read cX0_read 5 none ∈ mt_tb := mt_mem (i := 402) rfl rfl
theorem mt_cvX10_89 : mt_CV RX10 89 yX0_read cX0_read 5 none 1 0 := ⟨⟨mt_mem (i := 399) (by decide +kernel) rfl, mt_cdX0_read, mt_mem (i := 65) (by decide +kernel) rfl, by decide, by decide +kernel, by decide +kernel, by decide +kernel⟩, mt_mem (i := 400) (by decide +kernel) rfl, mt_mem (i := 401) (by decide +kernel) rfl, by decide, _, rfl, rfl⟩
theorem mt_cvX0_45 : mt_CV RX0 45 yX7_length cX7_length 1 (some .int) 0 7 := ⟨⟨mt_mem (i := 403) (by decide +kernel) rfl, mt_cdX7_length, mt_mem (i := 64) (by decide +kernel) rfl, by decide, by decide +kernel, by decide +kernel, by decide +kernel⟩, mt_mem (i := 384) (by decide +kernel) rfl, mt_mem (i := 385) (by decide +kernel) rfl, by decide, _, rfl, rfl⟩
set_option maxRecDepth 20000 in
theorem mt_cdX0_fail : Cond.code yX0_fail cX0_fail 3 none ∈ mt_tb := mt_mem (i := 407) rfl rfl
theorem mt_cvX0_51 : mt_CV RX0 51 yX0_fail cX0_fail 3 none 2 0 := ⟨⟨mt_mem (i := 404) (by decide +kernel) rfl, mt_cdX0_fail, mt_mem (i := 65) (by decide +kernel) rfl, by decide, by decide +kernel, by decide +kernel, by decide +kernel⟩, mt_mem (i := 406) (by decide +kernel) rfl, mt_mem (i := 1) (by decide +kernel) rfl, by decide, _, rfl, rfl⟩
set_option maxRecDepth 20000 in
theorem mt_cdX7_at : Cond.code yX7_at cX7_at 2 (some .int) ∈ mt_tb := mt_mem (i := 411) rfl rfl
theorem mt_cvX0_55 : mt_CV RX0 55 yX7_at cX7_at 2 (some .int) 1 7 := ⟨⟨mt_mem (i := 408) (by decide +kernel) rfl, mt_cdX7_at, mt_mem (i := 64) (by decide +kernel) rfl, by decide, by decide +kernel, by decide +kernel, by decide +kernel⟩, mt_mem (i := 409) (by decide +kernel) rfl, mt_mem (i := 410) (by decide +kernel) rfl, by decide, _, rfl, rfl⟩
set_option maxRecDepth 20000 in
theorem mt_cdX0_isDigit : Cond.code yX0_isDigit cX0_isDigit 1 (some .boolean) ∈ mt_tb := mt_mem (i := 414) rfl rfl
theorem mt_csX0_59 : mt_CS RX0 59 yX0_isDigit cX0_isDigit 1 (some .boolean) 1 := ⟨⟨mt_mem (i := 412) (by decide +kernel) rfl, mt_cdX0_isDigit, mt_mem (i := 65) (by decide +kernel) rfl, by decide, by decide +kernel, by decide +kernel, by decide +kernel⟩, mt_mem (i := 413) (by decide +kernel) rfl⟩
set_option maxRecDepth 20000 in
theorem mt_cdX0_readNumber : Cond.code yX0_readNumber cX0_readNumber 5 (some .int) ∈ mt_tb := mt_mem (i := 418) rfl rfl
theorem mt_cvX0_63 : mt_CV RX0 63 yX0_readNumber cX0_readNumber 5 (some .int) 2 0 := ⟨⟨mt_mem (i := 415) (by decide +kernel) rfl, mt_cdX0_readNumber, mt_mem (i := 65) (by decide +kernel) rfl, by decide, by decide +kernel, by decide +kernel, by decide +kernel⟩, mt_mem (i := 417) (by decide +kernel) rfl, mt_mem (i := 2) (by decide +kernel) rfl, by decide, _, rfl, rfl⟩
set_option maxRecDepth 20000 in
theorem mt_cdJ9_min_7cf53 : Cond.code yJ9_min_7cf53 cJ9_min_7cf53 2 (some .int) ∈ mt_tb := mt_mem (i := 421) rfl rfl
theorem mt_csX0_71 : mt_CS RX0 71 yJ9_min_7cf53 cJ9_min_7cf53 2 (some .int) 2 := ⟨⟨mt_mem (i := 419) (by decide +kernel) rfl, mt_cdJ9_min_7cf53, mt_mem (i := 75) (by decide +kernel) rfl, by decide, by decide +kernel, by decide +kernel, by decide +kernel⟩, mt_mem (i := 420) (by decide +kernel) rfl⟩
set_option maxRecDepth 20000 in
theorem mt_cdX0_readSign : Cond.code yX0_readSign cX0_readSign 3 (some .int) ∈ mt_tb := mt_mem (i := 425) rfl rfl
theorem mt_cvX0_67 : mt_CV RX0 67 yX0_readSign cX0_readSign 3 (some .int) 2 0 := ⟨⟨mt_mem (i := 422) (by decide +kernel) rfl, mt_cdX0_readSign, mt_mem (i := 65) (by decide +kernel) rfl, by decide, by decide +kernel, by decide +kernel, by decide +kernel⟩, mt_mem (i := 424) (by decide +kernel) rfl, mt_mem (i := 3) (by decide +kernel) rfl, by decide, _, rfl, rfl⟩
set_option maxRecDepth 20000 in
theorem mt_cdX0_putAct : Cond.code yX0_putAct cX0_putAct 3 none ∈ mt_tb := mt_mem (i := 429) rfl rfl
theorem mt_cvX0_76 : mt_CV RX0 76 yX0_putAct cX0_putAct 3 none 2 0 := ⟨⟨mt_mem (i := 426) (by decide +kernel) rfl, mt_cdX0_putAct, mt_mem (i := 65) (by decide +kernel) rfl, by decide, by decide +kernel, by decide +kernel, by decide +kernel⟩, mt_mem (i := 428) (by decide +kernel) rfl, mt_mem (i := 4) (by decide +kernel) rfl, by decide, _, rfl, rfl⟩
set_option maxRecDepth 20000 in
theorem mt_cdX0_openBracket : Cond.code yX0_openBracket cX0_openBracket 2 none ∈ mt_tb := mt_mem (i := 433) rfl rfl
theorem mt_cvX0_79 : mt_CV RX0 79 yX0_openBracket cX0_openBracket 2 none 1 0 := ⟨⟨mt_mem (i := 430) (by decide +kernel) rfl, mt_cdX0_openBracket, mt_mem (i := 65) (by decide +kernel) rfl, by decide, by decide +kernel, by decide +kernel, by decide +kernel⟩, mt_mem (i := 432) (by decide +kernel) rfl, mt_mem (i := 5) (by decide +kernel) rfl, by decide, _, rfl, rfl⟩
set_option maxRecDepth 20000 in
theorem mt_cdX0_closeBracket : Cond.code yX0_closeBracket cX0_closeBracket 3 none ∈ mt_tb := mt_mem (i := 437) rfl rfl
theorem mt_cvX0_83 : mt_CV RX0 83 yX0_closeBracket cX0_closeBracket 3 none 1 0 := ⟨⟨mt_mem (i := 434) (by decide +kernel) rfl, mt_cdX0_closeBracket, mt_mem (i := 65) (by decide +kernel) rfl, by decide, by decide +kernel, by decide +kernel, by decide +kernel⟩, mt_mem (i := 436) (by decide +kernel) rfl, mt_mem (i := 6) (by decide +kernel) rfl, by decide, _, rfl, rfl⟩
set_option maxRecDepth 20000 in
theorem mt_cdX0_faultKind : Cond.code yX0_faultKind cX0_faultKind 1 (some .int) ∈ mt_tb := mt_mem (i := 441) rfl rfl
theorem mt_cvX10_93 : mt_CV RX10 93 yX0_faultKind cX0_faultKind 1 (some .int) 0 0 := ⟨⟨mt_mem (i := 438) (by decide +kernel) rfl, mt_cdX0_faultKind, mt_mem (i := 65) (by decide +kernel) rfl, by decide, by decide +kernel, by decide +kernel, by decide +kernel⟩, mt_mem (i := 439) (by decide +kernel) rfl, mt_mem (i := 440) (by decide +kernel) rfl, by decide, _, rfl, rfl⟩
set_option maxRecDepth 20000 in
theorem mt_cdX0_faultPlace : Cond.code yX0_faultPlace cX0_faultPlace 1 (some .int) ∈ mt_tb := mt_mem (i := 445) rfl rfl
theorem mt_cvX10_96 : mt_CV RX10 96 yX0_faultPlace cX0_faultPlace 1 (some .int) 0 0 := ⟨⟨mt_mem (i := 442) (by decide +kernel) rfl, mt_cdX0_faultPlace, mt_mem (i := 65) (by decide +kernel) rfl, by decide, by decide +kernel, by decide +kernel, by decide +kernel⟩, mt_mem (i := 443) (by decide +kernel) rfl, mt_mem (i := 444) (by decide +kernel) rfl, by decide, _, rfl, rfl⟩
set_option maxRecDepth 20000 in
theorem mt_cdX2_note : Cond.code yX2_note cX2_note 2 none ∈ mt_tb := mt_mem (i := 449) rfl rfl
theorem mt_cvX10_99 : mt_CV RX10 99 yX2_note cX2_note 2 none 1 2 := ⟨⟨mt_mem (i := 446) (by decide +kernel) rfl, mt_cdX2_note, mt_mem (i := 69) (by decide +kernel) rfl, by decide, by decide +kernel, by decide +kernel, by decide +kernel⟩, mt_mem (i := 447) (by decide +kernel) rfl, mt_mem (i := 448) (by decide +kernel) rfl, by decide, _, rfl, rfl⟩
set_option maxRecDepth 20000 in
theorem mt_cdX5_copyFrom : Cond.code yX5_copyFrom cX5_copyFrom 2 none ∈ mt_tb := mt_mem (i := 453) rfl rfl
theorem mt_cvX2_25 : mt_CV RX2 25 yX5_copyFrom cX5_copyFrom 2 none 1 5 := ⟨⟨mt_mem (i := 450) (by decide +kernel) rfl, mt_cdX5_copyFrom, mt_mem (i := 66) (by decide +kernel) rfl, by decide, by decide +kernel, by decide +kernel, by decide +kernel⟩, mt_mem (i := 451) (by decide +kernel) rfl, mt_mem (i := 452) (by decide +kernel) rfl, by decide, _, rfl, rfl⟩
set_option maxRecDepth 20000 in
theorem mt_cdX4_copyFrom : Cond.code yX4_copyFrom cX4_copyFrom 2 none ∈ mt_tb := mt_mem (i := 457) rfl rfl
theorem mt_cvX5_36 : mt_CV RX5 36 yX4_copyFrom cX4_copyFrom 2 none 1 4 := ⟨⟨mt_mem (i := 454) (by decide +kernel) rfl, mt_cdX4_copyFrom, mt_mem (i := 67) (by decide +kernel) rfl, by decide, by decide +kernel, by decide +kernel, by decide +kernel⟩, mt_mem (i := 455) (by decide +kernel) rfl, mt_mem (i := 456) (by decide +kernel) rfl, by decide, _, rfl, rfl⟩
set_option maxRecDepth 20000 in
theorem mt_cdX3_copyFrom : Cond.code yX3_copyFrom cX3_copyFrom 3 none ∈ mt_tb := mt_mem (i := 461) rfl rfl
theorem mt_cvX5_40 : mt_CV RX5 40 yX3_copyFrom cX3_copyFrom 3 none 1 3 := ⟨⟨mt_mem (i := 458) (by decide +kernel) rfl, mt_cdX3_copyFrom, mt_mem (i := 68) (by decide +kernel) rfl, by decide, by decide +kernel, by decide +kernel, by decide +kernel⟩, mt_mem (i := 459) (by decide +kernel) rfl, mt_mem (i := 460) (by decide +kernel) rfl, by decide, _, rfl, rfl⟩
set_option maxRecDepth 20000 in
theorem mt_cdX3_copyRow : Cond.code yX3_copyRow cX3_copyRow 4 none ∈ mt_tb := mt_mem (i := 465) rfl rfl
theorem mt_cvX3_26 : mt_CV RX3 26 yX3_copyRow cX3_copyRow 4 none 3 3 := ⟨⟨mt_mem (i := 462) (by decide +kernel) rfl, mt_cdX3_copyRow, mt_mem (i := 68) (by decide +kernel) rfl, by decide, by decide +kernel, by decide +kernel, by decide +kernel⟩, mt_mem (i := 464) (by decide +kernel) rfl, mt_mem (i := 7) (by decide +kernel) rfl, by decide, _, rfl, rfl⟩
set_option maxRecDepth 20000 in
theorem mt_cdX5_place : Cond.code yX5_place cX5_place 1 (some (.object "MarkovTree$Place")) ∈ mt_tb := mt_mem (i := 469) rfl rfl
theorem mt_cvX10_103 : mt_CV RX10 103 yX5_place cX5_place 1 (some (.object "MarkovTree$Place")) 0 5 := ⟨⟨mt_mem (i := 466) (by decide +kernel) rfl, mt_cdX5_place, mt_mem (i := 66) (by decide +kernel) rfl, by decide, by decide +kernel, by decide +kernel, by decide +kernel⟩, mt_mem (i := 467) (by decide +kernel) rfl, mt_mem (i := 468) (by decide +kernel) rfl, by decide, _, rfl, rfl⟩
set_option maxRecDepth 20000 in
theorem mt_cdX0_run : Cond.code yX0_run cX0_run 7 (some .int) ∈ mt_tb := mt_mem (i := 473) rfl rfl
theorem mt_cvX10_107 : mt_CV RX10 107 yX0_run cX0_run 7 (some .int) 1 0 := ⟨⟨mt_mem (i := 470) (by decide +kernel) rfl, mt_cdX0_run, mt_mem (i := 65) (by decide +kernel) rfl, by decide, by decide +kernel, by decide +kernel, by decide +kernel⟩, mt_mem (i := 471) (by decide +kernel) rfl, mt_mem (i := 472) (by decide +kernel) rfl, by decide, _, rfl, rfl⟩
theorem mt_kX0_86 : Cond.constant RX0 86 (1000000) ∈ mt_tb := mt_mem (i := 474) (by decide +kernel) rfl
set_option maxRecDepth 20000 in
theorem mt_cdX0_afterBracket : Cond.code yX0_afterBracket cX0_afterBracket 2 (some .int) ∈ mt_tb := mt_mem (i := 478) rfl rfl
theorem mt_cvX0_87 : mt_CV RX0 87 yX0_afterBracket cX0_afterBracket 2 (some .int) 1 0 := ⟨⟨mt_mem (i := 475) (by decide +kernel) rfl, mt_cdX0_afterBracket, mt_mem (i := 65) (by decide +kernel) rfl, by decide, by decide +kernel, by decide +kernel, by decide +kernel⟩, mt_mem (i := 477) (by decide +kernel) rfl, mt_mem (i := 8) (by decide +kernel) rfl, by decide, _, rfl, rfl⟩
set_option maxRecDepth 20000 in
theorem mt_cdX0_doOften : Cond.code yX0_doOften cX0_doOften 4 (some .int) ∈ mt_tb := mt_mem (i := 481) rfl rfl
theorem mt_csX0_90 : mt_CS RX0 90 yX0_doOften cX0_doOften 4 (some .int) 3 := ⟨⟨mt_mem (i := 479) (by decide +kernel) rfl, mt_cdX0_doOften, mt_mem (i := 65) (by decide +kernel) rfl, by decide, by decide +kernel, by decide +kernel, by decide +kernel⟩, mt_mem (i := 480) (by decide +kernel) rfl⟩
set_option maxRecDepth 20000 in
theorem mt_cdX0_doOnce : Cond.code yX0_doOnce cX0_doOnce 2 (some .boolean) ∈ mt_tb := mt_mem (i := 484) rfl rfl
theorem mt_csX0_94 : mt_CS RX0 94 yX0_doOnce cX0_doOnce 2 (some .boolean) 2 := ⟨⟨mt_mem (i := 482) (by decide +kernel) rfl, mt_cdX0_doOnce, mt_mem (i := 65) (by decide +kernel) rfl, by decide, by decide +kernel, by decide +kernel, by decide +kernel⟩, mt_mem (i := 483) (by decide +kernel) rfl⟩
set_option maxRecDepth 20000 in
theorem mt_cdX4_stepLeft : Cond.code yX4_stepLeft cX4_stepLeft 1 (some .boolean) ∈ mt_tb := mt_mem (i := 488) rfl rfl
theorem mt_cvX0_98 : mt_CV RX0 98 yX4_stepLeft cX4_stepLeft 1 (some .boolean) 0 4 := ⟨⟨mt_mem (i := 485) (by decide +kernel) rfl, mt_cdX4_stepLeft, mt_mem (i := 67) (by decide +kernel) rfl, by decide, by decide +kernel, by decide +kernel, by decide +kernel⟩, mt_mem (i := 486) (by decide +kernel) rfl, mt_mem (i := 487) (by decide +kernel) rfl, by decide, _, rfl, rfl⟩
set_option maxRecDepth 20000 in
theorem mt_cdX4_together : Cond.code yX4_together cX4_together 1 (some .int) ∈ mt_tb := mt_mem (i := 492) rfl rfl
theorem mt_cvX4_37 : mt_CV RX4 37 yX4_together cX4_together 1 (some .int) 0 4 := ⟨⟨mt_mem (i := 489) (by decide +kernel) rfl, mt_cdX4_together, mt_mem (i := 67) (by decide +kernel) rfl, by decide, by decide +kernel, by decide +kernel, by decide +kernel⟩, mt_mem (i := 490) (by decide +kernel) rfl, mt_mem (i := 491) (by decide +kernel) rfl, by decide, _, rfl, rfl⟩
set_option maxRecDepth 20000 in
theorem mt_cdX4_p : Cond.code yX4_p cX4_p 1 (some .int) ∈ mt_tb := mt_mem (i := 496) rfl rfl
theorem mt_cvX4_30 : mt_CV RX4 30 yX4_p cX4_p 1 (some .int) 0 4 := ⟨⟨mt_mem (i := 493) (by decide +kernel) rfl, mt_cdX4_p, mt_mem (i := 67) (by decide +kernel) rfl, by decide, by decide +kernel, by decide +kernel, by decide +kernel⟩, mt_mem (i := 494) (by decide +kernel) rfl, mt_mem (i := 495) (by decide +kernel) rfl, by decide, _, rfl, rfl⟩
set_option maxRecDepth 20000 in
theorem mt_cdX4_q : Cond.code yX4_q cX4_q 1 (some .int) ∈ mt_tb := mt_mem (i := 500) rfl rfl
theorem mt_cvX4_34 : mt_CV RX4 34 yX4_q cX4_q 1 (some .int) 0 4 := ⟨⟨mt_mem (i := 497) (by decide +kernel) rfl, mt_cdX4_q, mt_mem (i := 67) (by decide +kernel) rfl, by decide, by decide +kernel, by decide +kernel, by decide +kernel⟩, mt_mem (i := 498) (by decide +kernel) rfl, mt_mem (i := 499) (by decide +kernel) rfl, by decide, _, rfl, rfl⟩
set_option maxRecDepth 20000 in
theorem mt_cdX4_stepRight : Cond.code yX4_stepRight cX4_stepRight 1 (some .boolean) ∈ mt_tb := mt_mem (i := 504) rfl rfl
theorem mt_cvX0_104 : mt_CV RX0 104 yX4_stepRight cX4_stepRight 1 (some .boolean) 0 4 := ⟨⟨mt_mem (i := 501) (by decide +kernel) rfl, mt_cdX4_stepRight, mt_mem (i := 67) (by decide +kernel) rfl, by decide, by decide +kernel, by decide +kernel, by decide +kernel⟩, mt_mem (i := 502) (by decide +kernel) rfl, mt_mem (i := 503) (by decide +kernel) rfl, by decide, _, rfl, rfl⟩
set_option maxRecDepth 20000 in
theorem mt_cdX4_stepUp : Cond.code yX4_stepUp cX4_stepUp 1 (some .boolean) ∈ mt_tb := mt_mem (i := 508) rfl rfl
theorem mt_cvX0_107 : mt_CV RX0 107 yX4_stepUp cX4_stepUp 1 (some .boolean) 0 4 := ⟨⟨mt_mem (i := 505) (by decide +kernel) rfl, mt_cdX4_stepUp, mt_mem (i := 67) (by decide +kernel) rfl, by decide, by decide +kernel, by decide +kernel, by decide +kernel⟩, mt_mem (i := 506) (by decide +kernel) rfl, mt_mem (i := 507) (by decide +kernel) rfl, by decide, _, rfl, rfl⟩
theorem mt_cvX0_110 : mt_CV RX0 110 yX4_goHome cX4_goHome 1 none 0 4 := ⟨⟨mt_mem (i := 509) (by decide +kernel) rfl, mt_cdX4_goHome, mt_mem (i := 67) (by decide +kernel) rfl, by decide, by decide +kernel, by decide +kernel, by decide +kernel⟩, mt_mem (i := 159) (by decide +kernel) rfl, mt_mem (i := 160) (by decide +kernel) rfl, by decide, _, rfl, rfl⟩
set_option maxRecDepth 20000 in
theorem mt_cdX2_keep : Cond.code yX2_keep cX2_keep 1 none ∈ mt_tb := mt_mem (i := 513) rfl rfl
theorem mt_cvX10_111 : mt_CV RX10 111 yX2_keep cX2_keep 1 none 0 2 := ⟨⟨mt_mem (i := 510) (by decide +kernel) rfl, mt_cdX2_keep, mt_mem (i := 69) (by decide +kernel) rfl, by decide, by decide +kernel, by decide +kernel, by decide +kernel⟩, mt_mem (i := 511) (by decide +kernel) rfl, mt_mem (i := 512) (by decide +kernel) rfl, by decide, _, rfl, rfl⟩
theorem mt_csX2_29 : mt_CS RX2 29 yJ9_min_7cf53 cJ9_min_7cf53 2 (some .int) 2 := ⟨⟨mt_mem (i := 514) (by decide +kernel) rfl, mt_cdJ9_min_7cf53, mt_mem (i := 75) (by decide +kernel) rfl, by decide, by decide +kernel, by decide +kernel, by decide +kernel⟩, mt_mem (i := 420) (by decide +kernel) rfl⟩
set_option maxRecDepth 20000 in
theorem mt_cdX10_fault : Cond.code yX10_fault cX10_fault 1 (some .int) ∈ mt_tb := mt_mem (i := 518) rfl rfl
theorem mt_cvL_41 : mt_CV RL 41 yX10_fault cX10_fault 1 (some .int) 0 10 := ⟨⟨mt_mem (i := 515) (by decide +kernel) rfl, mt_cdX10_fault, mt_mem (i := 63) (by decide +kernel) rfl, by decide, by decide +kernel, by decide +kernel, by decide +kernel⟩, mt_mem (i := 516) (by decide +kernel) rfl, mt_mem (i := 517) (by decide +kernel) rfl, by decide, _, rfl, rfl⟩
set_option maxRecDepth 20000 in
theorem mt_cdX10_now : Cond.code yX10_now cX10_now 3 (some .int) ∈ mt_tb := mt_mem (i := 522) rfl rfl
theorem mt_cvL_45 : mt_CV RL 45 yX10_now cX10_now 3 (some .int) 1 10 := ⟨⟨mt_mem (i := 519) (by decide +kernel) rfl, mt_cdX10_now, mt_mem (i := 63) (by decide +kernel) rfl, by decide, by decide +kernel, by decide +kernel, by decide +kernel⟩, mt_mem (i := 520) (by decide +kernel) rfl, mt_mem (i := 521) (by decide +kernel) rfl, by decide, _, rfl, rfl⟩
theorem mt_cvX10_114 : mt_CV RX10 114 yX4_p cX4_p 1 (some .int) 0 4 := ⟨⟨mt_mem (i := 523) (by decide +kernel) rfl, mt_cdX4_p, mt_mem (i := 67) (by decide +kernel) rfl, by decide, by decide +kernel, by decide +kernel, by decide +kernel⟩, mt_mem (i := 494) (by decide +kernel) rfl, mt_mem (i := 495) (by decide +kernel) rfl, by decide, _, rfl, rfl⟩
theorem mt_cvX10_119 : mt_CV RX10 119 yX4_q cX4_q 1 (some .int) 0 4 := ⟨⟨mt_mem (i := 524) (by decide +kernel) rfl, mt_cdX4_q, mt_mem (i := 67) (by decide +kernel) rfl, by decide, by decide +kernel, by decide +kernel, by decide +kernel⟩, mt_mem (i := 498) (by decide +kernel) rfl, mt_mem (i := 499) (by decide +kernel) rfl, by decide, _, rfl, rfl⟩
set_option maxRecDepth 20000 in
theorem mt_cdX4_lowP : Cond.code yX4_lowP cX4_lowP 1 (some .int) ∈ mt_tb := mt_mem (i := 528) rfl rfl
theorem mt_cvX10_122 : mt_CV RX10 122 yX4_lowP cX4_lowP 1 (some .int) 0 4 := ⟨⟨mt_mem (i := 525) (by decide +kernel) rfl, mt_cdX4_lowP, mt_mem (i := 67) (by decide +kernel) rfl, by decide, by decide +kernel, by decide +kernel, by decide +kernel⟩, mt_mem (i := 526) (by decide +kernel) rfl, mt_mem (i := 527) (by decide +kernel) rfl, by decide, _, rfl, rfl⟩
set_option maxRecDepth 20000 in
theorem mt_cdX4_lowQ : Cond.code yX4_lowQ cX4_lowQ 1 (some .int) ∈ mt_tb := mt_mem (i := 532) rfl rfl
theorem mt_cvX10_125 : mt_CV RX10 125 yX4_lowQ cX4_lowQ 1 (some .int) 0 4 := ⟨⟨mt_mem (i := 529) (by decide +kernel) rfl, mt_cdX4_lowQ, mt_mem (i := 67) (by decide +kernel) rfl, by decide, by decide +kernel, by decide +kernel, by decide +kernel⟩, mt_mem (i := 530) (by decide +kernel) rfl, mt_mem (i := 531) (by decide +kernel) rfl, by decide, _, rfl, rfl⟩
set_option maxRecDepth 20000 in
theorem mt_cdX4_highP : Cond.code yX4_highP cX4_highP 1 (some .int) ∈ mt_tb := mt_mem (i := 536) rfl rfl
theorem mt_cvX10_128 : mt_CV RX10 128 yX4_highP cX4_highP 1 (some .int) 0 4 := ⟨⟨mt_mem (i := 533) (by decide +kernel) rfl, mt_cdX4_highP, mt_mem (i := 67) (by decide +kernel) rfl, by decide, by decide +kernel, by decide +kernel, by decide +kernel⟩, mt_mem (i := 534) (by decide +kernel) rfl, mt_mem (i := 535) (by decide +kernel) rfl, by decide, _, rfl, rfl⟩
set_option maxRecDepth 20000 in
theorem mt_cdX4_highQ : Cond.code yX4_highQ cX4_highQ 1 (some .int) ∈ mt_tb := mt_mem (i := 540) rfl rfl
theorem mt_cvX10_131 : mt_CV RX10 131 yX4_highQ cX4_highQ 1 (some .int) 0 4 := ⟨⟨mt_mem (i := 537) (by decide +kernel) rfl, mt_cdX4_highQ, mt_mem (i := 67) (by decide +kernel) rfl, by decide, by decide +kernel, by decide +kernel, by decide +kernel⟩, mt_mem (i := 538) (by decide +kernel) rfl, mt_mem (i := 539) (by decide +kernel) rfl, by decide, _, rfl, rfl⟩
set_option maxRecDepth 20000 in
theorem mt_cdX4_steps : Cond.code yX4_steps cX4_steps 1 (some .int) ∈ mt_tb := mt_mem (i := 544) rfl rfl
theorem mt_cvX10_134 : mt_CV RX10 134 yX4_steps cX4_steps 1 (some .int) 0 4 := ⟨⟨mt_mem (i := 541) (by decide +kernel) rfl, mt_cdX4_steps, mt_mem (i := 67) (by decide +kernel) rfl, by decide, by decide +kernel, by decide +kernel, by decide +kernel⟩, mt_mem (i := 542) (by decide +kernel) rfl, mt_mem (i := 543) (by decide +kernel) rfl, by decide, _, rfl, rfl⟩
set_option maxRecDepth 20000 in
theorem mt_cdX5_marks : Cond.code yX5_marks cX5_marks 1 (some (.object "MarkovTree$Marks")) ∈ mt_tb := mt_mem (i := 548) rfl rfl
theorem mt_cvX10_137 : mt_CV RX10 137 yX5_marks cX5_marks 1 (some (.object "MarkovTree$Marks")) 0 5 := ⟨⟨mt_mem (i := 545) (by decide +kernel) rfl, mt_cdX5_marks, mt_mem (i := 66) (by decide +kernel) rfl, by decide, by decide +kernel, by decide +kernel, by decide +kernel⟩, mt_mem (i := 546) (by decide +kernel) rfl, mt_mem (i := 547) (by decide +kernel) rfl, by decide, _, rfl, rfl⟩
set_option maxRecDepth 20000 in
theorem mt_cdX3_size : Cond.code yX3_size cX3_size 1 (some .int) ∈ mt_tb := mt_mem (i := 552) rfl rfl
theorem mt_cvX10_141 : mt_CV RX10 141 yX3_size cX3_size 1 (some .int) 0 3 := ⟨⟨mt_mem (i := 549) (by decide +kernel) rfl, mt_cdX3_size, mt_mem (i := 68) (by decide +kernel) rfl, by decide, by decide +kernel, by decide +kernel, by decide +kernel⟩, mt_mem (i := 550) (by decide +kernel) rfl, mt_mem (i := 551) (by decide +kernel) rfl, by decide, _, rfl, rfl⟩
set_option maxRecDepth 20000 in
theorem mt_cdX2_size : Cond.code yX2_size cX2_size 1 (some .int) ∈ mt_tb := mt_mem (i := 556) rfl rfl
theorem mt_cvX10_146 : mt_CV RX10 146 yX2_size cX2_size 1 (some .int) 0 2 := ⟨⟨mt_mem (i := 553) (by decide +kernel) rfl, mt_cdX2_size, mt_mem (i := 69) (by decide +kernel) rfl, by decide, by decide +kernel, by decide +kernel, by decide +kernel⟩, mt_mem (i := 554) (by decide +kernel) rfl, mt_mem (i := 555) (by decide +kernel) rfl, by decide, _, rfl, rfl⟩
set_option maxRecDepth 20000 in
theorem mt_cdX10_left : Cond.code yX10_left cX10_left 1 (some .int) ∈ mt_tb := mt_mem (i := 560) rfl rfl
theorem mt_cvL_50 : mt_CV RL 50 yX10_left cX10_left 1 (some .int) 0 10 := ⟨⟨mt_mem (i := 557) (by decide +kernel) rfl, mt_cdX10_left, mt_mem (i := 63) (by decide +kernel) rfl, by decide, by decide +kernel, by decide +kernel, by decide +kernel⟩, mt_mem (i := 558) (by decide +kernel) rfl, mt_mem (i := 559) (by decide +kernel) rfl, by decide, _, rfl, rfl⟩
theorem mt_cvX10_147 : mt_CV RX10 147 yX4_stepLeft cX4_stepLeft 1 (some .boolean) 0 4 := ⟨⟨mt_mem (i := 561) (by decide +kernel) rfl, mt_cdX4_stepLeft, mt_mem (i := 67) (by decide +kernel) rfl, by decide, by decide +kernel, by decide +kernel, by decide +kernel⟩, mt_mem (i := 486) (by decide +kernel) rfl, mt_mem (i := 487) (by decide +kernel) rfl, by decide, _, rfl, rfl⟩
set_option maxRecDepth 20000 in
theorem mt_cdX10_stepped : Cond.code yX10_stepped cX10_stepped 2 (some .int) ∈ mt_tb := mt_mem (i := 565) rfl rfl
theorem mt_cvX10_150 : mt_CV RX10 150 yX10_stepped cX10_stepped 2 (some .int) 1 10 := ⟨⟨mt_mem (i := 562) (by decide +kernel) rfl, mt_cdX10_stepped, mt_mem (i := 63) (by decide +kernel) rfl, by decide, by decide +kernel, by decide +kernel, by decide +kernel⟩, mt_mem (i := 564) (by decide +kernel) rfl, mt_mem (i := 9) (by decide +kernel) rfl, by decide, _, rfl, rfl⟩
theorem mt_cvX10_168 : mt_CV RX10 168 yX4_together cX4_together 1 (some .int) 0 4 := ⟨⟨mt_mem (i := 566) (by decide +kernel) rfl, mt_cdX4_together, mt_mem (i := 67) (by decide +kernel) rfl, by decide, by decide +kernel, by decide +kernel, by decide +kernel⟩, mt_mem (i := 490) (by decide +kernel) rfl, mt_mem (i := 491) (by decide +kernel) rfl, by decide, _, rfl, rfl⟩
set_option maxRecDepth 20000 in
theorem mt_cdX10_right : Cond.code yX10_right cX10_right 1 (some .int) ∈ mt_tb := mt_mem (i := 570) rfl rfl
theorem mt_cvL_54 : mt_CV RL 54 yX10_right cX10_right 1 (some .int) 0 10 := ⟨⟨mt_mem (i := 567) (by decide +kernel) rfl, mt_cdX10_right, mt_mem (i := 63) (by decide +kernel) rfl, by decide, by decide +kernel, by decide +kernel, by decide +kernel⟩, mt_mem (i := 568) (by decide +kernel) rfl, mt_mem (i := 569) (by decide +kernel) rfl, by decide, _, rfl, rfl⟩
theorem mt_cvX10_154 : mt_CV RX10 154 yX4_stepRight cX4_stepRight 1 (some .boolean) 0 4 := ⟨⟨mt_mem (i := 571) (by decide +kernel) rfl, mt_cdX4_stepRight, mt_mem (i := 67) (by decide +kernel) rfl, by decide, by decide +kernel, by decide +kernel, by decide +kernel⟩, mt_mem (i := 502) (by decide +kernel) rfl, mt_mem (i := 503) (by decide +kernel) rfl, by decide, _, rfl, rfl⟩
set_option maxRecDepth 20000 in
theorem mt_cdX10_up : Cond.code yX10_up cX10_up 1 (some .int) ∈ mt_tb := mt_mem (i := 575) rfl rfl
theorem mt_cvL_58 : mt_CV RL 58 yX10_up cX10_up 1 (some .int) 0 10 := ⟨⟨mt_mem (i := 572) (by decide +kernel) rfl, mt_cdX10_up, mt_mem (i := 63) (by decide +kernel) rfl, by decide, by decide +kernel, by decide +kernel, by decide +kernel⟩, mt_mem (i := 573) (by decide +kernel) rfl, mt_mem (i := 574) (by decide +kernel) rfl, by decide, _, rfl, rfl⟩
theorem mt_cvX10_157 : mt_CV RX10 157 yX4_stepUp cX4_stepUp 1 (some .boolean) 0 4 := ⟨⟨mt_mem (i := 576) (by decide +kernel) rfl, mt_cdX4_stepUp, mt_mem (i := 67) (by decide +kernel) rfl, by decide, by decide +kernel, by decide +kernel, by decide +kernel⟩, mt_mem (i := 506) (by decide +kernel) rfl, mt_mem (i := 507) (by decide +kernel) rfl, by decide, _, rfl, rfl⟩
set_option maxRecDepth 20000 in
theorem mt_cdX10_go : Cond.code yX10_go cX10_go 3 (some .int) ∈ mt_tb := mt_mem (i := 580) rfl rfl
theorem mt_cvL_62 : mt_CV RL 62 yX10_go cX10_go 3 (some .int) 2 10 := ⟨⟨mt_mem (i := 577) (by decide +kernel) rfl, mt_cdX10_go, mt_mem (i := 63) (by decide +kernel) rfl, by decide, by decide +kernel, by decide +kernel, by decide +kernel⟩, mt_mem (i := 578) (by decide +kernel) rfl, mt_mem (i := 579) (by decide +kernel) rfl, by decide, _, rfl, rfl⟩
set_option maxRecDepth 20000 in
theorem mt_cdX10_isPlace : Cond.code yX10_isPlace cX10_isPlace 3 (some .boolean) ∈ mt_tb := mt_mem (i := 583) rfl rfl
theorem mt_csX10_160 : mt_CS RX10 160 yX10_isPlace cX10_isPlace 3 (some .boolean) 2 := ⟨⟨mt_mem (i := 581) (by decide +kernel) rfl, mt_cdX10_isPlace, mt_mem (i := 63) (by decide +kernel) rfl, by decide, by decide +kernel, by decide +kernel, by decide +kernel⟩, mt_mem (i := 582) (by decide +kernel) rfl⟩
set_option maxRecDepth 20000 in
theorem mt_cdX10_commonPart : Cond.code yX10_commonPart cX10_commonPart 6 (some .int) ∈ mt_tb := mt_mem (i := 586) rfl rfl
theorem mt_csX10_178 : mt_CS RX10 178 yX10_commonPart cX10_commonPart 6 (some .int) 2 := ⟨⟨mt_mem (i := 584) (by decide +kernel) rfl, mt_cdX10_commonPart, mt_mem (i := 63) (by decide +kernel) rfl, by decide, by decide +kernel, by decide +kernel, by decide +kernel⟩, mt_mem (i := 585) (by decide +kernel) rfl⟩
set_option maxRecDepth 20000 in
theorem mt_cdX10_moveTo : Cond.code yX10_moveTo cX10_moveTo 4 (some .int) ∈ mt_tb := mt_mem (i := 590) rfl rfl
theorem mt_cvX10_164 : mt_CV RX10 164 yX10_moveTo cX10_moveTo 4 (some .int) 2 10 := ⟨⟨mt_mem (i := 587) (by decide +kernel) rfl, mt_cdX10_moveTo, mt_mem (i := 63) (by decide +kernel) rfl, by decide, by decide +kernel, by decide +kernel, by decide +kernel⟩, mt_mem (i := 589) (by decide +kernel) rfl, mt_mem (i := 10) (by decide +kernel) rfl, by decide, _, rfl, rfl⟩
set_option maxRecDepth 20000 in
theorem mt_cdX4_isAt : Cond.code yX4_isAt cX4_isAt 3 (some .boolean) ∈ mt_tb := mt_mem (i := 594) rfl rfl
theorem mt_cvX10_171 : mt_CV RX10 171 yX4_isAt cX4_isAt 3 (some .boolean) 2 4 := ⟨⟨mt_mem (i := 591) (by decide +kernel) rfl, mt_cdX4_isAt, mt_mem (i := 67) (by decide +kernel) rfl, by decide, by decide +kernel, by decide +kernel, by decide +kernel⟩, mt_mem (i := 592) (by decide +kernel) rfl, mt_mem (i := 593) (by decide +kernel) rfl, by decide, _, rfl, rfl⟩
set_option maxRecDepth 20000 in
theorem mt_cdX4_walkTo : Cond.code yX4_walkTo cX4_walkTo 4 none ∈ mt_tb := mt_mem (i := 598) rfl rfl
theorem mt_cvX10_174 : mt_CV RX10 174 yX4_walkTo cX4_walkTo 4 none 2 4 := ⟨⟨mt_mem (i := 595) (by decide +kernel) rfl, mt_cdX4_walkTo, mt_mem (i := 67) (by decide +kernel) rfl, by decide, by decide +kernel, by decide +kernel, by decide +kernel⟩, mt_mem (i := 596) (by decide +kernel) rfl, mt_mem (i := 597) (by decide +kernel) rfl, by decide, _, rfl, rfl⟩
theorem mt_cvX4_53 : mt_CV RX4 53 yX4_isAt cX4_isAt 3 (some .boolean) 2 4 := ⟨⟨mt_mem (i := 599) (by decide +kernel) rfl, mt_cdX4_isAt, mt_mem (i := 67) (by decide +kernel) rfl, by decide, by decide +kernel, by decide +kernel, by decide +kernel⟩, mt_mem (i := 592) (by decide +kernel) rfl, mt_mem (i := 593) (by decide +kernel) rfl, by decide, _, rfl, rfl⟩
set_option maxRecDepth 20000 in
theorem mt_cdX4_sideOf : Cond.code yX4_sideOf cX4_sideOf 3 (some .int) ∈ mt_tb := mt_mem (i := 603) rfl rfl
theorem mt_cvX4_57 : mt_CV RX4 57 yX4_sideOf cX4_sideOf 3 (some .int) 2 4 := ⟨⟨mt_mem (i := 600) (by decide +kernel) rfl, mt_cdX4_sideOf, mt_mem (i := 67) (by decide +kernel) rfl, by decide, by decide +kernel, by decide +kernel, by decide +kernel⟩, mt_mem (i := 601) (by decide +kernel) rfl, mt_mem (i := 602) (by decide +kernel) rfl, by decide, _, rfl, rfl⟩
set_option maxRecDepth 20000 in
theorem mt_cdJ6_compare_7cf53 : Cond.code yJ6_compare_7cf53 cJ6_compare_7cf53 2 (some .int) ∈ mt_tb := mt_mem (i := 606) rfl rfl
theorem mt_csX4_40 : mt_CS RX4 40 yJ6_compare_7cf53 cJ6_compare_7cf53 2 (some .int) 2 := ⟨⟨mt_mem (i := 604) (by decide +kernel) rfl, mt_cdJ6_compare_7cf53, mt_mem (i := 77) (by decide +kernel) rfl, by decide, by decide +kernel, by decide +kernel, by decide +kernel⟩, mt_mem (i := 605) (by decide +kernel) rfl⟩
set_option maxRecDepth 20000 in
theorem mt_cdX4_stepToSide : Cond.code yX4_stepToSide cX4_stepToSide 2 (some .boolean) ∈ mt_tb := mt_mem (i := 610) rfl rfl
theorem mt_cvX4_60 : mt_CV RX4 60 yX4_stepToSide cX4_stepToSide 2 (some .boolean) 1 4 := ⟨⟨mt_mem (i := 607) (by decide +kernel) rfl, mt_cdX4_stepToSide, mt_mem (i := 67) (by decide +kernel) rfl, by decide, by decide +kernel, by decide +kernel, by decide +kernel⟩, mt_mem (i := 608) (by decide +kernel) rfl, mt_mem (i := 609) (by decide +kernel) rfl, by decide, _, rfl, rfl⟩
theorem mt_cvX4_46 : mt_CV RX4 46 yX4_stepLeft cX4_stepLeft 1 (some .boolean) 0 4 := ⟨⟨mt_mem (i := 611) (by decide +kernel) rfl, mt_cdX4_stepLeft, mt_mem (i := 67) (by decide +kernel) rfl, by decide, by decide +kernel, by decide +kernel, by decide +kernel⟩, mt_mem (i := 486) (by decide +kernel) rfl, mt_mem (i := 487) (by decide +kernel) rfl, by decide, _, rfl, rfl⟩
theorem mt_cvX4_50 : mt_CV RX4 50 yX4_stepRight cX4_stepRight 1 (some .boolean) 0 4 := ⟨⟨mt_mem (i := 612) (by decide +kernel) rfl, mt_cdX4_stepRight, mt_mem (i := 67) (by decide +kernel) rfl, by decide, by decide +kernel, by decide +kernel, by decide +kernel⟩, mt_mem (i := 502) (by decide +kernel) rfl, mt_mem (i := 503) (by decide +kernel) rfl, by decide, _, rfl, rfl⟩
set_option maxRecDepth 20000 in
theorem mt_cdX10_letter : Cond.code yX10_letter cX10_letter 3 (some .int) ∈ mt_tb := mt_mem (i := 616) rfl rfl
theorem mt_cvL_76 : mt_CV RL 76 yX10_letter cX10_letter 3 (some .int) 1 10 := ⟨⟨mt_mem (i := 613) (by decide +kernel) rfl, mt_cdX10_letter, mt_mem (i := 63) (by decide +kernel) rfl, by decide, by decide +kernel, by decide +kernel, by decide +kernel⟩, mt_mem (i := 614) (by decide +kernel) rfl, mt_mem (i := 615) (by decide +kernel) rfl, by decide, _, rfl, rfl⟩
theorem mt_csX10_192 : mt_CS RX10 192 yX9_letterIsA cX9_letterIsA 4 (some .boolean) 3 := ⟨⟨mt_mem (i := 617) (by decide +kernel) rfl, mt_cdX9_letterIsA, mt_mem (i := 71) (by decide +kernel) rfl, by decide, by decide +kernel, by decide +kernel, by decide +kernel⟩, mt_mem (i := 254) (by decide +kernel) rfl⟩
set_option maxRecDepth 20000 in
theorem mt_cdX10_cut : Cond.code yX10_cut cX10_cut 4 (some .int) ∈ mt_tb := mt_mem (i := 621) rfl rfl
theorem mt_cvL_80 : mt_CV RL 80 yX10_cut cX10_cut 4 (some .int) 0 10 := ⟨⟨mt_mem (i := 618) (by decide +kernel) rfl, mt_cdX10_cut, mt_mem (i := 63) (by decide +kernel) rfl, by decide, by decide +kernel, by decide +kernel, by decide +kernel⟩, mt_mem (i := 619) (by decide +kernel) rfl, mt_mem (i := 620) (by decide +kernel) rfl, by decide, _, rfl, rfl⟩
set_option maxRecDepth 20000 in
theorem mt_cdX10_value : Cond.code yX10_value cX10_value 3 (some .long) ∈ mt_tb := mt_mem (i := 625) rfl rfl
theorem mt_cvL_91 : mt_CV RL 91 yX10_value cX10_value 3 (some .long) 2 10 := ⟨⟨mt_mem (i := 622) (by decide +kernel) rfl, mt_cdX10_value, mt_mem (i := 63) (by decide +kernel) rfl, by decide, by decide +kernel, by decide +kernel, by decide +kernel⟩, mt_mem (i := 623) (by decide +kernel) rfl, mt_mem (i := 624) (by decide +kernel) rfl, by decide, _, rfl, rfl⟩
set_option maxRecDepth 20000 in
theorem mt_cdX10_fitsValue : Cond.code yX10_fitsValue cX10_fitsValue 1 (some .boolean) ∈ mt_tb := mt_mem (i := 628) rfl rfl
theorem mt_csX10_209 : mt_CS RX10 209 yX10_fitsValue cX10_fitsValue 1 (some .boolean) 1 := ⟨⟨mt_mem (i := 626) (by decide +kernel) rfl, mt_cdX10_fitsValue, mt_mem (i := 63) (by decide +kernel) rfl, by decide, by decide +kernel, by decide +kernel, by decide +kernel⟩, mt_mem (i := 627) (by decide +kernel) rfl⟩
set_option maxRecDepth 20000 in
theorem mt_cdX10_setForm : Cond.code yX10_setForm cX10_setForm 3 (some .boolean) ∈ mt_tb := mt_mem (i := 632) rfl rfl
theorem mt_cvX10_202 : mt_CV RX10 202 yX10_setForm cX10_setForm 3 (some .boolean) 0 10 := ⟨⟨mt_mem (i := 629) (by decide +kernel) rfl, mt_cdX10_setForm, mt_mem (i := 63) (by decide +kernel) rfl, by decide, by decide +kernel, by decide +kernel, by decide +kernel⟩, mt_mem (i := 631) (by decide +kernel) rfl, mt_mem (i := 11) (by decide +kernel) rfl, by decide, _, rfl, rfl⟩
set_option maxRecDepth 20000 in
theorem mt_cdX10_numberHere : Cond.code yX10_numberHere cX10_numberHere 1 (some .long) ∈ mt_tb := mt_mem (i := 636) rfl rfl
theorem mt_cvX10_185 : mt_CV RX10 185 yX10_numberHere cX10_numberHere 1 (some .long) 0 10 := ⟨⟨mt_mem (i := 633) (by decide +kernel) rfl, mt_cdX10_numberHere, mt_mem (i := 63) (by decide +kernel) rfl, by decide, by decide +kernel, by decide +kernel, by decide +kernel⟩, mt_mem (i := 635) (by decide +kernel) rfl, mt_mem (i := 12) (by decide +kernel) rfl, by decide, _, rfl, rfl⟩
set_option maxRecDepth 20000 in
theorem mt_cdX10_numberOf : Cond.code yX10_numberOf cX10_numberOf 3 (some .long) ∈ mt_tb := mt_mem (i := 640) rfl rfl
theorem mt_cvX10_181 : mt_CV RX10 181 yX10_numberOf cX10_numberOf 3 (some .long) 2 10 := ⟨⟨mt_mem (i := 637) (by decide +kernel) rfl, mt_cdX10_numberOf, mt_mem (i := 63) (by decide +kernel) rfl, by decide, by decide +kernel, by decide +kernel, by decide +kernel⟩, mt_mem (i := 639) (by decide +kernel) rfl, mt_mem (i := 13) (by decide +kernel) rfl, by decide, _, rfl, rfl⟩
theorem mt_cvX10_196 : mt_CV RX10 196 yX9_setTo cX9_setTo 4 none 2 9 := ⟨⟨mt_mem (i := 641) (by decide +kernel) rfl, mt_cdX9_setTo, mt_mem (i := 71) (by decide +kernel) rfl, by decide, by decide +kernel, by decide +kernel, by decide +kernel⟩, mt_mem (i := 250) (by decide +kernel) rfl, mt_mem (i := 251) (by decide +kernel) rfl, by decide, _, rfl, rfl⟩
set_option maxRecDepth 20000 in
theorem mt_cdX9_entry : Cond.code yX9_entry cX9_entry 3 (some .long) ∈ mt_tb := mt_mem (i := 645) rfl rfl
theorem mt_cvX10_199 : mt_CV RX10 199 yX9_entry cX9_entry 3 (some .long) 2 9 := ⟨⟨mt_mem (i := 642) (by decide +kernel) rfl, mt_cdX9_entry, mt_mem (i := 71) (by decide +kernel) rfl, by decide, by decide +kernel, by decide +kernel, by decide +kernel⟩, mt_mem (i := 643) (by decide +kernel) rfl, mt_mem (i := 644) (by decide +kernel) rfl, by decide, _, rfl, rfl⟩
theorem mt_kX10_229 : Cond.constantLong RX10 229 (1000000000) ∈ mt_tb := mt_mem (i := 646) (by decide +kernel) rfl
theorem mt_cvX10_231 : mt_CV RX10 231 yX1_set cX1_set 7 none 2 1 := ⟨⟨mt_mem (i := 647) (by decide +kernel) rfl, mt_cdX1_set, mt_mem (i := 72) (by decide +kernel) rfl, by decide, by decide +kernel, by decide +kernel, by decide +kernel⟩, mt_mem (i := 284) (by decide +kernel) rfl, mt_mem (i := 285) (by decide +kernel) rfl, by decide, _, rfl, rfl⟩
theorem mt_kX10_212 : Cond.constantLong RX10 212 (-1000000000000000000) ∈ mt_tb := mt_mem (i := 648) (by decide +kernel) rfl
set_option maxRecDepth 20000 in
theorem mt_cdX1_valueAt : Cond.code yX1_valueAt cX1_valueAt 5 (some .long) ∈ mt_tb := mt_mem (i := 652) rfl rfl
theorem mt_cvX10_214 : mt_CV RX10 214 yX1_valueAt cX1_valueAt 5 (some .long) 2 1 := ⟨⟨mt_mem (i := 649) (by decide +kernel) rfl, mt_cdX1_valueAt, mt_mem (i := 72) (by decide +kernel) rfl, by decide, by decide +kernel, by decide +kernel, by decide +kernel⟩, mt_mem (i := 650) (by decide +kernel) rfl, mt_mem (i := 651) (by decide +kernel) rfl, by decide, _, rfl, rfl⟩
set_option maxRecDepth 20000 in
theorem mt_cdX10_round : Cond.code yX10_round cX10_round 1 (some .int) ∈ mt_tb := mt_mem (i := 656) rfl rfl
theorem mt_cvL_95 : mt_CV RL 95 yX10_round cX10_round 1 (some .int) 0 10 := ⟨⟨mt_mem (i := 653) (by decide +kernel) rfl, mt_cdX10_round, mt_mem (i := 63) (by decide +kernel) rfl, by decide, by decide +kernel, by decide +kernel, by decide +kernel⟩, mt_mem (i := 654) (by decide +kernel) rfl, mt_mem (i := 655) (by decide +kernel) rfl, by decide, _, rfl, rfl⟩
set_option maxRecDepth 20000 in
theorem mt_cdX1_goRound : Cond.code yX1_goRound cX1_goRound 6 none ∈ mt_tb := mt_mem (i := 660) rfl rfl
theorem mt_cvX10_218 : mt_CV RX10 218 yX1_goRound cX1_goRound 6 none 0 1 := ⟨⟨mt_mem (i := 657) (by decide +kernel) rfl, mt_cdX1_goRound, mt_mem (i := 72) (by decide +kernel) rfl, by decide, by decide +kernel, by decide +kernel, by decide +kernel⟩, mt_mem (i := 658) (by decide +kernel) rfl, mt_mem (i := 659) (by decide +kernel) rfl, by decide, _, rfl, rfl⟩
set_option maxRecDepth 20000 in
theorem mt_cdJ9_abs_067f4 : Cond.code yJ9_abs_067f4 cJ9_abs_067f4 2 (some .long) ∈ mt_tb := mt_mem (i := 663) rfl rfl
theorem mt_csX1_46 : mt_CS RX1 46 yJ9_abs_067f4 cJ9_abs_067f4 2 (some .long) 1 := ⟨⟨mt_mem (i := 661) (by decide +kernel) rfl, mt_cdJ9_abs_067f4, mt_mem (i := 75) (by decide +kernel) rfl, by decide, by decide +kernel, by decide +kernel, by decide +kernel⟩, mt_mem (i := 662) (by decide +kernel) rfl⟩
theorem mt_kX1_52 : Cond.constant RX1 52 (1000000) ∈ mt_tb := mt_mem (i := 664) (by decide +kernel) rfl
set_option maxRecDepth 20000 in
theorem mt_cdJ9_min_f86c9 : Cond.code yJ9_min_f86c9 cJ9_min_f86c9 4 (some .long) ∈ mt_tb := mt_mem (i := 667) rfl rfl
theorem mt_csX1_53 : mt_CS RX1 53 yJ9_min_f86c9 cJ9_min_f86c9 4 (some .long) 2 := ⟨⟨mt_mem (i := 665) (by decide +kernel) rfl, mt_cdJ9_min_f86c9, mt_mem (i := 75) (by decide +kernel) rfl, by decide, by decide +kernel, by decide +kernel, by decide +kernel⟩, mt_mem (i := 666) (by decide +kernel) rfl⟩
set_option maxRecDepth 20000 in
theorem mt_cdX1_goToNext : Cond.code yX1_goToNext cX1_goToNext 7 none ∈ mt_tb := mt_mem (i := 671) rfl rfl
theorem mt_cvX1_57 : mt_CV RX1 57 yX1_goToNext cX1_goToNext 7 none 0 1 := ⟨⟨mt_mem (i := 668) (by decide +kernel) rfl, mt_cdX1_goToNext, mt_mem (i := 72) (by decide +kernel) rfl, by decide, by decide +kernel, by decide +kernel, by decide +kernel⟩, mt_mem (i := 670) (by decide +kernel) rfl, mt_mem (i := 14) (by decide +kernel) rfl, by decide, _, rfl, rfl⟩
set_option maxRecDepth 20000 in
theorem mt_cdJ9_floorMod_f86c9 : Cond.code yJ9_floorMod_f86c9 cJ9_floorMod_f86c9 6 (some .long) ∈ mt_tb := mt_mem (i := 674) rfl rfl
theorem mt_csX1_60 : mt_CS RX1 60 yJ9_floorMod_f86c9 cJ9_floorMod_f86c9 6 (some .long) 2 := ⟨⟨mt_mem (i := 672) (by decide +kernel) rfl, mt_cdJ9_floorMod_f86c9, mt_mem (i := 75) (by decide +kernel) rfl, by decide, by decide +kernel, by decide +kernel, by decide +kernel⟩, mt_mem (i := 673) (by decide +kernel) rfl⟩
set_option maxRecDepth 20000 in
theorem mt_cdX1_roundSize : Cond.code yX1_roundSize cX1_roundSize 1 (some .int) ∈ mt_tb := mt_mem (i := 678) rfl rfl
theorem mt_cvX10_221 : mt_CV RX10 221 yX1_roundSize cX1_roundSize 1 (some .int) 0 1 := ⟨⟨mt_mem (i := 675) (by decide +kernel) rfl, mt_cdX1_roundSize, mt_mem (i := 72) (by decide +kernel) rfl, by decide, by decide +kernel, by decide +kernel, by decide +kernel⟩, mt_mem (i := 676) (by decide +kernel) rfl, mt_mem (i := 677) (by decide +kernel) rfl, by decide, _, rfl, rfl⟩
set_option maxRecDepth 20000 in
theorem mt_cdX10_least : Cond.code yX10_least cX10_least 1 (some .long) ∈ mt_tb := mt_mem (i := 682) rfl rfl
theorem mt_cvL_99 : mt_CV RL 99 yX10_least cX10_least 1 (some .long) 0 10 := ⟨⟨mt_mem (i := 679) (by decide +kernel) rfl, mt_cdX10_least, mt_mem (i := 63) (by decide +kernel) rfl, by decide, by decide +kernel, by decide +kernel, by decide +kernel⟩, mt_mem (i := 680) (by decide +kernel) rfl, mt_mem (i := 681) (by decide +kernel) rfl, by decide, _, rfl, rfl⟩
theorem mt_kX10_224 : Cond.constantLong RX10 224 (-1) ∈ mt_tb := mt_mem (i := 683) (by decide +kernel) rfl
set_option maxRecDepth 20000 in
theorem mt_cdX1_roundLeast : Cond.code yX1_roundLeast cX1_roundLeast 1 (some .long) ∈ mt_tb := mt_mem (i := 687) rfl rfl
theorem mt_cvX10_226 : mt_CV RX10 226 yX1_roundLeast cX1_roundLeast 1 (some .long) 0 1 := ⟨⟨mt_mem (i := 684) (by decide +kernel) rfl, mt_cdX1_roundLeast, mt_mem (i := 72) (by decide +kernel) rfl, by decide, by decide +kernel, by decide +kernel, by decide +kernel⟩, mt_mem (i := 685) (by decide +kernel) rfl, mt_mem (i := 686) (by decide +kernel) rfl, by decide, _, rfl, rfl⟩
set_option maxRecDepth 20000 in
theorem mt_cdX10_upTo : Cond.code yX10_upTo cX10_upTo 3 (some .int) ∈ mt_tb := mt_mem (i := 691) rfl rfl
theorem mt_cvL_106 : mt_CV RL 106 yX10_upTo cX10_upTo 3 (some .int) 1 10 := ⟨⟨mt_mem (i := 688) (by decide +kernel) rfl, mt_cdX10_upTo, mt_mem (i := 63) (by decide +kernel) rfl, by decide, by decide +kernel, by decide +kernel, by decide +kernel⟩, mt_mem (i := 689) (by decide +kernel) rfl, mt_mem (i := 690) (by decide +kernel) rfl, by decide, _, rfl, rfl⟩
theorem mt_kX10_235 : Cond.constantLong RX10 235 (1000000000000) ∈ mt_tb := mt_mem (i := 692) (by decide +kernel) rfl
set_option maxRecDepth 20000 in
theorem mt_cdX6_countUpTo : Cond.code yX6_countUpTo cX6_countUpTo 4 (some .int) ∈ mt_tb := mt_mem (i := 696) rfl rfl
theorem mt_cvX10_237 : mt_CV RX10 237 yX6_countUpTo cX6_countUpTo 4 (some .int) 1 6 := ⟨⟨mt_mem (i := 693) (by decide +kernel) rfl, mt_cdX6_countUpTo, mt_mem (i := 73) (by decide +kernel) rfl, by decide, by decide +kernel, by decide +kernel, by decide +kernel⟩, mt_mem (i := 694) (by decide +kernel) rfl, mt_mem (i := 695) (by decide +kernel) rfl, by decide, _, rfl, rfl⟩
set_option maxRecDepth 20000 in
theorem mt_cdX6_fill : Cond.code yX6_fill cX6_fill 9 none ∈ mt_tb := mt_mem (i := 700) rfl rfl
theorem mt_cvX6_35 : mt_CV RX6 35 yX6_fill cX6_fill 9 none 0 6 := ⟨⟨mt_mem (i := 697) (by decide +kernel) rfl, mt_cdX6_fill, mt_mem (i := 73) (by decide +kernel) rfl, by decide, by decide +kernel, by decide +kernel, by decide +kernel⟩, mt_mem (i := 699) (by decide +kernel) rfl, mt_mem (i := 15) (by decide +kernel) rfl, by decide, _, rfl, rfl⟩
theorem mt_kX6_52 : Cond.constantLong RX6 52 (2) ∈ mt_tb := mt_mem (i := 701) (by decide +kernel) rfl
theorem mt_kX6_54 : Cond.constantLong RX6 54 (5) ∈ mt_tb := mt_mem (i := 702) (by decide +kernel) rfl
set_option maxRecDepth 20000 in
theorem mt_cdX6_putRow : Cond.code yX6_putRow cX6_putRow 9 none ∈ mt_tb := mt_mem (i := 706) rfl rfl
theorem mt_cvX6_56 : mt_CV RX6 56 yX6_putRow cX6_putRow 9 none 4 6 := ⟨⟨mt_mem (i := 703) (by decide +kernel) rfl, mt_cdX6_putRow, mt_mem (i := 73) (by decide +kernel) rfl, by decide, by decide +kernel, by decide +kernel, by decide +kernel⟩, mt_mem (i := 705) (by decide +kernel) rfl, mt_mem (i := 16) (by decide +kernel) rfl, by decide, _, rfl, rfl⟩
set_option maxRecDepth 20000 in
theorem mt_cdX6_putNext : Cond.code yX6_putNext cX6_putNext 8 none ∈ mt_tb := mt_mem (i := 710) rfl rfl
theorem mt_cvX6_60 : mt_CV RX6 60 yX6_putNext cX6_putNext 8 none 4 6 := ⟨⟨mt_mem (i := 707) (by decide +kernel) rfl, mt_cdX6_putNext, mt_mem (i := 73) (by decide +kernel) rfl, by decide, by decide +kernel, by decide +kernel, by decide +kernel⟩, mt_mem (i := 709) (by decide +kernel) rfl, mt_mem (i := 17) (by decide +kernel) rfl, by decide, _, rfl, rfl⟩
theorem mt_kX6_66 : Cond.constantLong RX6 66 (1000000000000) ∈ mt_tb := mt_mem (i := 711) (by decide +kernel) rfl
theorem mt_kX6_68 : Cond.constantLong RX6 68 (3) ∈ mt_tb := mt_mem (i := 712) (by decide +kernel) rfl
set_option maxRecDepth 20000 in
theorem mt_cdX6_fillNumbers : Cond.code yX6_fillNumbers cX6_fillNumbers 2 none ∈ mt_tb := mt_mem (i := 716) rfl rfl
theorem mt_cvX6_63 : mt_CV RX6 63 yX6_fillNumbers cX6_fillNumbers 2 none 0 6 := ⟨⟨mt_mem (i := 713) (by decide +kernel) rfl, mt_cdX6_fillNumbers, mt_mem (i := 73) (by decide +kernel) rfl, by decide, by decide +kernel, by decide +kernel, by decide +kernel⟩, mt_mem (i := 715) (by decide +kernel) rfl, mt_mem (i := 18) (by decide +kernel) rfl, by decide, _, rfl, rfl⟩
set_option maxRecDepth 20000 in
theorem mt_cdX10_markov : Cond.code yX10_markov cX10_markov 2 (some .long) ∈ mt_tb := mt_mem (i := 720) rfl rfl
theorem mt_cvL_111 : mt_CV RL 111 yX10_markov cX10_markov 2 (some .long) 1 10 := ⟨⟨mt_mem (i := 717) (by decide +kernel) rfl, mt_cdX10_markov, mt_mem (i := 63) (by decide +kernel) rfl, by decide, by decide +kernel, by decide +kernel, by decide +kernel⟩, mt_mem (i := 718) (by decide +kernel) rfl, mt_mem (i := 719) (by decide +kernel) rfl, by decide, _, rfl, rfl⟩
set_option maxRecDepth 20000 in
theorem mt_cdX6_numberAt : Cond.code yX6_numberAt cX6_numberAt 2 (some .long) ∈ mt_tb := mt_mem (i := 724) rfl rfl
theorem mt_cvX10_241 : mt_CV RX10 241 yX6_numberAt cX6_numberAt 2 (some .long) 1 6 := ⟨⟨mt_mem (i := 721) (by decide +kernel) rfl, mt_cdX6_numberAt, mt_mem (i := 73) (by decide +kernel) rfl, by decide, by decide +kernel, by decide +kernel, by decide +kernel⟩, mt_mem (i := 722) (by decide +kernel) rfl, mt_mem (i := 723) (by decide +kernel) rfl, by decide, _, rfl, rfl⟩
theorem mt_kX6_38 : Cond.constantLong RX6 38 (-1) ∈ mt_tb := mt_mem (i := 725) (by decide +kernel) rfl
set_option maxRecDepth 20000 in
theorem mt_cdX10_rank : Cond.code yX10_rank cX10_rank 3 (some .int) ∈ mt_tb := mt_mem (i := 729) rfl rfl
theorem mt_cvL_115 : mt_CV RL 115 yX10_rank cX10_rank 3 (some .int) 1 10 := ⟨⟨mt_mem (i := 726) (by decide +kernel) rfl, mt_cdX10_rank, mt_mem (i := 63) (by decide +kernel) rfl, by decide, by decide +kernel, by decide +kernel, by decide +kernel⟩, mt_mem (i := 727) (by decide +kernel) rfl, mt_mem (i := 728) (by decide +kernel) rfl, by decide, _, rfl, rfl⟩
set_option maxRecDepth 20000 in
theorem mt_cdX6_rankOf : Cond.code yX6_rankOf cX6_rankOf 4 (some .int) ∈ mt_tb := mt_mem (i := 733) rfl rfl
theorem mt_cvX10_244 : mt_CV RX10 244 yX6_rankOf cX6_rankOf 4 (some .int) 1 6 := ⟨⟨mt_mem (i := 730) (by decide +kernel) rfl, mt_cdX6_rankOf, mt_mem (i := 73) (by decide +kernel) rfl, by decide, by decide +kernel, by decide +kernel, by decide +kernel⟩, mt_mem (i := 731) (by decide +kernel) rfl, mt_mem (i := 732) (by decide +kernel) rfl, by decide, _, rfl, rfl⟩
theorem mt_cvX6_40 : mt_CV RX6 40 yX6_countUpTo cX6_countUpTo 4 (some .int) 1 6 := ⟨⟨mt_mem (i := 734) (by decide +kernel) rfl, mt_cdX6_countUpTo, mt_mem (i := 73) (by decide +kernel) rfl, by decide, by decide +kernel, by decide +kernel, by decide +kernel⟩, mt_mem (i := 694) (by decide +kernel) rfl, mt_mem (i := 695) (by decide +kernel) rfl, by decide, _, rfl, rfl⟩
theorem mt_cvX6_44 : mt_CV RX6 44 yX6_numberAt cX6_numberAt 2 (some .long) 1 6 := ⟨⟨mt_mem (i := 735) (by decide +kernel) rfl, mt_cdX6_numberAt, mt_mem (i := 73) (by decide +kernel) rfl, by decide, by decide +kernel, by decide +kernel, by decide +kernel⟩, mt_mem (i := 722) (by decide +kernel) rfl, mt_mem (i := 723) (by decide +kernel) rfl, by decide, _, rfl, rfl⟩
set_option maxRecDepth 20000 in
theorem mt_cdX10_triples : Cond.code yX10_triples cX10_triples 4 (some .int) ∈ mt_tb := mt_mem (i := 739) rfl rfl
theorem mt_cvL_119 : mt_CV RL 119 yX10_triples cX10_triples 4 (some .int) 1 10 := ⟨⟨mt_mem (i := 736) (by decide +kernel) rfl, mt_cdX10_triples, mt_mem (i := 63) (by decide +kernel) rfl, by decide, by decide +kernel, by decide +kernel, by decide +kernel⟩, mt_mem (i := 737) (by decide +kernel) rfl, mt_mem (i := 738) (by decide +kernel) rfl, by decide, _, rfl, rfl⟩
set_option maxRecDepth 20000 in
theorem mt_cdX6_countGreatest : Cond.code yX6_countGreatest cX6_countGreatest 5 (some .int) ∈ mt_tb := mt_mem (i := 743) rfl rfl
theorem mt_cvX10_247 : mt_CV RX10 247 yX6_countGreatest cX6_countGreatest 5 (some .int) 1 6 := ⟨⟨mt_mem (i := 740) (by decide +kernel) rfl, mt_cdX6_countGreatest, mt_mem (i := 73) (by decide +kernel) rfl, by decide, by decide +kernel, by decide +kernel, by decide +kernel⟩, mt_mem (i := 741) (by decide +kernel) rfl, mt_mem (i := 742) (by decide +kernel) rfl, by decide, _, rfl, rfl⟩
set_option maxRecDepth 20000 in
theorem mt_cdX10_with : Cond.code yX10_with cX10_with 5 (some .long) ∈ mt_tb := mt_mem (i := 747) rfl rfl
theorem mt_cvL_123 : mt_CV RL 123 yX10_with cX10_with 5 (some .long) 2 10 := ⟨⟨mt_mem (i := 744) (by decide +kernel) rfl, mt_cdX10_with, mt_mem (i := 63) (by decide +kernel) rfl, by decide, by decide +kernel, by decide +kernel, by decide +kernel⟩, mt_mem (i := 745) (by decide +kernel) rfl, mt_mem (i := 746) (by decide +kernel) rfl, by decide, _, rfl, rfl⟩
set_option maxRecDepth 20000 in
theorem mt_cdX6_rowOf : Cond.code yX6_rowOf cX6_rowOf 4 (some .int) ∈ mt_tb := mt_mem (i := 751) rfl rfl
theorem mt_cvX10_250 : mt_CV RX10 250 yX6_rowOf cX6_rowOf 4 (some .int) 1 6 := ⟨⟨mt_mem (i := 748) (by decide +kernel) rfl, mt_cdX6_rowOf, mt_mem (i := 73) (by decide +kernel) rfl, by decide, by decide +kernel, by decide +kernel, by decide +kernel⟩, mt_mem (i := 749) (by decide +kernel) rfl, mt_mem (i := 750) (by decide +kernel) rfl, by decide, _, rfl, rfl⟩
set_option maxRecDepth 20000 in
theorem mt_cdX6_leastAt : Cond.code yX6_leastAt cX6_leastAt 2 (some .long) ∈ mt_tb := mt_mem (i := 755) rfl rfl
theorem mt_cvX10_253 : mt_CV RX10 253 yX6_leastAt cX6_leastAt 2 (some .long) 1 6 := ⟨⟨mt_mem (i := 752) (by decide +kernel) rfl, mt_cdX6_leastAt, mt_mem (i := 73) (by decide +kernel) rfl, by decide, by decide +kernel, by decide +kernel, by decide +kernel⟩, mt_mem (i := 753) (by decide +kernel) rfl, mt_mem (i := 754) (by decide +kernel) rfl, by decide, _, rfl, rfl⟩
set_option maxRecDepth 20000 in
theorem mt_cdX6_has : Cond.code yX6_has cX6_has 2 (some .boolean) ∈ mt_tb := mt_mem (i := 759) rfl rfl
theorem mt_cvX6_48 : mt_CV RX6 48 yX6_has cX6_has 2 (some .boolean) 1 6 := ⟨⟨mt_mem (i := 756) (by decide +kernel) rfl, mt_cdX6_has, mt_mem (i := 73) (by decide +kernel) rfl, by decide, by decide +kernel, by decide +kernel, by decide +kernel⟩, mt_mem (i := 758) (by decide +kernel) rfl, mt_mem (i := 19) (by decide +kernel) rfl, by decide, _, rfl, rfl⟩
set_option maxRecDepth 20000 in
theorem mt_cdX6_middleAt : Cond.code yX6_middleAt cX6_middleAt 2 (some .long) ∈ mt_tb := mt_mem (i := 763) rfl rfl
theorem mt_cvX10_256 : mt_CV RX10 256 yX6_middleAt cX6_middleAt 2 (some .long) 1 6 := ⟨⟨mt_mem (i := 760) (by decide +kernel) rfl, mt_cdX6_middleAt, mt_mem (i := 73) (by decide +kernel) rfl, by decide, by decide +kernel, by decide +kernel, by decide +kernel⟩, mt_mem (i := 761) (by decide +kernel) rfl, mt_mem (i := 762) (by decide +kernel) rfl, by decide, _, rfl, rfl⟩
set_option maxRecDepth 20000 in
theorem mt_cdX6_stepsDownAt : Cond.code yX6_stepsDownAt cX6_stepsDownAt 2 (some .int) ∈ mt_tb := mt_mem (i := 767) rfl rfl
theorem mt_cvX10_259 : mt_CV RX10 259 yX6_stepsDownAt cX6_stepsDownAt 2 (some .int) 1 6 := ⟨⟨mt_mem (i := 764) (by decide +kernel) rfl, mt_cdX6_stepsDownAt, mt_mem (i := 73) (by decide +kernel) rfl, by decide, by decide +kernel, by decide +kernel, by decide +kernel⟩, mt_mem (i := 765) (by decide +kernel) rfl, mt_mem (i := 766) (by decide +kernel) rfl, by decide, _, rfl, rfl⟩
set_option maxRecDepth 20000 in
theorem mt_cdX10_spread : Cond.code yX10_spread cX10_spread 2 (some .int) ∈ mt_tb := mt_mem (i := 771) rfl rfl
theorem mt_cvL_128 : mt_CV RL 128 yX10_spread cX10_spread 2 (some .int) 0 10 := ⟨⟨mt_mem (i := 768) (by decide +kernel) rfl, mt_cdX10_spread, mt_mem (i := 63) (by decide +kernel) rfl, by decide, by decide +kernel, by decide +kernel, by decide +kernel⟩, mt_mem (i := 769) (by decide +kernel) rfl, mt_mem (i := 770) (by decide +kernel) rfl, by decide, _, rfl, rfl⟩
theorem mt_kX10_263 : Cond.constantFloat RX10 263 (1091567616) ∈ mt_tb := mt_mem (i := 772) (by decide +kernel) rfl
theorem mt_kX10_264 : Cond.constantFloat RX10 264 (1082130432) ∈ mt_tb := mt_mem (i := 773) (by decide +kernel) rfl
set_option maxRecDepth 20000 in
theorem mt_cdX10_bitsFromEight : Cond.code yX10_bitsFromEight cX10_bitsFromEight 1 (some .int) ∈ mt_tb := mt_mem (i := 776) rfl rfl
theorem mt_csX10_265 : mt_CS RX10 265 yX10_bitsFromEight cX10_bitsFromEight 1 (some .int) 1 := ⟨⟨mt_mem (i := 774) (by decide +kernel) rfl, mt_cdX10_bitsFromEight, mt_mem (i := 63) (by decide +kernel) rfl, by decide, by decide +kernel, by decide +kernel, by decide +kernel⟩, mt_mem (i := 775) (by decide +kernel) rfl⟩
theorem mt_kX10_269 : Cond.constant RX10 269 (1090519040) ∈ mt_tb := mt_mem (i := 777) (by decide +kernel) rfl
theorem mt_kX10_270 : Cond.constantFloat RX10 270 (1090519040) ∈ mt_tb := mt_mem (i := 778) (by decide +kernel) rfl
theorem mt_kX10_271 : Cond.constantFloat RX10 271 (1233125376) ∈ mt_tb := mt_mem (i := 779) (by decide +kernel) rfl
set_option maxRecDepth 20000 in
theorem mt_cdX10_mark : Cond.code yX10_mark cX10_mark 1 (some .int) ∈ mt_tb := mt_mem (i := 783) rfl rfl
theorem mt_cvL_132 : mt_CV RL 132 yX10_mark cX10_mark 1 (some .int) 0 10 := ⟨⟨mt_mem (i := 780) (by decide +kernel) rfl, mt_cdX10_mark, mt_mem (i := 63) (by decide +kernel) rfl, by decide, by decide +kernel, by decide +kernel, by decide +kernel⟩, mt_mem (i := 781) (by decide +kernel) rfl, mt_mem (i := 782) (by decide +kernel) rfl, by decide, _, rfl, rfl⟩
set_option maxRecDepth 20000 in
theorem mt_cdX5_isMarked : Cond.code yX5_isMarked cX5_isMarked 1 (some .boolean) ∈ mt_tb := mt_mem (i := 787) rfl rfl
theorem mt_cvX10_272 : mt_CV RX10 272 yX5_isMarked cX5_isMarked 1 (some .boolean) 0 5 := ⟨⟨mt_mem (i := 784) (by decide +kernel) rfl, mt_cdX5_isMarked, mt_mem (i := 66) (by decide +kernel) rfl, by decide, by decide +kernel, by decide +kernel, by decide +kernel⟩, mt_mem (i := 785) (by decide +kernel) rfl, mt_mem (i := 786) (by decide +kernel) rfl, by decide, _, rfl, rfl⟩
theorem mt_cvX5_25 : mt_CV RX5 25 yX4_p cX4_p 1 (some .int) 0 4 := ⟨⟨mt_mem (i := 788) (by decide +kernel) rfl, mt_cdX4_p, mt_mem (i := 67) (by decide +kernel) rfl, by decide, by decide +kernel, by decide +kernel, by decide +kernel⟩, mt_mem (i := 494) (by decide +kernel) rfl, mt_mem (i := 495) (by decide +kernel) rfl, by decide, _, rfl, rfl⟩
theorem mt_cvX5_29 : mt_CV RX5 29 yX4_q cX4_q 1 (some .int) 0 4 := ⟨⟨mt_mem (i := 789) (by decide +kernel) rfl, mt_cdX4_q, mt_mem (i := 67) (by decide +kernel) rfl, by decide, by decide +kernel, by decide +kernel, by decide +kernel⟩, mt_mem (i := 498) (by decide +kernel) rfl, mt_mem (i := 499) (by decide +kernel) rfl, by decide, _, rfl, rfl⟩
set_option maxRecDepth 20000 in
theorem mt_cdX3_indexOf : Cond.code yX3_indexOf cX3_indexOf 4 (some .int) ∈ mt_tb := mt_mem (i := 793) rfl rfl
theorem mt_cvX5_32 : mt_CV RX5 32 yX3_indexOf cX3_indexOf 4 (some .int) 2 3 := ⟨⟨mt_mem (i := 790) (by decide +kernel) rfl, mt_cdX3_indexOf, mt_mem (i := 68) (by decide +kernel) rfl, by decide, by decide +kernel, by decide +kernel, by decide +kernel⟩, mt_mem (i := 791) (by decide +kernel) rfl, mt_mem (i := 792) (by decide +kernel) rfl, by decide, _, rfl, rfl⟩
set_option maxRecDepth 20000 in
theorem mt_cdX10_markHere : Cond.code yX10_markHere cX10_markHere 2 (some .boolean) ∈ mt_tb := mt_mem (i := 797) rfl rfl
theorem mt_cvX10_275 : mt_CV RX10 275 yX10_markHere cX10_markHere 2 (some .boolean) 0 10 := ⟨⟨mt_mem (i := 794) (by decide +kernel) rfl, mt_cdX10_markHere, mt_mem (i := 63) (by decide +kernel) rfl, by decide, by decide +kernel, by decide +kernel, by decide +kernel⟩, mt_mem (i := 796) (by decide +kernel) rfl, mt_mem (i := 20) (by decide +kernel) rfl, by decide, _, rfl, rfl⟩
set_option maxRecDepth 20000 in
theorem mt_cdX3_isFull : Cond.code yX3_isFull cX3_isFull 1 (some .boolean) ∈ mt_tb := mt_mem (i := 801) rfl rfl
theorem mt_cvX10_301 : mt_CV RX10 301 yX3_isFull cX3_isFull 1 (some .boolean) 0 3 := ⟨⟨mt_mem (i := 798) (by decide +kernel) rfl, mt_cdX3_isFull, mt_mem (i := 68) (by decide +kernel) rfl, by decide, by decide +kernel, by decide +kernel, by decide +kernel⟩, mt_mem (i := 799) (by decide +kernel) rfl, mt_mem (i := 800) (by decide +kernel) rfl, by decide, _, rfl, rfl⟩
set_option maxRecDepth 20000 in
theorem mt_cdX3_put : Cond.code yX3_put cX3_put 6 none ∈ mt_tb := mt_mem (i := 805) rfl rfl
theorem mt_cvX10_304 : mt_CV RX10 304 yX3_put cX3_put 6 none 3 3 := ⟨⟨mt_mem (i := 802) (by decide +kernel) rfl, mt_cdX3_put, mt_mem (i := 68) (by decide +kernel) rfl, by decide, by decide +kernel, by decide +kernel, by decide +kernel⟩, mt_mem (i := 803) (by decide +kernel) rfl, mt_mem (i := 804) (by decide +kernel) rfl, by decide, _, rfl, rfl⟩
theorem mt_cvX3_36 : mt_CV RX3 36 yX3_isFull cX3_isFull 1 (some .boolean) 0 3 := ⟨⟨mt_mem (i := 806) (by decide +kernel) rfl, mt_cdX3_isFull, mt_mem (i := 68) (by decide +kernel) rfl, by decide, by decide +kernel, by decide +kernel, by decide +kernel⟩, mt_mem (i := 799) (by decide +kernel) rfl, mt_mem (i := 800) (by decide +kernel) rfl, by decide, _, rfl, rfl⟩
set_option maxRecDepth 20000 in
theorem mt_cdX10_unmark : Cond.code yX10_unmark cX10_unmark 2 (some .int) ∈ mt_tb := mt_mem (i := 810) rfl rfl
theorem mt_cvL_136 : mt_CV RL 136 yX10_unmark cX10_unmark 2 (some .int) 0 10 := ⟨⟨mt_mem (i := 807) (by decide +kernel) rfl, mt_cdX10_unmark, mt_mem (i := 63) (by decide +kernel) rfl, by decide, by decide +kernel, by decide +kernel, by decide +kernel⟩, mt_mem (i := 808) (by decide +kernel) rfl, mt_mem (i := 809) (by decide +kernel) rfl, by decide, _, rfl, rfl⟩
theorem mt_cvX10_278 : mt_CV RX10 278 yX3_indexOf cX3_indexOf 4 (some .int) 2 3 := ⟨⟨mt_mem (i := 811) (by decide +kernel) rfl, mt_cdX3_indexOf, mt_mem (i := 68) (by decide +kernel) rfl, by decide, by decide +kernel, by decide +kernel, by decide +kernel⟩, mt_mem (i := 791) (by decide +kernel) rfl, mt_mem (i := 792) (by decide +kernel) rfl, by decide, _, rfl, rfl⟩
set_option maxRecDepth 20000 in
theorem mt_cdX3_drop : Cond.code yX3_drop cX3_drop 3 none ∈ mt_tb := mt_mem (i := 815) rfl rfl
theorem mt_cvX10_281 : mt_CV RX10 281 yX3_drop cX3_drop 3 none 1 3 := ⟨⟨mt_mem (i := 812) (by decide +kernel) rfl, mt_cdX3_drop, mt_mem (i := 68) (by decide +kernel) rfl, by decide, by decide +kernel, by decide +kernel, by decide +kernel⟩, mt_mem (i := 813) (by decide +kernel) rfl, mt_mem (i := 814) (by decide +kernel) rfl, by decide, _, rfl, rfl⟩
set_option maxRecDepth 20000 in
theorem mt_cdX3_has : Cond.code yX3_has cX3_has 2 (some .boolean) ∈ mt_tb := mt_mem (i := 819) rfl rfl
theorem mt_cvX3_30 : mt_CV RX3 30 yX3_has cX3_has 2 (some .boolean) 1 3 := ⟨⟨mt_mem (i := 816) (by decide +kernel) rfl, mt_cdX3_has, mt_mem (i := 68) (by decide +kernel) rfl, by decide, by decide +kernel, by decide +kernel, by decide +kernel⟩, mt_mem (i := 817) (by decide +kernel) rfl, mt_mem (i := 818) (by decide +kernel) rfl, by decide, _, rfl, rfl⟩
set_option maxRecDepth 20000 in
theorem mt_cdX10_marked : Cond.code yX10_marked cX10_marked 4 (some .long) ∈ mt_tb := mt_mem (i := 823) rfl rfl
theorem mt_cvL_140 : mt_CV RL 140 yX10_marked cX10_marked 4 (some .long) 2 10 := ⟨⟨mt_mem (i := 820) (by decide +kernel) rfl, mt_cdX10_marked, mt_mem (i := 63) (by decide +kernel) rfl, by decide, by decide +kernel, by decide +kernel, by decide +kernel⟩, mt_mem (i := 821) (by decide +kernel) rfl, mt_mem (i := 822) (by decide +kernel) rfl, by decide, _, rfl, rfl⟩
set_option maxRecDepth 20000 in
theorem mt_cdX3_numberAt : Cond.code yX3_numberAt cX3_numberAt 2 (some .long) ∈ mt_tb := mt_mem (i := 827) rfl rfl
theorem mt_cvX10_284 : mt_CV RX10 284 yX3_numberAt cX3_numberAt 2 (some .long) 1 3 := ⟨⟨mt_mem (i := 824) (by decide +kernel) rfl, mt_cdX3_numberAt, mt_mem (i := 68) (by decide +kernel) rfl, by decide, by decide +kernel, by decide +kernel, by decide +kernel⟩, mt_mem (i := 825) (by decide +kernel) rfl, mt_mem (i := 826) (by decide +kernel) rfl, by decide, _, rfl, rfl⟩
theorem mt_kX3_34 : Cond.constantLong RX3 34 (-1) ∈ mt_tb := mt_mem (i := 828) (by decide +kernel) rfl
set_option maxRecDepth 20000 in
theorem mt_cdX3_pAt : Cond.code yX3_pAt cX3_pAt 2 (some .int) ∈ mt_tb := mt_mem (i := 832) rfl rfl
theorem mt_cvX10_285 : mt_CV RX10 285 yX3_pAt cX3_pAt 2 (some .int) 1 3 := ⟨⟨mt_mem (i := 829) (by decide +kernel) rfl, mt_cdX3_pAt, mt_mem (i := 68) (by decide +kernel) rfl, by decide, by decide +kernel, by decide +kernel, by decide +kernel⟩, mt_mem (i := 830) (by decide +kernel) rfl, mt_mem (i := 831) (by decide +kernel) rfl, by decide, _, rfl, rfl⟩
set_option maxRecDepth 20000 in
theorem mt_cdX3_qAt : Cond.code yX3_qAt cX3_qAt 2 (some .int) ∈ mt_tb := mt_mem (i := 836) rfl rfl
theorem mt_cvX10_288 : mt_CV RX10 288 yX3_qAt cX3_qAt 2 (some .int) 1 3 := ⟨⟨mt_mem (i := 833) (by decide +kernel) rfl, mt_cdX3_qAt, mt_mem (i := 68) (by decide +kernel) rfl, by decide, by decide +kernel, by decide +kernel, by decide +kernel⟩, mt_mem (i := 834) (by decide +kernel) rfl, mt_mem (i := 835) (by decide +kernel) rfl, by decide, _, rfl, rfl⟩
set_option maxRecDepth 20000 in
theorem mt_cdX10_near : Cond.code yX10_near cX10_near 4 (some .long) ∈ mt_tb := mt_mem (i := 840) rfl rfl
theorem mt_cvL_144 : mt_CV RL 144 yX10_near cX10_near 4 (some .long) 2 10 := ⟨⟨mt_mem (i := 837) (by decide +kernel) rfl, mt_cdX10_near, mt_mem (i := 63) (by decide +kernel) rfl, by decide, by decide +kernel, by decide +kernel, by decide +kernel⟩, mt_mem (i := 838) (by decide +kernel) rfl, mt_mem (i := 839) (by decide +kernel) rfl, by decide, _, rfl, rfl⟩
set_option maxRecDepth 20000 in
theorem mt_cdX3_nextFrom : Cond.code yX3_nextFrom cX3_nextFrom 4 (some .long) ∈ mt_tb := mt_mem (i := 844) rfl rfl
theorem mt_cvX10_291 : mt_CV RX10 291 yX3_nextFrom cX3_nextFrom 4 (some .long) 1 3 := ⟨⟨mt_mem (i := 841) (by decide +kernel) rfl, mt_cdX3_nextFrom, mt_mem (i := 68) (by decide +kernel) rfl, by decide, by decide +kernel, by decide +kernel, by decide +kernel⟩, mt_mem (i := 842) (by decide +kernel) rfl, mt_mem (i := 843) (by decide +kernel) rfl, by decide, _, rfl, rfl⟩
set_option maxRecDepth 20000 in
theorem mt_cdX3_lastTo : Cond.code yX3_lastTo cX3_lastTo 6 (some .long) ∈ mt_tb := mt_mem (i := 848) rfl rfl
theorem mt_cvX10_295 : mt_CV RX10 295 yX3_lastTo cX3_lastTo 6 (some .long) 1 3 := ⟨⟨mt_mem (i := 845) (by decide +kernel) rfl, mt_cdX3_lastTo, mt_mem (i := 68) (by decide +kernel) rfl, by decide, by decide +kernel, by decide +kernel, by decide +kernel⟩, mt_mem (i := 846) (by decide +kernel) rfl, mt_mem (i := 847) (by decide +kernel) rfl, by decide, _, rfl, rfl⟩
set_option maxRecDepth 20000 in
theorem mt_cdX10_jump : Cond.code yX10_jump cX10_jump 3 (some .int) ∈ mt_tb := mt_mem (i := 852) rfl rfl
theorem mt_cvL_149 : mt_CV RL 149 yX10_jump cX10_jump 3 (some .int) 1 10 := ⟨⟨mt_mem (i := 849) (by decide +kernel) rfl, mt_cdX10_jump, mt_mem (i := 63) (by decide +kernel) rfl, by decide, by decide +kernel, by decide +kernel, by decide +kernel⟩, mt_mem (i := 850) (by decide +kernel) rfl, mt_mem (i := 851) (by decide +kernel) rfl, by decide, _, rfl, rfl⟩
theorem mt_cvX10_298 : mt_CV RX10 298 yX3_has cX3_has 2 (some .boolean) 1 3 := ⟨⟨mt_mem (i := 853) (by decide +kernel) rfl, mt_cdX3_has, mt_mem (i := 68) (by decide +kernel) rfl, by decide, by decide +kernel, by decide +kernel, by decide +kernel⟩, mt_mem (i := 817) (by decide +kernel) rfl, mt_mem (i := 818) (by decide +kernel) rfl, by decide, _, rfl, rfl⟩
set_option maxRecDepth 20000 in
theorem mt_cdX10_told : Cond.code yX10_told cX10_told 1 (some .int) ∈ mt_tb := mt_mem (i := 857) rfl rfl
theorem mt_cvL_153 : mt_CV RL 153 yX10_told cX10_told 1 (some .int) 0 10 := ⟨⟨mt_mem (i := 854) (by decide +kernel) rfl, mt_cdX10_told, mt_mem (i := 63) (by decide +kernel) rfl, by decide, by decide +kernel, by decide +kernel, by decide +kernel⟩, mt_mem (i := 855) (by decide +kernel) rfl, mt_mem (i := 856) (by decide +kernel) rfl, by decide, _, rfl, rfl⟩
set_option maxRecDepth 20000 in
theorem mt_cdX8_tell : Cond.code yX8_tell cX8_tell 6 (some .int) ∈ mt_tb := mt_mem (i := 861) rfl rfl
theorem mt_cvX10_308 : mt_CV RX10 308 yX8_tell cX8_tell 6 (some .int) 2 8 := ⟨⟨mt_mem (i := 858) (by decide +kernel) rfl, mt_cdX8_tell, mt_mem (i := 70) (by decide +kernel) rfl, by decide, by decide +kernel, by decide +kernel, by decide +kernel⟩, mt_mem (i := 859) (by decide +kernel) rfl, mt_mem (i := 860) (by decide +kernel) rfl, by decide, _, rfl, rfl⟩
theorem mt_cvX8_26 : mt_CV RX8 26 yX4_goHome cX4_goHome 1 none 0 4 := ⟨⟨mt_mem (i := 862) (by decide +kernel) rfl, mt_cdX4_goHome, mt_mem (i := 67) (by decide +kernel) rfl, by decide, by decide +kernel, by decide +kernel, by decide +kernel⟩, mt_mem (i := 159) (by decide +kernel) rfl, mt_mem (i := 160) (by decide +kernel) rfl, by decide, _, rfl, rfl⟩
theorem mt_cvX8_29 : mt_CV RX8 29 yX4_isAt cX4_isAt 3 (some .boolean) 2 4 := ⟨⟨mt_mem (i := 863) (by decide +kernel) rfl, mt_cdX4_isAt, mt_mem (i := 67) (by decide +kernel) rfl, by decide, by decide +kernel, by decide +kernel, by decide +kernel⟩, mt_mem (i := 592) (by decide +kernel) rfl, mt_mem (i := 593) (by decide +kernel) rfl, by decide, _, rfl, rfl⟩
theorem mt_cvX8_33 : mt_CV RX8 33 yX4_sideOf cX4_sideOf 3 (some .int) 2 4 := ⟨⟨mt_mem (i := 864) (by decide +kernel) rfl, mt_cdX4_sideOf, mt_mem (i := 67) (by decide +kernel) rfl, by decide, by decide +kernel, by decide +kernel, by decide +kernel⟩, mt_mem (i := 601) (by decide +kernel) rfl, mt_mem (i := 602) (by decide +kernel) rfl, by decide, _, rfl, rfl⟩
set_option maxRecDepth 20000 in
theorem mt_cdX8_goOn : Cond.code yX8_goOn cX8_goOn 5 (some .int) ∈ mt_tb := mt_mem (i := 868) rfl rfl
theorem mt_cvX8_37 : mt_CV RX8 37 yX8_goOn cX8_goOn 5 (some .int) 3 8 := ⟨⟨mt_mem (i := 865) (by decide +kernel) rfl, mt_cdX8_goOn, mt_mem (i := 70) (by decide +kernel) rfl, by decide, by decide +kernel, by decide +kernel, by decide +kernel⟩, mt_mem (i := 867) (by decide +kernel) rfl, mt_mem (i := 21) (by decide +kernel) rfl, by decide, _, rfl, rfl⟩
theorem mt_cvX8_48 : mt_CV RX8 48 yX4_stepToSide cX4_stepToSide 2 (some .boolean) 1 4 := ⟨⟨mt_mem (i := 869) (by decide +kernel) rfl, mt_cdX4_stepToSide, mt_mem (i := 67) (by decide +kernel) rfl, by decide, by decide +kernel, by decide +kernel, by decide +kernel⟩, mt_mem (i := 608) (by decide +kernel) rfl, mt_mem (i := 609) (by decide +kernel) rfl, by decide, _, rfl, rfl⟩
set_option maxRecDepth 20000 in
theorem mt_cdX8_put : Cond.code yX8_put cX8_put 2 none ∈ mt_tb := mt_mem (i := 873) rfl rfl
theorem mt_cvX8_41 : mt_CV RX8 41 yX8_put cX8_put 2 none 1 8 := ⟨⟨mt_mem (i := 870) (by decide +kernel) rfl, mt_cdX8_put, mt_mem (i := 70) (by decide +kernel) rfl, by decide, by decide +kernel, by decide +kernel, by decide +kernel⟩, mt_mem (i := 872) (by decide +kernel) rfl, mt_mem (i := 22) (by decide +kernel) rfl, by decide, _, rfl, rfl⟩
set_option maxRecDepth 20000 in
theorem mt_cdX8_putNumber : Cond.code yX8_putNumber cX8_putNumber 2 none ∈ mt_tb := mt_mem (i := 877) rfl rfl
theorem mt_cvX8_45 : mt_CV RX8 45 yX8_putNumber cX8_putNumber 2 none 1 8 := ⟨⟨mt_mem (i := 874) (by decide +kernel) rfl, mt_cdX8_putNumber, mt_mem (i := 70) (by decide +kernel) rfl, by decide, by decide +kernel, by decide +kernel, by decide +kernel⟩, mt_mem (i := 876) (by decide +kernel) rfl, mt_mem (i := 23) (by decide +kernel) rfl, by decide, _, rfl, rfl⟩
set_option maxRecDepth 20000 in
theorem mt_cdX10_byteAt : Cond.code yX10_byteAt cX10_byteAt 2 (some .int) ∈ mt_tb := mt_mem (i := 881) rfl rfl
theorem mt_cvL_157 : mt_CV RL 157 yX10_byteAt cX10_byteAt 2 (some .int) 1 10 := ⟨⟨mt_mem (i := 878) (by decide +kernel) rfl, mt_cdX10_byteAt, mt_mem (i := 63) (by decide +kernel) rfl, by decide, by decide +kernel, by decide +kernel, by decide +kernel⟩, mt_mem (i := 879) (by decide +kernel) rfl, mt_mem (i := 880) (by decide +kernel) rfl, by decide, _, rfl, rfl⟩
set_option maxRecDepth 20000 in
theorem mt_cdX8_at : Cond.code yX8_at cX8_at 2 (some .int) ∈ mt_tb := mt_mem (i := 885) rfl rfl
theorem mt_cvX10_311 : mt_CV RX10 311 yX8_at cX8_at 2 (some .int) 1 8 := ⟨⟨mt_mem (i := 882) (by decide +kernel) rfl, mt_cdX8_at, mt_mem (i := 70) (by decide +kernel) rfl, by decide, by decide +kernel, by decide +kernel, by decide +kernel⟩, mt_mem (i := 883) (by decide +kernel) rfl, mt_mem (i := 884) (by decide +kernel) rfl, by decide, _, rfl, rfl⟩
set_option maxRecDepth 20000 in
theorem mt_cdX10_drawn : Cond.code yX10_drawn cX10_drawn 6 (some .int) ∈ mt_tb := mt_mem (i := 889) rfl rfl
theorem mt_cvL_161 : mt_CV RL 161 yX10_drawn cX10_drawn 6 (some .int) 2 10 := ⟨⟨mt_mem (i := 886) (by decide +kernel) rfl, mt_cdX10_drawn, mt_mem (i := 63) (by decide +kernel) rfl, by decide, by decide +kernel, by decide +kernel, by decide +kernel⟩, mt_mem (i := 887) (by decide +kernel) rfl, mt_mem (i := 888) (by decide +kernel) rfl, by decide, _, rfl, rfl⟩
theorem mt_kX10_314 : Cond.constant RX10 314 (1103515245) ∈ mt_tb := mt_mem (i := 890) (by decide +kernel) rfl
set_option maxRecDepth 20000 in
theorem mt_cdX10_doDrawn : Cond.code yX10_doDrawn cX10_doDrawn 2 (some .boolean) ∈ mt_tb := mt_mem (i := 894) rfl rfl
theorem mt_cvX10_315 : mt_CV RX10 315 yX10_doDrawn cX10_doDrawn 2 (some .boolean) 1 10 := ⟨⟨mt_mem (i := 891) (by decide +kernel) rfl, mt_cdX10_doDrawn, mt_mem (i := 63) (by decide +kernel) rfl, by decide, by decide +kernel, by decide +kernel, by decide +kernel⟩, mt_mem (i := 893) (by decide +kernel) rfl, mt_mem (i := 24) (by decide +kernel) rfl, by decide, _, rfl, rfl⟩
set_option maxRecDepth 20000 in
theorem mt_cdX10_undo : Cond.code yX10_undo cX10_undo 1 (some .int) ∈ mt_tb := mt_mem (i := 898) rfl rfl
theorem mt_cvL_165 : mt_CV RL 165 yX10_undo cX10_undo 1 (some .int) 0 10 := ⟨⟨mt_mem (i := 895) (by decide +kernel) rfl, mt_cdX10_undo, mt_mem (i := 63) (by decide +kernel) rfl, by decide, by decide +kernel, by decide +kernel, by decide +kernel⟩, mt_mem (i := 896) (by decide +kernel) rfl, mt_mem (i := 897) (by decide +kernel) rfl, by decide, _, rfl, rfl⟩
set_option maxRecDepth 20000 in
theorem mt_cdX2_takeBack : Cond.code yX2_takeBack cX2_takeBack 2 (some .boolean) ∈ mt_tb := mt_mem (i := 902) rfl rfl
theorem mt_cvX10_318 : mt_CV RX10 318 yX2_takeBack cX2_takeBack 2 (some .boolean) 1 2 := ⟨⟨mt_mem (i := 899) (by decide +kernel) rfl, mt_cdX2_takeBack, mt_mem (i := 69) (by decide +kernel) rfl, by decide, by decide +kernel, by decide +kernel, by decide +kernel⟩, mt_mem (i := 900) (by decide +kernel) rfl, mt_mem (i := 901) (by decide +kernel) rfl, by decide, _, rfl, rfl⟩
set_option maxRecDepth 20000 in
theorem mt_cdX10_image : Cond.code yX10_image cX10_image 3 (some .boolean) ∈ mt_tb := mt_mem (i := 906) rfl rfl
theorem mt_cvL_169 : mt_CV RL 169 yX10_image cX10_image 3 (some .boolean) 1 10 := ⟨⟨mt_mem (i := 903) (by decide +kernel) rfl, mt_cdX10_image, mt_mem (i := 63) (by decide +kernel) rfl, by decide, by decide +kernel, by decide +kernel, by decide +kernel⟩, mt_mem (i := 904) (by decide +kernel) rfl, mt_mem (i := 905) (by decide +kernel) rfl, by decide, _, rfl, rfl⟩
set_option maxRecDepth 20000 in
theorem mt_cdX10_imageAt : Cond.code yX10_imageAt cX10_imageAt 2 (some (.object "MarkovTree$State")) ∈ mt_tb := mt_mem (i := 910) rfl rfl
theorem mt_cvX10_322 : mt_CV RX10 322 yX10_imageAt cX10_imageAt 2 (some (.object "MarkovTree$State")) 1 10 := ⟨⟨mt_mem (i := 907) (by decide +kernel) rfl, mt_cdX10_imageAt, mt_mem (i := 63) (by decide +kernel) rfl, by decide, by decide +kernel, by decide +kernel, by decide +kernel⟩, mt_mem (i := 909) (by decide +kernel) rfl, mt_mem (i := 25) (by decide +kernel) rfl, by decide, _, rfl, rfl⟩
theorem mt_cvX10_326 : mt_CV RX10 326 yX5_copyFrom cX5_copyFrom 2 none 1 5 := ⟨⟨mt_mem (i := 911) (by decide +kernel) rfl, mt_cdX5_copyFrom, mt_mem (i := 66) (by decide +kernel) rfl, by decide, by decide +kernel, by decide +kernel, by decide +kernel⟩, mt_mem (i := 451) (by decide +kernel) rfl, mt_mem (i := 452) (by decide +kernel) rfl, by decide, _, rfl, rfl⟩
set_option maxRecDepth 20000 in
theorem mt_cdX10_restore : Cond.code yX10_restore cX10_restore 3 (some .boolean) ∈ mt_tb := mt_mem (i := 915) rfl rfl
theorem mt_cvL_173 : mt_CV RL 173 yX10_restore cX10_restore 3 (some .boolean) 1 10 := ⟨⟨mt_mem (i := 912) (by decide +kernel) rfl, mt_cdX10_restore, mt_mem (i := 63) (by decide +kernel) rfl, by decide, by decide +kernel, by decide +kernel, by decide +kernel⟩, mt_mem (i := 913) (by decide +kernel) rfl, mt_mem (i := 914) (by decide +kernel) rfl, by decide, _, rfl, rfl⟩
set_option maxRecDepth 20000 in
theorem mt_cdX2_forget : Cond.code yX2_forget cX2_forget 1 none ∈ mt_tb := mt_mem (i := 919) rfl rfl
theorem mt_cvX10_329 : mt_CV RX10 329 yX2_forget cX2_forget 1 none 0 2 := ⟨⟨mt_mem (i := 916) (by decide +kernel) rfl, mt_cdX2_forget, mt_mem (i := 69) (by decide +kernel) rfl, by decide, by decide +kernel, by decide +kernel, by decide +kernel⟩, mt_mem (i := 917) (by decide +kernel) rfl, mt_mem (i := 918) (by decide +kernel) rfl, by decide, _, rfl, rfl⟩
set_option maxRecDepth 20000 in
theorem mt_cdX10_triple : Cond.code yX10_triple cX10_triple 3 (some .long) ∈ mt_tb := mt_mem (i := 927) rfl rfl
theorem mt_cvL_7 : mt_CV RL 7 yX10_triple cX10_triple 3 (some .long) 1 10 := ⟨⟨mt_mem (i := 924) (by decide +kernel) rfl, mt_cdX10_triple, mt_mem (i := 63) (by decide +kernel) rfl, by decide, by decide +kernel, by decide +kernel, by decide +kernel⟩, mt_mem (i := 925) (by decide +kernel) rfl, mt_mem (i := 926) (by decide +kernel) rfl, by decide, _, rfl, rfl⟩
set_option maxRecDepth 20000 in
theorem mt_cdX10_matrix : Cond.code yX10_matrix cX10_matrix 3 (some .long) ∈ mt_tb := mt_mem (i := 995) rfl rfl
theorem mt_cvL_15 : mt_CV RL 15 yX10_matrix cX10_matrix 3 (some .long) 2 10 := ⟨⟨mt_mem (i := 992) (by decide +kernel) rfl, mt_cdX10_matrix, mt_mem (i := 63) (by decide +kernel) rfl, by decide, by decide +kernel, by decide +kernel, by decide +kernel⟩, mt_mem (i := 993) (by decide +kernel) rfl, mt_mem (i := 994) (by decide +kernel) rfl, by decide, _, rfl, rfl⟩
set_option maxRecDepth 20000 in
theorem mt_cdX10_form : Cond.code yX10_form cX10_form 2 (some .long) ∈ mt_tb := mt_mem (i := 1002) rfl rfl
theorem mt_cvL_19 : mt_CV RL 19 yX10_form cX10_form 2 (some .long) 1 10 := ⟨⟨mt_mem (i := 999) (by decide +kernel) rfl, mt_cdX10_form, mt_mem (i := 63) (by decide +kernel) rfl, by decide, by decide +kernel, by decide +kernel, by decide +kernel⟩, mt_mem (i := 1000) (by decide +kernel) rfl, mt_mem (i := 1001) (by decide +kernel) rfl, by decide, _, rfl, rfl⟩
set_option maxRecDepth 20000 in
theorem mt_cdX1_coefficient : Cond.code yX1_coefficient cX1_coefficient 2 (some .long) ∈ mt_tb := mt_mem (i := 1006) rfl rfl
theorem mt_cvX10_205 : mt_CV RX10 205 yX1_coefficient cX1_coefficient 2 (some .long) 1 1 := ⟨⟨mt_mem (i := 1003) (by decide +kernel) rfl, mt_cdX1_coefficient, mt_mem (i := 72) (by decide +kernel) rfl, by decide, by decide +kernel, by decide +kernel, by decide +kernel⟩, mt_mem (i := 1004) (by decide +kernel) rfl, mt_mem (i := 1005) (by decide +kernel) rfl, by decide, _, rfl, rfl⟩
set_option maxRecDepth 20000 in
theorem mt_cdX11_thrown : Cond.code yX11_thrown cX11_thrown 1 (some .int) ∈ mt_tb := mt_mem (i := 1010) rfl rfl
theorem mt_cvL_73 : mt_CV RL 73 yX11_thrown cX11_thrown 1 (some .int) 0 11 := ⟨⟨mt_mem (i := 1007) (by decide +kernel) rfl, mt_cdX11_thrown, mt_mem (i := 74) (by decide +kernel) rfl, by decide, by decide +kernel, by decide +kernel, by decide +kernel⟩, mt_mem (i := 1008) (by decide +kernel) rfl, mt_mem (i := 1009) (by decide +kernel) rfl, by decide, _, rfl, rfl⟩
set_option maxRecDepth 20000 in
theorem mt_cdX11_feed : Cond.code yX11_feed cX11_feed 6 (some .int) ∈ mt_tb := mt_mem (i := 1014) rfl rfl
theorem mt_cvL_30 : mt_CV RL 30 yX11_feed cX11_feed 6 (some .int) 5 11 := ⟨⟨mt_mem (i := 1011) (by decide +kernel) rfl, mt_cdX11_feed, mt_mem (i := 74) (by decide +kernel) rfl, by decide, by decide +kernel, by decide +kernel, by decide +kernel⟩, mt_mem (i := 1012) (by decide +kernel) rfl, mt_mem (i := 1013) (by decide +kernel) rfl, by decide, _, rfl, rfl⟩
set_option maxRecDepth 20000 in
theorem mt_cdX11_lay : Cond.code yX11_lay cX11_lay 3 none ∈ mt_tb := mt_mem (i := 1019) rfl rfl
theorem mt_cvX11_14 : mt_CV RX11 14 yX11_lay cX11_lay 3 none 1 11 := ⟨⟨mt_mem (i := 1015) (by decide +kernel) rfl, mt_cdX11_lay, mt_mem (i := 74) (by decide +kernel) rfl, by decide, by decide +kernel, by decide +kernel, by decide +kernel⟩, mt_mem (i := 1017) (by decide +kernel) rfl, mt_mem (i := 27) (by decide +kernel) rfl, by decide, _, rfl, rfl⟩
set_option maxRecDepth 20000 in
theorem mt_cdX11_end : Cond.code yX11_end cX11_end 2 (some .boolean) ∈ mt_tb := mt_mem (i := 1023) rfl rfl
theorem mt_cvL_35 : mt_CV RL 35 yX11_end cX11_end 2 (some .boolean) 1 11 := ⟨⟨mt_mem (i := 1020) (by decide +kernel) rfl, mt_cdX11_end, mt_mem (i := 74) (by decide +kernel) rfl, by decide, by decide +kernel, by decide +kernel, by decide +kernel⟩, mt_mem (i := 1021) (by decide +kernel) rfl, mt_mem (i := 1022) (by decide +kernel) rfl, by decide, _, rfl, rfl⟩
set_option maxRecDepth 20000 in
theorem mt_cdX11_init : Cond.code yX11_init cX11_init 1 none ∈ mt_tb := mt_mem (i := 1027) rfl rfl
theorem mt_ciL_25 : mt_CI RL 25 yX11_init cX11_init 1 0 := ⟨⟨mt_mem (i := 1025) (by decide +kernel) rfl, mt_cdX11_init, mt_mem (i := 74) (by decide +kernel) rfl, by decide, by decide +kernel, by decide +kernel, by decide +kernel⟩, rfl, mt_mem (i := 1026) (by decide +kernel) rfl⟩
theorem mt_flX11_1 : mt_FL RX11 1 11 0 0 false .int := ⟨RX11, TX11, 39, tyX11, mt_cf11, rfl, mt_mem (i := 1029) (by decide +kernel) rfl, rfl, rfl, rfl⟩
theorem mt_flX11_7 : mt_FL RX11 7 11 1 2 true (.array .int) := ⟨RX11, TX11, 39, tyX11, mt_cf11, rfl, mt_mem (i := 1030) (by decide +kernel) rfl, rfl, rfl, rfl⟩
theorem mt_flX11_11 : mt_FL RX11 11 11 2 0 false .int := ⟨RX11, TX11, 39, tyX11, mt_cf11, rfl, mt_mem (i := 1031) (by decide +kernel) rfl, rfl, rfl, rfl⟩
theorem mt_flX11_24 : mt_FL RX11 24 11 3 2 true (.array .int) := ⟨RX11, TX11, 39, tyX11, mt_cf11, rfl, mt_mem (i := 1032) (by decide +kernel) rfl, rfl, rfl, rfl⟩
theorem mt_flX11_27 : mt_FL RX11 27 11 4 2 true (.array .int) := ⟨RX11, TX11, 39, tyX11, mt_cf11, rfl, mt_mem (i := 1033) (by decide +kernel) rfl, rfl, rfl, rfl⟩
theorem mt_flX11_30 : mt_FL RX11 30 11 5 2 true (.array .int) := ⟨RX11, TX11, 39, tyX11, mt_cf11, rfl, mt_mem (i := 1034) (by decide +kernel) rfl, rfl, rfl, rfl⟩
theorem mt_flX11_33 : mt_FL RX11 33 11 6 2 true (.array .int) := ⟨RX11, TX11, 39, tyX11, mt_cf11, rfl, mt_mem (i := 1035) (by decide +kernel) rfl, rfl, rfl, rfl⟩
theorem mt_flX11_36 : mt_FL RX11 36 11 7 2 true (.array .int) := ⟨RX11, TX11, 39, tyX11, mt_cf11, rfl, mt_mem (i := 1036) (by decide +kernel) rfl, rfl, rfl, rfl⟩
theorem mt_flX11_39 : mt_FL RX11 39 11 8 2 true (.array .boolean) := ⟨RX11, TX11, 39, tyX11, mt_cf11, rfl, mt_mem (i := 1037) (by decide +kernel) rfl, rfl, rfl, rfl⟩
theorem mt_flX11_56 : mt_FL RX11 56 11 9 0 false .int := ⟨RX11, TX11, 39, tyX11, mt_cf11, rfl, mt_mem (i := 1038) (by decide +kernel) rfl, rfl, rfl, rfl⟩
theorem mt_flX11_66 : mt_FL RX11 66 11 10 0 false .int := ⟨RX11, TX11, 39, tyX11, mt_cf11, rfl, mt_mem (i := 1039) (by decide +kernel) rfl, rfl, rfl, rfl⟩
theorem mt_flX11_69 : mt_FL RX11 69 11 11 0 false .int := ⟨RX11, TX11, 39, tyX11, mt_cf11, rfl, mt_mem (i := 1040) (by decide +kernel) rfl, rfl, rfl, rfl⟩
theorem mt_flX11_72 : mt_FL RX11 72 11 12 0 false .int := ⟨RX11, TX11, 39, tyX11, mt_cf11, rfl, mt_mem (i := 1041) (by decide +kernel) rfl, rfl, rfl, rfl⟩
theorem mt_flX11_75 : mt_FL RX11 75 11 13 0 false .int := ⟨RX11, TX11, 39, tyX11, mt_cf11, rfl, mt_mem (i := 1042) (by decide +kernel) rfl, rfl, rfl, rfl⟩
theorem mt_flX11_78 : mt_FL RX11 78 11 14 0 false .int := ⟨RX11, TX11, 39, tyX11, mt_cf11, rfl, mt_mem (i := 1043) (by decide +kernel) rfl, rfl, rfl, rfl⟩
theorem mt_flX11_43 : mt_FL RX11 43 11 15 2 true (.array .int) := ⟨RX11, TX11, 39, tyX11, mt_cf11, rfl, mt_mem (i := 1044) (by decide +kernel) rfl, rfl, rfl, rfl⟩
theorem mt_flX11_46 : mt_FL RX11 46 11 16 2 true (.array .long) := ⟨RX11, TX11, 39, tyX11, mt_cf11, rfl, mt_mem (i := 1045) (by decide +kernel) rfl, rfl, rfl, rfl⟩
theorem mt_flX11_147 : mt_FL RX11 147 11 17 1 false .long := ⟨RX11, TX11, 39, tyX11, mt_cf11, rfl, mt_mem (i := 1046) (by decide +kernel) rfl, rfl, rfl, rfl⟩
theorem mt_flX11_153 : mt_FL RX11 153 11 18 1 false .long := ⟨RX11, TX11, 39, tyX11, mt_cf11, rfl, mt_mem (i := 1047) (by decide +kernel) rfl, rfl, rfl, rfl⟩
theorem mt_flX11_156 : mt_FL RX11 156 11 19 1 false .long := ⟨RX11, TX11, 39, tyX11, mt_cf11, rfl, mt_mem (i := 1048) (by decide +kernel) rfl, rfl, rfl, rfl⟩
theorem mt_flX11_163 : mt_FL RX11 163 11 20 1 false .long := ⟨RX11, TX11, 39, tyX11, mt_cf11, rfl, mt_mem (i := 1049) (by decide +kernel) rfl, rfl, rfl, rfl⟩
theorem mt_flX11_166 : mt_FL RX11 166 11 21 1 false .long := ⟨RX11, TX11, 39, tyX11, mt_cf11, rfl, mt_mem (i := 1050) (by decide +kernel) rfl, rfl, rfl, rfl⟩
theorem mt_flX11_186 : mt_FL RX11 186 11 22 1 false .long := ⟨RX11, TX11, 39, tyX11, mt_cf11, rfl, mt_mem (i := 1051) (by decide +kernel) rfl, rfl, rfl, rfl⟩
theorem mt_flX11_50 : mt_FL RX11 50 11 23 2 true (.array .long) := ⟨RX11, TX11, 39, tyX11, mt_cf11, rfl, mt_mem (i := 1052) (by decide +kernel) rfl, rfl, rfl, rfl⟩
theorem mt_flX11_194 : mt_FL RX11 194 11 24 0 false .int := ⟨RX11, TX11, 39, tyX11, mt_cf11, rfl, mt_mem (i := 1053) (by decide +kernel) rfl, rfl, rfl, rfl⟩
theorem mt_flX11_204 : mt_FL RX11 204 11 25 0 false .int := ⟨RX11, TX11, 39, tyX11, mt_cf11, rfl, mt_mem (i := 1054) (by decide +kernel) rfl, rfl, rfl, rfl⟩
theorem mt_flX11_201 : mt_FL RX11 201 11 26 1 false .long := ⟨RX11, TX11, 39, tyX11, mt_cf11, rfl, mt_mem (i := 1055) (by decide +kernel) rfl, rfl, rfl, rfl⟩
theorem mt_flX11_207 : mt_FL RX11 207 11 27 1 false .long := ⟨RX11, TX11, 39, tyX11, mt_cf11, rfl, mt_mem (i := 1056) (by decide +kernel) rfl, rfl, rfl, rfl⟩
theorem mt_flX11_210 : mt_FL RX11 210 11 28 1 false .long := ⟨RX11, TX11, 39, tyX11, mt_cf11, rfl, mt_mem (i := 1057) (by decide +kernel) rfl, rfl, rfl, rfl⟩
theorem mt_flX11_53 : mt_FL RX11 53 11 29 2 true (.array .int) := ⟨RX11, TX11, 39, tyX11, mt_cf11, rfl, mt_mem (i := 1058) (by decide +kernel) rfl, rfl, rfl, rfl⟩
theorem mt_flX11_250 : mt_FL RX11 250 11 30 0 false .int := ⟨RX11, TX11, 39, tyX11, mt_cf11, rfl, mt_mem (i := 1059) (by decide +kernel) rfl, rfl, rfl, rfl⟩
theorem mt_flX11_256 : mt_FL RX11 256 11 31 0 false .int := ⟨RX11, TX11, 39, tyX11, mt_cf11, rfl, mt_mem (i := 1060) (by decide +kernel) rfl, rfl, rfl, rfl⟩
theorem mt_flX11_253 : mt_FL RX11 253 11 32 0 false .int := ⟨RX11, TX11, 39, tyX11, mt_cf11, rfl, mt_mem (i := 1061) (by decide +kernel) rfl, rfl, rfl, rfl⟩
theorem mt_flX11_259 : mt_FL RX11 259 11 33 0 false .int := ⟨RX11, TX11, 39, tyX11, mt_cf11, rfl, mt_mem (i := 1062) (by decide +kernel) rfl, rfl, rfl, rfl⟩
theorem mt_flX11_262 : mt_FL RX11 262 11 34 0 false .int := ⟨RX11, TX11, 39, tyX11, mt_cf11, rfl, mt_mem (i := 1063) (by decide +kernel) rfl, rfl, rfl, rfl⟩
theorem mt_flX11_280 : mt_FL RX11 280 11 35 0 false .int := ⟨RX11, TX11, 39, tyX11, mt_cf11, rfl, mt_mem (i := 1064) (by decide +kernel) rfl, rfl, rfl, rfl⟩
theorem mt_flX11_291 : mt_FL RX11 291 11 36 0 false .int := ⟨RX11, TX11, 39, tyX11, mt_cf11, rfl, mt_mem (i := 1065) (by decide +kernel) rfl, rfl, rfl, rfl⟩
theorem mt_flX11_287 : mt_FL RX11 287 11 37 0 false .boolean := ⟨RX11, TX11, 39, tyX11, mt_cf11, rfl, mt_mem (i := 1066) (by decide +kernel) rfl, rfl, rfl, rfl⟩
theorem mt_flX11_303 : mt_FL RX11 303 11 38 0 false .int := ⟨RX11, TX11, 39, tyX11, mt_cf11, rfl, mt_mem (i := 1067) (by decide +kernel) rfl, rfl, rfl, rfl⟩
set_option maxRecDepth 20000 in
theorem mt_cdX11_left : Cond.code yX11_left cX11_left 1 (some .int) ∈ mt_tb := mt_mem (i := 1150) rfl rfl
theorem mt_cvL_53 : mt_CV RL 53 yX11_left cX11_left 1 (some .int) 0 11 := ⟨⟨mt_mem (i := 1147) (by decide +kernel) rfl, mt_cdX11_left, mt_mem (i := 74) (by decide +kernel) rfl, by decide, by decide +kernel, by decide +kernel, by decide +kernel⟩, mt_mem (i := 1148) (by decide +kernel) rfl, mt_mem (i := 1149) (by decide +kernel) rfl, by decide, _, rfl, rfl⟩
set_option maxRecDepth 20000 in
theorem mt_cdX11_stepsOnce : Cond.code yX11_stepsOnce cX11_stepsOnce 2 (some .int) ∈ mt_tb := mt_mem (i := 1154) rfl rfl
theorem mt_cvX11_108 : mt_CV RX11 108 yX11_stepsOnce cX11_stepsOnce 2 (some .int) 1 11 := ⟨⟨mt_mem (i := 1151) (by decide +kernel) rfl, mt_cdX11_stepsOnce, mt_mem (i := 74) (by decide +kernel) rfl, by decide, by decide +kernel, by decide +kernel, by decide +kernel⟩, mt_mem (i := 1153) (by decide +kernel) rfl, mt_mem (i := 28) (by decide +kernel) rfl, by decide, _, rfl, rfl⟩
set_option maxRecDepth 20000 in
theorem mt_cdX11_copy : Cond.code yX11_copy cX11_copy 5 none ∈ mt_tb := mt_mem (i := 1157) rfl rfl
theorem mt_csX11_59 : mt_CS RX11 59 yX11_copy cX11_copy 5 none 4 := ⟨⟨mt_mem (i := 1155) (by decide +kernel) rfl, mt_cdX11_copy, mt_mem (i := 74) (by decide +kernel) rfl, by decide, by decide +kernel, by decide +kernel, by decide +kernel⟩, mt_mem (i := 1156) (by decide +kernel) rfl⟩
set_option maxRecDepth 20000 in
theorem mt_cdX11_steps : Cond.code yX11_steps cX11_steps 4 (some .boolean) ∈ mt_tb := mt_mem (i := 1161) rfl rfl
theorem mt_cvX11_101 : mt_CV RX11 101 yX11_steps cX11_steps 4 (some .boolean) 1 11 := ⟨⟨mt_mem (i := 1158) (by decide +kernel) rfl, mt_cdX11_steps, mt_mem (i := 74) (by decide +kernel) rfl, by decide, by decide +kernel, by decide +kernel, by decide +kernel⟩, mt_mem (i := 1160) (by decide +kernel) rfl, mt_mem (i := 29) (by decide +kernel) rfl, by decide, _, rfl, rfl⟩
set_option maxRecDepth 20000 in
theorem mt_cdX11_lays : Cond.code yX11_lays cX11_lays 1 none ∈ mt_tb := mt_mem (i := 1165) rfl rfl
theorem mt_cvX11_95 : mt_CV RX11 95 yX11_lays cX11_lays 1 none 0 11 := ⟨⟨mt_mem (i := 1162) (by decide +kernel) rfl, mt_cdX11_lays, mt_mem (i := 74) (by decide +kernel) rfl, by decide, by decide +kernel, by decide +kernel, by decide +kernel⟩, mt_mem (i := 1164) (by decide +kernel) rfl, mt_mem (i := 30) (by decide +kernel) rfl, by decide, _, rfl, rfl⟩
set_option maxRecDepth 20000 in
theorem mt_cdX11_goesTo : Cond.code yX11_goesTo cX11_goesTo 6 none ∈ mt_tb := mt_mem (i := 1169) rfl rfl
theorem mt_cvX11_81 : mt_CV RX11 81 yX11_goesTo cX11_goesTo 6 none 2 11 := ⟨⟨mt_mem (i := 1166) (by decide +kernel) rfl, mt_cdX11_goesTo, mt_mem (i := 74) (by decide +kernel) rfl, by decide, by decide +kernel, by decide +kernel, by decide +kernel⟩, mt_mem (i := 1168) (by decide +kernel) rfl, mt_mem (i := 31) (by decide +kernel) rfl, by decide, _, rfl, rfl⟩
set_option maxRecDepth 20000 in
theorem mt_cdX11_becomes : Cond.code yX11_becomes cX11_becomes 3 none ∈ mt_tb := mt_mem (i := 1173) rfl rfl
theorem mt_cvX11_98 : mt_CV RX11 98 yX11_becomes cX11_becomes 3 none 2 11 := ⟨⟨mt_mem (i := 1170) (by decide +kernel) rfl, mt_cdX11_becomes, mt_mem (i := 74) (by decide +kernel) rfl, by decide, by decide +kernel, by decide +kernel, by decide +kernel⟩, mt_mem (i := 1172) (by decide +kernel) rfl, mt_mem (i := 32) (by decide +kernel) rfl, by decide, _, rfl, rfl⟩
set_option maxRecDepth 20000 in
theorem mt_cdX11_stay : Cond.code yX11_stay cX11_stay 1 none ∈ mt_tb := mt_mem (i := 1177) rfl rfl
theorem mt_cvX11_105 : mt_CV RX11 105 yX11_stay cX11_stay 1 none 0 11 := ⟨⟨mt_mem (i := 1174) (by decide +kernel) rfl, mt_cdX11_stay, mt_mem (i := 74) (by decide +kernel) rfl, by decide, by decide +kernel, by decide +kernel, by decide +kernel⟩, mt_mem (i := 1176) (by decide +kernel) rfl, mt_mem (i := 33) (by decide +kernel) rfl, by decide, _, rfl, rfl⟩
set_option maxRecDepth 20000 in
theorem mt_cdX11_snap : Cond.code yX11_snap cX11_snap 2 none ∈ mt_tb := mt_mem (i := 1181) rfl rfl
theorem mt_cvX11_63 : mt_CV RX11 63 yX11_snap cX11_snap 2 none 0 11 := ⟨⟨mt_mem (i := 1178) (by decide +kernel) rfl, mt_cdX11_snap, mt_mem (i := 74) (by decide +kernel) rfl, by decide, by decide +kernel, by decide +kernel, by decide +kernel⟩, mt_mem (i := 1180) (by decide +kernel) rfl, mt_mem (i := 34) (by decide +kernel) rfl, by decide, _, rfl, rfl⟩
set_option maxRecDepth 20000 in
theorem mt_cdX11_right : Cond.code yX11_right cX11_right 1 (some .int) ∈ mt_tb := mt_mem (i := 1185) rfl rfl
theorem mt_cvL_57 : mt_CV RL 57 yX11_right cX11_right 1 (some .int) 0 11 := ⟨⟨mt_mem (i := 1182) (by decide +kernel) rfl, mt_cdX11_right, mt_mem (i := 74) (by decide +kernel) rfl, by decide, by decide +kernel, by decide +kernel, by decide +kernel⟩, mt_mem (i := 1183) (by decide +kernel) rfl, mt_mem (i := 1184) (by decide +kernel) rfl, by decide, _, rfl, rfl⟩
set_option maxRecDepth 20000 in
theorem mt_cdX11_up : Cond.code yX11_up cX11_up 1 (some .int) ∈ mt_tb := mt_mem (i := 1189) rfl rfl
theorem mt_cvL_61 : mt_CV RL 61 yX11_up cX11_up 1 (some .int) 0 11 := ⟨⟨mt_mem (i := 1186) (by decide +kernel) rfl, mt_cdX11_up, mt_mem (i := 74) (by decide +kernel) rfl, by decide, by decide +kernel, by decide +kernel, by decide +kernel⟩, mt_mem (i := 1187) (by decide +kernel) rfl, mt_mem (i := 1188) (by decide +kernel) rfl, by decide, _, rfl, rfl⟩
set_option maxRecDepth 20000 in
theorem mt_cdX11_go : Cond.code yX11_go cX11_go 3 (some .int) ∈ mt_tb := mt_mem (i := 1193) rfl rfl
theorem mt_cvL_66 : mt_CV RL 66 yX11_go cX11_go 3 (some .int) 2 11 := ⟨⟨mt_mem (i := 1190) (by decide +kernel) rfl, mt_cdX11_go, mt_mem (i := 74) (by decide +kernel) rfl, by decide, by decide +kernel, by decide +kernel, by decide +kernel⟩, mt_mem (i := 1191) (by decide +kernel) rfl, mt_mem (i := 1192) (by decide +kernel) rfl, by decide, _, rfl, rfl⟩
set_option maxRecDepth 20000 in
theorem mt_cdX11_isPlace : Cond.code yX11_isPlace cX11_isPlace 2 (some .boolean) ∈ mt_tb := mt_mem (i := 1196) rfl rfl
theorem mt_csX11_116 : mt_CS RX11 116 yX11_isPlace cX11_isPlace 2 (some .boolean) 2 := ⟨⟨mt_mem (i := 1194) (by decide +kernel) rfl, mt_cdX11_isPlace, mt_mem (i := 74) (by decide +kernel) rfl, by decide, by decide +kernel, by decide +kernel, by decide +kernel⟩, mt_mem (i := 1195) (by decide +kernel) rfl⟩
theorem mt_kX11_89 : Cond.constantLong RX11 89 (22) ∈ mt_tb := mt_mem (i := 1197) (by decide +kernel) rfl
set_option maxRecDepth 20000 in
theorem mt_cdX11_isIn : Cond.code yX11_isIn cX11_isIn 6 (some .boolean) ∈ mt_tb := mt_mem (i := 1200) rfl rfl
theorem mt_csX11_91 : mt_CS RX11 91 yX11_isIn cX11_isIn 6 (some .boolean) 3 := ⟨⟨mt_mem (i := 1198) (by decide +kernel) rfl, mt_cdX11_isIn, mt_mem (i := 74) (by decide +kernel) rfl, by decide, by decide +kernel, by decide +kernel, by decide +kernel⟩, mt_mem (i := 1199) (by decide +kernel) rfl⟩
set_option maxRecDepth 20000 in
theorem mt_cdX11_divisor : Cond.code yX11_divisor cX11_divisor 2 (some .int) ∈ mt_tb := mt_mem (i := 1203) rfl rfl
theorem mt_csX11_85 : mt_CS RX11 85 yX11_divisor cX11_divisor 2 (some .int) 2 := ⟨⟨mt_mem (i := 1201) (by decide +kernel) rfl, mt_cdX11_divisor, mt_mem (i := 74) (by decide +kernel) rfl, by decide, by decide +kernel, by decide +kernel, by decide +kernel⟩, mt_mem (i := 1202) (by decide +kernel) rfl⟩
set_option maxRecDepth 20000 in
theorem mt_cdX11_goesThere : Cond.code yX11_goesThere cX11_goesThere 3 (some .int) ∈ mt_tb := mt_mem (i := 1207) rfl rfl
theorem mt_cvX11_120 : mt_CV RX11 120 yX11_goesThere cX11_goesThere 3 (some .int) 2 11 := ⟨⟨mt_mem (i := 1204) (by decide +kernel) rfl, mt_cdX11_goesThere, mt_mem (i := 74) (by decide +kernel) rfl, by decide, by decide +kernel, by decide +kernel, by decide +kernel⟩, mt_mem (i := 1206) (by decide +kernel) rfl, mt_mem (i := 35) (by decide +kernel) rfl, by decide, _, rfl, rfl⟩
set_option maxRecDepth 20000 in
theorem mt_cdX11_depth : Cond.code yX11_depth cX11_depth 1 (some .int) ∈ mt_tb := mt_mem (i := 1211) rfl rfl
theorem mt_cvX11_112 : mt_CV RX11 112 yX11_depth cX11_depth 1 (some .int) 0 11 := ⟨⟨mt_mem (i := 1208) (by decide +kernel) rfl, mt_cdX11_depth, mt_mem (i := 74) (by decide +kernel) rfl, by decide, by decide +kernel, by decide +kernel, by decide +kernel⟩, mt_mem (i := 1210) (by decide +kernel) rfl, mt_mem (i := 36) (by decide +kernel) rfl, by decide, _, rfl, rfl⟩
set_option maxRecDepth 20000 in
theorem mt_cdX11_triple : Cond.code yX11_triple cX11_triple 2 (some .long) ∈ mt_tb := mt_mem (i := 1215) rfl rfl
theorem mt_cvL_72 : mt_CV RL 72 yX11_triple cX11_triple 2 (some .long) 1 11 := ⟨⟨mt_mem (i := 1212) (by decide +kernel) rfl, mt_cdX11_triple, mt_mem (i := 74) (by decide +kernel) rfl, by decide, by decide +kernel, by decide +kernel, by decide +kernel⟩, mt_mem (i := 1213) (by decide +kernel) rfl, mt_mem (i := 1214) (by decide +kernel) rfl, by decide, _, rfl, rfl⟩
set_option maxRecDepth 20000 in
theorem mt_cdX11_numberOf : Cond.code yX11_numberOf cX11_numberOf 3 (some .long) ∈ mt_tb := mt_mem (i := 1219) rfl rfl
theorem mt_cvX11_134 : mt_CV RX11 134 yX11_numberOf cX11_numberOf 3 (some .long) 2 11 := ⟨⟨mt_mem (i := 1216) (by decide +kernel) rfl, mt_cdX11_numberOf, mt_mem (i := 74) (by decide +kernel) rfl, by decide, by decide +kernel, by decide +kernel, by decide +kernel⟩, mt_mem (i := 1218) (by decide +kernel) rfl, mt_mem (i := 37) (by decide +kernel) rfl, by decide, _, rfl, rfl⟩
set_option maxRecDepth 20000 in
theorem mt_cdX11_laysMatrix : Cond.code yX11_laysMatrix cX11_laysMatrix 14 none ∈ mt_tb := mt_mem (i := 1223) rfl rfl
theorem mt_cvX11_131 : mt_CV RX11 131 yX11_laysMatrix cX11_laysMatrix 14 none 2 11 := ⟨⟨mt_mem (i := 1220) (by decide +kernel) rfl, mt_cdX11_laysMatrix, mt_mem (i := 74) (by decide +kernel) rfl, by decide, by decide +kernel, by decide +kernel, by decide +kernel⟩, mt_mem (i := 1222) (by decide +kernel) rfl, mt_mem (i := 38) (by decide +kernel) rfl, by decide, _, rfl, rfl⟩
set_option maxRecDepth 20000 in
theorem mt_cdX11_isA : Cond.code yX11_isA cX11_isA 3 (some .boolean) ∈ mt_tb := mt_mem (i := 1226) rfl rfl
theorem mt_csX11_123 : mt_CS RX11 123 yX11_isA cX11_isA 3 (some .boolean) 3 := ⟨⟨mt_mem (i := 1224) (by decide +kernel) rfl, mt_cdX11_isA, mt_mem (i := 74) (by decide +kernel) rfl, by decide, by decide +kernel, by decide +kernel, by decide +kernel⟩, mt_mem (i := 1225) (by decide +kernel) rfl⟩
theorem mt_kX11_127 : Cond.constantLong RX11 127 (2) ∈ mt_tb := mt_mem (i := 1227) (by decide +kernel) rfl
theorem mt_kX11_129 : Cond.constantLong RX11 129 (5) ∈ mt_tb := mt_mem (i := 1228) (by decide +kernel) rfl
set_option maxRecDepth 20000 in
theorem mt_cdX11_number : Cond.code yX11_number cX11_number 1 (some .long) ∈ mt_tb := mt_mem (i := 1232) rfl rfl
theorem mt_cvX11_138 : mt_CV RX11 138 yX11_number cX11_number 1 (some .long) 0 11 := ⟨⟨mt_mem (i := 1229) (by decide +kernel) rfl, mt_cdX11_number, mt_mem (i := 74) (by decide +kernel) rfl, by decide, by decide +kernel, by decide +kernel, by decide +kernel⟩, mt_mem (i := 1231) (by decide +kernel) rfl, mt_mem (i := 39) (by decide +kernel) rfl, by decide, _, rfl, rfl⟩
set_option maxRecDepth 20000 in
theorem mt_cdX11_refuse : Cond.code yX11_refuse cX11_refuse 1 (some .int) ∈ mt_tb := mt_mem (i := 1236) rfl rfl
theorem mt_cvX11_142 : mt_CV RX11 142 yX11_refuse cX11_refuse 1 (some .int) 0 11 := ⟨⟨mt_mem (i := 1233) (by decide +kernel) rfl, mt_cdX11_refuse, mt_mem (i := 74) (by decide +kernel) rfl, by decide, by decide +kernel, by decide +kernel, by decide +kernel⟩, mt_mem (i := 1235) (by decide +kernel) rfl, mt_mem (i := 40) (by decide +kernel) rfl, by decide, _, rfl, rfl⟩
set_option maxRecDepth 20000 in
theorem mt_cdX11_letter : Cond.code yX11_letter cX11_letter 3 (some .int) ∈ mt_tb := mt_mem (i := 1240) rfl rfl
theorem mt_cvL_79 : mt_CV RL 79 yX11_letter cX11_letter 3 (some .int) 1 11 := ⟨⟨mt_mem (i := 1237) (by decide +kernel) rfl, mt_cdX11_letter, mt_mem (i := 74) (by decide +kernel) rfl, by decide, by decide +kernel, by decide +kernel, by decide +kernel⟩, mt_mem (i := 1238) (by decide +kernel) rfl, mt_mem (i := 1239) (by decide +kernel) rfl, by decide, _, rfl, rfl⟩
set_option maxRecDepth 20000 in
theorem mt_cdX11_cut : Cond.code yX11_cut cX11_cut 2 (some .int) ∈ mt_tb := mt_mem (i := 1244) rfl rfl
theorem mt_cvL_83 : mt_CV RL 83 yX11_cut cX11_cut 2 (some .int) 0 11 := ⟨⟨mt_mem (i := 1241) (by decide +kernel) rfl, mt_cdX11_cut, mt_mem (i := 74) (by decide +kernel) rfl, by decide, by decide +kernel, by decide +kernel, by decide +kernel⟩, mt_mem (i := 1242) (by decide +kernel) rfl, mt_mem (i := 1243) (by decide +kernel) rfl, by decide, _, rfl, rfl⟩
set_option maxRecDepth 20000 in
theorem mt_cdX11_matrix : Cond.code yX11_matrix cX11_matrix 3 (some .long) ∈ mt_tb := mt_mem (i := 1248) rfl rfl
theorem mt_cvL_87 : mt_CV RL 87 yX11_matrix cX11_matrix 3 (some .long) 2 11 := ⟨⟨mt_mem (i := 1245) (by decide +kernel) rfl, mt_cdX11_matrix, mt_mem (i := 74) (by decide +kernel) rfl, by decide, by decide +kernel, by decide +kernel, by decide +kernel⟩, mt_mem (i := 1246) (by decide +kernel) rfl, mt_mem (i := 1247) (by decide +kernel) rfl, by decide, _, rfl, rfl⟩
set_option maxRecDepth 20000 in
theorem mt_cdX11_form : Cond.code yX11_form cX11_form 2 (some .long) ∈ mt_tb := mt_mem (i := 1252) rfl rfl
theorem mt_cvL_90 : mt_CV RL 90 yX11_form cX11_form 2 (some .long) 1 11 := ⟨⟨mt_mem (i := 1249) (by decide +kernel) rfl, mt_cdX11_form, mt_mem (i := 74) (by decide +kernel) rfl, by decide, by decide +kernel, by decide +kernel, by decide +kernel⟩, mt_mem (i := 1250) (by decide +kernel) rfl, mt_mem (i := 1251) (by decide +kernel) rfl, by decide, _, rfl, rfl⟩
set_option maxRecDepth 20000 in
theorem mt_cdX11_laysForm : Cond.code yX11_laysForm cX11_laysForm 7 (some .boolean) ∈ mt_tb := mt_mem (i := 1256) rfl rfl
theorem mt_cvX11_173 : mt_CV RX11 173 yX11_laysForm cX11_laysForm 7 (some .boolean) 0 11 := ⟨⟨mt_mem (i := 1253) (by decide +kernel) rfl, mt_cdX11_laysForm, mt_mem (i := 74) (by decide +kernel) rfl, by decide, by decide +kernel, by decide +kernel, by decide +kernel⟩, mt_mem (i := 1255) (by decide +kernel) rfl, mt_mem (i := 41) (by decide +kernel) rfl, by decide, _, rfl, rfl⟩
theorem mt_kX11_145 : Cond.constantLong RX11 145 (1000000000) ∈ mt_tb := mt_mem (i := 1257) (by decide +kernel) rfl
theorem mt_kX11_151 : Cond.constantLong RX11 151 (3) ∈ mt_tb := mt_mem (i := 1258) (by decide +kernel) rfl
theorem mt_kX11_159 : Cond.constantLong RX11 159 (9) ∈ mt_tb := mt_mem (i := 1259) (by decide +kernel) rfl
theorem mt_kX11_161 : Cond.constantLong RX11 161 (4) ∈ mt_tb := mt_mem (i := 1260) (by decide +kernel) rfl
theorem mt_kX11_169 : Cond.constantLong RX11 169 (2147483648) ∈ mt_tb := mt_mem (i := 1261) (by decide +kernel) rfl
theorem mt_kX11_171 : Cond.constantLong RX11 171 (3037000499) ∈ mt_tb := mt_mem (i := 1262) (by decide +kernel) rfl
set_option maxRecDepth 20000 in
theorem mt_cdX11_value : Cond.code yX11_value cX11_value 3 (some .long) ∈ mt_tb := mt_mem (i := 1266) rfl rfl
theorem mt_cvL_94 : mt_CV RL 94 yX11_value cX11_value 3 (some .long) 2 11 := ⟨⟨mt_mem (i := 1263) (by decide +kernel) rfl, mt_cdX11_value, mt_mem (i := 74) (by decide +kernel) rfl, by decide, by decide +kernel, by decide +kernel, by decide +kernel⟩, mt_mem (i := 1264) (by decide +kernel) rfl, mt_mem (i := 1265) (by decide +kernel) rfl, by decide, _, rfl, rfl⟩
theorem mt_kX11_177 : Cond.constantLong RX11 177 (-999) ∈ mt_tb := mt_mem (i := 1267) (by decide +kernel) rfl
theorem mt_kX11_179 : Cond.constantLong RX11 179 (999) ∈ mt_tb := mt_mem (i := 1268) (by decide +kernel) rfl
theorem mt_kX11_181 : Cond.constantLong RX11 181 (-1000000000000000000) ∈ mt_tb := mt_mem (i := 1269) (by decide +kernel) rfl
set_option maxRecDepth 20000 in
theorem mt_cdX11_round : Cond.code yX11_round cX11_round 1 (some .int) ∈ mt_tb := mt_mem (i := 1273) rfl rfl
theorem mt_cvL_98 : mt_CV RL 98 yX11_round cX11_round 1 (some .int) 0 11 := ⟨⟨mt_mem (i := 1270) (by decide +kernel) rfl, mt_cdX11_round, mt_mem (i := 74) (by decide +kernel) rfl, by decide, by decide +kernel, by decide +kernel, by decide +kernel⟩, mt_mem (i := 1271) (by decide +kernel) rfl, mt_mem (i := 1272) (by decide +kernel) rfl, by decide, _, rfl, rfl⟩
set_option maxRecDepth 20000 in
theorem mt_cdX11_laysRound : Cond.code yX11_laysRound cX11_laysRound 13 (some .int) ∈ mt_tb := mt_mem (i := 1277) rfl rfl
theorem mt_cvX11_189 : mt_CV RX11 189 yX11_laysRound cX11_laysRound 13 (some .int) 0 11 := ⟨⟨mt_mem (i := 1274) (by decide +kernel) rfl, mt_cdX11_laysRound, mt_mem (i := 74) (by decide +kernel) rfl, by decide, by decide +kernel, by decide +kernel, by decide +kernel⟩, mt_mem (i := 1276) (by decide +kernel) rfl, mt_mem (i := 42) (by decide +kernel) rfl, by decide, _, rfl, rfl⟩
set_option maxRecDepth 20000 in
theorem mt_cdX11_formOn : Cond.code yX11_formOn cX11_formOn 9 none ∈ mt_tb := mt_mem (i := 1281) rfl rfl
theorem mt_cvX11_183 : mt_CV RX11 183 yX11_formOn cX11_formOn 9 none 0 11 := ⟨⟨mt_mem (i := 1278) (by decide +kernel) rfl, mt_cdX11_formOn, mt_mem (i := 74) (by decide +kernel) rfl, by decide, by decide +kernel, by decide +kernel, by decide +kernel⟩, mt_mem (i := 1280) (by decide +kernel) rfl, mt_mem (i := 43) (by decide +kernel) rfl, by decide, _, rfl, rfl⟩
set_option maxRecDepth 20000 in
theorem mt_cdX11_least : Cond.code yX11_least cX11_least 1 (some .long) ∈ mt_tb := mt_mem (i := 1285) rfl rfl
theorem mt_cvL_103 : mt_CV RL 103 yX11_least cX11_least 1 (some .long) 0 11 := ⟨⟨mt_mem (i := 1282) (by decide +kernel) rfl, mt_cdX11_least, mt_mem (i := 74) (by decide +kernel) rfl, by decide, by decide +kernel, by decide +kernel, by decide +kernel⟩, mt_mem (i := 1283) (by decide +kernel) rfl, mt_mem (i := 1284) (by decide +kernel) rfl, by decide, _, rfl, rfl⟩
theorem mt_kX11_192 : Cond.constantLong RX11 192 (-1) ∈ mt_tb := mt_mem (i := 1286) (by decide +kernel) rfl
set_option maxRecDepth 20000 in
theorem mt_cdX11_upTo : Cond.code yX11_upTo cX11_upTo 4 (some .int) ∈ mt_tb := mt_mem (i := 1290) rfl rfl
theorem mt_cvL_110 : mt_CV RL 110 yX11_upTo cX11_upTo 4 (some .int) 1 11 := ⟨⟨mt_mem (i := 1287) (by decide +kernel) rfl, mt_cdX11_upTo, mt_mem (i := 74) (by decide +kernel) rfl, by decide, by decide +kernel, by decide +kernel, by decide +kernel⟩, mt_mem (i := 1288) (by decide +kernel) rfl, mt_mem (i := 1289) (by decide +kernel) rfl, by decide, _, rfl, rfl⟩
theorem mt_kX11_213 : Cond.constantLong RX11 213 (1000000000000) ∈ mt_tb := mt_mem (i := 1291) (by decide +kernel) rfl
set_option maxRecDepth 20000 in
theorem mt_cdX11_laysNumbers : Cond.code yX11_laysNumbers cX11_laysNumbers 3 none ∈ mt_tb := mt_mem (i := 1295) rfl rfl
theorem mt_cvX11_219 : mt_CV RX11 219 yX11_laysNumbers cX11_laysNumbers 3 none 1 11 := ⟨⟨mt_mem (i := 1292) (by decide +kernel) rfl, mt_cdX11_laysNumbers, mt_mem (i := 74) (by decide +kernel) rfl, by decide, by decide +kernel, by decide +kernel, by decide +kernel⟩, mt_mem (i := 1294) (by decide +kernel) rfl, mt_mem (i := 44) (by decide +kernel) rfl, by decide, _, rfl, rfl⟩
set_option maxRecDepth 20000 in
theorem mt_cdX11_comes : Cond.code yX11_comes cX11_comes 5 none ∈ mt_tb := mt_mem (i := 1299) rfl rfl
theorem mt_cvX11_197 : mt_CV RX11 197 yX11_comes cX11_comes 5 none 1 11 := ⟨⟨mt_mem (i := 1296) (by decide +kernel) rfl, mt_cdX11_comes, mt_mem (i := 74) (by decide +kernel) rfl, by decide, by decide +kernel, by decide +kernel, by decide +kernel⟩, mt_mem (i := 1298) (by decide +kernel) rfl, mt_mem (i := 45) (by decide +kernel) rfl, by decide, _, rfl, rfl⟩
set_option maxRecDepth 20000 in
theorem mt_cdX11_grows : Cond.code yX11_grows cX11_grows 7 none ∈ mt_tb := mt_mem (i := 1303) rfl rfl
theorem mt_cvX11_215 : mt_CV RX11 215 yX11_grows cX11_grows 7 none 3 11 := ⟨⟨mt_mem (i := 1300) (by decide +kernel) rfl, mt_cdX11_grows, mt_mem (i := 74) (by decide +kernel) rfl, by decide, by decide +kernel, by decide +kernel, by decide +kernel⟩, mt_mem (i := 1302) (by decide +kernel) rfl, mt_mem (i := 46) (by decide +kernel) rfl, by decide, _, rfl, rfl⟩
set_option maxRecDepth 20000 in
theorem mt_cdX11_markov : Cond.code yX11_markov cX11_markov 2 (some .long) ∈ mt_tb := mt_mem (i := 1307) rfl rfl
theorem mt_cvL_114 : mt_CV RL 114 yX11_markov cX11_markov 2 (some .long) 1 11 := ⟨⟨mt_mem (i := 1304) (by decide +kernel) rfl, mt_cdX11_markov, mt_mem (i := 74) (by decide +kernel) rfl, by decide, by decide +kernel, by decide +kernel, by decide +kernel⟩, mt_mem (i := 1305) (by decide +kernel) rfl, mt_mem (i := 1306) (by decide +kernel) rfl, by decide, _, rfl, rfl⟩
set_option maxRecDepth 20000 in
theorem mt_cdX11_rank : Cond.code yX11_rank cX11_rank 4 (some .int) ∈ mt_tb := mt_mem (i := 1311) rfl rfl
theorem mt_cvL_118 : mt_CV RL 118 yX11_rank cX11_rank 4 (some .int) 1 11 := ⟨⟨mt_mem (i := 1308) (by decide +kernel) rfl, mt_cdX11_rank, mt_mem (i := 74) (by decide +kernel) rfl, by decide, by decide +kernel, by decide +kernel, by decide +kernel⟩, mt_mem (i := 1309) (by decide +kernel) rfl, mt_mem (i := 1310) (by decide +kernel) rfl, by decide, _, rfl, rfl⟩
set_option maxRecDepth 20000 in
theorem mt_cdX11_triples : Cond.code yX11_triples cX11_triples 3 (some .int) ∈ mt_tb := mt_mem (i := 1315) rfl rfl
theorem mt_cvL_122 : mt_CV RL 122 yX11_triples cX11_triples 3 (some .int) 1 11 := ⟨⟨mt_mem (i := 1312) (by decide +kernel) rfl, mt_cdX11_triples, mt_mem (i := 74) (by decide +kernel) rfl, by decide, by decide +kernel, by decide +kernel, by decide +kernel⟩, mt_mem (i := 1313) (by decide +kernel) rfl, mt_mem (i := 1314) (by decide +kernel) rfl, by decide, _, rfl, rfl⟩
set_option maxRecDepth 20000 in
theorem mt_cdX11_with : Cond.code yX11_with cX11_with 4 (some .long) ∈ mt_tb := mt_mem (i := 1319) rfl rfl
theorem mt_cvL_127 : mt_CV RL 127 yX11_with cX11_with 4 (some .long) 2 11 := ⟨⟨mt_mem (i := 1316) (by decide +kernel) rfl, mt_cdX11_with, mt_mem (i := 74) (by decide +kernel) rfl, by decide, by decide +kernel, by decide +kernel, by decide +kernel⟩, mt_mem (i := 1317) (by decide +kernel) rfl, mt_mem (i := 1318) (by decide +kernel) rfl, by decide, _, rfl, rfl⟩
set_option maxRecDepth 20000 in
theorem mt_cdX11_down : Cond.code yX11_down cX11_down 13 (some .int) ∈ mt_tb := mt_mem (i := 1322) rfl rfl
theorem mt_csX11_222 : mt_CS RX11 222 yX11_down cX11_down 13 (some .int) 3 := ⟨⟨mt_mem (i := 1320) (by decide +kernel) rfl, mt_cdX11_down, mt_mem (i := 74) (by decide +kernel) rfl, by decide, by decide +kernel, by decide +kernel, by decide +kernel⟩, mt_mem (i := 1321) (by decide +kernel) rfl⟩
set_option maxRecDepth 20000 in
theorem mt_cdX11_spread : Cond.code yX11_spread cX11_spread 2 (some .int) ∈ mt_tb := mt_mem (i := 1326) rfl rfl
theorem mt_cvL_131 : mt_CV RL 131 yX11_spread cX11_spread 2 (some .int) 0 11 := ⟨⟨mt_mem (i := 1323) (by decide +kernel) rfl, mt_cdX11_spread, mt_mem (i := 74) (by decide +kernel) rfl, by decide, by decide +kernel, by decide +kernel, by decide +kernel⟩, mt_mem (i := 1324) (by decide +kernel) rfl, mt_mem (i := 1325) (by decide +kernel) rfl, by decide, _, rfl, rfl⟩
theorem mt_kX11_226 : Cond.constantFloat RX11 226 (1091567616) ∈ mt_tb := mt_mem (i := 1327) (by decide +kernel) rfl
theorem mt_kX11_227 : Cond.constantFloat RX11 227 (1082130432) ∈ mt_tb := mt_mem (i := 1328) (by decide +kernel) rfl
set_option maxRecDepth 20000 in
theorem mt_cdJxf58ca_floatToIntBits_5c35a : Cond.code yJxf58ca_floatToIntBits_5c35a cJxf58ca_floatToIntBits_5c35a 1 (some .int) ∈ mt_tb := mt_mem (i := 1331) rfl rfl
theorem mt_csX11_228 : mt_CS RX11 228 yJxf58ca_floatToIntBits_5c35a cJxf58ca_floatToIntBits_5c35a 1 (some .int) 1 := ⟨⟨mt_mem (i := 1329) (by decide +kernel) rfl, mt_cdJxf58ca_floatToIntBits_5c35a, mt_mem (i := 82) (by decide +kernel) rfl, by decide, by decide +kernel, by decide +kernel, by decide +kernel⟩, mt_mem (i := 1330) (by decide +kernel) rfl⟩
set_option maxRecDepth 20000 in
theorem mt_cdJxf58ca_isNaN_12338 : Cond.code yJxf58ca_isNaN_12338 cJxf58ca_isNaN_12338 1 (some .boolean) ∈ mt_tb := mt_mem (i := 1334) rfl rfl
theorem mt_csJxf58ca_59 : mt_CS RJxf58ca 59 yJxf58ca_isNaN_12338 cJxf58ca_isNaN_12338 1 (some .boolean) 1 := ⟨⟨mt_mem (i := 1332) (by decide +kernel) rfl, mt_cdJxf58ca_isNaN_12338, mt_mem (i := 82) (by decide +kernel) rfl, by decide, by decide +kernel, by decide +kernel, by decide +kernel⟩, mt_mem (i := 1333) (by decide +kernel) rfl⟩
theorem mt_kJxf58ca_77 : Cond.constant RJxf58ca 77 (2143289344) ∈ mt_tb := mt_mem (i := 1338) (by decide +kernel) rfl
set_option maxRecDepth 20000 in
theorem mt_cdX11_mark : Cond.code yX11_mark cX11_mark 1 (some .int) ∈ mt_tb := mt_mem (i := 1342) rfl rfl
theorem mt_cvL_135 : mt_CV RL 135 yX11_mark cX11_mark 1 (some .int) 0 11 := ⟨⟨mt_mem (i := 1339) (by decide +kernel) rfl, mt_cdX11_mark, mt_mem (i := 74) (by decide +kernel) rfl, by decide, by decide +kernel, by decide +kernel, by decide +kernel⟩, mt_mem (i := 1340) (by decide +kernel) rfl, mt_mem (i := 1341) (by decide +kernel) rfl, by decide, _, rfl, rfl⟩
set_option maxRecDepth 20000 in
theorem mt_cdX11_markHere : Cond.code yX11_markHere cX11_markHere 2 (some .int) ∈ mt_tb := mt_mem (i := 1346) rfl rfl
theorem mt_cvX11_244 : mt_CV RX11 244 yX11_markHere cX11_markHere 2 (some .int) 0 11 := ⟨⟨mt_mem (i := 1343) (by decide +kernel) rfl, mt_cdX11_markHere, mt_mem (i := 74) (by decide +kernel) rfl, by decide, by decide +kernel, by decide +kernel, by decide +kernel⟩, mt_mem (i := 1345) (by decide +kernel) rfl, mt_mem (i := 47) (by decide +kernel) rfl, by decide, _, rfl, rfl⟩
set_option maxRecDepth 20000 in
theorem mt_cdX11_markP : Cond.code yX11_markP cX11_markP 2 (some .int) ∈ mt_tb := mt_mem (i := 1350) rfl rfl
theorem mt_cvX11_234 : mt_CV RX11 234 yX11_markP cX11_markP 2 (some .int) 1 11 := ⟨⟨mt_mem (i := 1347) (by decide +kernel) rfl, mt_cdX11_markP, mt_mem (i := 74) (by decide +kernel) rfl, by decide, by decide +kernel, by decide +kernel, by decide +kernel⟩, mt_mem (i := 1349) (by decide +kernel) rfl, mt_mem (i := 48) (by decide +kernel) rfl, by decide, _, rfl, rfl⟩
set_option maxRecDepth 20000 in
theorem mt_cdX11_markQ : Cond.code yX11_markQ cX11_markQ 2 (some .int) ∈ mt_tb := mt_mem (i := 1354) rfl rfl
theorem mt_cvX11_237 : mt_CV RX11 237 yX11_markQ cX11_markQ 2 (some .int) 1 11 := ⟨⟨mt_mem (i := 1351) (by decide +kernel) rfl, mt_cdX11_markQ, mt_mem (i := 74) (by decide +kernel) rfl, by decide, by decide +kernel, by decide +kernel, by decide +kernel⟩, mt_mem (i := 1353) (by decide +kernel) rfl, mt_mem (i := 49) (by decide +kernel) rfl, by decide, _, rfl, rfl⟩
set_option maxRecDepth 20000 in
theorem mt_cdX11_marks : Cond.code yX11_marks cX11_marks 4 none ∈ mt_tb := mt_mem (i := 1358) rfl rfl
theorem mt_cvX11_247 : mt_CV RX11 247 yX11_marks cX11_marks 4 none 0 11 := ⟨⟨mt_mem (i := 1355) (by decide +kernel) rfl, mt_cdX11_marks, mt_mem (i := 74) (by decide +kernel) rfl, by decide, by decide +kernel, by decide +kernel, by decide +kernel⟩, mt_mem (i := 1357) (by decide +kernel) rfl, mt_mem (i := 50) (by decide +kernel) rfl, by decide, _, rfl, rfl⟩
set_option maxRecDepth 20000 in
theorem mt_cdX11_markNumber : Cond.code yX11_markNumber cX11_markNumber 2 (some .long) ∈ mt_tb := mt_mem (i := 1362) rfl rfl
theorem mt_cvX11_240 : mt_CV RX11 240 yX11_markNumber cX11_markNumber 2 (some .long) 1 11 := ⟨⟨mt_mem (i := 1359) (by decide +kernel) rfl, mt_cdX11_markNumber, mt_mem (i := 74) (by decide +kernel) rfl, by decide, by decide +kernel, by decide +kernel, by decide +kernel⟩, mt_mem (i := 1361) (by decide +kernel) rfl, mt_mem (i := 51) (by decide +kernel) rfl, by decide, _, rfl, rfl⟩
set_option maxRecDepth 20000 in
theorem mt_cdX11_unmark : Cond.code yX11_unmark cX11_unmark 3 (some .int) ∈ mt_tb := mt_mem (i := 1366) rfl rfl
theorem mt_cvL_139 : mt_CV RL 139 yX11_unmark cX11_unmark 3 (some .int) 0 11 := ⟨⟨mt_mem (i := 1363) (by decide +kernel) rfl, mt_cdX11_unmark, mt_mem (i := 74) (by decide +kernel) rfl, by decide, by decide +kernel, by decide +kernel, by decide +kernel⟩, mt_mem (i := 1364) (by decide +kernel) rfl, mt_mem (i := 1365) (by decide +kernel) rfl, by decide, _, rfl, rfl⟩
set_option maxRecDepth 20000 in
theorem mt_cdX11_marked : Cond.code yX11_marked cX11_marked 3 (some .long) ∈ mt_tb := mt_mem (i := 1370) rfl rfl
theorem mt_cvL_143 : mt_CV RL 143 yX11_marked cX11_marked 3 (some .long) 2 11 := ⟨⟨mt_mem (i := 1367) (by decide +kernel) rfl, mt_cdX11_marked, mt_mem (i := 74) (by decide +kernel) rfl, by decide, by decide +kernel, by decide +kernel, by decide +kernel⟩, mt_mem (i := 1368) (by decide +kernel) rfl, mt_mem (i := 1369) (by decide +kernel) rfl, by decide, _, rfl, rfl⟩
set_option maxRecDepth 20000 in
theorem mt_cdX11_near : Cond.code yX11_near cX11_near 9 (some .long) ∈ mt_tb := mt_mem (i := 1374) rfl rfl
theorem mt_cvL_148 : mt_CV RL 148 yX11_near cX11_near 9 (some .long) 2 11 := ⟨⟨mt_mem (i := 1371) (by decide +kernel) rfl, mt_cdX11_near, mt_mem (i := 74) (by decide +kernel) rfl, by decide, by decide +kernel, by decide +kernel, by decide +kernel⟩, mt_mem (i := 1372) (by decide +kernel) rfl, mt_mem (i := 1373) (by decide +kernel) rfl, by decide, _, rfl, rfl⟩
set_option maxRecDepth 20000 in
theorem mt_cdX11_jump : Cond.code yX11_jump cX11_jump 2 (some .int) ∈ mt_tb := mt_mem (i := 1378) rfl rfl
theorem mt_cvL_152 : mt_CV RL 152 yX11_jump cX11_jump 2 (some .int) 1 11 := ⟨⟨mt_mem (i := 1375) (by decide +kernel) rfl, mt_cdX11_jump, mt_mem (i := 74) (by decide +kernel) rfl, by decide, by decide +kernel, by decide +kernel, by decide +kernel⟩, mt_mem (i := 1376) (by decide +kernel) rfl, mt_mem (i := 1377) (by decide +kernel) rfl, by decide, _, rfl, rfl⟩
set_option maxRecDepth 20000 in
theorem mt_cdX11_told : Cond.code yX11_told cX11_told 4 (some .int) ∈ mt_tb := mt_mem (i := 1382) rfl rfl
theorem mt_cvL_156 : mt_CV RL 156 yX11_told cX11_told 4 (some .int) 0 11 := ⟨⟨mt_mem (i := 1379) (by decide +kernel) rfl, mt_cdX11_told, mt_mem (i := 74) (by decide +kernel) rfl, by decide, by decide +kernel, by decide +kernel, by decide +kernel⟩, mt_mem (i := 1380) (by decide +kernel) rfl, mt_mem (i := 1381) (by decide +kernel) rfl, by decide, _, rfl, rfl⟩
set_option maxRecDepth 20000 in
theorem mt_cdX11_byteAt : Cond.code yX11_byteAt cX11_byteAt 2 (some .int) ∈ mt_tb := mt_mem (i := 1386) rfl rfl
theorem mt_cvL_160 : mt_CV RL 160 yX11_byteAt cX11_byteAt 2 (some .int) 1 11 := ⟨⟨mt_mem (i := 1383) (by decide +kernel) rfl, mt_cdX11_byteAt, mt_mem (i := 74) (by decide +kernel) rfl, by decide, by decide +kernel, by decide +kernel, by decide +kernel⟩, mt_mem (i := 1384) (by decide +kernel) rfl, mt_mem (i := 1385) (by decide +kernel) rfl, by decide, _, rfl, rfl⟩
set_option maxRecDepth 20000 in
theorem mt_cdX11_path : Cond.code yX11_path cX11_path 1 (some .int) ∈ mt_tb := mt_mem (i := 1390) rfl rfl
theorem mt_cvL_40 : mt_CV RL 40 yX11_path cX11_path 1 (some .int) 0 11 := ⟨⟨mt_mem (i := 1387) (by decide +kernel) rfl, mt_cdX11_path, mt_mem (i := 74) (by decide +kernel) rfl, by decide, by decide +kernel, by decide +kernel, by decide +kernel⟩, mt_mem (i := 1388) (by decide +kernel) rfl, mt_mem (i := 1389) (by decide +kernel) rfl, by decide, _, rfl, rfl⟩
set_option maxRecDepth 20000 in
theorem mt_cdX11_bad : Cond.code yX11_bad cX11_bad 3 none ∈ mt_tb := mt_mem (i := 1394) rfl rfl
theorem mt_cvX11_271 : mt_CV RX11 271 yX11_bad cX11_bad 3 none 2 11 := ⟨⟨mt_mem (i := 1391) (by decide +kernel) rfl, mt_cdX11_bad, mt_mem (i := 74) (by decide +kernel) rfl, by decide, by decide +kernel, by decide +kernel, by decide +kernel⟩, mt_mem (i := 1393) (by decide +kernel) rfl, mt_mem (i := 52) (by decide +kernel) rfl, by decide, _, rfl, rfl⟩
set_option maxRecDepth 20000 in
theorem mt_cdX11_reads : Cond.code yX11_reads cX11_reads 4 none ∈ mt_tb := mt_mem (i := 1398) rfl rfl
theorem mt_cvX11_283 : mt_CV RX11 283 yX11_reads cX11_reads 4 none 1 11 := ⟨⟨mt_mem (i := 1395) (by decide +kernel) rfl, mt_cdX11_reads, mt_mem (i := 74) (by decide +kernel) rfl, by decide, by decide +kernel, by decide +kernel, by decide +kernel⟩, mt_mem (i := 1397) (by decide +kernel) rfl, mt_mem (i := 53) (by decide +kernel) rfl, by decide, _, rfl, rfl⟩
set_option maxRecDepth 20000 in
theorem mt_cdX11_here : Cond.code yX11_here cX11_here 1 (some .int) ∈ mt_tb := mt_mem (i := 1402) rfl rfl
theorem mt_cvX11_265 : mt_CV RX11 265 yX11_here cX11_here 1 (some .int) 0 11 := ⟨⟨mt_mem (i := 1399) (by decide +kernel) rfl, mt_cdX11_here, mt_mem (i := 74) (by decide +kernel) rfl, by decide, by decide +kernel, by decide +kernel, by decide +kernel⟩, mt_mem (i := 1401) (by decide +kernel) rfl, mt_mem (i := 54) (by decide +kernel) rfl, by decide, _, rfl, rfl⟩
set_option maxRecDepth 20000 in
theorem mt_cdX11_often : Cond.code yX11_often cX11_often 3 (some .int) ∈ mt_tb := mt_mem (i := 1406) rfl rfl
theorem mt_cvX11_274 : mt_CV RX11 274 yX11_often cX11_often 3 (some .int) 0 11 := ⟨⟨mt_mem (i := 1403) (by decide +kernel) rfl, mt_cdX11_often, mt_mem (i := 74) (by decide +kernel) rfl, by decide, by decide +kernel, by decide +kernel, by decide +kernel⟩, mt_mem (i := 1405) (by decide +kernel) rfl, mt_mem (i := 55) (by decide +kernel) rfl, by decide, _, rfl, rfl⟩
set_option maxRecDepth 20000 in
theorem mt_cdX11_isDigit : Cond.code yX11_isDigit cX11_isDigit 1 (some .boolean) ∈ mt_tb := mt_mem (i := 1409) rfl rfl
theorem mt_csX11_268 : mt_CS RX11 268 yX11_isDigit cX11_isDigit 1 (some .boolean) 1 := ⟨⟨mt_mem (i := 1407) (by decide +kernel) rfl, mt_cdX11_isDigit, mt_mem (i := 74) (by decide +kernel) rfl, by decide, by decide +kernel, by decide +kernel, by decide +kernel⟩, mt_mem (i := 1408) (by decide +kernel) rfl⟩
set_option maxRecDepth 20000 in
theorem mt_cdX11_readsBracket : Cond.code yX11_readsBracket cX11_readsBracket 2 none ∈ mt_tb := mt_mem (i := 1413) rfl rfl
theorem mt_cvX11_277 : mt_CV RX11 277 yX11_readsBracket cX11_readsBracket 2 none 1 11 := ⟨⟨mt_mem (i := 1410) (by decide +kernel) rfl, mt_cdX11_readsBracket, mt_mem (i := 74) (by decide +kernel) rfl, by decide, by decide +kernel, by decide +kernel, by decide +kernel⟩, mt_mem (i := 1412) (by decide +kernel) rfl, mt_mem (i := 56) (by decide +kernel) rfl, by decide, _, rfl, rfl⟩
set_option maxRecDepth 20000 in
theorem mt_cdX11_goes : Cond.code yX11_goes cX11_goes 7 none ∈ mt_tb := mt_mem (i := 1417) rfl rfl
theorem mt_cvX11_300 : mt_CV RX11 300 yX11_goes cX11_goes 7 none 1 11 := ⟨⟨mt_mem (i := 1414) (by decide +kernel) rfl, mt_cdX11_goes, mt_mem (i := 74) (by decide +kernel) rfl, by decide, by decide +kernel, by decide +kernel, by decide +kernel⟩, mt_mem (i := 1416) (by decide +kernel) rfl, mt_mem (i := 57) (by decide +kernel) rfl, by decide, _, rfl, rfl⟩
set_option maxRecDepth 20000 in
theorem mt_cdX11_does : Cond.code yX11_does cX11_does 4 none ∈ mt_tb := mt_mem (i := 1421) rfl rfl
theorem mt_cvX11_294 : mt_CV RX11 294 yX11_does cX11_does 4 none 2 11 := ⟨⟨mt_mem (i := 1418) (by decide +kernel) rfl, mt_cdX11_does, mt_mem (i := 74) (by decide +kernel) rfl, by decide, by decide +kernel, by decide +kernel, by decide +kernel⟩, mt_mem (i := 1420) (by decide +kernel) rfl, mt_mem (i := 58) (by decide +kernel) rfl, by decide, _, rfl, rfl⟩
set_option maxRecDepth 20000 in
theorem mt_cdX11_skips : Cond.code yX11_skips cX11_skips 2 none ∈ mt_tb := mt_mem (i := 1425) rfl rfl
theorem mt_cvX11_297 : mt_CV RX11 297 yX11_skips cX11_skips 2 none 0 11 := ⟨⟨mt_mem (i := 1422) (by decide +kernel) rfl, mt_cdX11_skips, mt_mem (i := 74) (by decide +kernel) rfl, by decide, by decide +kernel, by decide +kernel, by decide +kernel⟩, mt_mem (i := 1424) (by decide +kernel) rfl, mt_mem (i := 59) (by decide +kernel) rfl, by decide, _, rfl, rfl⟩
set_option maxRecDepth 20000 in
theorem mt_cdX11_fault : Cond.code yX11_fault cX11_fault 1 (some .int) ∈ mt_tb := mt_mem (i := 1429) rfl rfl
theorem mt_cvL_44 : mt_CV RL 44 yX11_fault cX11_fault 1 (some .int) 0 11 := ⟨⟨mt_mem (i := 1426) (by decide +kernel) rfl, mt_cdX11_fault, mt_mem (i := 74) (by decide +kernel) rfl, by decide, by decide +kernel, by decide +kernel, by decide +kernel⟩, mt_mem (i := 1427) (by decide +kernel) rfl, mt_mem (i := 1428) (by decide +kernel) rfl, by decide, _, rfl, rfl⟩
set_option maxRecDepth 20000 in
theorem mt_cdX11_drawn : Cond.code yX11_drawn cX11_drawn 5 (some .int) ∈ mt_tb := mt_mem (i := 1433) rfl rfl
theorem mt_cvL_164 : mt_CV RL 164 yX11_drawn cX11_drawn 5 (some .int) 2 11 := ⟨⟨mt_mem (i := 1430) (by decide +kernel) rfl, mt_cdX11_drawn, mt_mem (i := 74) (by decide +kernel) rfl, by decide, by decide +kernel, by decide +kernel, by decide +kernel⟩, mt_mem (i := 1431) (by decide +kernel) rfl, mt_mem (i := 1432) (by decide +kernel) rfl, by decide, _, rfl, rfl⟩
theorem mt_kX11_310 : Cond.constantLong RX11 310 (60) ∈ mt_tb := mt_mem (i := 1434) (by decide +kernel) rfl
set_option maxRecDepth 20000 in
theorem mt_cdX11_draws : Cond.code yX11_draws cX11_draws 2 (some .boolean) ∈ mt_tb := mt_mem (i := 1438) rfl rfl
theorem mt_cvX11_312 : mt_CV RX11 312 yX11_draws cX11_draws 2 (some .boolean) 0 11 := ⟨⟨mt_mem (i := 1435) (by decide +kernel) rfl, mt_cdX11_draws, mt_mem (i := 74) (by decide +kernel) rfl, by decide, by decide +kernel, by decide +kernel, by decide +kernel⟩, mt_mem (i := 1437) (by decide +kernel) rfl, mt_mem (i := 60) (by decide +kernel) rfl, by decide, _, rfl, rfl⟩
set_option maxRecDepth 20000 in
theorem mt_cdX11_draw : Cond.code yX11_draw cX11_draw 2 (some .int) ∈ mt_tb := mt_mem (i := 1442) rfl rfl
theorem mt_cvX11_307 : mt_CV RX11 307 yX11_draw cX11_draw 2 (some .int) 1 11 := ⟨⟨mt_mem (i := 1439) (by decide +kernel) rfl, mt_cdX11_draw, mt_mem (i := 74) (by decide +kernel) rfl, by decide, by decide +kernel, by decide +kernel, by decide +kernel⟩, mt_mem (i := 1441) (by decide +kernel) rfl, mt_mem (i := 61) (by decide +kernel) rfl, by decide, _, rfl, rfl⟩
theorem mt_kX11_306 : Cond.constant RX11 306 (1103515245) ∈ mt_tb := mt_mem (i := 1443) (by decide +kernel) rfl
set_option maxRecDepth 20000 in
theorem mt_cdX11_now : Cond.code yX11_now cX11_now 2 (some .int) ∈ mt_tb := mt_mem (i := 1447) rfl rfl
theorem mt_cvL_49 : mt_CV RL 49 yX11_now cX11_now 2 (some .int) 1 11 := ⟨⟨mt_mem (i := 1444) (by decide +kernel) rfl, mt_cdX11_now, mt_mem (i := 74) (by decide +kernel) rfl, by decide, by decide +kernel, by decide +kernel, by decide +kernel⟩, mt_mem (i := 1445) (by decide +kernel) rfl, mt_mem (i := 1446) (by decide +kernel) rfl, by decide, _, rfl, rfl⟩
set_option maxRecDepth 20000 in
theorem mt_cdX11_undo : Cond.code yX11_undo cX11_undo 1 (some .int) ∈ mt_tb := mt_mem (i := 1451) rfl rfl
theorem mt_cvL_168 : mt_CV RL 168 yX11_undo cX11_undo 1 (some .int) 0 11 := ⟨⟨mt_mem (i := 1448) (by decide +kernel) rfl, mt_cdX11_undo, mt_mem (i := 74) (by decide +kernel) rfl, by decide, by decide +kernel, by decide +kernel, by decide +kernel⟩, mt_mem (i := 1449) (by decide +kernel) rfl, mt_mem (i := 1450) (by decide +kernel) rfl, by decide, _, rfl, rfl⟩
set_option maxRecDepth 20000 in
theorem mt_cdX11_image : Cond.code yX11_image cX11_image 2 (some .boolean) ∈ mt_tb := mt_mem (i := 1455) rfl rfl
theorem mt_cvL_172 : mt_CV RL 172 yX11_image cX11_image 2 (some .boolean) 1 11 := ⟨⟨mt_mem (i := 1452) (by decide +kernel) rfl, mt_cdX11_image, mt_mem (i := 74) (by decide +kernel) rfl, by decide, by decide +kernel, by decide +kernel, by decide +kernel⟩, mt_mem (i := 1453) (by decide +kernel) rfl, mt_mem (i := 1454) (by decide +kernel) rfl, by decide, _, rfl, rfl⟩
set_option maxRecDepth 20000 in
theorem mt_cdX11_restore : Cond.code yX11_restore cX11_restore 2 (some .boolean) ∈ mt_tb := mt_mem (i := 1459) rfl rfl
theorem mt_cvL_176 : mt_CV RL 176 yX11_restore cX11_restore 2 (some .boolean) 1 11 := ⟨⟨mt_mem (i := 1456) (by decide +kernel) rfl, mt_cdX11_restore, mt_mem (i := 74) (by decide +kernel) rfl, by decide, by decide +kernel, by decide +kernel, by decide +kernel⟩, mt_mem (i := 1457) (by decide +kernel) rfl, mt_mem (i := 1458) (by decide +kernel) rfl, by decide, _, rfl, rfl⟩
theorem mt_kL_104 : Cond.constantLong RL 104 (4294967295) ∈ mt_tb := mt_mem (i := 1460) (by decide +kernel) rfl
