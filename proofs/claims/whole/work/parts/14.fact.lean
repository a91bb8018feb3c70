set_option maxRecDepth 100000 in
theorem mo_RX0_3 : Cond.methodLink RX0 3 Lib.objectInit ∈ jBG := jBG_of 149 (by decide +kernel) (by decide +kernel)
set_option maxRecDepth 100000 in
theorem oi_i : Cond.instanceMethod Lib.objectInit ∈ jBG := jBG_of 105 (by decide +kernel) (by decide +kernel)
set_option maxRecDepth 100000 in
theorem oi_c : Cond.code Lib.objectInit ⟨#[0xb1]⟩ 1 none ∈ jBG := jBG_of 106 (by decide +kernel) (by decide +kernel)
set_option maxRecDepth 100000 in
theorem ac_int : Cond.arrayClass .int ∈ jBG := jBG_of 119 (by decide +kernel) (by decide +kernel)
set_option maxRecDepth 100000 in
theorem fp_RX0_9_i : jFP RX0 "<init>" 9 0 0 (.array .int) := ⟨RX0, TX0, 5, rfl, by decide, by decide +kernel, Or.inr ⟨rfl, rfl, rfl, jBG_of 150 (by decide +kernel) (by decide +kernel)⟩⟩
set_option maxRecDepth 100000 in
theorem fp_RX0_15_i : jFP RX0 "<init>" 15 0 1 (.array .int) := ⟨RX0, TX0, 5, rfl, by decide, by decide +kernel, Or.inr ⟨rfl, rfl, rfl, jBG_of 151 (by decide +kernel) (by decide +kernel)⟩⟩
set_option maxRecDepth 100000 in
theorem fp_RX0_18_i : jFP RX0 "<init>" 18 0 2 (.array .int) := ⟨RX0, TX0, 5, rfl, by decide, by decide +kernel, Or.inr ⟨rfl, rfl, rfl, jBG_of 152 (by decide +kernel) (by decide +kernel)⟩⟩
set_option maxRecDepth 100000 in
theorem lc_RJ6_265 : Cond.constant RJ6 265 1431655765 ∈ jBG := jBG_of 509 (by decide +kernel) (by decide +kernel)
set_option maxRecDepth 100000 in
theorem lc_RJ6_266 : Cond.constant RJ6 266 858993459 ∈ jBG := jBG_of 510 (by decide +kernel) (by decide +kernel)
set_option maxRecDepth 100000 in
theorem lc_RJ6_267 : Cond.constant RJ6 267 252645135 ∈ jBG := jBG_of 511 (by decide +kernel) (by decide +kernel)
set_option maxRecDepth 100000 in
theorem fl_RX0_21 : jFL RX0 21 0 3 := ⟨RX0, TX0, 5, rfl, by decide, Or.inl (jBG_of 153 (by decide +kernel) (by decide +kernel))⟩
set_option maxRecDepth 100000 in
theorem fl_RX0_9 : jFL RX0 9 0 0 := ⟨RX0, TX0, 5, rfl, by decide, Or.inl (jBG_of 150 (by decide +kernel) (by decide +kernel))⟩
set_option maxRecDepth 100000 in
theorem fp_RX0_21 (nm : String) : jFP RX0 nm 21 0 3 .int := ⟨RX0, TX0, 5, rfl, by decide, by decide +kernel, Or.inl ⟨rfl, Or.inl (jBG_of 153 (by decide +kernel) (by decide +kernel))⟩⟩
set_option maxRecDepth 100000 in
theorem fl_RX0_30 : jFL RX0 30 0 4 := ⟨RX0, TX0, 5, rfl, by decide, Or.inl (jBG_of 155 (by decide +kernel) (by decide +kernel))⟩
set_option maxRecDepth 100000 in
theorem ml_RX0_39 : Cond.methodLink RX0 39 yX0_add ∈ jBG := jBG_of 663 (by decide +kernel) (by decide +kernel)
set_option maxRecDepth 100000 in
theorem yv_X0_add : jYV md_X0_add 2 0 := ⟨⟨jBG_of 666 (by decide +kernel) (by decide +kernel), jBG_of 91 (by decide +kernel) (by decide +kernel), by decide +kernel, by decide +kernel, by decide +kernel⟩, jBG_of 665 (by decide +kernel) (by decide +kernel), jBG_of 25 (by decide +kernel) (by decide +kernel), TX0, 5, rfl⟩
set_option maxRecDepth 100000 in
theorem fl_RX0_15 : jFL RX0 15 0 1 := ⟨RX0, TX0, 5, rfl, by decide, Or.inl (jBG_of 151 (by decide +kernel) (by decide +kernel))⟩
set_option maxRecDepth 100000 in
theorem mn_RX0_43 : Cond.methodLinkNest RX0 43 yX5_isIn "EnemyByLot" ∈ lw_tbl := List.mem_of_getElem? (i := 667) (by decide +kernel)
set_option maxRecDepth 100000 in
theorem ys_X5_isIn : jYS md_X5_isIn 2 := ⟨⟨jBG_of 404 (by decide +kernel) (by decide +kernel), jBG_of 88 (by decide +kernel) (by decide +kernel), by decide +kernel, by decide +kernel, by decide +kernel⟩, jBG_of 403 (by decide +kernel) (by decide +kernel)⟩
set_option maxRecDepth 100000 in
theorem ml_RX0_35 : Cond.methodLink RX0 35 yX0_draw ∈ jBG := jBG_of 660 (by decide +kernel) (by decide +kernel)
set_option maxRecDepth 100000 in
theorem ys_X0_draw : jYS md_X0_draw 4 := ⟨⟨jBG_of 662 (by decide +kernel) (by decide +kernel), jBG_of 91 (by decide +kernel) (by decide +kernel), by decide +kernel, by decide +kernel, by decide +kernel⟩, jBG_of 661 (by decide +kernel) (by decide +kernel)⟩
set_option maxRecDepth 100000 in
theorem ml_RX0_47 : Cond.methodLink RX0 47 yJ6_bitCount_0f7a4 ∈ jBG := jBG_of 668 (by decide +kernel) (by decide +kernel)
set_option maxRecDepth 100000 in
theorem ys_J6_bitCount_0f7a4 : jYS md_J6_bitCount_0f7a4 1 := ⟨⟨jBG_of 508 (by decide +kernel) (by decide +kernel), jBG_of 97 (by decide +kernel) (by decide +kernel), by decide +kernel, by decide +kernel, by decide +kernel⟩, jBG_of 507 (by decide +kernel) (by decide +kernel)⟩
set_option maxRecDepth 100000 in
theorem fl_RX1_27 : jFL RX1 27 1 5 := ⟨RX1, TX1, 7, rfl, by decide, Or.inl (jBG_of 178 (by decide +kernel) (by decide +kernel))⟩
set_option maxRecDepth 100000 in
theorem ml_RX1_34 : Cond.methodLink RX1 34 yX1_has ∈ jBG := jBG_of 225 (by decide +kernel) (by decide +kernel)
set_option maxRecDepth 100000 in
theorem yv_X1_has : jYV md_X1_has 1 1 := ⟨⟨jBG_of 228 (by decide +kernel) (by decide +kernel), jBG_of 92 (by decide +kernel) (by decide +kernel), by decide +kernel, by decide +kernel, by decide +kernel⟩, jBG_of 226 (by decide +kernel) (by decide +kernel), jBG_of 227 (by decide +kernel) (by decide +kernel), TX1, 7, rfl⟩
set_option maxRecDepth 100000 in
theorem fl_RX1_21 : jFL RX1 21 1 3 := ⟨RX1, TX1, 7, rfl, by decide, Or.inl (jBG_of 176 (by decide +kernel) (by decide +kernel))⟩
set_option maxRecDepth 100000 in
theorem fl_RX0_25 : jFL RX0 25 1 5 := ⟨RX1, TX1, 7, rfl, by decide, Or.inr ⟨"EnemyByLot", List.mem_of_getElem? (i := 179) (by decide +kernel)⟩⟩
set_option maxRecDepth 100000 in
theorem fp_RX0_30 (nm : String) : jFP RX0 nm 30 0 4 .int := ⟨RX0, TX0, 5, rfl, by decide, by decide +kernel, Or.inl ⟨rfl, Or.inl (jBG_of 155 (by decide +kernel) (by decide +kernel))⟩⟩
set_option maxRecDepth 100000 in
theorem ml_RX0_31 : Cond.methodLink RX0 31 yX1_lovedBy ∈ jBG := jBG_of 659 (by decide +kernel) (by decide +kernel)
set_option maxRecDepth 100000 in
theorem yv_X1_lovedBy : jYV md_X1_lovedBy 1 1 := ⟨⟨jBG_of 401 (by decide +kernel) (by decide +kernel), jBG_of 92 (by decide +kernel) (by decide +kernel), by decide +kernel, by decide +kernel, by decide +kernel⟩, jBG_of 399 (by decide +kernel) (by decide +kernel), jBG_of 400 (by decide +kernel) (by decide +kernel), TX1, 7, rfl⟩
set_option maxRecDepth 100000 in
theorem ml_RX0_52 : Cond.methodLink RX0 52 yX0_victimsOf ∈ jBG := jBG_of 737 (by decide +kernel) (by decide +kernel)
set_option maxRecDepth 100000 in
theorem yv_X0_victimsOf : jYV md_X0_victimsOf 2 0 := ⟨⟨jBG_of 740 (by decide +kernel) (by decide +kernel), jBG_of 91 (by decide +kernel) (by decide +kernel), by decide +kernel, by decide +kernel, by decide +kernel⟩, jBG_of 739 (by decide +kernel) (by decide +kernel), jBG_of 32 (by decide +kernel) (by decide +kernel), TX0, 5, rfl⟩
set_option maxRecDepth 100000 in
theorem ml_RX0_56 : Cond.methodLink RX0 56 yX0_victimIn ∈ jBG := jBG_of 712 (by decide +kernel) (by decide +kernel)
set_option maxRecDepth 100000 in
theorem yv_X0_victimIn : jYV md_X0_victimIn 2 0 := ⟨⟨jBG_of 676 (by decide +kernel) (by decide +kernel), jBG_of 91 (by decide +kernel) (by decide +kernel), by decide +kernel, by decide +kernel, by decide +kernel⟩, jBG_of 674 (by decide +kernel) (by decide +kernel), jBG_of 675 (by decide +kernel) (by decide +kernel), TX0, 5, rfl⟩
set_option maxRecDepth 100000 in
theorem fl_RX0_18 : jFL RX0 18 0 2 := ⟨RX0, TX0, 5, rfl, by decide, Or.inl (jBG_of 152 (by decide +kernel) (by decide +kernel))⟩
set_option maxRecDepth 100000 in
theorem ml_RX0_59 : Cond.methodLink RX0 59 yJ7_fill_53178 ∈ jBG := jBG_of 757 (by decide +kernel) (by decide +kernel)
set_option maxRecDepth 100000 in
theorem ys_J7_fill_53178 : jYS md_J7_fill_53178 2 := ⟨⟨jBG_of 759 (by decide +kernel) (by decide +kernel), jBG_of 98 (by decide +kernel) (by decide +kernel), by decide +kernel, by decide +kernel, by decide +kernel⟩, jBG_of 758 (by decide +kernel) (by decide +kernel)⟩
set_option maxRecDepth 100000 in
theorem mm_RX0_65 : Cond.methodLink RX0 65 Lib.Math.max.name ∈ jBG := jBG_of 760 (by decide +kernel) (by decide +kernel)
set_option maxRecDepth 100000 in
theorem mw_max : Cond.static Lib.Math.max.name ∈ jBG ∧ Cond.initialized "java/lang/Math" ∈ jBG ∧ Cond.code Lib.Math.max.name Lib.Math.max.code 2 (some .int) ∈ jBG := ⟨jBG_of 206 (by decide +kernel) (by decide +kernel), jBG_of 94 (by decide +kernel) (by decide +kernel), jBG_of 207 (by decide +kernel) (by decide +kernel)⟩
set_option maxRecDepth 100000 in
theorem mo_RX1_3 : Cond.methodLink RX1 3 Lib.objectInit ∈ jBG := jBG_of 172 (by decide +kernel) (by decide +kernel)
set_option maxRecDepth 100000 in
theorem fp_RX1_9_i : jFP RX1 "<init>" 9 1 0 (.array .int) := ⟨RX1, TX1, 7, rfl, by decide, by decide +kernel, Or.inr ⟨rfl, rfl, rfl, jBG_of 173 (by decide +kernel) (by decide +kernel)⟩⟩
set_option maxRecDepth 100000 in
theorem fp_RX1_15_i : jFP RX1 "<init>" 15 1 1 (.array .int) := ⟨RX1, TX1, 7, rfl, by decide, by decide +kernel, Or.inr ⟨rfl, rfl, rfl, jBG_of 174 (by decide +kernel) (by decide +kernel)⟩⟩
set_option maxRecDepth 100000 in
theorem fp_RX1_18_i : jFP RX1 "<init>" 18 1 2 (.array .int) := ⟨RX1, TX1, 7, rfl, by decide, by decide +kernel, Or.inr ⟨rfl, rfl, rfl, jBG_of 175 (by decide +kernel) (by decide +kernel)⟩⟩
set_option maxRecDepth 100000 in
theorem fp_RX1_21_i : jFP RX1 "<init>" 21 1 3 (.array .int) := ⟨RX1, TX1, 7, rfl, by decide, by decide +kernel, Or.inr ⟨rfl, rfl, rfl, jBG_of 176 (by decide +kernel) (by decide +kernel)⟩⟩
set_option maxRecDepth 100000 in
theorem fp_RX1_24_i : jFP RX1 "<init>" 24 1 4 (.array .int) := ⟨RX1, TX1, 7, rfl, by decide, by decide +kernel, Or.inr ⟨rfl, rfl, rfl, jBG_of 177 (by decide +kernel) (by decide +kernel)⟩⟩
set_option maxRecDepth 100000 in
theorem fp_RX1_27 (nm : String) : jFP RX1 nm 27 1 5 .int := ⟨RX1, TX1, 7, rfl, by decide, by decide +kernel, Or.inl ⟨rfl, Or.inl (jBG_of 178 (by decide +kernel) (by decide +kernel))⟩⟩
set_option maxRecDepth 100000 in
theorem fp_RX1_31 (nm : String) : jFP RX1 nm 31 1 6 .int := ⟨RX1, TX1, 7, rfl, by decide, by decide +kernel, Or.inl ⟨rfl, Or.inl (jBG_of 182 (by decide +kernel) (by decide +kernel))⟩⟩
set_option maxRecDepth 100000 in
theorem fl_RX1_9 : jFL RX1 9 1 0 := ⟨RX1, TX1, 7, rfl, by decide, Or.inl (jBG_of 173 (by decide +kernel) (by decide +kernel))⟩
set_option maxRecDepth 100000 in
theorem fl_RX1_15 : jFL RX1 15 1 1 := ⟨RX1, TX1, 7, rfl, by decide, Or.inl (jBG_of 174 (by decide +kernel) (by decide +kernel))⟩
set_option maxRecDepth 100000 in
theorem fl_RX1_18 : jFL RX1 18 1 2 := ⟨RX1, TX1, 7, rfl, by decide, Or.inl (jBG_of 175 (by decide +kernel) (by decide +kernel))⟩
set_option maxRecDepth 100000 in
theorem fl_RX1_24 : jFL RX1 24 1 4 := ⟨RX1, TX1, 7, rfl, by decide, Or.inl (jBG_of 177 (by decide +kernel) (by decide +kernel))⟩
set_option maxRecDepth 100000 in
theorem fl_RX1_31 : jFL RX1 31 1 6 := ⟨RX1, TX1, 7, rfl, by decide, Or.inl (jBG_of 182 (by decide +kernel) (by decide +kernel))⟩
set_option maxRecDepth 100000 in
theorem ml_RX1_38 : Cond.methodLink RX1 38 yX1_kindOf ∈ jBG := jBG_of 486 (by decide +kernel) (by decide +kernel)
set_option maxRecDepth 100000 in
theorem yv_X1_kindOf : jYV md_X1_kindOf 1 1 := ⟨⟨jBG_of 447 (by decide +kernel) (by decide +kernel), jBG_of 92 (by decide +kernel) (by decide +kernel), by decide +kernel, by decide +kernel, by decide +kernel⟩, jBG_of 445 (by decide +kernel) (by decide +kernel), jBG_of 446 (by decide +kernel) (by decide +kernel), TX1, 7, rfl⟩
set_option maxRecDepth 100000 in
theorem ml_RX1_42 : Cond.methodLink RX1 42 yX1_zealOf ∈ jBG := jBG_of 491 (by decide +kernel) (by decide +kernel)
set_option maxRecDepth 100000 in
theorem yv_X1_zealOf : jYV md_X1_zealOf 1 1 := ⟨⟨jBG_of 455 (by decide +kernel) (by decide +kernel), jBG_of 92 (by decide +kernel) (by decide +kernel), by decide +kernel, by decide +kernel, by decide +kernel⟩, jBG_of 453 (by decide +kernel) (by decide +kernel), jBG_of 454 (by decide +kernel) (by decide +kernel), TX1, 7, rfl⟩
set_option maxRecDepth 100000 in
theorem ml_RX1_45 : Cond.methodLink RX1 45 yX1_isOf ∈ jBG := jBG_of 492 (by decide +kernel) (by decide +kernel)
set_option maxRecDepth 100000 in
theorem yv_X1_isOf : jYV md_X1_isOf 2 1 := ⟨⟨jBG_of 485 (by decide +kernel) (by decide +kernel), jBG_of 92 (by decide +kernel) (by decide +kernel), by decide +kernel, by decide +kernel, by decide +kernel⟩, jBG_of 483 (by decide +kernel) (by decide +kernel), jBG_of 484 (by decide +kernel) (by decide +kernel), TX1, 7, rfl⟩
set_option maxRecDepth 100000 in
theorem mm_RX1_49 : Cond.methodLink RX1 49 Lib.Math.max.name ∈ jBG := jBG_of 493 (by decide +kernel) (by decide +kernel)
set_option maxRecDepth 100000 in
theorem ml_RX1_55 : Cond.methodLink RX1 55 yX1_lovedBy ∈ jBG := jBG_of 503 (by decide +kernel) (by decide +kernel)
set_option maxRecDepth 100000 in
theorem mn_RX1_58 : Cond.methodLinkNest RX1 58 yX5_isIn "EnemyByLot" ∈ lw_tbl := List.mem_of_getElem? (i := 504) (by decide +kernel)
set_option maxRecDepth 100000 in
theorem ml_RX1_61 : Cond.methodLink RX1 61 yX1_power ∈ jBG := jBG_of 505 (by decide +kernel) (by decide +kernel)
set_option maxRecDepth 100000 in
theorem yv_X1_power : jYV md_X1_power 1 1 := ⟨⟨jBG_of 490 (by decide +kernel) (by decide +kernel), jBG_of 92 (by decide +kernel) (by decide +kernel), by decide +kernel, by decide +kernel, by decide +kernel⟩, jBG_of 488 (by decide +kernel) (by decide +kernel), jBG_of 489 (by decide +kernel) (by decide +kernel), TX1, 7, rfl⟩
set_option maxRecDepth 100000 in
theorem mo_RX2_3 : Cond.methodLink RX2 3 Lib.objectInit ∈ jBG := jBG_of 204 (by decide +kernel) (by decide +kernel)
set_option maxRecDepth 100000 in
theorem mm_RX2_9 : Cond.methodLink RX2 9 Lib.Math.max.name ∈ jBG := jBG_of 205 (by decide +kernel) (by decide +kernel)
set_option maxRecDepth 100000 in
theorem fp_RX2_15_i : jFP RX2 "<init>" 15 2 0 (.array .int) := ⟨RX2, TX2, 2, rfl, by decide, by decide +kernel, Or.inr ⟨rfl, rfl, rfl, jBG_of 208 (by decide +kernel) (by decide +kernel)⟩⟩
set_option maxRecDepth 100000 in
theorem fp_RX2_21 (nm : String) : jFP RX2 nm 21 2 1 .int := ⟨RX2, TX2, 2, rfl, by decide, by decide +kernel, Or.inl ⟨rfl, Or.inl (jBG_of 209 (by decide +kernel) (by decide +kernel))⟩⟩
set_option maxRecDepth 100000 in
theorem fl_RX2_21 : jFL RX2 21 2 1 := ⟨RX2, TX2, 2, rfl, by decide, Or.inl (jBG_of 209 (by decide +kernel) (by decide +kernel))⟩
set_option maxRecDepth 100000 in
theorem fl_RX2_15 : jFL RX2 15 2 0 := ⟨RX2, TX2, 2, rfl, by decide, Or.inl (jBG_of 208 (by decide +kernel) (by decide +kernel))⟩
set_option maxRecDepth 100000 in
theorem mm_RX2_25 : Cond.methodLink RX2 25 Lib.Math.min.name ∈ jBG := jBG_of 299 (by decide +kernel) (by decide +kernel)
set_option maxRecDepth 100000 in
theorem mw_min : Cond.static Lib.Math.min.name ∈ jBG ∧ Cond.initialized "java/lang/Math" ∈ jBG ∧ Cond.code Lib.Math.min.name Lib.Math.min.code 2 (some .int) ∈ jBG := ⟨jBG_of 300 (by decide +kernel) (by decide +kernel), jBG_of 94 (by decide +kernel) (by decide +kernel), jBG_of 301 (by decide +kernel) (by decide +kernel)⟩
set_option maxRecDepth 100000 in
theorem ml_RX2_28 : Cond.methodLink RX2 28 yX2_holds ∈ jBG := jBG_of 306 (by decide +kernel) (by decide +kernel)
set_option maxRecDepth 100000 in
theorem yv_X2_holds : jYV md_X2_holds 1 2 := ⟨⟨jBG_of 309 (by decide +kernel) (by decide +kernel), jBG_of 93 (by decide +kernel) (by decide +kernel), by decide +kernel, by decide +kernel, by decide +kernel⟩, jBG_of 307 (by decide +kernel) (by decide +kernel), jBG_of 308 (by decide +kernel) (by decide +kernel), TX2, 2, rfl⟩
set_option maxRecDepth 100000 in
theorem ml_RX2_32 : Cond.methodLink RX2 32 yX2_set ∈ jBG := jBG_of 302 (by decide +kernel) (by decide +kernel)
set_option maxRecDepth 100000 in
theorem yv_X2_set : jYV md_X2_set 2 2 := ⟨⟨jBG_of 305 (by decide +kernel) (by decide +kernel), jBG_of 93 (by decide +kernel) (by decide +kernel), by decide +kernel, by decide +kernel, by decide +kernel⟩, jBG_of 303 (by decide +kernel) (by decide +kernel), jBG_of 304 (by decide +kernel) (by decide +kernel), TX2, 2, rfl⟩
set_option maxRecDepth 100000 in
theorem ml_RX2_36 : Cond.methodLink RX2 36 yX2_holdsSpan ∈ jBG := jBG_of 352 (by decide +kernel) (by decide +kernel)
set_option maxRecDepth 100000 in
theorem yv_X2_holdsSpan : jYV md_X2_holdsSpan 2 2 := ⟨⟨jBG_of 347 (by decide +kernel) (by decide +kernel), jBG_of 93 (by decide +kernel) (by decide +kernel), by decide +kernel, by decide +kernel, by decide +kernel⟩, jBG_of 345 (by decide +kernel) (by decide +kernel), jBG_of 346 (by decide +kernel) (by decide +kernel), TX2, 2, rfl⟩
set_option maxRecDepth 100000 in
theorem mc_RX2_40 : Cond.methodLink RX2 40 arraycopyName ∈ jBG := jBG_of 353 (by decide +kernel) (by decide +kernel)
set_option maxRecDepth 100000 in
theorem ay_w : Cond.native arraycopyName ∈ jBG ∧ Cond.static arraycopyName ∈ jBG ∧ Cond.initialized "java/lang/System" ∈ jBG := ⟨jBG_of 355 (by decide +kernel) (by decide +kernel), jBG_of 354 (by decide +kernel) (by decide +kernel), jBG_of 96 (by decide +kernel) (by decide +kernel)⟩
set_option maxRecDepth 100000 in
theorem ml_RX2_46 : Cond.methodLink RX2 46 yX2_get ∈ jBG := jBG_of 364 (by decide +kernel) (by decide +kernel)
set_option maxRecDepth 100000 in
theorem yv_X2_get : jYV md_X2_get 1 2 := ⟨⟨jBG_of 326 (by decide +kernel) (by decide +kernel), jBG_of 93 (by decide +kernel) (by decide +kernel), by decide +kernel, by decide +kernel, by decide +kernel⟩, jBG_of 324 (by decide +kernel) (by decide +kernel), jBG_of 325 (by decide +kernel) (by decide +kernel), TX2, 2, rfl⟩
set_option maxRecDepth 100000 in
theorem lc_RX2_50 : Cond.constantLong RX2 50 31 ∈ jBG := jBG_of 823 (by decide +kernel) (by decide +kernel)
set_option maxRecDepth 100000 in
theorem mo_RX3_3 : Cond.methodLink RX3 3 Lib.objectInit ∈ jBG := jBG_of 114 (by decide +kernel) (by decide +kernel)
set_option maxRecDepth 100000 in
theorem fp_RX3_9_i : jFP RX3 "<init>" 9 3 0 (.array .int) := ⟨RX3, TX3, 1, rfl, by decide, by decide +kernel, Or.inr ⟨rfl, rfl, rfl, jBG_of 115 (by decide +kernel) (by decide +kernel)⟩⟩
set_option maxRecDepth 100000 in
theorem fl_RX3_37 : jFL RX3 37 1 5 := ⟨RX1, TX1, 7, rfl, by decide, Or.inr ⟨"EnemyByLot", List.mem_of_getElem? (i := 180) (by decide +kernel)⟩⟩
set_option maxRecDepth 100000 in
theorem ml_RX3_77 : Cond.methodLink RX3 77 yX1_firstVictimOf ∈ jBG := jBG_of 429 (by decide +kernel) (by decide +kernel)
set_option maxRecDepth 100000 in
theorem yv_X1_firstVictimOf : jYV md_X1_firstVictimOf 1 1 := ⟨⟨jBG_of 224 (by decide +kernel) (by decide +kernel), jBG_of 92 (by decide +kernel) (by decide +kernel), by decide +kernel, by decide +kernel, by decide +kernel⟩, jBG_of 222 (by decide +kernel) (by decide +kernel), jBG_of 223 (by decide +kernel) (by decide +kernel), TX1, 7, rfl⟩
set_option maxRecDepth 100000 in
theorem fl_RX3_9 : jFL RX3 9 3 0 := ⟨RX3, TX3, 1, rfl, by decide, Or.inl (jBG_of 115 (by decide +kernel) (by decide +kernel))⟩
set_option maxRecDepth 100000 in
theorem ml_RX3_80 : Cond.methodLink RX3 80 yX1_has ∈ jBG := jBG_of 430 (by decide +kernel) (by decide +kernel)
set_option maxRecDepth 100000 in
theorem mn_RX3_69 : Cond.methodLinkNest RX3 69 yX5_isIn "EnemyByLot" ∈ lw_tbl := List.mem_of_getElem? (i := 402) (by decide +kernel)
set_option maxRecDepth 100000 in
theorem ml_RX3_58 : Cond.methodLink RX3 58 yX2_holds ∈ jBG := jBG_of 397 (by decide +kernel) (by decide +kernel)
set_option maxRecDepth 100000 in
theorem ml_RX3_30 : Cond.methodLink RX3 30 yX2_get ∈ jBG := jBG_of 389 (by decide +kernel) (by decide +kernel)
set_option maxRecDepth 100000 in
theorem fl_RX3_51 : jFL RX3 51 1 6 := ⟨RX1, TX1, 7, rfl, by decide, Or.inr ⟨"EnemyByLot", List.mem_of_getElem? (i := 183) (by decide +kernel)⟩⟩
set_option maxRecDepth 100000 in
theorem ml_RX3_54 : Cond.methodLink RX3 54 yX3_figure ∈ jBG := jBG_of 394 (by decide +kernel) (by decide +kernel)
set_option maxRecDepth 100000 in
theorem ys_X3_figure : jYS md_X3_figure 4 := ⟨⟨jBG_of 396 (by decide +kernel) (by decide +kernel), jBG_of 89 (by decide +kernel) (by decide +kernel), by decide +kernel, by decide +kernel, by decide +kernel⟩, jBG_of 395 (by decide +kernel) (by decide +kernel)⟩
set_option maxRecDepth 100000 in
theorem ml_RX3_66 : Cond.methodLink RX3 66 yX1_lovedBy ∈ jBG := jBG_of 398 (by decide +kernel) (by decide +kernel)
set_option maxRecDepth 100000 in
theorem ml_RX3_73 : Cond.methodLink RX3 73 yX1_pair ∈ jBG := jBG_of 405 (by decide +kernel) (by decide +kernel)
set_option maxRecDepth 100000 in
theorem yv_X1_pair : jYV md_X1_pair 2 1 := ⟨⟨jBG_of 408 (by decide +kernel) (by decide +kernel), jBG_of 92 (by decide +kernel) (by decide +kernel), by decide +kernel, by decide +kernel, by decide +kernel⟩, jBG_of 406 (by decide +kernel) (by decide +kernel), jBG_of 407 (by decide +kernel) (by decide +kernel), TX1, 7, rfl⟩
set_option maxRecDepth 100000 in
theorem gs_RX3_83 : Cond.fieldLinkNest RX3 83 "EnemyByLot" "LETTERS" "[I" "EnemyByLot" ∈ lw_tbl := List.mem_of_getElem? (i := 416) (by decide +kernel)
set_option maxRecDepth 100000 in
theorem ml_RX3_48 : Cond.methodLink RX3 48 yX3_kindBy ∈ jBG := jBG_of 413 (by decide +kernel) (by decide +kernel)
set_option maxRecDepth 100000 in
theorem ys_X3_kindBy : jYS md_X3_kindBy 1 := ⟨⟨jBG_of 415 (by decide +kernel) (by decide +kernel), jBG_of 89 (by decide +kernel) (by decide +kernel), by decide +kernel, by decide +kernel, by decide +kernel⟩, jBG_of 414 (by decide +kernel) (by decide +kernel)⟩
set_option maxRecDepth 100000 in
theorem ml_RX3_62 : Cond.methodLink RX3 62 yX1_join ∈ jBG := jBG_of 418 (by decide +kernel) (by decide +kernel)
set_option maxRecDepth 100000 in
theorem yv_X1_join : jYV md_X1_join 4 1 := ⟨⟨jBG_of 421 (by decide +kernel) (by decide +kernel), jBG_of 92 (by decide +kernel) (by decide +kernel), by decide +kernel, by decide +kernel, by decide +kernel⟩, jBG_of 419 (by decide +kernel) (by decide +kernel), jBG_of 420 (by decide +kernel) (by decide +kernel), TX1, 7, rfl⟩
set_option maxRecDepth 100000 in
theorem ml_RX3_45 : Cond.methodLink RX3 45 yX3_readPerson ∈ jBG := jBG_of 409 (by decide +kernel) (by decide +kernel)
set_option maxRecDepth 100000 in
theorem yv_X3_readPerson : jYV md_X3_readPerson 3 3 := ⟨⟨jBG_of 412 (by decide +kernel) (by decide +kernel), jBG_of 89 (by decide +kernel) (by decide +kernel), by decide +kernel, by decide +kernel, by decide +kernel⟩, jBG_of 411 (by decide +kernel) (by decide +kernel), jBG_of 5 (by decide +kernel) (by decide +kernel), TX3, 1, rfl⟩
set_option maxRecDepth 100000 in
theorem ml_RX3_42 : Cond.methodLink RX3 42 yX3_readLove ∈ jBG := jBG_of 390 (by decide +kernel) (by decide +kernel)
set_option maxRecDepth 100000 in
theorem yv_X3_readLove : jYV md_X3_readLove 3 3 := ⟨⟨jBG_of 393 (by decide +kernel) (by decide +kernel), jBG_of 89 (by decide +kernel) (by decide +kernel), by decide +kernel, by decide +kernel, by decide +kernel⟩, jBG_of 392 (by decide +kernel) (by decide +kernel), jBG_of 4 (by decide +kernel) (by decide +kernel), TX3, 1, rfl⟩
set_option maxRecDepth 100000 in
theorem ml_RX3_15 : Cond.methodLink RX3 15 yX1_clear ∈ jBG := jBG_of 381 (by decide +kernel) (by decide +kernel)
set_option maxRecDepth 100000 in
theorem yv_X1_clear : jYV md_X1_clear 0 1 := ⟨⟨jBG_of 384 (by decide +kernel) (by decide +kernel), jBG_of 92 (by decide +kernel) (by decide +kernel), by decide +kernel, by decide +kernel, by decide +kernel⟩, jBG_of 382 (by decide +kernel) (by decide +kernel), jBG_of 383 (by decide +kernel) (by decide +kernel), TX1, 7, rfl⟩
set_option maxRecDepth 100000 in
theorem fl_RX3_20 : jFL RX3 20 2 1 := ⟨RX2, TX2, 2, rfl, by decide, Or.inr ⟨"EnemyByLot", List.mem_of_getElem? (i := 210) (by decide +kernel)⟩⟩
set_option maxRecDepth 100000 in
theorem ml_RX3_26 : Cond.methodLink RX3 26 yX3_readItem ∈ jBG := jBG_of 385 (by decide +kernel) (by decide +kernel)
set_option maxRecDepth 100000 in
theorem yv_X3_readItem : jYV md_X3_readItem 3 3 := ⟨⟨jBG_of 388 (by decide +kernel) (by decide +kernel), jBG_of 89 (by decide +kernel) (by decide +kernel), by decide +kernel, by decide +kernel, by decide +kernel⟩, jBG_of 387 (by decide +kernel) (by decide +kernel), jBG_of 3 (by decide +kernel) (by decide +kernel), TX3, 1, rfl⟩
set_option maxRecDepth 100000 in
theorem ml_RX3_34 : Cond.methodLink RX3 34 yX3_widthOf ∈ jBG := jBG_of 422 (by decide +kernel) (by decide +kernel)
set_option maxRecDepth 100000 in
theorem ys_X3_widthOf : jYS md_X3_widthOf 1 := ⟨⟨jBG_of 424 (by decide +kernel) (by decide +kernel), jBG_of 89 (by decide +kernel) (by decide +kernel), by decide +kernel, by decide +kernel, by decide +kernel⟩, jBG_of 423 (by decide +kernel) (by decide +kernel)⟩
set_option maxRecDepth 100000 in
theorem ml_RX3_38 : Cond.methodLink RX3 38 yX3_faultOfFoes ∈ jBG := jBG_of 425 (by decide +kernel) (by decide +kernel)
set_option maxRecDepth 100000 in
theorem yv_X3_faultOfFoes : jYV md_X3_faultOfFoes 1 3 := ⟨⟨jBG_of 428 (by decide +kernel) (by decide +kernel), jBG_of 89 (by decide +kernel) (by decide +kernel), by decide +kernel, by decide +kernel, by decide +kernel⟩, jBG_of 427 (by decide +kernel) (by decide +kernel), jBG_of 6 (by decide +kernel) (by decide +kernel), TX3, 1, rfl⟩
set_option maxRecDepth 100000 in
theorem mo_RX4_3 : Cond.methodLink RX4 3 Lib.objectInit ∈ jBG := jBG_of 125 (by decide +kernel) (by decide +kernel)
set_option maxRecDepth 100000 in
theorem fp_RX4_9_i : jFP RX4 "<init>" 9 4 0 (.array .int) := ⟨RX4, TX4, 5, rfl, by decide, by decide +kernel, Or.inr ⟨rfl, rfl, rfl, jBG_of 126 (by decide +kernel) (by decide +kernel)⟩⟩
set_option maxRecDepth 100000 in
theorem fp_RX4_15_i : jFP RX4 "<init>" 15 4 1 (.array .int) := ⟨RX4, TX4, 5, rfl, by decide, by decide +kernel, Or.inr ⟨rfl, rfl, rfl, jBG_of 127 (by decide +kernel) (by decide +kernel)⟩⟩
set_option maxRecDepth 100000 in
theorem fp_RX4_18_i : jFP RX4 "<init>" 18 4 2 (.array .int) := ⟨RX4, TX4, 5, rfl, by decide, by decide +kernel, Or.inr ⟨rfl, rfl, rfl, jBG_of 128 (by decide +kernel) (by decide +kernel)⟩⟩
set_option maxRecDepth 100000 in
theorem fl_RX4_21 : jFL RX4 21 4 3 := ⟨RX4, TX4, 5, rfl, by decide, Or.inl (jBG_of 129 (by decide +kernel) (by decide +kernel))⟩
set_option maxRecDepth 100000 in
theorem fl_RX4_15 : jFL RX4 15 4 1 := ⟨RX4, TX4, 5, rfl, by decide, Or.inl (jBG_of 127 (by decide +kernel) (by decide +kernel))⟩
set_option maxRecDepth 100000 in
theorem ml_RX4_44 : Cond.methodLink RX4 44 yX4_slot ∈ jBG := jBG_of 233 (by decide +kernel) (by decide +kernel)
set_option maxRecDepth 100000 in
theorem yv_X4_slot : jYV md_X4_slot 1 4 := ⟨⟨jBG_of 236 (by decide +kernel) (by decide +kernel), jBG_of 90 (by decide +kernel) (by decide +kernel), by decide +kernel, by decide +kernel, by decide +kernel⟩, jBG_of 235 (by decide +kernel) (by decide +kernel), jBG_of 0 (by decide +kernel) (by decide +kernel), TX4, 5, rfl⟩
set_option maxRecDepth 100000 in
theorem fl_RX4_9 : jFL RX4 9 4 0 := ⟨RX4, TX4, 5, rfl, by decide, Or.inl (jBG_of 126 (by decide +kernel) (by decide +kernel))⟩
set_option maxRecDepth 100000 in
theorem fp_RX4_21 (nm : String) : jFP RX4 nm 21 4 3 .int := ⟨RX4, TX4, 5, rfl, by decide, by decide +kernel, Or.inl ⟨rfl, Or.inl (jBG_of 129 (by decide +kernel) (by decide +kernel))⟩⟩
set_option maxRecDepth 100000 in
theorem ml_RX4_25 : Cond.methodLink RX4 25 yX1_firstVictimOf ∈ jBG := jBG_of 221 (by decide +kernel) (by decide +kernel)
set_option maxRecDepth 100000 in
theorem ml_RX4_31 : Cond.methodLink RX4 31 yX4_setVictim ∈ jBG := jBG_of 229 (by decide +kernel) (by decide +kernel)
set_option maxRecDepth 100000 in
theorem yv_X4_setVictim : jYV md_X4_setVictim 2 4 := ⟨⟨jBG_of 232 (by decide +kernel) (by decide +kernel), jBG_of 90 (by decide +kernel) (by decide +kernel), by decide +kernel, by decide +kernel, by decide +kernel⟩, jBG_of 230 (by decide +kernel) (by decide +kernel), jBG_of 231 (by decide +kernel) (by decide +kernel), TX4, 5, rfl⟩
set_option maxRecDepth 100000 in
theorem ml_RX4_35 : Cond.methodLink RX4 35 yX4_setDeeds ∈ jBG := jBG_of 237 (by decide +kernel) (by decide +kernel)
set_option maxRecDepth 100000 in
theorem yv_X4_setDeeds : jYV md_X4_setDeeds 2 4 := ⟨⟨jBG_of 240 (by decide +kernel) (by decide +kernel), jBG_of 90 (by decide +kernel) (by decide +kernel), by decide +kernel, by decide +kernel, by decide +kernel⟩, jBG_of 238 (by decide +kernel) (by decide +kernel), jBG_of 239 (by decide +kernel) (by decide +kernel), TX4, 5, rfl⟩
set_option maxRecDepth 100000 in
theorem fl_RX4_18 : jFL RX4 18 4 2 := ⟨RX4, TX4, 5, rfl, by decide, Or.inl (jBG_of 128 (by decide +kernel) (by decide +kernel))⟩
set_option maxRecDepth 100000 in
theorem mc_RX4_38 : Cond.methodLink RX4 38 arraycopyName ∈ jBG := jBG_of 552 (by decide +kernel) (by decide +kernel)
