set_option maxRecDepth 100000 in
theorem ml_RX4_47 : Cond.methodLink RX4 47 yX4_victimOf ∈ jBG := jBG_of 464 (by decide +kernel) (by decide +kernel)
set_option maxRecDepth 100000 in
theorem yv_X4_victimOf : jYV md_X4_victimOf 1 4 := ⟨⟨jBG_of 459 (by decide +kernel) (by decide +kernel), jBG_of 90 (by decide +kernel) (by decide +kernel), by decide +kernel, by decide +kernel, by decide +kernel⟩, jBG_of 457 (by decide +kernel) (by decide +kernel), jBG_of 458 (by decide +kernel) (by decide +kernel), TX4, 5, rfl⟩
set_option maxRecDepth 100000 in
theorem mo_RX5_3 : Cond.methodLink RX5 3 Lib.objectInit ∈ jBG := jBG_of 104 (by decide +kernel) (by decide +kernel)
set_option maxRecDepth 100000 in
theorem ce_RX5_9 : Cond.classLink RX5 9 (jEl 0) ∈ jBG := jBG_of 107 (by decide +kernel) (by decide +kernel)
set_option maxRecDepth 100000 in
theorem fp_RX5_11_i : jFP RX5 "<init>" 11 5 0 (.array (.object "EnemyByLot$Line")) := ⟨RX5, TX5, 14, rfl, by decide, by decide +kernel, Or.inr ⟨rfl, rfl, rfl, jBG_of 241 (by decide +kernel) (by decide +kernel)⟩⟩
set_option maxRecDepth 100000 in
theorem fp_RX5_15_i : jFP RX5 "<init>" 15 5 1 (.array (.object "EnemyByLot$Line")) := ⟨RX5, TX5, 14, rfl, by decide, by decide +kernel, Or.inr ⟨rfl, rfl, rfl, jBG_of 242 (by decide +kernel) (by decide +kernel)⟩⟩
set_option maxRecDepth 100000 in
theorem cl_RX5_18 : Cond.classLink RX5 18 RX3 ∈ jBG := jBG_of 109 (by decide +kernel) (by decide +kernel)
set_option maxRecDepth 100000 in
theorem it_3 : Cond.instantiable RX3 1 ∈ jBG := jBG_of 110 (by decide +kernel) (by decide +kernel)
set_option maxRecDepth 100000 in
theorem in_3 : Cond.initialized RX3 ∈ jBG := jBG_of 89 (by decide +kernel) (by decide +kernel)
set_option maxRecDepth 100000 in
theorem df_3 : ∀ j, j < 1 → ∀ g : GX, defaultValue (tyX3 j) = vp_V (([.inr (.inr (.inl none))] : List AV).map (jcv g)) j := by
  intro j hj g
  match j, hj with
  | 0, _ => rfl
  | j + 1, hj => exact absurd hj (by omega)
set_option maxRecDepth 100000 in
theorem mn_RX5_20 : Cond.methodLinkNest RX5 20 yX3_init "EnemyByLot" ∈ lw_tbl := List.mem_of_getElem? (i := 111) (by decide +kernel)
set_option maxRecDepth 100000 in
theorem yi_X3_init : jYI md_X3_init 0 := ⟨⟨jBG_of 113 (by decide +kernel) (by decide +kernel), jBG_of 89 (by decide +kernel) (by decide +kernel), by decide +kernel, by decide +kernel, by decide +kernel⟩, jBG_of 112 (by decide +kernel) (by decide +kernel), rfl⟩
set_option maxRecDepth 100000 in
theorem fp_RX5_21_i : jFP RX5 "<init>" 21 5 2 (.object "EnemyByLot$Reader") := ⟨RX5, TX5, 14, rfl, by decide, by decide +kernel, Or.inr ⟨rfl, rfl, rfl, jBG_of 243 (by decide +kernel) (by decide +kernel)⟩⟩
set_option maxRecDepth 100000 in
theorem cl_RX5_25 : Cond.classLink RX5 25 RX4 ∈ jBG := jBG_of 120 (by decide +kernel) (by decide +kernel)
set_option maxRecDepth 100000 in
theorem it_4 : Cond.instantiable RX4 5 ∈ jBG := jBG_of 121 (by decide +kernel) (by decide +kernel)
set_option maxRecDepth 100000 in
theorem in_4 : Cond.initialized RX4 ∈ jBG := jBG_of 90 (by decide +kernel) (by decide +kernel)
set_option maxRecDepth 100000 in
theorem df_4 : ∀ j, j < 5 → ∀ g : GX, defaultValue (tyX4 j) = vp_V (([.inr (.inr (.inl none)), .inr (.inr (.inl none)), .inr (.inr (.inl none)), .inl 0, .inl 0] : List AV).map (jcv g)) j := by
  intro j hj g
  match j, hj with
  | 0, _ => rfl
  | 1, _ => rfl
  | 2, _ => rfl
  | 3, _ => rfl
  | 4, _ => rfl
  | j + 5, hj => exact absurd hj (by omega)
set_option maxRecDepth 100000 in
theorem mn_RX5_27 : Cond.methodLinkNest RX5 27 yX4_init "EnemyByLot" ∈ lw_tbl := List.mem_of_getElem? (i := 122) (by decide +kernel)
set_option maxRecDepth 100000 in
theorem yi_X4_init : jYI md_X4_init 0 := ⟨⟨jBG_of 124 (by decide +kernel) (by decide +kernel), jBG_of 90 (by decide +kernel) (by decide +kernel), by decide +kernel, by decide +kernel, by decide +kernel⟩, jBG_of 123 (by decide +kernel) (by decide +kernel), rfl⟩
set_option maxRecDepth 100000 in
theorem fp_RX5_28_i : jFP RX5 "<init>" 28 5 3 (.object "EnemyByLot$Town") := ⟨RX5, TX5, 14, rfl, by decide, by decide +kernel, Or.inr ⟨rfl, rfl, rfl, jBG_of 244 (by decide +kernel) (by decide +kernel)⟩⟩
set_option maxRecDepth 100000 in
theorem ce_RX5_25 : Cond.classLink RX5 25 (jEl 1) ∈ jBG := jBG_of 120 (by decide +kernel) (by decide +kernel)
set_option maxRecDepth 100000 in
theorem fp_RX5_32_i : jFP RX5 "<init>" 32 5 4 (.array (.object "EnemyByLot$Town")) := ⟨RX5, TX5, 14, rfl, by decide, by decide +kernel, Or.inr ⟨rfl, rfl, rfl, jBG_of 245 (by decide +kernel) (by decide +kernel)⟩⟩
set_option maxRecDepth 100000 in
theorem cl_RX5_36 : Cond.classLink RX5 36 RX0 ∈ jBG := jBG_of 144 (by decide +kernel) (by decide +kernel)
set_option maxRecDepth 100000 in
theorem it_0 : Cond.instantiable RX0 5 ∈ jBG := jBG_of 145 (by decide +kernel) (by decide +kernel)
set_option maxRecDepth 100000 in
theorem in_0 : Cond.initialized RX0 ∈ jBG := jBG_of 91 (by decide +kernel) (by decide +kernel)
set_option maxRecDepth 100000 in
theorem df_0 : ∀ j, j < 5 → ∀ g : GX, defaultValue (tyX0 j) = vp_V (([.inr (.inr (.inl none)), .inr (.inr (.inl none)), .inr (.inr (.inl none)), .inl 0, .inl 0] : List AV).map (jcv g)) j := by
  intro j hj g
  match j, hj with
  | 0, _ => rfl
  | 1, _ => rfl
  | 2, _ => rfl
  | 3, _ => rfl
  | 4, _ => rfl
  | j + 5, hj => exact absurd hj (by omega)
set_option maxRecDepth 100000 in
theorem mn_RX5_38 : Cond.methodLinkNest RX5 38 yX0_init "EnemyByLot" ∈ lw_tbl := List.mem_of_getElem? (i := 146) (by decide +kernel)
set_option maxRecDepth 100000 in
theorem yi_X0_init : jYI md_X0_init 0 := ⟨⟨jBG_of 148 (by decide +kernel) (by decide +kernel), jBG_of 91 (by decide +kernel) (by decide +kernel), by decide +kernel, by decide +kernel, by decide +kernel⟩, jBG_of 147 (by decide +kernel) (by decide +kernel), rfl⟩
set_option maxRecDepth 100000 in
theorem fp_RX5_39_i : jFP RX5 "<init>" 39 5 5 (.object "EnemyByLot$Atlas") := ⟨RX5, TX5, 14, rfl, by decide, by decide +kernel, Or.inr ⟨rfl, rfl, rfl, jBG_of 246 (by decide +kernel) (by decide +kernel)⟩⟩
set_option maxRecDepth 100000 in
theorem fp_RX5_43_i : jFP RX5 "<init>" 43 5 6 (.array .int) := ⟨RX5, TX5, 14, rfl, by decide, by decide +kernel, Or.inr ⟨rfl, rfl, rfl, jBG_of 247 (by decide +kernel) (by decide +kernel)⟩⟩
set_option maxRecDepth 100000 in
theorem fp_RX5_47_i : jFP RX5 "<init>" 47 5 7 (.array .int) := ⟨RX5, TX5, 14, rfl, by decide, by decide +kernel, Or.inr ⟨rfl, rfl, rfl, jBG_of 248 (by decide +kernel) (by decide +kernel)⟩⟩
set_option maxRecDepth 100000 in
theorem cl_RX5_50 : Cond.classLink RX5 50 RX1 ∈ jBG := jBG_of 167 (by decide +kernel) (by decide +kernel)
set_option maxRecDepth 100000 in
theorem it_1 : Cond.instantiable RX1 7 ∈ jBG := jBG_of 168 (by decide +kernel) (by decide +kernel)
set_option maxRecDepth 100000 in
theorem in_1 : Cond.initialized RX1 ∈ jBG := jBG_of 92 (by decide +kernel) (by decide +kernel)
set_option maxRecDepth 100000 in
theorem df_1 : ∀ j, j < 7 → ∀ g : GX, defaultValue (tyX1 j) = vp_V (([.inr (.inr (.inl none)), .inr (.inr (.inl none)), .inr (.inr (.inl none)), .inr (.inr (.inl none)), .inr (.inr (.inl none)), .inl 0, .inl 0] : List AV).map (jcv g)) j := by
  intro j hj g
  match j, hj with
  | 0, _ => rfl
  | 1, _ => rfl
  | 2, _ => rfl
  | 3, _ => rfl
  | 4, _ => rfl
  | 5, _ => rfl
  | 6, _ => rfl
  | j + 7, hj => exact absurd hj (by omega)
set_option maxRecDepth 100000 in
theorem mn_RX5_52 : Cond.methodLinkNest RX5 52 yX1_init "EnemyByLot" ∈ lw_tbl := List.mem_of_getElem? (i := 169) (by decide +kernel)
set_option maxRecDepth 100000 in
theorem yi_X1_init : jYI md_X1_init 0 := ⟨⟨jBG_of 171 (by decide +kernel) (by decide +kernel), jBG_of 92 (by decide +kernel) (by decide +kernel), by decide +kernel, by decide +kernel, by decide +kernel⟩, jBG_of 170 (by decide +kernel) (by decide +kernel), rfl⟩
set_option maxRecDepth 100000 in
theorem fp_RX5_53 (nm : String) : jFP RX5 nm 53 5 8 (.object "EnemyByLot$Folk") := ⟨RX5, TX5, 14, rfl, by decide, by decide +kernel, Or.inl ⟨rfl, Or.inl (jBG_of 249 (by decide +kernel) (by decide +kernel))⟩⟩
set_option maxRecDepth 100000 in
theorem fp_RX5_57 (nm : String) : jFP RX5 nm 57 5 9 (.object "EnemyByLot$Folk") := ⟨RX5, TX5, 14, rfl, by decide, by decide +kernel, Or.inl ⟨rfl, Or.inl (jBG_of 250 (by decide +kernel) (by decide +kernel))⟩⟩
set_option maxRecDepth 100000 in
theorem fl_RX5_11 : jFL RX5 11 5 0 := ⟨RX5, TX5, 14, rfl, by decide, Or.inl (jBG_of 241 (by decide +kernel) (by decide +kernel))⟩
set_option maxRecDepth 100000 in
theorem cl_RX5_9 : Cond.classLink RX5 9 RX2 ∈ jBG := jBG_of 107 (by decide +kernel) (by decide +kernel)
set_option maxRecDepth 100000 in
theorem it_2 : Cond.instantiable RX2 2 ∈ jBG := jBG_of 200 (by decide +kernel) (by decide +kernel)
set_option maxRecDepth 100000 in
theorem in_2 : Cond.initialized RX2 ∈ jBG := jBG_of 93 (by decide +kernel) (by decide +kernel)
set_option maxRecDepth 100000 in
theorem df_2 : ∀ j, j < 2 → ∀ g : GX, defaultValue (tyX2 j) = vp_V (([.inr (.inr (.inl none)), .inl 0] : List AV).map (jcv g)) j := by
  intro j hj g
  match j, hj with
  | 0, _ => rfl
  | 1, _ => rfl
  | j + 2, hj => exact absurd hj (by omega)
set_option maxRecDepth 100000 in
theorem ml_RX5_60 : Cond.methodLink RX5 60 yX2_init ∈ jBG := jBG_of 201 (by decide +kernel) (by decide +kernel)
set_option maxRecDepth 100000 in
theorem yi_X2_init : jYI md_X2_init 1 := ⟨⟨jBG_of 203 (by decide +kernel) (by decide +kernel), jBG_of 93 (by decide +kernel) (by decide +kernel), by decide +kernel, by decide +kernel, by decide +kernel⟩, jBG_of 202 (by decide +kernel) (by decide +kernel), rfl⟩
set_option maxRecDepth 100000 in
theorem fl_RX5_15 : jFL RX5 15 5 1 := ⟨RX5, TX5, 14, rfl, by decide, Or.inl (jBG_of 242 (by decide +kernel) (by decide +kernel))⟩
set_option maxRecDepth 100000 in
theorem fl_RX5_32 : jFL RX5 32 5 4 := ⟨RX5, TX5, 14, rfl, by decide, Or.inl (jBG_of 245 (by decide +kernel) (by decide +kernel))⟩
set_option maxRecDepth 100000 in
theorem fl_RX5_28 : jFL RX5 28 5 3 := ⟨RX5, TX5, 14, rfl, by decide, Or.inl (jBG_of 244 (by decide +kernel) (by decide +kernel))⟩
set_option maxRecDepth 100000 in
theorem fl_RX5_53 : jFL RX5 53 5 8 := ⟨RX5, TX5, 14, rfl, by decide, Or.inl (jBG_of 249 (by decide +kernel) (by decide +kernel))⟩
set_option maxRecDepth 100000 in
theorem ml_RX5_63 : Cond.methodLink RX5 63 yX4_begin ∈ jBG := jBG_of 217 (by decide +kernel) (by decide +kernel)
set_option maxRecDepth 100000 in
theorem yv_X4_begin : jYV md_X4_begin 1 4 := ⟨⟨jBG_of 220 (by decide +kernel) (by decide +kernel), jBG_of 90 (by decide +kernel) (by decide +kernel), by decide +kernel, by decide +kernel, by decide +kernel⟩, jBG_of 218 (by decide +kernel) (by decide +kernel), jBG_of 219 (by decide +kernel) (by decide +kernel), TX4, 5, rfl⟩
set_option maxRecDepth 100000 in
theorem fp_RX5_67 (nm : String) : jFP RX5 nm 67 5 13 .long := ⟨RX5, TX5, 14, rfl, by decide, by decide +kernel, Or.inl ⟨rfl, Or.inl (jBG_of 254 (by decide +kernel) (by decide +kernel))⟩⟩
set_option maxRecDepth 100000 in
theorem fp_RX5_301 (nm : String) : jFP RX5 nm 301 5 10 .int := ⟨RX5, TX5, 14, rfl, by decide, by decide +kernel, Or.inl ⟨rfl, Or.inl (jBG_of 251 (by decide +kernel) (by decide +kernel))⟩⟩
set_option maxRecDepth 100000 in
theorem fl_RX5_47 : jFL RX5 47 5 7 := ⟨RX5, TX5, 14, rfl, by decide, Or.inl (jBG_of 248 (by decide +kernel) (by decide +kernel))⟩
set_option maxRecDepth 100000 in
theorem ml_RX5_71 : Cond.methodLink RX5 71 yX5_lineAt ∈ jBG := jBG_of 288 (by decide +kernel) (by decide +kernel)
set_option maxRecDepth 100000 in
theorem ys_X5_lineAt : jYS md_X5_lineAt 2 := ⟨⟨jBG_of 290 (by decide +kernel) (by decide +kernel), jBG_of 88 (by decide +kernel) (by decide +kernel), by decide +kernel, by decide +kernel, by decide +kernel⟩, jBG_of 289 (by decide +kernel) (by decide +kernel)⟩
set_option maxRecDepth 100000 in
theorem ml_RX5_79 : Cond.methodLink RX5 79 yX2_renew ∈ jBG := jBG_of 295 (by decide +kernel) (by decide +kernel)
set_option maxRecDepth 100000 in
theorem yv_X2_renew : jYV md_X2_renew 2 2 := ⟨⟨jBG_of 298 (by decide +kernel) (by decide +kernel), jBG_of 93 (by decide +kernel) (by decide +kernel), by decide +kernel, by decide +kernel, by decide +kernel⟩, jBG_of 296 (by decide +kernel) (by decide +kernel), jBG_of 297 (by decide +kernel) (by decide +kernel), TX2, 2, rfl⟩
set_option maxRecDepth 100000 in
theorem ml_RX5_75 : Cond.methodLink RX5 75 yX5_find ∈ jBG := jBG_of 291 (by decide +kernel) (by decide +kernel)
set_option maxRecDepth 100000 in
theorem yv_X5_find : jYV md_X5_find 1 5 := ⟨⟨jBG_of 294 (by decide +kernel) (by decide +kernel), jBG_of 88 (by decide +kernel) (by decide +kernel), by decide +kernel, by decide +kernel, by decide +kernel⟩, jBG_of 293 (by decide +kernel) (by decide +kernel), jBG_of 1 (by decide +kernel) (by decide +kernel), TX5, 14, rfl⟩
set_option maxRecDepth 100000 in
theorem ml_RX5_97 : Cond.methodLink RX5 97 yX2_isMissing ∈ jBG := jBG_of 318 (by decide +kernel) (by decide +kernel)
set_option maxRecDepth 100000 in
theorem yv_X2_isMissing : jYV md_X2_isMissing 0 2 := ⟨⟨jBG_of 321 (by decide +kernel) (by decide +kernel), jBG_of 93 (by decide +kernel) (by decide +kernel), by decide +kernel, by decide +kernel, by decide +kernel⟩, jBG_of 319 (by decide +kernel) (by decide +kernel), jBG_of 320 (by decide +kernel) (by decide +kernel), TX2, 2, rfl⟩
set_option maxRecDepth 100000 in
theorem ml_RX5_315 : Cond.methodLink RX5 315 yX2_holds ∈ jBG := jBG_of 322 (by decide +kernel) (by decide +kernel)
set_option maxRecDepth 100000 in
theorem ml_RX5_83 : Cond.methodLink RX5 83 yX5_refusePlace ∈ jBG := jBG_of 314 (by decide +kernel) (by decide +kernel)
set_option maxRecDepth 100000 in
theorem yv_X5_refusePlace : jYV md_X5_refusePlace 2 5 := ⟨⟨jBG_of 317 (by decide +kernel) (by decide +kernel), jBG_of 88 (by decide +kernel) (by decide +kernel), by decide +kernel, by decide +kernel, by decide +kernel⟩, jBG_of 316 (by decide +kernel) (by decide +kernel), jBG_of 2 (by decide +kernel) (by decide +kernel), TX5, 14, rfl⟩
set_option maxRecDepth 100000 in
theorem ml_RX5_87 : Cond.methodLink RX5 87 yX2_get ∈ jBG := jBG_of 323 (by decide +kernel) (by decide +kernel)
set_option maxRecDepth 100000 in
theorem fp_RX5_90 (nm : String) : jFP RX5 nm 90 5 11 .int := ⟨RX5, TX5, 14, rfl, by decide, by decide +kernel, Or.inl ⟨rfl, Or.inl (jBG_of 252 (by decide +kernel) (by decide +kernel))⟩⟩
set_option maxRecDepth 100000 in
theorem ml_RX5_94 : Cond.methodLink RX5 94 yX2_set ∈ jBG := jBG_of 327 (by decide +kernel) (by decide +kernel)
set_option maxRecDepth 100000 in
theorem ml_RX5_101 : Cond.methodLink RX5 101 yX2_discard ∈ jBG := jBG_of 336 (by decide +kernel) (by decide +kernel)
set_option maxRecDepth 100000 in
theorem yv_X2_discard : jYV md_X2_discard 0 2 := ⟨⟨jBG_of 339 (by decide +kernel) (by decide +kernel), jBG_of 93 (by decide +kernel) (by decide +kernel), by decide +kernel, by decide +kernel, by decide +kernel⟩, jBG_of 337 (by decide +kernel) (by decide +kernel), jBG_of 338 (by decide +kernel) (by decide +kernel), TX2, 2, rfl⟩
set_option maxRecDepth 100000 in
theorem ml_RX5_104 : Cond.methodLink RX5 104 yX2_holdsSpan ∈ jBG := jBG_of 344 (by decide +kernel) (by decide +kernel)
set_option maxRecDepth 100000 in
theorem ml_RX5_108 : Cond.methodLink RX5 108 yX2_take ∈ jBG := jBG_of 348 (by decide +kernel) (by decide +kernel)
set_option maxRecDepth 100000 in
theorem yv_X2_take : jYV md_X2_take 4 2 := ⟨⟨jBG_of 351 (by decide +kernel) (by decide +kernel), jBG_of 93 (by decide +kernel) (by decide +kernel), by decide +kernel, by decide +kernel, by decide +kernel⟩, jBG_of 349 (by decide +kernel) (by decide +kernel), jBG_of 350 (by decide +kernel) (by decide +kernel), TX2, 2, rfl⟩
set_option maxRecDepth 100000 in
theorem fl_RX5_112 : jFL RX5 112 2 1 := ⟨RX2, TX2, 2, rfl, by decide, Or.inr ⟨"EnemyByLot", List.mem_of_getElem? (i := 211) (by decide +kernel)⟩⟩
set_option maxRecDepth 100000 in
theorem ml_RX5_115 : Cond.methodLink RX5 115 yX2_meanCut ∈ jBG := jBG_of 360 (by decide +kernel) (by decide +kernel)
set_option maxRecDepth 100000 in
theorem yv_X2_meanCut : jYV md_X2_meanCut 0 2 := ⟨⟨jBG_of 363 (by decide +kernel) (by decide +kernel), jBG_of 93 (by decide +kernel) (by decide +kernel), by decide +kernel, by decide +kernel, by decide +kernel⟩, jBG_of 361 (by decide +kernel) (by decide +kernel), jBG_of 362 (by decide +kernel) (by decide +kernel), TX2, 2, rfl⟩
set_option maxRecDepth 100000 in
theorem fl_RX5_21 : jFL RX5 21 5 2 := ⟨RX5, TX5, 14, rfl, by decide, Or.inl (jBG_of 243 (by decide +kernel) (by decide +kernel))⟩
set_option maxRecDepth 100000 in
theorem fl_RX5_57 : jFL RX5 57 5 9 := ⟨RX5, TX5, 14, rfl, by decide, Or.inl (jBG_of 250 (by decide +kernel) (by decide +kernel))⟩
set_option maxRecDepth 100000 in
theorem ml_RX5_119 : Cond.methodLink RX5 119 yX3_read ∈ jBG := jBG_of 377 (by decide +kernel) (by decide +kernel)
set_option maxRecDepth 100000 in
theorem yv_X3_read : jYV md_X3_read 2 3 := ⟨⟨jBG_of 380 (by decide +kernel) (by decide +kernel), jBG_of 89 (by decide +kernel) (by decide +kernel), by decide +kernel, by decide +kernel, by decide +kernel⟩, jBG_of 378 (by decide +kernel) (by decide +kernel), jBG_of 379 (by decide +kernel) (by decide +kernel), TX3, 1, rfl⟩
set_option maxRecDepth 100000 in
theorem fp_RX5_123 (nm : String) : jFP RX5 nm 123 4 4 .boolean := ⟨RX4, TX4, 5, rfl, by decide, by decide +kernel, Or.inl ⟨rfl, Or.inr ⟨"EnemyByLot", List.mem_of_getElem? (i := 131) (by decide +kernel)⟩⟩⟩
set_option maxRecDepth 100000 in
theorem fl_RX5_127 : jFL RX5 127 1 5 := ⟨RX1, TX1, 7, rfl, by decide, Or.inr ⟨"EnemyByLot", List.mem_of_getElem? (i := 181) (by decide +kernel)⟩⟩
set_option maxRecDepth 100000 in
theorem ml_RX5_330 : Cond.methodLink RX5 330 yX4_deedsOf ∈ jBG := jBG_of 465 (by decide +kernel) (by decide +kernel)
set_option maxRecDepth 100000 in
theorem yv_X4_deedsOf : jYV md_X4_deedsOf 1 4 := ⟨⟨jBG_of 468 (by decide +kernel) (by decide +kernel), jBG_of 90 (by decide +kernel) (by decide +kernel), by decide +kernel, by decide +kernel, by decide +kernel⟩, jBG_of 466 (by decide +kernel) (by decide +kernel), jBG_of 467 (by decide +kernel) (by decide +kernel), TX4, 5, rfl⟩
set_option maxRecDepth 100000 in
theorem ml_RX5_324 : Cond.methodLink RX5 324 yX1_aimOf ∈ jBG := jBG_of 448 (by decide +kernel) (by decide +kernel)
set_option maxRecDepth 100000 in
theorem yv_X1_aimOf : jYV md_X1_aimOf 1 1 := ⟨⟨jBG_of 451 (by decide +kernel) (by decide +kernel), jBG_of 92 (by decide +kernel) (by decide +kernel), by decide +kernel, by decide +kernel, by decide +kernel⟩, jBG_of 449 (by decide +kernel) (by decide +kernel), jBG_of 450 (by decide +kernel) (by decide +kernel), TX1, 7, rfl⟩
set_option maxRecDepth 100000 in
theorem sw_X5_trait_1 : decode md_X5_trait.2.1 1 = .ok (.tableswitch 124 0 7 #[47, 56, 65, 74, 83, 92, 101, 110], 47) := by decide +kernel
set_option maxRecDepth 100000 in
theorem ml_RX5_321 : Cond.methodLink RX5 321 yX1_kindOf ∈ jBG := jBG_of 444 (by decide +kernel) (by decide +kernel)
set_option maxRecDepth 100000 in
theorem ml_RX5_327 : Cond.methodLink RX5 327 yX1_zealOf ∈ jBG := jBG_of 452 (by decide +kernel) (by decide +kernel)
set_option maxRecDepth 100000 in
theorem ml_RX5_178 : Cond.methodLink RX5 178 yX4_victimOf ∈ jBG := jBG_of 456 (by decide +kernel) (by decide +kernel)
set_option maxRecDepth 100000 in
theorem ml_RX5_203 : Cond.methodLink RX5 203 yX4_foeOf ∈ jBG := jBG_of 460 (by decide +kernel) (by decide +kernel)
set_option maxRecDepth 100000 in
theorem yv_X4_foeOf : jYV md_X4_foeOf 1 4 := ⟨⟨jBG_of 463 (by decide +kernel) (by decide +kernel), jBG_of 90 (by decide +kernel) (by decide +kernel), by decide +kernel, by decide +kernel, by decide +kernel⟩, jBG_of 461 (by decide +kernel) (by decide +kernel), jBG_of 462 (by decide +kernel) (by decide +kernel), TX4, 5, rfl⟩
set_option maxRecDepth 100000 in
theorem ml_RX5_333 : Cond.methodLink RX5 333 yX4_finesOf ∈ jBG := jBG_of 469 (by decide +kernel) (by decide +kernel)
set_option maxRecDepth 100000 in
theorem yv_X4_finesOf : jYV md_X4_finesOf 1 4 := ⟨⟨jBG_of 472 (by decide +kernel) (by decide +kernel), jBG_of 90 (by decide +kernel) (by decide +kernel), by decide +kernel, by decide +kernel, by decide +kernel⟩, jBG_of 470 (by decide +kernel) (by decide +kernel), jBG_of 471 (by decide +kernel) (by decide +kernel), TX4, 5, rfl⟩
set_option maxRecDepth 100000 in
theorem ml_RX5_206 : Cond.methodLink RX5 206 yX5_hasReached ∈ jBG := jBG_of 473 (by decide +kernel) (by decide +kernel)
set_option maxRecDepth 100000 in
theorem yv_X5_hasReached : jYV md_X5_hasReached 1 5 := ⟨⟨jBG_of 476 (by decide +kernel) (by decide +kernel), jBG_of 88 (by decide +kernel) (by decide +kernel), by decide +kernel, by decide +kernel, by decide +kernel⟩, jBG_of 475 (by decide +kernel) (by decide +kernel), jBG_of 8 (by decide +kernel) (by decide +kernel), TX5, 14, rfl⟩
set_option maxRecDepth 100000 in
theorem ml_RX5_145 : Cond.methodLink RX5 145 yX1_lovedBy ∈ jBG := jBG_of 477 (by decide +kernel) (by decide +kernel)
set_option maxRecDepth 100000 in
theorem ml_RX5_128 : Cond.methodLink RX5 128 yX1_has ∈ jBG := jBG_of 439 (by decide +kernel) (by decide +kernel)
set_option maxRecDepth 100000 in
theorem ml_RX5_132 : Cond.methodLink RX5 132 yX5_trait ∈ jBG := jBG_of 440 (by decide +kernel) (by decide +kernel)
set_option maxRecDepth 100000 in
theorem yv_X5_trait : jYV md_X5_trait 2 5 := ⟨⟨jBG_of 443 (by decide +kernel) (by decide +kernel), jBG_of 88 (by decide +kernel) (by decide +kernel), by decide +kernel, by decide +kernel, by decide +kernel⟩, jBG_of 442 (by decide +kernel) (by decide +kernel), jBG_of 7 (by decide +kernel) (by decide +kernel), TX5, 14, rfl⟩
set_option maxRecDepth 100000 in
theorem ml_RX5_197 : Cond.methodLink RX5 197 yX5_isIn ∈ jBG := jBG_of 498 (by decide +kernel) (by decide +kernel)
set_option maxRecDepth 100000 in
theorem ml_RX5_139 : Cond.methodLink RX5 139 yX1_power ∈ jBG := jBG_of 487 (by decide +kernel) (by decide +kernel)
set_option maxRecDepth 100000 in
theorem ml_RX5_162 : Cond.methodLink RX5 162 yX1_against ∈ jBG := jBG_of 499 (by decide +kernel) (by decide +kernel)
set_option maxRecDepth 100000 in
theorem yv_X1_against : jYV md_X1_against 2 1 := ⟨⟨jBG_of 502 (by decide +kernel) (by decide +kernel), jBG_of 92 (by decide +kernel) (by decide +kernel), by decide +kernel, by decide +kernel, by decide +kernel⟩, jBG_of 500 (by decide +kernel) (by decide +kernel), jBG_of 501 (by decide +kernel) (by decide +kernel), TX1, 7, rfl⟩
set_option maxRecDepth 100000 in
theorem ml_RX5_136 : Cond.methodLink RX5 136 yX1_isOf ∈ jBG := jBG_of 482 (by decide +kernel) (by decide +kernel)
set_option maxRecDepth 100000 in
theorem sw_X5_mark_42 : decode md_X5_mark.2.1 42 = .ok (.tableswitch 63 1 4 #[30, 39, 45, 57], 30) := by decide +kernel
set_option maxRecDepth 100000 in
theorem ml_RX5_142 : Cond.methodLink RX5 142 yX5_calmedBy ∈ jBG := jBG_of 494 (by decide +kernel) (by decide +kernel)
set_option maxRecDepth 100000 in
theorem yv_X5_calmedBy : jYV md_X5_calmedBy 1 5 := ⟨⟨jBG_of 497 (by decide +kernel) (by decide +kernel), jBG_of 88 (by decide +kernel) (by decide +kernel), by decide +kernel, by decide +kernel, by decide +kernel⟩, jBG_of 496 (by decide +kernel) (by decide +kernel), jBG_of 9 (by decide +kernel) (by decide +kernel), TX5, 14, rfl⟩
set_option maxRecDepth 100000 in
theorem ml_RX5_148 : Cond.methodLink RX5 148 yJ6_bitCount_0f7a4 ∈ jBG := jBG_of 506 (by decide +kernel) (by decide +kernel)
set_option maxRecDepth 100000 in
theorem ml_RX5_153 : Cond.methodLink RX5 153 yX5_weeksForNine ∈ jBG := jBG_of 512 (by decide +kernel) (by decide +kernel)
set_option maxRecDepth 100000 in
theorem yv_X5_weeksForNine : jYV md_X5_weeksForNine 1 5 := ⟨⟨jBG_of 515 (by decide +kernel) (by decide +kernel), jBG_of 88 (by decide +kernel) (by decide +kernel), by decide +kernel, by decide +kernel, by decide +kernel⟩, jBG_of 514 (by decide +kernel) (by decide +kernel), jBG_of 10 (by decide +kernel) (by decide +kernel), TX5, 14, rfl⟩
set_option maxRecDepth 100000 in
theorem ml_RX5_156 : Cond.methodLink RX5 156 yX5_owesDuty ∈ jBG := jBG_of 516 (by decide +kernel) (by decide +kernel)
set_option maxRecDepth 100000 in
theorem yv_X5_owesDuty : jYV md_X5_owesDuty 1 5 := ⟨⟨jBG_of 519 (by decide +kernel) (by decide +kernel), jBG_of 88 (by decide +kernel) (by decide +kernel), by decide +kernel, by decide +kernel, by decide +kernel⟩, jBG_of 518 (by decide +kernel) (by decide +kernel), jBG_of 11 (by decide +kernel) (by decide +kernel), TX5, 14, rfl⟩
set_option maxRecDepth 100000 in
theorem ml_RX5_159 : Cond.methodLink RX5 159 yX5_isPair ∈ jBG := jBG_of 524 (by decide +kernel) (by decide +kernel)
set_option maxRecDepth 100000 in
theorem yv_X5_isPair : jYV md_X5_isPair 2 5 := ⟨⟨jBG_of 527 (by decide +kernel) (by decide +kernel), jBG_of 88 (by decide +kernel) (by decide +kernel), by decide +kernel, by decide +kernel, by decide +kernel⟩, jBG_of 526 (by decide +kernel) (by decide +kernel), jBG_of 12 (by decide +kernel) (by decide +kernel), TX5, 14, rfl⟩
set_option maxRecDepth 100000 in
theorem fl_RX5_43 : jFL RX5 43 5 6 := ⟨RX5, TX5, 14, rfl, by decide, Or.inl (jBG_of 247 (by decide +kernel) (by decide +kernel))⟩
set_option maxRecDepth 100000 in
theorem ml_RX5_347 : Cond.methodLink RX5 347 yX4_fine ∈ jBG := jBG_of 561 (by decide +kernel) (by decide +kernel)
set_option maxRecDepth 100000 in
theorem yv_X4_fine : jYV md_X4_fine 1 4 := ⟨⟨jBG_of 564 (by decide +kernel) (by decide +kernel), jBG_of 90 (by decide +kernel) (by decide +kernel), by decide +kernel, by decide +kernel, by decide +kernel⟩, jBG_of 562 (by decide +kernel) (by decide +kernel), jBG_of 563 (by decide +kernel) (by decide +kernel), TX4, 5, rfl⟩
set_option maxRecDepth 100000 in
theorem ml_RX5_181 : Cond.methodLink RX5 181 yX4_beginTurn ∈ jBG := jBG_of 548 (by decide +kernel) (by decide +kernel)
set_option maxRecDepth 100000 in
theorem yv_X4_beginTurn : jYV md_X4_beginTurn 0 4 := ⟨⟨jBG_of 551 (by decide +kernel) (by decide +kernel), jBG_of 90 (by decide +kernel) (by decide +kernel), by decide +kernel, by decide +kernel, by decide +kernel⟩, jBG_of 549 (by decide +kernel) (by decide +kernel), jBG_of 550 (by decide +kernel) (by decide +kernel), TX4, 5, rfl⟩
set_option maxRecDepth 100000 in
theorem ml_RX5_285 : Cond.methodLink RX5 285 yX5_reachedSet ∈ jBG := jBG_of 553 (by decide +kernel) (by decide +kernel)
set_option maxRecDepth 100000 in
theorem yv_X5_reachedSet : jYV md_X5_reachedSet 0 5 := ⟨⟨jBG_of 556 (by decide +kernel) (by decide +kernel), jBG_of 88 (by decide +kernel) (by decide +kernel), by decide +kernel, by decide +kernel, by decide +kernel⟩, jBG_of 555 (by decide +kernel) (by decide +kernel), jBG_of 17 (by decide +kernel) (by decide +kernel), TX5, 14, rfl⟩
set_option maxRecDepth 100000 in
theorem ml_RX5_336 : Cond.methodLink RX5 336 yX5_fineIdle ∈ jBG := jBG_of 557 (by decide +kernel) (by decide +kernel)
set_option maxRecDepth 100000 in
theorem yv_X5_fineIdle : jYV md_X5_fineIdle 0 5 := ⟨⟨jBG_of 560 (by decide +kernel) (by decide +kernel), jBG_of 88 (by decide +kernel) (by decide +kernel), by decide +kernel, by decide +kernel, by decide +kernel⟩, jBG_of 559 (by decide +kernel) (by decide +kernel), jBG_of 18 (by decide +kernel) (by decide +kernel), TX5, 14, rfl⟩
set_option maxRecDepth 100000 in
theorem ml_RX5_339 : Cond.methodLink RX5 339 yX4_setDeeds ∈ jBG := jBG_of 565 (by decide +kernel) (by decide +kernel)
set_option maxRecDepth 100000 in
theorem mm_RX5_342 : Cond.methodLink RX5 342 Lib.Math.max.name ∈ jBG := jBG_of 566 (by decide +kernel) (by decide +kernel)
set_option maxRecDepth 100000 in
theorem ml_RX5_318 : Cond.methodLink RX5 318 yX5_refuseRow ∈ jBG := jBG_of 536 (by decide +kernel) (by decide +kernel)
set_option maxRecDepth 100000 in
theorem yv_X5_refuseRow : jYV md_X5_refuseRow 1 5 := ⟨⟨jBG_of 539 (by decide +kernel) (by decide +kernel), jBG_of 88 (by decide +kernel) (by decide +kernel), by decide +kernel, by decide +kernel, by decide +kernel⟩, jBG_of 538 (by decide +kernel) (by decide +kernel), jBG_of 14 (by decide +kernel) (by decide +kernel), TX5, 14, rfl⟩
set_option maxRecDepth 100000 in
theorem ml_RX5_165 : Cond.methodLink RX5 165 yX5_refuseFolkRow ∈ jBG := jBG_of 532 (by decide +kernel) (by decide +kernel)
set_option maxRecDepth 100000 in
theorem yv_X5_refuseFolkRow : jYV md_X5_refuseFolkRow 1 5 := ⟨⟨jBG_of 535 (by decide +kernel) (by decide +kernel), jBG_of 88 (by decide +kernel) (by decide +kernel), by decide +kernel, by decide +kernel, by decide +kernel⟩, jBG_of 534 (by decide +kernel) (by decide +kernel), jBG_of 13 (by decide +kernel) (by decide +kernel), TX5, 14, rfl⟩
set_option maxRecDepth 100000 in
theorem ml_RX5_169 : Cond.methodLink RX5 169 yX5_isAct ∈ jBG := jBG_of 540 (by decide +kernel) (by decide +kernel)
set_option maxRecDepth 100000 in
theorem yv_X5_isAct : jYV md_X5_isAct 2 5 := ⟨⟨jBG_of 543 (by decide +kernel) (by decide +kernel), jBG_of 88 (by decide +kernel) (by decide +kernel), by decide +kernel, by decide +kernel, by decide +kernel⟩, jBG_of 542 (by decide +kernel) (by decide +kernel), jBG_of 15 (by decide +kernel) (by decide +kernel), TX5, 14, rfl⟩
set_option maxRecDepth 100000 in
theorem fl_RX5_172 : jFL RX5 172 4 3 := ⟨RX4, TX4, 5, rfl, by decide, Or.inr ⟨"EnemyByLot", List.mem_of_getElem? (i := 130) (by decide +kernel)⟩⟩
