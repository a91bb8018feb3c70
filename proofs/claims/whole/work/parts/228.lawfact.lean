set_option maxRecDepth 100000 in
theorem cl_RL_7 : Cond.classLink R_law 7 RX5 ∈ jBG := jBG_of 99 (by decide +kernel) (by decide +kernel)
set_option maxRecDepth 100000 in
theorem it_5 : Cond.instantiable RX5 14 ∈ jBG := jBG_of 100 (by decide +kernel) (by decide +kernel)
set_option maxRecDepth 100000 in
theorem in_5 : Cond.initialized RX5 ∈ jBG := jBG_of 88 (by decide +kernel) (by decide +kernel)
set_option maxRecDepth 100000 in
theorem df_5 : ∀ j, j < 14 → ∀ g : GX, defaultValue (tyX5 j) = vp_V (([.inr (.inr (.inl none)), .inr (.inr (.inl none)), .inr (.inr (.inl none)), .inr (.inr (.inl none)), .inr (.inr (.inl none)), .inr (.inr (.inl none)), .inr (.inr (.inl none)), .inr (.inr (.inl none)), .inr (.inr (.inl none)), .inr (.inr (.inl none)), .inl 0, .inl 0, .inr (.inl 0), .inr (.inl 0)] : List AV).map (jcv g)) j := by
  intro j hj g
  match j, hj with
  | 0, _ => rfl
  | 1, _ => rfl
  | 2, _ => rfl
  | 3, _ => rfl
  | 4, _ => rfl
  | 5, _ => rfl
  | 6, _ => rfl
  | 7, _ => rfl
  | 8, _ => rfl
  | 9, _ => rfl
  | 10, _ => rfl
  | 11, _ => rfl
  | 12, _ => rfl
  | 13, _ => rfl
  | j + 14, hj => exact absurd hj (by omega)
set_option maxRecDepth 100000 in
theorem ml_RL_9 : Cond.methodLink R_law 9 yX5_init ∈ jBG := jBG_of 101 (by decide +kernel) (by decide +kernel)
set_option maxRecDepth 100000 in
theorem yi_X5_init : jYI md_X5_init 0 := ⟨⟨jBG_of 103 (by decide +kernel) (by decide +kernel), jBG_of 88 (by decide +kernel) (by decide +kernel), by decide +kernel, by decide +kernel, by decide +kernel⟩, jBG_of 102 (by decide +kernel) (by decide +kernel), rfl⟩
set_option maxRecDepth 100000 in
theorem cl_RL_10 : Cond.classLink R_law 10 RX6 ∈ jBG := jBG_of 824 (by decide +kernel) (by decide +kernel)
set_option maxRecDepth 100000 in
theorem it_6 : Cond.instantiable RX6 28 ∈ jBG := jBG_of 825 (by decide +kernel) (by decide +kernel)
set_option maxRecDepth 100000 in
theorem in_6 : Cond.initialized RX6 ∈ jBG := jBG_of 95 (by decide +kernel) (by decide +kernel)
set_option maxRecDepth 100000 in
theorem df_6 : ∀ j, j < 28 → ∀ g : GX, defaultValue (tyX6 j) = vp_V (([.inr (.inr (.inl none)), .inl 0, .inr (.inr (.inl none)), .inr (.inr (.inl none)), .inr (.inr (.inl none)), .inr (.inr (.inl none)), .inl 0, .inr (.inr (.inl none)), .inr (.inr (.inl none)), .inr (.inr (.inl none)), .inr (.inr (.inl none)), .inl 0, .inr (.inl 0), .inr (.inl 0), .inl 0, .inr (.inr (.inl none)), .inl 0, .inl 0, .inl 0, .inr (.inr (.inl none)), .inl 0, .inr (.inr (.inl none)), .inl 0, .inr (.inr (.inl none)), .inr (.inr (.inl none)), .inr (.inr (.inl none)), .inl 0, .inr (.inr (.inl none))] : List AV).map (jcv g)) j := by
  intro j hj g
  match j, hj with
  | 0, _ => rfl
  | 1, _ => rfl
  | 2, _ => rfl
  | 3, _ => rfl
  | 4, _ => rfl
  | 5, _ => rfl
  | 6, _ => rfl
  | 7, _ => rfl
  | 8, _ => rfl
  | 9, _ => rfl
  | 10, _ => rfl
  | 11, _ => rfl
  | 12, _ => rfl
  | 13, _ => rfl
  | 14, _ => rfl
  | 15, _ => rfl
  | 16, _ => rfl
  | 17, _ => rfl
  | 18, _ => rfl
  | 19, _ => rfl
  | 20, _ => rfl
  | 21, _ => rfl
  | 22, _ => rfl
  | 23, _ => rfl
  | 24, _ => rfl
  | 25, _ => rfl
  | 26, _ => rfl
  | 27, _ => rfl
  | j + 28, hj => exact absurd hj (by omega)
set_option maxRecDepth 100000 in
theorem ml_RL_12 : Cond.methodLink R_law 12 yX6_init ∈ jBG := jBG_of 826 (by decide +kernel) (by decide +kernel)
set_option maxRecDepth 100000 in
theorem yi_X6_init : jYI md_X6_init 0 := ⟨⟨jBG_of 828 (by decide +kernel) (by decide +kernel), jBG_of 95 (by decide +kernel) (by decide +kernel), by decide +kernel, by decide +kernel, by decide +kernel⟩, jBG_of 827 (by decide +kernel) (by decide +kernel), rfl⟩
set_option maxRecDepth 100000 in
theorem sw_L_law_33 : decode code 33 = .ok (.tableswitch 1255 0 40 #[179, 212, 255, 288, 311, 374, 397, 430, 473, 496, 519, 552, 585, 618, 641, 674, 697, 720, 743, 756, 779, 792, 825, 858, 891, 904, 927, 950, 963, 996, 1029, 1052, 1085, 1108, 1141, 1154, 1168, 1182, 1205, 1218, 1241], 179) := by decide +kernel
set_option maxRecDepth 100000 in
theorem ml_RL_13 : Cond.methodLink R_law 13 yX5_row ∈ jBG := jBG_of 284 (by decide +kernel) (by decide +kernel)
set_option maxRecDepth 100000 in
theorem yv_X5_row : jYV md_X5_row 2 5 := ⟨⟨jBG_of 287 (by decide +kernel) (by decide +kernel), jBG_of 88 (by decide +kernel) (by decide +kernel), by decide +kernel, by decide +kernel, by decide +kernel⟩, jBG_of 285 (by decide +kernel) (by decide +kernel), jBG_of 286 (by decide +kernel) (by decide +kernel), TX5, 14, rfl⟩
set_option maxRecDepth 100000 in
theorem ml_RL_17 : Cond.methodLink R_law 17 yX6_row ∈ jBG := jBG_of 915 (by decide +kernel) (by decide +kernel)
set_option maxRecDepth 100000 in
theorem yv_X6_row : jYV md_X6_row 2 6 := ⟨⟨jBG_of 918 (by decide +kernel) (by decide +kernel), jBG_of 95 (by decide +kernel) (by decide +kernel), by decide +kernel, by decide +kernel, by decide +kernel⟩, jBG_of 916 (by decide +kernel) (by decide +kernel), jBG_of 917 (by decide +kernel) (by decide +kernel), TX6, 28, rfl⟩
set_option maxRecDepth 100000 in
theorem ml_RL_18 : Cond.methodLink R_law 18 yX5_lay ∈ jBG := jBG_of 310 (by decide +kernel) (by decide +kernel)
set_option maxRecDepth 100000 in
theorem yv_X5_lay : jYV md_X5_lay 3 5 := ⟨⟨jBG_of 313 (by decide +kernel) (by decide +kernel), jBG_of 88 (by decide +kernel) (by decide +kernel), by decide +kernel, by decide +kernel, by decide +kernel⟩, jBG_of 311 (by decide +kernel) (by decide +kernel), jBG_of 312 (by decide +kernel) (by decide +kernel), TX5, 14, rfl⟩
set_option maxRecDepth 100000 in
theorem ml_RL_22 : Cond.methodLink R_law 22 yX6_lay ∈ jBG := jBG_of 934 (by decide +kernel) (by decide +kernel)
set_option maxRecDepth 100000 in
theorem yv_X6_lay : jYV md_X6_lay 3 6 := ⟨⟨jBG_of 937 (by decide +kernel) (by decide +kernel), jBG_of 95 (by decide +kernel) (by decide +kernel), by decide +kernel, by decide +kernel, by decide +kernel⟩, jBG_of 935 (by decide +kernel) (by decide +kernel), jBG_of 936 (by decide +kernel) (by decide +kernel), TX6, 28, rfl⟩
set_option maxRecDepth 100000 in
theorem ml_RL_23 : Cond.methodLink R_law 23 yX5_at ∈ jBG := jBG_of 328 (by decide +kernel) (by decide +kernel)
set_option maxRecDepth 100000 in
theorem yv_X5_at : jYV md_X5_at 2 5 := ⟨⟨jBG_of 331 (by decide +kernel) (by decide +kernel), jBG_of 88 (by decide +kernel) (by decide +kernel), by decide +kernel, by decide +kernel, by decide +kernel⟩, jBG_of 329 (by decide +kernel) (by decide +kernel), jBG_of 330 (by decide +kernel) (by decide +kernel), TX5, 14, rfl⟩
set_option maxRecDepth 100000 in
theorem ml_RL_26 : Cond.methodLink R_law 26 yX6_at ∈ jBG := jBG_of 946 (by decide +kernel) (by decide +kernel)
set_option maxRecDepth 100000 in
theorem yv_X6_at : jYV md_X6_at 2 6 := ⟨⟨jBG_of 949 (by decide +kernel) (by decide +kernel), jBG_of 95 (by decide +kernel) (by decide +kernel), by decide +kernel, by decide +kernel, by decide +kernel⟩, jBG_of 947 (by decide +kernel) (by decide +kernel), jBG_of 948 (by decide +kernel) (by decide +kernel), TX6, 28, rfl⟩
set_option maxRecDepth 100000 in
theorem ml_RL_27 : Cond.methodLink R_law 27 yX5_tear ∈ jBG := jBG_of 332 (by decide +kernel) (by decide +kernel)
set_option maxRecDepth 100000 in
theorem yv_X5_tear : jYV md_X5_tear 1 5 := ⟨⟨jBG_of 335 (by decide +kernel) (by decide +kernel), jBG_of 88 (by decide +kernel) (by decide +kernel), by decide +kernel, by decide +kernel, by decide +kernel⟩, jBG_of 333 (by decide +kernel) (by decide +kernel), jBG_of 334 (by decide +kernel) (by decide +kernel), TX5, 14, rfl⟩
set_option maxRecDepth 100000 in
theorem ml_RL_31 : Cond.methodLink R_law 31 yX6_tear ∈ jBG := jBG_of 950 (by decide +kernel) (by decide +kernel)
set_option maxRecDepth 100000 in
theorem yv_X6_tear : jYV md_X6_tear 1 6 := ⟨⟨jBG_of 953 (by decide +kernel) (by decide +kernel), jBG_of 95 (by decide +kernel) (by decide +kernel), by decide +kernel, by decide +kernel, by decide +kernel⟩, jBG_of 951 (by decide +kernel) (by decide +kernel), jBG_of 952 (by decide +kernel) (by decide +kernel), TX6, 28, rfl⟩
set_option maxRecDepth 100000 in
theorem ml_RL_32 : Cond.methodLink R_law 32 yX5_copy ∈ jBG := jBG_of 340 (by decide +kernel) (by decide +kernel)
set_option maxRecDepth 100000 in
theorem yv_X5_copy : jYV md_X5_copy 5 5 := ⟨⟨jBG_of 343 (by decide +kernel) (by decide +kernel), jBG_of 88 (by decide +kernel) (by decide +kernel), by decide +kernel, by decide +kernel, by decide +kernel⟩, jBG_of 341 (by decide +kernel) (by decide +kernel), jBG_of 342 (by decide +kernel) (by decide +kernel), TX5, 14, rfl⟩
set_option maxRecDepth 100000 in
theorem ml_RL_36 : Cond.methodLink R_law 36 yX6_copy ∈ jBG := jBG_of 954 (by decide +kernel) (by decide +kernel)
set_option maxRecDepth 100000 in
theorem yv_X6_copy : jYV md_X6_copy 5 6 := ⟨⟨jBG_of 957 (by decide +kernel) (by decide +kernel), jBG_of 95 (by decide +kernel) (by decide +kernel), by decide +kernel, by decide +kernel, by decide +kernel⟩, jBG_of 955 (by decide +kernel) (by decide +kernel), jBG_of 956 (by decide +kernel) (by decide +kernel), TX6, 28, rfl⟩
set_option maxRecDepth 100000 in
theorem ml_RL_37 : Cond.methodLink R_law 37 yX5_mean ∈ jBG := jBG_of 356 (by decide +kernel) (by decide +kernel)
set_option maxRecDepth 100000 in
theorem yv_X5_mean : jYV md_X5_mean 1 5 := ⟨⟨jBG_of 359 (by decide +kernel) (by decide +kernel), jBG_of 88 (by decide +kernel) (by decide +kernel), by decide +kernel, by decide +kernel, by decide +kernel⟩, jBG_of 357 (by decide +kernel) (by decide +kernel), jBG_of 358 (by decide +kernel) (by decide +kernel), TX5, 14, rfl⟩
set_option maxRecDepth 100000 in
theorem ml_RL_40 : Cond.methodLink R_law 40 yX6_mean ∈ jBG := jBG_of 962 (by decide +kernel) (by decide +kernel)
set_option maxRecDepth 100000 in
theorem yv_X6_mean : jYV md_X6_mean 1 6 := ⟨⟨jBG_of 965 (by decide +kernel) (by decide +kernel), jBG_of 95 (by decide +kernel) (by decide +kernel), by decide +kernel, by decide +kernel, by decide +kernel⟩, jBG_of 963 (by decide +kernel) (by decide +kernel), jBG_of 964 (by decide +kernel) (by decide +kernel), TX6, 28, rfl⟩
set_option maxRecDepth 100000 in
theorem ml_RL_41 : Cond.methodLink R_law 41 yX5_text ∈ jBG := jBG_of 365 (by decide +kernel) (by decide +kernel)
set_option maxRecDepth 100000 in
theorem yv_X5_text : jYV md_X5_text 2 5 := ⟨⟨jBG_of 368 (by decide +kernel) (by decide +kernel), jBG_of 88 (by decide +kernel) (by decide +kernel), by decide +kernel, by decide +kernel, by decide +kernel⟩, jBG_of 366 (by decide +kernel) (by decide +kernel), jBG_of 367 (by decide +kernel) (by decide +kernel), TX5, 14, rfl⟩
set_option maxRecDepth 100000 in
theorem ml_RL_44 : Cond.methodLink R_law 44 yX6_text ∈ jBG := jBG_of 966 (by decide +kernel) (by decide +kernel)
set_option maxRecDepth 100000 in
theorem yv_X6_text : jYV md_X6_text 2 6 := ⟨⟨jBG_of 969 (by decide +kernel) (by decide +kernel), jBG_of 95 (by decide +kernel) (by decide +kernel), by decide +kernel, by decide +kernel, by decide +kernel⟩, jBG_of 967 (by decide +kernel) (by decide +kernel), jBG_of 968 (by decide +kernel) (by decide +kernel), TX6, 28, rfl⟩
set_option maxRecDepth 100000 in
theorem ml_RL_45 : Cond.methodLink R_law 45 yX5_put ∈ jBG := jBG_of 369 (by decide +kernel) (by decide +kernel)
set_option maxRecDepth 100000 in
theorem yv_X5_put : jYV md_X5_put 3 5 := ⟨⟨jBG_of 372 (by decide +kernel) (by decide +kernel), jBG_of 88 (by decide +kernel) (by decide +kernel), by decide +kernel, by decide +kernel, by decide +kernel⟩, jBG_of 370 (by decide +kernel) (by decide +kernel), jBG_of 371 (by decide +kernel) (by decide +kernel), TX5, 14, rfl⟩
set_option maxRecDepth 100000 in
theorem ml_RL_48 : Cond.methodLink R_law 48 yX6_put ∈ jBG := jBG_of 974 (by decide +kernel) (by decide +kernel)
set_option maxRecDepth 100000 in
theorem yv_X6_put : jYV md_X6_put 3 6 := ⟨⟨jBG_of 977 (by decide +kernel) (by decide +kernel), jBG_of 95 (by decide +kernel) (by decide +kernel), by decide +kernel, by decide +kernel, by decide +kernel⟩, jBG_of 975 (by decide +kernel) (by decide +kernel), jBG_of 976 (by decide +kernel) (by decide +kernel), TX6, 28, rfl⟩
set_option maxRecDepth 100000 in
theorem ml_RL_49 : Cond.methodLink R_law 49 yX5_fault ∈ jBG := jBG_of 373 (by decide +kernel) (by decide +kernel)
set_option maxRecDepth 100000 in
theorem yv_X5_fault : jYV md_X5_fault 1 5 := ⟨⟨jBG_of 376 (by decide +kernel) (by decide +kernel), jBG_of 88 (by decide +kernel) (by decide +kernel), by decide +kernel, by decide +kernel, by decide +kernel⟩, jBG_of 374 (by decide +kernel) (by decide +kernel), jBG_of 375 (by decide +kernel) (by decide +kernel), TX5, 14, rfl⟩
set_option maxRecDepth 100000 in
theorem ml_RL_52 : Cond.methodLink R_law 52 yX6_fault ∈ jBG := jBG_of 978 (by decide +kernel) (by decide +kernel)
set_option maxRecDepth 100000 in
theorem yv_X6_fault : jYV md_X6_fault 1 6 := ⟨⟨jBG_of 981 (by decide +kernel) (by decide +kernel), jBG_of 95 (by decide +kernel) (by decide +kernel), by decide +kernel, by decide +kernel, by decide +kernel⟩, jBG_of 979 (by decide +kernel) (by decide +kernel), jBG_of 980 (by decide +kernel) (by decide +kernel), TX6, 28, rfl⟩
set_option maxRecDepth 100000 in
theorem ml_RL_53 : Cond.methodLink R_law 53 yX5_town ∈ jBG := jBG_of 431 (by decide +kernel) (by decide +kernel)
set_option maxRecDepth 100000 in
theorem yv_X5_town : jYV md_X5_town 1 5 := ⟨⟨jBG_of 434 (by decide +kernel) (by decide +kernel), jBG_of 88 (by decide +kernel) (by decide +kernel), by decide +kernel, by decide +kernel, by decide +kernel⟩, jBG_of 432 (by decide +kernel) (by decide +kernel), jBG_of 433 (by decide +kernel) (by decide +kernel), TX5, 14, rfl⟩
set_option maxRecDepth 100000 in
theorem ml_RL_56 : Cond.methodLink R_law 56 yX6_town ∈ jBG := jBG_of 1016 (by decide +kernel) (by decide +kernel)
set_option maxRecDepth 100000 in
theorem yv_X6_town : jYV md_X6_town 1 6 := ⟨⟨jBG_of 1019 (by decide +kernel) (by decide +kernel), jBG_of 95 (by decide +kernel) (by decide +kernel), by decide +kernel, by decide +kernel, by decide +kernel⟩, jBG_of 1017 (by decide +kernel) (by decide +kernel), jBG_of 1018 (by decide +kernel) (by decide +kernel), TX6, 28, rfl⟩
set_option maxRecDepth 100000 in
theorem ml_RL_57 : Cond.methodLink R_law 57 yX5_person ∈ jBG := jBG_of 435 (by decide +kernel) (by decide +kernel)
set_option maxRecDepth 100000 in
theorem yv_X5_person : jYV md_X5_person 2 5 := ⟨⟨jBG_of 438 (by decide +kernel) (by decide +kernel), jBG_of 88 (by decide +kernel) (by decide +kernel), by decide +kernel, by decide +kernel, by decide +kernel⟩, jBG_of 436 (by decide +kernel) (by decide +kernel), jBG_of 437 (by decide +kernel) (by decide +kernel), TX5, 14, rfl⟩
set_option maxRecDepth 100000 in
theorem ml_RL_60 : Cond.methodLink R_law 60 yX6_person ∈ jBG := jBG_of 1020 (by decide +kernel) (by decide +kernel)
set_option maxRecDepth 100000 in
theorem yv_X6_person : jYV md_X6_person 2 6 := ⟨⟨jBG_of 1023 (by decide +kernel) (by decide +kernel), jBG_of 95 (by decide +kernel) (by decide +kernel), by decide +kernel, by decide +kernel, by decide +kernel⟩, jBG_of 1021 (by decide +kernel) (by decide +kernel), jBG_of 1022 (by decide +kernel) (by decide +kernel), TX6, 28, rfl⟩
set_option maxRecDepth 100000 in
theorem ml_RL_61 : Cond.methodLink R_law 61 yX5_mark ∈ jBG := jBG_of 478 (by decide +kernel) (by decide +kernel)
set_option maxRecDepth 100000 in
theorem yv_X5_mark : jYV md_X5_mark 2 5 := ⟨⟨jBG_of 481 (by decide +kernel) (by decide +kernel), jBG_of 88 (by decide +kernel) (by decide +kernel), by decide +kernel, by decide +kernel, by decide +kernel⟩, jBG_of 479 (by decide +kernel) (by decide +kernel), jBG_of 480 (by decide +kernel) (by decide +kernel), TX5, 14, rfl⟩
set_option maxRecDepth 100000 in
theorem ml_RL_64 : Cond.methodLink R_law 64 yX6_mark ∈ jBG := jBG_of 1045 (by decide +kernel) (by decide +kernel)
set_option maxRecDepth 100000 in
theorem yv_X6_mark : jYV md_X6_mark 2 6 := ⟨⟨jBG_of 1048 (by decide +kernel) (by decide +kernel), jBG_of 95 (by decide +kernel) (by decide +kernel), by decide +kernel, by decide +kernel, by decide +kernel⟩, jBG_of 1046 (by decide +kernel) (by decide +kernel), jBG_of 1047 (by decide +kernel) (by decide +kernel), TX6, 28, rfl⟩
set_option maxRecDepth 100000 in
theorem ml_RL_65 : Cond.methodLink R_law 65 yX5_strength ∈ jBG := jBG_of 520 (by decide +kernel) (by decide +kernel)
set_option maxRecDepth 100000 in
theorem yv_X5_strength : jYV md_X5_strength 2 5 := ⟨⟨jBG_of 523 (by decide +kernel) (by decide +kernel), jBG_of 88 (by decide +kernel) (by decide +kernel), by decide +kernel, by decide +kernel, by decide +kernel⟩, jBG_of 521 (by decide +kernel) (by decide +kernel), jBG_of 522 (by decide +kernel) (by decide +kernel), TX5, 14, rfl⟩
set_option maxRecDepth 100000 in
theorem ml_RL_68 : Cond.methodLink R_law 68 yX6_strength ∈ jBG := jBG_of 1076 (by decide +kernel) (by decide +kernel)
set_option maxRecDepth 100000 in
theorem yv_X6_strength : jYV md_X6_strength 2 6 := ⟨⟨jBG_of 1079 (by decide +kernel) (by decide +kernel), jBG_of 95 (by decide +kernel) (by decide +kernel), by decide +kernel, by decide +kernel, by decide +kernel⟩, jBG_of 1077 (by decide +kernel) (by decide +kernel), jBG_of 1078 (by decide +kernel) (by decide +kernel), TX6, 28, rfl⟩
set_option maxRecDepth 100000 in
theorem ml_RL_69 : Cond.methodLink R_law 69 yX5_week ∈ jBG := jBG_of 528 (by decide +kernel) (by decide +kernel)
set_option maxRecDepth 100000 in
theorem yv_X5_week : jYV md_X5_week 1 5 := ⟨⟨jBG_of 531 (by decide +kernel) (by decide +kernel), jBG_of 88 (by decide +kernel) (by decide +kernel), by decide +kernel, by decide +kernel, by decide +kernel⟩, jBG_of 529 (by decide +kernel) (by decide +kernel), jBG_of 530 (by decide +kernel) (by decide +kernel), TX5, 14, rfl⟩
set_option maxRecDepth 100000 in
theorem ml_RL_72 : Cond.methodLink R_law 72 yX6_week ∈ jBG := jBG_of 1084 (by decide +kernel) (by decide +kernel)
set_option maxRecDepth 100000 in
theorem yv_X6_week : jYV md_X6_week 1 6 := ⟨⟨jBG_of 1087 (by decide +kernel) (by decide +kernel), jBG_of 95 (by decide +kernel) (by decide +kernel), by decide +kernel, by decide +kernel, by decide +kernel⟩, jBG_of 1085 (by decide +kernel) (by decide +kernel), jBG_of 1086 (by decide +kernel) (by decide +kernel), TX6, 28, rfl⟩
set_option maxRecDepth 100000 in
theorem ml_RL_73 : Cond.methodLink R_law 73 yX5_exchange ∈ jBG := jBG_of 567 (by decide +kernel) (by decide +kernel)
set_option maxRecDepth 100000 in
theorem yv_X5_exchange : jYV md_X5_exchange 2 5 := ⟨⟨jBG_of 570 (by decide +kernel) (by decide +kernel), jBG_of 88 (by decide +kernel) (by decide +kernel), by decide +kernel, by decide +kernel, by decide +kernel⟩, jBG_of 568 (by decide +kernel) (by decide +kernel), jBG_of 569 (by decide +kernel) (by decide +kernel), TX5, 14, rfl⟩
set_option maxRecDepth 100000 in
theorem ml_RL_76 : Cond.methodLink R_law 76 yX6_exchange ∈ jBG := jBG_of 1101 (by decide +kernel) (by decide +kernel)
set_option maxRecDepth 100000 in
theorem yv_X6_exchange : jYV md_X6_exchange 2 6 := ⟨⟨jBG_of 1104 (by decide +kernel) (by decide +kernel), jBG_of 95 (by decide +kernel) (by decide +kernel), by decide +kernel, by decide +kernel, by decide +kernel⟩, jBG_of 1102 (by decide +kernel) (by decide +kernel), jBG_of 1103 (by decide +kernel) (by decide +kernel), TX6, 28, rfl⟩
set_option maxRecDepth 100000 in
theorem ml_RL_77 : Cond.methodLink R_law 77 yX5_undo ∈ jBG := jBG_of 572 (by decide +kernel) (by decide +kernel)
set_option maxRecDepth 100000 in
theorem yv_X5_undo : jYV md_X5_undo 1 5 := ⟨⟨jBG_of 575 (by decide +kernel) (by decide +kernel), jBG_of 88 (by decide +kernel) (by decide +kernel), by decide +kernel, by decide +kernel, by decide +kernel⟩, jBG_of 573 (by decide +kernel) (by decide +kernel), jBG_of 574 (by decide +kernel) (by decide +kernel), TX5, 14, rfl⟩
set_option maxRecDepth 100000 in
theorem ml_RL_80 : Cond.methodLink R_law 80 yX6_undo ∈ jBG := jBG_of 1109 (by decide +kernel) (by decide +kernel)
set_option maxRecDepth 100000 in
theorem yv_X6_undo : jYV md_X6_undo 1 6 := ⟨⟨jBG_of 1112 (by decide +kernel) (by decide +kernel), jBG_of 95 (by decide +kernel) (by decide +kernel), by decide +kernel, by decide +kernel, by decide +kernel⟩, jBG_of 1110 (by decide +kernel) (by decide +kernel), jBG_of 1111 (by decide +kernel) (by decide +kernel), TX6, 28, rfl⟩
set_option maxRecDepth 100000 in
theorem ml_RL_81 : Cond.methodLink R_law 81 yX5_keep ∈ jBG := jBG_of 580 (by decide +kernel) (by decide +kernel)
set_option maxRecDepth 100000 in
theorem yv_X5_keep : jYV md_X5_keep 1 5 := ⟨⟨jBG_of 583 (by decide +kernel) (by decide +kernel), jBG_of 88 (by decide +kernel) (by decide +kernel), by decide +kernel, by decide +kernel, by decide +kernel⟩, jBG_of 581 (by decide +kernel) (by decide +kernel), jBG_of 582 (by decide +kernel) (by decide +kernel), TX5, 14, rfl⟩
set_option maxRecDepth 100000 in
theorem ml_RL_84 : Cond.methodLink R_law 84 yX6_keep ∈ jBG := jBG_of 1113 (by decide +kernel) (by decide +kernel)
set_option maxRecDepth 100000 in
theorem yv_X6_keep : jYV md_X6_keep 1 6 := ⟨⟨jBG_of 1116 (by decide +kernel) (by decide +kernel), jBG_of 95 (by decide +kernel) (by decide +kernel), by decide +kernel, by decide +kernel, by decide +kernel⟩, jBG_of 1114 (by decide +kernel) (by decide +kernel), jBG_of 1115 (by decide +kernel) (by decide +kernel), TX6, 28, rfl⟩
set_option maxRecDepth 100000 in
theorem ml_RL_85 : Cond.methodLink R_law 85 yX5_on ∈ jBG := jBG_of 592 (by decide +kernel) (by decide +kernel)
set_option maxRecDepth 100000 in
theorem yv_X5_on : jYV md_X5_on 1 5 := ⟨⟨jBG_of 595 (by decide +kernel) (by decide +kernel), jBG_of 88 (by decide +kernel) (by decide +kernel), by decide +kernel, by decide +kernel, by decide +kernel⟩, jBG_of 593 (by decide +kernel) (by decide +kernel), jBG_of 594 (by decide +kernel) (by decide +kernel), TX5, 14, rfl⟩
set_option maxRecDepth 100000 in
theorem ml_RL_88 : Cond.methodLink R_law 88 yX6_on ∈ jBG := jBG_of 1121 (by decide +kernel) (by decide +kernel)
set_option maxRecDepth 100000 in
theorem yv_X6_on : jYV md_X6_on 1 6 := ⟨⟨jBG_of 1124 (by decide +kernel) (by decide +kernel), jBG_of 95 (by decide +kernel) (by decide +kernel), by decide +kernel, by decide +kernel, by decide +kernel⟩, jBG_of 1122 (by decide +kernel) (by decide +kernel), jBG_of 1123 (by decide +kernel) (by decide +kernel), TX6, 28, rfl⟩
set_option maxRecDepth 100000 in
theorem ml_RL_89 : Cond.methodLink R_law 89 yX5_rings ∈ jBG := jBG_of 596 (by decide +kernel) (by decide +kernel)
set_option maxRecDepth 100000 in
theorem yv_X5_rings : jYV md_X5_rings 0 5 := ⟨⟨jBG_of 599 (by decide +kernel) (by decide +kernel), jBG_of 88 (by decide +kernel) (by decide +kernel), by decide +kernel, by decide +kernel, by decide +kernel⟩, jBG_of 597 (by decide +kernel) (by decide +kernel), jBG_of 598 (by decide +kernel) (by decide +kernel), TX5, 14, rfl⟩
set_option maxRecDepth 100000 in
theorem ml_RL_93 : Cond.methodLink R_law 93 yX6_rings ∈ jBG := jBG_of 1125 (by decide +kernel) (by decide +kernel)
set_option maxRecDepth 100000 in
theorem yv_X6_rings : jYV md_X6_rings 0 6 := ⟨⟨jBG_of 1128 (by decide +kernel) (by decide +kernel), jBG_of 95 (by decide +kernel) (by decide +kernel), by decide +kernel, by decide +kernel, by decide +kernel⟩, jBG_of 1126 (by decide +kernel) (by decide +kernel), jBG_of 1127 (by decide +kernel) (by decide +kernel), TX6, 28, rfl⟩
set_option maxRecDepth 100000 in
theorem ml_RL_94 : Cond.methodLink R_law 94 yX5_allies ∈ jBG := jBG_of 604 (by decide +kernel) (by decide +kernel)
set_option maxRecDepth 100000 in
theorem yv_X5_allies : jYV md_X5_allies 1 5 := ⟨⟨jBG_of 607 (by decide +kernel) (by decide +kernel), jBG_of 88 (by decide +kernel) (by decide +kernel), by decide +kernel, by decide +kernel, by decide +kernel⟩, jBG_of 605 (by decide +kernel) (by decide +kernel), jBG_of 606 (by decide +kernel) (by decide +kernel), TX5, 14, rfl⟩
set_option maxRecDepth 100000 in
theorem ml_RL_97 : Cond.methodLink R_law 97 yX6_allies ∈ jBG := jBG_of 1133 (by decide +kernel) (by decide +kernel)
set_option maxRecDepth 100000 in
theorem yv_X6_allies : jYV md_X6_allies 1 6 := ⟨⟨jBG_of 1136 (by decide +kernel) (by decide +kernel), jBG_of 95 (by decide +kernel) (by decide +kernel), by decide +kernel, by decide +kernel, by decide +kernel⟩, jBG_of 1134 (by decide +kernel) (by decide +kernel), jBG_of 1135 (by decide +kernel) (by decide +kernel), TX6, 28, rfl⟩
set_option maxRecDepth 100000 in
theorem ml_RL_98 : Cond.methodLink R_law 98 yX5_safe ∈ jBG := jBG_of 608 (by decide +kernel) (by decide +kernel)
set_option maxRecDepth 100000 in
theorem yv_X5_safe : jYV md_X5_safe 0 5 := ⟨⟨jBG_of 611 (by decide +kernel) (by decide +kernel), jBG_of 88 (by decide +kernel) (by decide +kernel), by decide +kernel, by decide +kernel, by decide +kernel⟩, jBG_of 609 (by decide +kernel) (by decide +kernel), jBG_of 610 (by decide +kernel) (by decide +kernel), TX5, 14, rfl⟩
set_option maxRecDepth 100000 in
theorem ml_RL_101 : Cond.methodLink R_law 101 yX6_safe ∈ jBG := jBG_of 1137 (by decide +kernel) (by decide +kernel)
set_option maxRecDepth 100000 in
theorem yv_X6_safe : jYV md_X6_safe 0 6 := ⟨⟨jBG_of 1140 (by decide +kernel) (by decide +kernel), jBG_of 95 (by decide +kernel) (by decide +kernel), by decide +kernel, by decide +kernel, by decide +kernel⟩, jBG_of 1138 (by decide +kernel) (by decide +kernel), jBG_of 1139 (by decide +kernel) (by decide +kernel), TX6, 28, rfl⟩
set_option maxRecDepth 100000 in
theorem ml_RL_102 : Cond.methodLink R_law 102 yX5_weeks ∈ jBG := jBG_of 616 (by decide +kernel) (by decide +kernel)
set_option maxRecDepth 100000 in
theorem yv_X5_weeks : jYV md_X5_weeks 2 5 := ⟨⟨jBG_of 619 (by decide +kernel) (by decide +kernel), jBG_of 88 (by decide +kernel) (by decide +kernel), by decide +kernel, by decide +kernel, by decide +kernel⟩, jBG_of 617 (by decide +kernel) (by decide +kernel), jBG_of 618 (by decide +kernel) (by decide +kernel), TX5, 14, rfl⟩
set_option maxRecDepth 100000 in
theorem ml_RL_105 : Cond.methodLink R_law 105 yX6_weeks ∈ jBG := jBG_of 1145 (by decide +kernel) (by decide +kernel)
set_option maxRecDepth 100000 in
theorem yv_X6_weeks : jYV md_X6_weeks 2 6 := ⟨⟨jBG_of 1148 (by decide +kernel) (by decide +kernel), jBG_of 95 (by decide +kernel) (by decide +kernel), by decide +kernel, by decide +kernel, by decide +kernel⟩, jBG_of 1146 (by decide +kernel) (by decide +kernel), jBG_of 1147 (by decide +kernel) (by decide +kernel), TX6, 28, rfl⟩
set_option maxRecDepth 100000 in
theorem ml_RL_106 : Cond.methodLink R_law 106 yX5_thwart ∈ jBG := jBG_of 627 (by decide +kernel) (by decide +kernel)
set_option maxRecDepth 100000 in
theorem yv_X5_thwart : jYV md_X5_thwart 2 5 := ⟨⟨jBG_of 630 (by decide +kernel) (by decide +kernel), jBG_of 88 (by decide +kernel) (by decide +kernel), by decide +kernel, by decide +kernel, by decide +kernel⟩, jBG_of 628 (by decide +kernel) (by decide +kernel), jBG_of 629 (by decide +kernel) (by decide +kernel), TX5, 14, rfl⟩
set_option maxRecDepth 100000 in
theorem ml_RL_109 : Cond.methodLink R_law 109 yX6_thwart ∈ jBG := jBG_of 1154 (by decide +kernel) (by decide +kernel)
set_option maxRecDepth 100000 in
theorem yv_X6_thwart : jYV md_X6_thwart 2 6 := ⟨⟨jBG_of 1157 (by decide +kernel) (by decide +kernel), jBG_of 95 (by decide +kernel) (by decide +kernel), by decide +kernel, by decide +kernel, by decide +kernel⟩, jBG_of 1155 (by decide +kernel) (by decide +kernel), jBG_of 1156 (by decide +kernel) (by decide +kernel), TX6, 28, rfl⟩
set_option maxRecDepth 100000 in
theorem ml_RL_110 : Cond.methodLink R_law 110 yX5_ways ∈ jBG := jBG_of 631 (by decide +kernel) (by decide +kernel)
set_option maxRecDepth 100000 in
theorem yv_X5_ways : jYV md_X5_ways 2 5 := ⟨⟨jBG_of 634 (by decide +kernel) (by decide +kernel), jBG_of 88 (by decide +kernel) (by decide +kernel), by decide +kernel, by decide +kernel, by decide +kernel⟩, jBG_of 632 (by decide +kernel) (by decide +kernel), jBG_of 633 (by decide +kernel) (by decide +kernel), TX5, 14, rfl⟩
set_option maxRecDepth 100000 in
theorem ml_RL_113 : Cond.methodLink R_law 113 yX6_ways ∈ jBG := jBG_of 1159 (by decide +kernel) (by decide +kernel)
set_option maxRecDepth 100000 in
theorem yv_X6_ways : jYV md_X6_ways 2 6 := ⟨⟨jBG_of 1162 (by decide +kernel) (by decide +kernel), jBG_of 95 (by decide +kernel) (by decide +kernel), by decide +kernel, by decide +kernel, by decide +kernel⟩, jBG_of 1160 (by decide +kernel) (by decide +kernel), jBG_of 1161 (by decide +kernel) (by decide +kernel), TX6, 28, rfl⟩
set_option maxRecDepth 100000 in
theorem ml_RL_114 : Cond.methodLink R_law 114 yX5_wishes ∈ jBG := jBG_of 639 (by decide +kernel) (by decide +kernel)
set_option maxRecDepth 100000 in
theorem yv_X5_wishes : jYV md_X5_wishes 0 5 := ⟨⟨jBG_of 642 (by decide +kernel) (by decide +kernel), jBG_of 88 (by decide +kernel) (by decide +kernel), by decide +kernel, by decide +kernel, by decide +kernel⟩, jBG_of 640 (by decide +kernel) (by decide +kernel), jBG_of 641 (by decide +kernel) (by decide +kernel), TX5, 14, rfl⟩
set_option maxRecDepth 100000 in
theorem ml_RL_117 : Cond.methodLink R_law 117 yX6_wishes ∈ jBG := jBG_of 1167 (by decide +kernel) (by decide +kernel)
set_option maxRecDepth 100000 in
theorem yv_X6_wishes : jYV md_X6_wishes 0 6 := ⟨⟨jBG_of 1170 (by decide +kernel) (by decide +kernel), jBG_of 95 (by decide +kernel) (by decide +kernel), by decide +kernel, by decide +kernel, by decide +kernel⟩, jBG_of 1168 (by decide +kernel) (by decide +kernel), jBG_of 1169 (by decide +kernel) (by decide +kernel), TX6, 28, rfl⟩
set_option maxRecDepth 100000 in
theorem ml_RL_118 : Cond.methodLink R_law 118 yX5_mildest ∈ jBG := jBG_of 647 (by decide +kernel) (by decide +kernel)
set_option maxRecDepth 100000 in
theorem yv_X5_mildest : jYV md_X5_mildest 1 5 := ⟨⟨jBG_of 650 (by decide +kernel) (by decide +kernel), jBG_of 88 (by decide +kernel) (by decide +kernel), by decide +kernel, by decide +kernel, by decide +kernel⟩, jBG_of 648 (by decide +kernel) (by decide +kernel), jBG_of 649 (by decide +kernel) (by decide +kernel), TX5, 14, rfl⟩
set_option maxRecDepth 100000 in
theorem ml_RL_121 : Cond.methodLink R_law 121 yX6_mildest ∈ jBG := jBG_of 1175 (by decide +kernel) (by decide +kernel)
set_option maxRecDepth 100000 in
theorem yv_X6_mildest : jYV md_X6_mildest 1 6 := ⟨⟨jBG_of 1178 (by decide +kernel) (by decide +kernel), jBG_of 95 (by decide +kernel) (by decide +kernel), by decide +kernel, by decide +kernel, by decide +kernel⟩, jBG_of 1176 (by decide +kernel) (by decide +kernel), jBG_of 1177 (by decide +kernel) (by decide +kernel), TX6, 28, rfl⟩
set_option maxRecDepth 100000 in
theorem ml_RL_122 : Cond.methodLink R_law 122 yX5_none ∈ jBG := jBG_of 677 (by decide +kernel) (by decide +kernel)
set_option maxRecDepth 100000 in
theorem yv_X5_none : jYV md_X5_none 1 5 := ⟨⟨jBG_of 680 (by decide +kernel) (by decide +kernel), jBG_of 88 (by decide +kernel) (by decide +kernel), by decide +kernel, by decide +kernel, by decide +kernel⟩, jBG_of 678 (by decide +kernel) (by decide +kernel), jBG_of 679 (by decide +kernel) (by decide +kernel), TX5, 14, rfl⟩
set_option maxRecDepth 100000 in
theorem ml_RL_125 : Cond.methodLink R_law 125 yX6_none ∈ jBG := jBG_of 1195 (by decide +kernel) (by decide +kernel)
set_option maxRecDepth 100000 in
theorem yv_X6_none : jYV md_X6_none 1 6 := ⟨⟨jBG_of 1198 (by decide +kernel) (by decide +kernel), jBG_of 95 (by decide +kernel) (by decide +kernel), by decide +kernel, by decide +kernel, by decide +kernel⟩, jBG_of 1196 (by decide +kernel) (by decide +kernel), jBG_of 1197 (by decide +kernel) (by decide +kernel), TX6, 28, rfl⟩
set_option maxRecDepth 100000 in
theorem ml_RL_126 : Cond.methodLink R_law 126 yX5_maps ∈ jBG := jBG_of 685 (by decide +kernel) (by decide +kernel)
set_option maxRecDepth 100000 in
theorem yv_X5_maps : jYV md_X5_maps 0 5 := ⟨⟨jBG_of 688 (by decide +kernel) (by decide +kernel), jBG_of 88 (by decide +kernel) (by decide +kernel), by decide +kernel, by decide +kernel, by decide +kernel⟩, jBG_of 686 (by decide +kernel) (by decide +kernel), jBG_of 687 (by decide +kernel) (by decide +kernel), TX5, 14, rfl⟩
set_option maxRecDepth 100000 in
theorem ml_RL_129 : Cond.methodLink R_law 129 yX6_maps ∈ jBG := jBG_of 1203 (by decide +kernel) (by decide +kernel)
set_option maxRecDepth 100000 in
theorem yv_X6_maps : jYV md_X6_maps 0 6 := ⟨⟨jBG_of 1206 (by decide +kernel) (by decide +kernel), jBG_of 95 (by decide +kernel) (by decide +kernel), by decide +kernel, by decide +kernel, by decide +kernel⟩, jBG_of 1204 (by decide +kernel) (by decide +kernel), jBG_of 1205 (by decide +kernel) (by decide +kernel), TX6, 28, rfl⟩
set_option maxRecDepth 100000 in
theorem ml_RL_130 : Cond.methodLink R_law 130 yX5_odds ∈ jBG := jBG_of 700 (by decide +kernel) (by decide +kernel)
set_option maxRecDepth 100000 in
theorem yv_X5_odds : jYV md_X5_odds 2 5 := ⟨⟨jBG_of 703 (by decide +kernel) (by decide +kernel), jBG_of 88 (by decide +kernel) (by decide +kernel), by decide +kernel, by decide +kernel, by decide +kernel⟩, jBG_of 701 (by decide +kernel) (by decide +kernel), jBG_of 702 (by decide +kernel) (by decide +kernel), TX5, 14, rfl⟩
set_option maxRecDepth 100000 in
theorem ml_RL_133 : Cond.methodLink R_law 133 yX6_odds ∈ jBG := jBG_of 1215 (by decide +kernel) (by decide +kernel)
set_option maxRecDepth 100000 in
theorem yv_X6_odds : jYV md_X6_odds 2 6 := ⟨⟨jBG_of 1218 (by decide +kernel) (by decide +kernel), jBG_of 95 (by decide +kernel) (by decide +kernel), by decide +kernel, by decide +kernel, by decide +kernel⟩, jBG_of 1216 (by decide +kernel) (by decide +kernel), jBG_of 1217 (by decide +kernel) (by decide +kernel), TX6, 28, rfl⟩
set_option maxRecDepth 100000 in
theorem ml_RL_134 : Cond.methodLink R_law 134 yX5_both ∈ jBG := jBG_of 713 (by decide +kernel) (by decide +kernel)
set_option maxRecDepth 100000 in
theorem yv_X5_both : jYV md_X5_both 2 5 := ⟨⟨jBG_of 716 (by decide +kernel) (by decide +kernel), jBG_of 88 (by decide +kernel) (by decide +kernel), by decide +kernel, by decide +kernel, by decide +kernel⟩, jBG_of 714 (by decide +kernel) (by decide +kernel), jBG_of 715 (by decide +kernel) (by decide +kernel), TX5, 14, rfl⟩
set_option maxRecDepth 100000 in
theorem ml_RL_137 : Cond.methodLink R_law 137 yX6_both ∈ jBG := jBG_of 1226 (by decide +kernel) (by decide +kernel)
set_option maxRecDepth 100000 in
theorem yv_X6_both : jYV md_X6_both 2 6 := ⟨⟨jBG_of 1229 (by decide +kernel) (by decide +kernel), jBG_of 95 (by decide +kernel) (by decide +kernel), by decide +kernel, by decide +kernel, by decide +kernel⟩, jBG_of 1227 (by decide +kernel) (by decide +kernel), jBG_of 1228 (by decide +kernel) (by decide +kernel), TX6, 28, rfl⟩
set_option maxRecDepth 100000 in
theorem ml_RL_138 : Cond.methodLink R_law 138 yX5_fits ∈ jBG := jBG_of 721 (by decide +kernel) (by decide +kernel)
set_option maxRecDepth 100000 in
theorem yv_X5_fits : jYV md_X5_fits 1 5 := ⟨⟨jBG_of 724 (by decide +kernel) (by decide +kernel), jBG_of 88 (by decide +kernel) (by decide +kernel), by decide +kernel, by decide +kernel, by decide +kernel⟩, jBG_of 722 (by decide +kernel) (by decide +kernel), jBG_of 723 (by decide +kernel) (by decide +kernel), TX5, 14, rfl⟩
set_option maxRecDepth 100000 in
theorem ml_RL_141 : Cond.methodLink R_law 141 yX6_fits ∈ jBG := jBG_of 1230 (by decide +kernel) (by decide +kernel)
set_option maxRecDepth 100000 in
theorem yv_X6_fits : jYV md_X6_fits 1 6 := ⟨⟨jBG_of 1233 (by decide +kernel) (by decide +kernel), jBG_of 95 (by decide +kernel) (by decide +kernel), by decide +kernel, by decide +kernel, by decide +kernel⟩, jBG_of 1231 (by decide +kernel) (by decide +kernel), jBG_of 1232 (by decide +kernel) (by decide +kernel), TX6, 28, rfl⟩
set_option maxRecDepth 100000 in
theorem ml_RL_142 : Cond.methodLink R_law 142 yX5_sure ∈ jBG := jBG_of 741 (by decide +kernel) (by decide +kernel)
set_option maxRecDepth 100000 in
theorem yv_X5_sure : jYV md_X5_sure 2 5 := ⟨⟨jBG_of 744 (by decide +kernel) (by decide +kernel), jBG_of 88 (by decide +kernel) (by decide +kernel), by decide +kernel, by decide +kernel, by decide +kernel⟩, jBG_of 742 (by decide +kernel) (by decide +kernel), jBG_of 743 (by decide +kernel) (by decide +kernel), TX5, 14, rfl⟩
set_option maxRecDepth 100000 in
theorem ml_RL_145 : Cond.methodLink R_law 145 yX6_sure ∈ jBG := jBG_of 1242 (by decide +kernel) (by decide +kernel)
set_option maxRecDepth 100000 in
theorem yv_X6_sure : jYV md_X6_sure 2 6 := ⟨⟨jBG_of 1245 (by decide +kernel) (by decide +kernel), jBG_of 95 (by decide +kernel) (by decide +kernel), by decide +kernel, by decide +kernel, by decide +kernel⟩, jBG_of 1243 (by decide +kernel) (by decide +kernel), jBG_of 1244 (by decide +kernel) (by decide +kernel), TX6, 28, rfl⟩
set_option maxRecDepth 100000 in
theorem ml_RL_146 : Cond.methodLink R_law 146 yX5_ask ∈ jBG := jBG_of 749 (by decide +kernel) (by decide +kernel)
set_option maxRecDepth 100000 in
theorem yv_X5_ask : jYV md_X5_ask 1 5 := ⟨⟨jBG_of 752 (by decide +kernel) (by decide +kernel), jBG_of 88 (by decide +kernel) (by decide +kernel), by decide +kernel, by decide +kernel, by decide +kernel⟩, jBG_of 750 (by decide +kernel) (by decide +kernel), jBG_of 751 (by decide +kernel) (by decide +kernel), TX5, 14, rfl⟩
set_option maxRecDepth 100000 in
theorem ml_RL_149 : Cond.methodLink R_law 149 yX6_ask ∈ jBG := jBG_of 1246 (by decide +kernel) (by decide +kernel)
set_option maxRecDepth 100000 in
theorem yv_X6_ask : jYV md_X6_ask 1 6 := ⟨⟨jBG_of 1249 (by decide +kernel) (by decide +kernel), jBG_of 95 (by decide +kernel) (by decide +kernel), by decide +kernel, by decide +kernel, by decide +kernel⟩, jBG_of 1247 (by decide +kernel) (by decide +kernel), jBG_of 1248 (by decide +kernel) (by decide +kernel), TX6, 28, rfl⟩
set_option maxRecDepth 100000 in
theorem ml_RL_150 : Cond.methodLink R_law 150 yX5_lots ∈ jBG := jBG_of 761 (by decide +kernel) (by decide +kernel)
set_option maxRecDepth 100000 in
theorem yv_X5_lots : jYV md_X5_lots 2 5 := ⟨⟨jBG_of 764 (by decide +kernel) (by decide +kernel), jBG_of 88 (by decide +kernel) (by decide +kernel), by decide +kernel, by decide +kernel, by decide +kernel⟩, jBG_of 762 (by decide +kernel) (by decide +kernel), jBG_of 763 (by decide +kernel) (by decide +kernel), TX5, 14, rfl⟩
set_option maxRecDepth 100000 in
theorem ml_RL_153 : Cond.methodLink R_law 153 yX6_lots ∈ jBG := jBG_of 1254 (by decide +kernel) (by decide +kernel)
set_option maxRecDepth 100000 in
theorem yv_X6_lots : jYV md_X6_lots 2 6 := ⟨⟨jBG_of 1257 (by decide +kernel) (by decide +kernel), jBG_of 95 (by decide +kernel) (by decide +kernel), by decide +kernel, by decide +kernel, by decide +kernel⟩, jBG_of 1255 (by decide +kernel) (by decide +kernel), jBG_of 1256 (by decide +kernel) (by decide +kernel), TX6, 28, rfl⟩
set_option maxRecDepth 100000 in
theorem ml_RL_154 : Cond.methodLink R_law 154 yX5_asked ∈ jBG := jBG_of 773 (by decide +kernel) (by decide +kernel)
set_option maxRecDepth 100000 in
theorem yv_X5_asked : jYV md_X5_asked 0 5 := ⟨⟨jBG_of 776 (by decide +kernel) (by decide +kernel), jBG_of 88 (by decide +kernel) (by decide +kernel), by decide +kernel, by decide +kernel, by decide +kernel⟩, jBG_of 774 (by decide +kernel) (by decide +kernel), jBG_of 775 (by decide +kernel) (by decide +kernel), TX5, 14, rfl⟩
set_option maxRecDepth 100000 in
theorem ml_RL_157 : Cond.methodLink R_law 157 yX6_asked ∈ jBG := jBG_of 1263 (by decide +kernel) (by decide +kernel)
set_option maxRecDepth 100000 in
theorem yv_X6_asked : jYV md_X6_asked 0 6 := ⟨⟨jBG_of 1266 (by decide +kernel) (by decide +kernel), jBG_of 95 (by decide +kernel) (by decide +kernel), by decide +kernel, by decide +kernel, by decide +kernel⟩, jBG_of 1264 (by decide +kernel) (by decide +kernel), jBG_of 1265 (by decide +kernel) (by decide +kernel), TX6, 28, rfl⟩
set_option maxRecDepth 100000 in
theorem ml_RL_158 : Cond.methodLink R_law 158 yX5_upper ∈ jBG := jBG_of 777 (by decide +kernel) (by decide +kernel)
set_option maxRecDepth 100000 in
theorem yv_X5_upper : jYV md_X5_upper 0 5 := ⟨⟨jBG_of 780 (by decide +kernel) (by decide +kernel), jBG_of 88 (by decide +kernel) (by decide +kernel), by decide +kernel, by decide +kernel, by decide +kernel⟩, jBG_of 778 (by decide +kernel) (by decide +kernel), jBG_of 779 (by decide +kernel) (by decide +kernel), TX5, 14, rfl⟩
set_option maxRecDepth 100000 in
theorem ml_RL_162 : Cond.methodLink R_law 162 yX6_upper ∈ jBG := jBG_of 1267 (by decide +kernel) (by decide +kernel)
set_option maxRecDepth 100000 in
theorem yv_X6_upper : jYV md_X6_upper 0 6 := ⟨⟨jBG_of 1270 (by decide +kernel) (by decide +kernel), jBG_of 95 (by decide +kernel) (by decide +kernel), by decide +kernel, by decide +kernel, by decide +kernel⟩, jBG_of 1268 (by decide +kernel) (by decide +kernel), jBG_of 1269 (by decide +kernel) (by decide +kernel), TX6, 28, rfl⟩
set_option maxRecDepth 100000 in
theorem ml_RL_163 : Cond.methodLink R_law 163 yX5_lower ∈ jBG := jBG_of 781 (by decide +kernel) (by decide +kernel)
set_option maxRecDepth 100000 in
theorem yv_X5_lower : jYV md_X5_lower 0 5 := ⟨⟨jBG_of 784 (by decide +kernel) (by decide +kernel), jBG_of 88 (by decide +kernel) (by decide +kernel), by decide +kernel, by decide +kernel, by decide +kernel⟩, jBG_of 782 (by decide +kernel) (by decide +kernel), jBG_of 783 (by decide +kernel) (by decide +kernel), TX5, 14, rfl⟩
set_option maxRecDepth 100000 in
theorem ml_RL_166 : Cond.methodLink R_law 166 yX6_lower ∈ jBG := jBG_of 1271 (by decide +kernel) (by decide +kernel)
set_option maxRecDepth 100000 in
theorem yv_X6_lower : jYV md_X6_lower 0 6 := ⟨⟨jBG_of 1274 (by decide +kernel) (by decide +kernel), jBG_of 95 (by decide +kernel) (by decide +kernel), by decide +kernel, by decide +kernel, by decide +kernel⟩, jBG_of 1272 (by decide +kernel) (by decide +kernel), jBG_of 1273 (by decide +kernel) (by decide +kernel), TX6, 28, rfl⟩
set_option maxRecDepth 100000 in
theorem ml_RL_167 : Cond.methodLink R_law 167 yX5_count ∈ jBG := jBG_of 785 (by decide +kernel) (by decide +kernel)
set_option maxRecDepth 100000 in
theorem ml_RL_170 : Cond.methodLink R_law 170 yX6_count ∈ jBG := jBG_of 1275 (by decide +kernel) (by decide +kernel)
set_option maxRecDepth 100000 in
theorem yv_X6_count : jYV md_X6_count 1 6 := ⟨⟨jBG_of 1278 (by decide +kernel) (by decide +kernel), jBG_of 95 (by decide +kernel) (by decide +kernel), by decide +kernel, by decide +kernel, by decide +kernel⟩, jBG_of 1276 (by decide +kernel) (by decide +kernel), jBG_of 1277 (by decide +kernel) (by decide +kernel), TX6, 28, rfl⟩
set_option maxRecDepth 100000 in
theorem ml_RL_171 : Cond.methodLink R_law 171 yX5_finding ∈ jBG := jBG_of 804 (by decide +kernel) (by decide +kernel)
set_option maxRecDepth 100000 in
theorem yv_X5_finding : jYV md_X5_finding 0 5 := ⟨⟨jBG_of 807 (by decide +kernel) (by decide +kernel), jBG_of 88 (by decide +kernel) (by decide +kernel), by decide +kernel, by decide +kernel, by decide +kernel⟩, jBG_of 805 (by decide +kernel) (by decide +kernel), jBG_of 806 (by decide +kernel) (by decide +kernel), TX5, 14, rfl⟩
set_option maxRecDepth 100000 in
theorem ml_RL_174 : Cond.methodLink R_law 174 yX6_finding ∈ jBG := jBG_of 1295 (by decide +kernel) (by decide +kernel)
set_option maxRecDepth 100000 in
theorem yv_X6_finding : jYV md_X6_finding 0 6 := ⟨⟨jBG_of 1298 (by decide +kernel) (by decide +kernel), jBG_of 95 (by decide +kernel) (by decide +kernel), by decide +kernel, by decide +kernel, by decide +kernel⟩, jBG_of 1296 (by decide +kernel) (by decide +kernel), jBG_of 1297 (by decide +kernel) (by decide +kernel), TX6, 28, rfl⟩
set_option maxRecDepth 100000 in
theorem ml_RL_175 : Cond.methodLink R_law 175 yX5_findings ∈ jBG := jBG_of 808 (by decide +kernel) (by decide +kernel)
set_option maxRecDepth 100000 in
theorem yv_X5_findings : jYV md_X5_findings 1 5 := ⟨⟨jBG_of 811 (by decide +kernel) (by decide +kernel), jBG_of 88 (by decide +kernel) (by decide +kernel), by decide +kernel, by decide +kernel, by decide +kernel⟩, jBG_of 809 (by decide +kernel) (by decide +kernel), jBG_of 810 (by decide +kernel) (by decide +kernel), TX5, 14, rfl⟩
set_option maxRecDepth 100000 in
theorem ml_RL_178 : Cond.methodLink R_law 178 yX6_findings ∈ jBG := jBG_of 1299 (by decide +kernel) (by decide +kernel)
set_option maxRecDepth 100000 in
theorem yv_X6_findings : jYV md_X6_findings 1 6 := ⟨⟨jBG_of 1302 (by decide +kernel) (by decide +kernel), jBG_of 95 (by decide +kernel) (by decide +kernel), by decide +kernel, by decide +kernel, by decide +kernel⟩, jBG_of 1300 (by decide +kernel) (by decide +kernel), jBG_of 1301 (by decide +kernel) (by decide +kernel), TX6, 28, rfl⟩
set_option maxRecDepth 100000 in
theorem ml_RL_179 : Cond.methodLink R_law 179 yX5_digest ∈ jBG := jBG_of 812 (by decide +kernel) (by decide +kernel)
set_option maxRecDepth 100000 in
theorem yv_X5_digest : jYV md_X5_digest 0 5 := ⟨⟨jBG_of 815 (by decide +kernel) (by decide +kernel), jBG_of 88 (by decide +kernel) (by decide +kernel), by decide +kernel, by decide +kernel, by decide +kernel⟩, jBG_of 813 (by decide +kernel) (by decide +kernel), jBG_of 814 (by decide +kernel) (by decide +kernel), TX5, 14, rfl⟩
set_option maxRecDepth 100000 in
theorem ml_RL_182 : Cond.methodLink R_law 182 yX6_digest ∈ jBG := jBG_of 1303 (by decide +kernel) (by decide +kernel)
set_option maxRecDepth 100000 in
theorem yv_X6_digest : jYV md_X6_digest 0 6 := ⟨⟨jBG_of 1306 (by decide +kernel) (by decide +kernel), jBG_of 95 (by decide +kernel) (by decide +kernel), by decide +kernel, by decide +kernel, by decide +kernel⟩, jBG_of 1304 (by decide +kernel) (by decide +kernel), jBG_of 1305 (by decide +kernel) (by decide +kernel), TX6, 28, rfl⟩
