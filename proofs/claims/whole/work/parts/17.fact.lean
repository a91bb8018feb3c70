set_option maxRecDepth 100000 in
theorem fl_RX6_119 : jFL RX6 119 6 20 := ⟨RX6, TX6, 28, rfl, by decide, Or.inl (jBG_of 850 (by decide +kernel) (by decide +kernel))⟩
set_option maxRecDepth 100000 in
theorem fl_RX6_122 : jFL RX6 122 6 22 := ⟨RX6, TX6, 28, rfl, by decide, Or.inl (jBG_of 852 (by decide +kernel) (by decide +kernel))⟩
set_option maxRecDepth 100000 in
theorem ml_RX6_125 : Cond.methodLink RX6 125 yX6_figure ∈ jBG := jBG_of 998 (by decide +kernel) (by decide +kernel)
set_option maxRecDepth 100000 in
theorem yv_X6_figure : jYV md_X6_figure 2 6 := ⟨⟨jBG_of 1001 (by decide +kernel) (by decide +kernel), jBG_of 95 (by decide +kernel) (by decide +kernel), by decide +kernel, by decide +kernel, by decide +kernel⟩, jBG_of 1000 (by decide +kernel) (by decide +kernel), jBG_of 47 (by decide +kernel) (by decide +kernel), TX6, 28, rfl⟩
set_option maxRecDepth 100000 in
theorem fl_RX6_44 : jFL RX6 44 6 19 := ⟨RX6, TX6, 28, rfl, by decide, Or.inl (jBG_of 849 (by decide +kernel) (by decide +kernel))⟩
set_option maxRecDepth 100000 in
theorem fp_RX6_119 (nm : String) : jFP RX6 nm 119 6 20 .int := ⟨RX6, TX6, 28, rfl, by decide, by decide +kernel, Or.inl ⟨rfl, Or.inl (jBG_of 850 (by decide +kernel) (by decide +kernel))⟩⟩
set_option maxRecDepth 100000 in
theorem fl_RX6_47 : jFL RX6 47 6 21 := ⟨RX6, TX6, 28, rfl, by decide, Or.inl (jBG_of 851 (by decide +kernel) (by decide +kernel))⟩
set_option maxRecDepth 100000 in
theorem ml_RX6_128 : Cond.methodLink RX6 128 yX6_has ∈ jBG := jBG_of 1002 (by decide +kernel) (by decide +kernel)
set_option maxRecDepth 100000 in
theorem ys_X6_has : jYS md_X6_has 2 := ⟨⟨jBG_of 1004 (by decide +kernel) (by decide +kernel), jBG_of 95 (by decide +kernel) (by decide +kernel), by decide +kernel, by decide +kernel, by decide +kernel⟩, jBG_of 1003 (by decide +kernel) (by decide +kernel)⟩
set_option maxRecDepth 100000 in
theorem fp_RX6_122 (nm : String) : jFP RX6 nm 122 6 22 .int := ⟨RX6, TX6, 28, rfl, by decide, by decide +kernel, Or.inl ⟨rfl, Or.inl (jBG_of 852 (by decide +kernel) (by decide +kernel))⟩⟩
set_option maxRecDepth 100000 in
theorem fp_RX6_103 (nm : String) : jFP RX6 nm 103 6 16 .int := ⟨RX6, TX6, 28, rfl, by decide, by decide +kernel, Or.inl ⟨rfl, Or.inl (jBG_of 846 (by decide +kernel) (by decide +kernel))⟩⟩
set_option maxRecDepth 100000 in
theorem fp_RX6_109 (nm : String) : jFP RX6 nm 109 6 18 .int := ⟨RX6, TX6, 28, rfl, by decide, by decide +kernel, Or.inl ⟨rfl, Or.inl (jBG_of 848 (by decide +kernel) (by decide +kernel))⟩⟩
set_option maxRecDepth 100000 in
theorem ml_RX6_132 : Cond.methodLink RX6 132 yX6_skip ∈ jBG := jBG_of 986 (by decide +kernel) (by decide +kernel)
set_option maxRecDepth 100000 in
theorem yv_X6_skip : jYV md_X6_skip 0 6 := ⟨⟨jBG_of 989 (by decide +kernel) (by decide +kernel), jBG_of 95 (by decide +kernel) (by decide +kernel), by decide +kernel, by decide +kernel, by decide +kernel⟩, jBG_of 988 (by decide +kernel) (by decide +kernel), jBG_of 44 (by decide +kernel) (by decide +kernel), TX6, 28, rfl⟩
set_option maxRecDepth 100000 in
theorem ml_RX6_139 : Cond.methodLink RX6 139 yX6_readsPerson ∈ jBG := jBG_of 1005 (by decide +kernel) (by decide +kernel)
set_option maxRecDepth 100000 in
theorem yv_X6_readsPerson : jYV md_X6_readsPerson 0 6 := ⟨⟨jBG_of 1008 (by decide +kernel) (by decide +kernel), jBG_of 95 (by decide +kernel) (by decide +kernel), by decide +kernel, by decide +kernel, by decide +kernel⟩, jBG_of 1007 (by decide +kernel) (by decide +kernel), jBG_of 48 (by decide +kernel) (by decide +kernel), TX6, 28, rfl⟩
set_option maxRecDepth 100000 in
theorem ml_RX6_135 : Cond.methodLink RX6 135 yX6_readsLove ∈ jBG := jBG_of 994 (by decide +kernel) (by decide +kernel)
set_option maxRecDepth 100000 in
theorem yv_X6_readsLove : jYV md_X6_readsLove 0 6 := ⟨⟨jBG_of 997 (by decide +kernel) (by decide +kernel), jBG_of 95 (by decide +kernel) (by decide +kernel), by decide +kernel, by decide +kernel, by decide +kernel⟩, jBG_of 996 (by decide +kernel) (by decide +kernel), jBG_of 46 (by decide +kernel) (by decide +kernel), TX6, 28, rfl⟩
set_option maxRecDepth 100000 in
theorem ml_RX6_142 : Cond.methodLink RX6 142 yX6_areVictims ∈ jBG := jBG_of 1012 (by decide +kernel) (by decide +kernel)
set_option maxRecDepth 100000 in
theorem yv_X6_areVictims : jYV md_X6_areVictims 0 6 := ⟨⟨jBG_of 1015 (by decide +kernel) (by decide +kernel), jBG_of 95 (by decide +kernel) (by decide +kernel), by decide +kernel, by decide +kernel, by decide +kernel⟩, jBG_of 1014 (by decide +kernel) (by decide +kernel), jBG_of 49 (by decide +kernel) (by decide +kernel), TX6, 28, rfl⟩
set_option maxRecDepth 100000 in
theorem ml_RX6_145 : Cond.methodLink RX6 145 yX6_faultOf ∈ jBG := jBG_of 982 (by decide +kernel) (by decide +kernel)
set_option maxRecDepth 100000 in
theorem yv_X6_faultOf : jYV md_X6_faultOf 1 6 := ⟨⟨jBG_of 985 (by decide +kernel) (by decide +kernel), jBG_of 95 (by decide +kernel) (by decide +kernel), by decide +kernel, by decide +kernel, by decide +kernel⟩, jBG_of 984 (by decide +kernel) (by decide +kernel), jBG_of 43 (by decide +kernel) (by decide +kernel), TX6, 28, rfl⟩
set_option maxRecDepth 100000 in
theorem fp_RX6_148 (nm : String) : jFP RX6 nm 148 6 1 .int := ⟨RX6, TX6, 28, rfl, by decide, by decide +kernel, Or.inl ⟨rfl, Or.inl (jBG_of 831 (by decide +kernel) (by decide +kernel))⟩⟩
set_option maxRecDepth 100000 in
theorem fp_RX6_151 (nm : String) : jFP RX6 nm 151 6 6 .int := ⟨RX6, TX6, 28, rfl, by decide, by decide +kernel, Or.inl ⟨rfl, Or.inl (jBG_of 836 (by decide +kernel) (by decide +kernel))⟩⟩
set_option maxRecDepth 100000 in
theorem fl_RX6_148 : jFL RX6 148 6 1 := ⟨RX6, TX6, 28, rfl, by decide, Or.inl (jBG_of 831 (by decide +kernel) (by decide +kernel))⟩
set_option maxRecDepth 100000 in
theorem fl_RX6_22 : jFL RX6 22 6 5 := ⟨RX6, TX6, 28, rfl, by decide, Or.inl (jBG_of 835 (by decide +kernel) (by decide +kernel))⟩
set_option maxRecDepth 100000 in
theorem fl_RX6_13 : jFL RX6 13 6 2 := ⟨RX6, TX6, 28, rfl, by decide, Or.inl (jBG_of 832 (by decide +kernel) (by decide +kernel))⟩
set_option maxRecDepth 100000 in
theorem fl_RX6_16 : jFL RX6 16 6 3 := ⟨RX6, TX6, 28, rfl, by decide, Or.inl (jBG_of 833 (by decide +kernel) (by decide +kernel))⟩
set_option maxRecDepth 100000 in
theorem fl_RX6_19 : jFL RX6 19 6 4 := ⟨RX6, TX6, 28, rfl, by decide, Or.inl (jBG_of 834 (by decide +kernel) (by decide +kernel))⟩
set_option maxRecDepth 100000 in
theorem ml_RX6_154 : Cond.methodLink RX6 154 yX6_isPerson ∈ jBG := jBG_of 1024 (by decide +kernel) (by decide +kernel)
set_option maxRecDepth 100000 in
theorem yv_X6_isPerson : jYV md_X6_isPerson 1 6 := ⟨⟨jBG_of 1027 (by decide +kernel) (by decide +kernel), jBG_of 95 (by decide +kernel) (by decide +kernel), by decide +kernel, by decide +kernel, by decide +kernel⟩, jBG_of 1026 (by decide +kernel) (by decide +kernel), jBG_of 50 (by decide +kernel) (by decide +kernel), TX6, 28, rfl⟩
set_option maxRecDepth 100000 in
theorem ml_RX6_157 : Cond.methodLink RX6 157 yX6_victim ∈ jBG := jBG_of 1033 (by decide +kernel) (by decide +kernel)
set_option maxRecDepth 100000 in
theorem yv_X6_victim : jYV md_X6_victim 1 6 := ⟨⟨jBG_of 1036 (by decide +kernel) (by decide +kernel), jBG_of 95 (by decide +kernel) (by decide +kernel), by decide +kernel, by decide +kernel, by decide +kernel⟩, jBG_of 1035 (by decide +kernel) (by decide +kernel), jBG_of 52 (by decide +kernel) (by decide +kernel), TX6, 28, rfl⟩
set_option maxRecDepth 100000 in
theorem sw_X6_plain_6 : decode md_X6_plain.2.1 6 = .ok (.tableswitch 86 1 5 #[34, 86, 52, 43, 61], 34) := by decide +kernel
set_option maxRecDepth 100000 in
theorem ml_RX6_160 : Cond.methodLink RX6 160 yX6_plain ∈ jBG := jBG_of 1053 (by decide +kernel) (by decide +kernel)
set_option maxRecDepth 100000 in
theorem yv_X6_plain : jYV md_X6_plain 1 6 := ⟨⟨jBG_of 1056 (by decide +kernel) (by decide +kernel), jBG_of 95 (by decide +kernel) (by decide +kernel), by decide +kernel, by decide +kernel, by decide +kernel⟩, jBG_of 1055 (by decide +kernel) (by decide +kernel), jBG_of 56 (by decide +kernel) (by decide +kernel), TX6, 28, rfl⟩
set_option maxRecDepth 100000 in
theorem ml_RX6_163 : Cond.methodLink RX6 163 yX6_foe ∈ jBG := jBG_of 1037 (by decide +kernel) (by decide +kernel)
set_option maxRecDepth 100000 in
theorem yv_X6_foe : jYV md_X6_foe 1 6 := ⟨⟨jBG_of 1040 (by decide +kernel) (by decide +kernel), jBG_of 95 (by decide +kernel) (by decide +kernel), by decide +kernel, by decide +kernel, by decide +kernel⟩, jBG_of 1039 (by decide +kernel) (by decide +kernel), jBG_of 53 (by decide +kernel) (by decide +kernel), TX6, 28, rfl⟩
set_option maxRecDepth 100000 in
theorem ml_RX6_166 : Cond.methodLink RX6 166 yX6_strengthOf ∈ jBG := jBG_of 1061 (by decide +kernel) (by decide +kernel)
set_option maxRecDepth 100000 in
theorem yv_X6_strengthOf : jYV md_X6_strengthOf 2 6 := ⟨⟨jBG_of 1064 (by decide +kernel) (by decide +kernel), jBG_of 95 (by decide +kernel) (by decide +kernel), by decide +kernel, by decide +kernel, by decide +kernel⟩, jBG_of 1063 (by decide +kernel) (by decide +kernel), jBG_of 58 (by decide +kernel) (by decide +kernel), TX6, 28, rfl⟩
set_option maxRecDepth 100000 in
theorem sw_X6_toldOf_1 : decode md_X6_toldOf.2.1 1 = .ok (.tableswitch 114 0 7 #[47, 54, 61, 68, 74, 80, 90, 100], 47) := by decide +kernel
set_option maxRecDepth 100000 in
theorem ml_RX6_169 : Cond.methodLink RX6 169 yX6_isReached ∈ jBG := jBG_of 1041 (by decide +kernel) (by decide +kernel)
set_option maxRecDepth 100000 in
theorem yv_X6_isReached : jYV md_X6_isReached 1 6 := ⟨⟨jBG_of 1044 (by decide +kernel) (by decide +kernel), jBG_of 95 (by decide +kernel) (by decide +kernel), by decide +kernel, by decide +kernel, by decide +kernel⟩, jBG_of 1043 (by decide +kernel) (by decide +kernel), jBG_of 54 (by decide +kernel) (by decide +kernel), TX6, 28, rfl⟩
set_option maxRecDepth 100000 in
theorem lc_RX6_172 : Cond.constantLong RX6 172 8 ∈ jBG := jBG_of 1028 (by decide +kernel) (by decide +kernel)
set_option maxRecDepth 100000 in
theorem ml_RX6_174 : Cond.methodLink RX6 174 yX6_toldOf ∈ jBG := jBG_of 1029 (by decide +kernel) (by decide +kernel)
set_option maxRecDepth 100000 in
theorem yv_X6_toldOf : jYV md_X6_toldOf 2 6 := ⟨⟨jBG_of 1032 (by decide +kernel) (by decide +kernel), jBG_of 95 (by decide +kernel) (by decide +kernel), by decide +kernel, by decide +kernel, by decide +kernel⟩, jBG_of 1031 (by decide +kernel) (by decide +kernel), jBG_of 51 (by decide +kernel) (by decide +kernel), TX6, 28, rfl⟩
set_option maxRecDepth 100000 in
theorem ml_RX6_177 : Cond.methodLink RX6 177 yX6_isOf ∈ jBG := jBG_of 1049 (by decide +kernel) (by decide +kernel)
set_option maxRecDepth 100000 in
theorem yv_X6_isOf : jYV md_X6_isOf 2 6 := ⟨⟨jBG_of 1052 (by decide +kernel) (by decide +kernel), jBG_of 95 (by decide +kernel) (by decide +kernel), by decide +kernel, by decide +kernel, by decide +kernel⟩, jBG_of 1051 (by decide +kernel) (by decide +kernel), jBG_of 55 (by decide +kernel) (by decide +kernel), TX6, 28, rfl⟩
set_option maxRecDepth 100000 in
theorem sw_X6_mark_38 : decode md_X6_mark.2.1 38 = .ok (.tableswitch 58 1 4 #[30, 36, 42, 52], 30) := by decide +kernel
set_option maxRecDepth 100000 in
theorem ml_RX6_180 : Cond.methodLink RX6 180 yX6_saved ∈ jBG := jBG_of 1057 (by decide +kernel) (by decide +kernel)
set_option maxRecDepth 100000 in
theorem yv_X6_saved : jYV md_X6_saved 1 6 := ⟨⟨jBG_of 1060 (by decide +kernel) (by decide +kernel), jBG_of 95 (by decide +kernel) (by decide +kernel), by decide +kernel, by decide +kernel, by decide +kernel⟩, jBG_of 1059 (by decide +kernel) (by decide +kernel), jBG_of 57 (by decide +kernel) (by decide +kernel), TX6, 28, rfl⟩
set_option maxRecDepth 100000 in
theorem ml_RX6_183 : Cond.methodLink RX6 183 yX6_bits ∈ jBG := jBG_of 1065 (by decide +kernel) (by decide +kernel)
set_option maxRecDepth 100000 in
theorem ys_X6_bits : jYS md_X6_bits 1 := ⟨⟨jBG_of 1067 (by decide +kernel) (by decide +kernel), jBG_of 95 (by decide +kernel) (by decide +kernel), by decide +kernel, by decide +kernel, by decide +kernel⟩, jBG_of 1066 (by decide +kernel) (by decide +kernel)⟩
set_option maxRecDepth 100000 in
theorem ml_RX6_186 : Cond.methodLink RX6 186 yX6_weeksForNine ∈ jBG := jBG_of 1068 (by decide +kernel) (by decide +kernel)
set_option maxRecDepth 100000 in
theorem yv_X6_weeksForNine : jYV md_X6_weeksForNine 1 6 := ⟨⟨jBG_of 1071 (by decide +kernel) (by decide +kernel), jBG_of 95 (by decide +kernel) (by decide +kernel), by decide +kernel, by decide +kernel, by decide +kernel⟩, jBG_of 1070 (by decide +kernel) (by decide +kernel), jBG_of 59 (by decide +kernel) (by decide +kernel), TX6, 28, rfl⟩
set_option maxRecDepth 100000 in
theorem ml_RX6_189 : Cond.methodLink RX6 189 yX6_owes ∈ jBG := jBG_of 1072 (by decide +kernel) (by decide +kernel)
set_option maxRecDepth 100000 in
theorem yv_X6_owes : jYV md_X6_owes 2 6 := ⟨⟨jBG_of 1075 (by decide +kernel) (by decide +kernel), jBG_of 95 (by decide +kernel) (by decide +kernel), by decide +kernel, by decide +kernel, by decide +kernel⟩, jBG_of 1074 (by decide +kernel) (by decide +kernel), jBG_of 60 (by decide +kernel) (by decide +kernel), TX6, 28, rfl⟩
set_option maxRecDepth 100000 in
theorem ml_RX6_192 : Cond.methodLink RX6 192 yX6_areTwo ∈ jBG := jBG_of 1080 (by decide +kernel) (by decide +kernel)
set_option maxRecDepth 100000 in
theorem yv_X6_areTwo : jYV md_X6_areTwo 2 6 := ⟨⟨jBG_of 1083 (by decide +kernel) (by decide +kernel), jBG_of 95 (by decide +kernel) (by decide +kernel), by decide +kernel, by decide +kernel, by decide +kernel⟩, jBG_of 1082 (by decide +kernel) (by decide +kernel), jBG_of 61 (by decide +kernel) (by decide +kernel), TX6, 28, rfl⟩
set_option maxRecDepth 100000 in
theorem ml_RX6_195 : Cond.methodLink RX6 195 yX6_keepPast ∈ jBG := jBG_of 1097 (by decide +kernel) (by decide +kernel)
set_option maxRecDepth 100000 in
theorem yv_X6_keepPast : jYV md_X6_keepPast 0 6 := ⟨⟨jBG_of 1100 (by decide +kernel) (by decide +kernel), jBG_of 95 (by decide +kernel) (by decide +kernel), by decide +kernel, by decide +kernel, by decide +kernel⟩, jBG_of 1099 (by decide +kernel) (by decide +kernel), jBG_of 64 (by decide +kernel) (by decide +kernel), TX6, 28, rfl⟩
set_option maxRecDepth 100000 in
theorem fl_RX6_50 : jFL RX6 50 6 23 := ⟨RX6, TX6, 28, rfl, by decide, Or.inl (jBG_of 853 (by decide +kernel) (by decide +kernel))⟩
set_option maxRecDepth 100000 in
theorem lc_RX6_198 : Cond.constantLong RX6 198 2 ∈ jBG := jBG_of 1092 (by decide +kernel) (by decide +kernel)
set_option maxRecDepth 100000 in
theorem ml_RX6_200 : Cond.methodLink RX6 200 yX6_isWeek ∈ jBG := jBG_of 1088 (by decide +kernel) (by decide +kernel)
set_option maxRecDepth 100000 in
theorem yv_X6_isWeek : jYV md_X6_isWeek 1 6 := ⟨⟨jBG_of 1091 (by decide +kernel) (by decide +kernel), jBG_of 95 (by decide +kernel) (by decide +kernel), by decide +kernel, by decide +kernel, by decide +kernel⟩, jBG_of 1090 (by decide +kernel) (by decide +kernel), jBG_of 62 (by decide +kernel) (by decide +kernel), TX6, 28, rfl⟩
set_option maxRecDepth 100000 in
theorem ml_RX6_203 : Cond.methodLink RX6 203 yX6_pass ∈ jBG := jBG_of 1093 (by decide +kernel) (by decide +kernel)
set_option maxRecDepth 100000 in
theorem yv_X6_pass : jYV md_X6_pass 0 6 := ⟨⟨jBG_of 1096 (by decide +kernel) (by decide +kernel), jBG_of 95 (by decide +kernel) (by decide +kernel), by decide +kernel, by decide +kernel, by decide +kernel⟩, jBG_of 1095 (by decide +kernel) (by decide +kernel), jBG_of 63 (by decide +kernel) (by decide +kernel), TX6, 28, rfl⟩
set_option maxRecDepth 100000 in
theorem ml_RX6_206 : Cond.methodLink RX6 206 yX6_change ∈ jBG := jBG_of 1105 (by decide +kernel) (by decide +kernel)
set_option maxRecDepth 100000 in
theorem yv_X6_change : jYV md_X6_change 2 6 := ⟨⟨jBG_of 1108 (by decide +kernel) (by decide +kernel), jBG_of 95 (by decide +kernel) (by decide +kernel), by decide +kernel, by decide +kernel, by decide +kernel⟩, jBG_of 1107 (by decide +kernel) (by decide +kernel), jBG_of 65 (by decide +kernel) (by decide +kernel), TX6, 28, rfl⟩
set_option maxRecDepth 100000 in
theorem ml_RX6_209 : Cond.methodLink RX6 209 yX6_copyTown ∈ jBG := jBG_of 1117 (by decide +kernel) (by decide +kernel)
set_option maxRecDepth 100000 in
theorem yv_X6_copyTown : jYV md_X6_copyTown 2 6 := ⟨⟨jBG_of 1120 (by decide +kernel) (by decide +kernel), jBG_of 95 (by decide +kernel) (by decide +kernel), by decide +kernel, by decide +kernel, by decide +kernel⟩, jBG_of 1119 (by decide +kernel) (by decide +kernel), jBG_of 66 (by decide +kernel) (by decide +kernel), TX6, 28, rfl⟩
set_option maxRecDepth 100000 in
theorem ml_RX6_212 : Cond.methodLink RX6 212 yX6_ringOf ∈ jBG := jBG_of 1129 (by decide +kernel) (by decide +kernel)
set_option maxRecDepth 100000 in
theorem yv_X6_ringOf : jYV md_X6_ringOf 1 6 := ⟨⟨jBG_of 1132 (by decide +kernel) (by decide +kernel), jBG_of 95 (by decide +kernel) (by decide +kernel), by decide +kernel, by decide +kernel, by decide +kernel⟩, jBG_of 1131 (by decide +kernel) (by decide +kernel), jBG_of 67 (by decide +kernel) (by decide +kernel), TX6, 28, rfl⟩
set_option maxRecDepth 100000 in
theorem fl_RX6_66 : jFL RX6 66 6 11 := ⟨RX6, TX6, 28, rfl, by decide, Or.inl (jBG_of 841 (by decide +kernel) (by decide +kernel))⟩
set_option maxRecDepth 100000 in
theorem ml_RX6_215 : Cond.methodLink RX6 215 yX6_against ∈ jBG := jBG_of 1141 (by decide +kernel) (by decide +kernel)
set_option maxRecDepth 100000 in
theorem yv_X6_against : jYV md_X6_against 1 6 := ⟨⟨jBG_of 1144 (by decide +kernel) (by decide +kernel), jBG_of 95 (by decide +kernel) (by decide +kernel), by decide +kernel, by decide +kernel, by decide +kernel⟩, jBG_of 1143 (by decide +kernel) (by decide +kernel), jBG_of 68 (by decide +kernel) (by decide +kernel), TX6, 28, rfl⟩
set_option maxRecDepth 100000 in
theorem lc_RX6_218 : Cond.constantLong RX6 218 9 ∈ jBG := jBG_of 1149 (by decide +kernel) (by decide +kernel)
set_option maxRecDepth 100000 in
theorem ml_RX6_220 : Cond.methodLink RX6 220 yX6_weeksOf ∈ jBG := jBG_of 1150 (by decide +kernel) (by decide +kernel)
set_option maxRecDepth 100000 in
theorem yv_X6_weeksOf : jYV md_X6_weeksOf 3 6 := ⟨⟨jBG_of 1153 (by decide +kernel) (by decide +kernel), jBG_of 95 (by decide +kernel) (by decide +kernel), by decide +kernel, by decide +kernel, by decide +kernel⟩, jBG_of 1152 (by decide +kernel) (by decide +kernel), jBG_of 69 (by decide +kernel) (by decide +kernel), TX6, 28, rfl⟩
set_option maxRecDepth 100000 in
theorem lc_RX6_224 : Cond.constantLong RX6 224 30 ∈ jBG := jBG_of 1158 (by decide +kernel) (by decide +kernel)
set_option maxRecDepth 100000 in
theorem ml_RX6_226 : Cond.methodLink RX6 226 yX6_isReachedBy ∈ jBG := jBG_of 1163 (by decide +kernel) (by decide +kernel)
set_option maxRecDepth 100000 in
theorem yv_X6_isReachedBy : jYV md_X6_isReachedBy 3 6 := ⟨⟨jBG_of 1166 (by decide +kernel) (by decide +kernel), jBG_of 95 (by decide +kernel) (by decide +kernel), by decide +kernel, by decide +kernel, by decide +kernel⟩, jBG_of 1165 (by decide +kernel) (by decide +kernel), jBG_of 70 (by decide +kernel) (by decide +kernel), TX6, 28, rfl⟩
set_option maxRecDepth 100000 in
theorem ml_RX6_229 : Cond.methodLink RX6 229 yX6_wish ∈ jBG := jBG_of 1171 (by decide +kernel) (by decide +kernel)
set_option maxRecDepth 100000 in
theorem yv_X6_wish : jYV md_X6_wish 2 6 := ⟨⟨jBG_of 1174 (by decide +kernel) (by decide +kernel), jBG_of 95 (by decide +kernel) (by decide +kernel), by decide +kernel, by decide +kernel, by decide +kernel⟩, jBG_of 1173 (by decide +kernel) (by decide +kernel), jBG_of 71 (by decide +kernel) (by decide +kernel), TX6, 28, rfl⟩
set_option maxRecDepth 100000 in
theorem fl_RX6_53 : jFL RX6 53 6 24 := ⟨RX6, TX6, 28, rfl, by decide, Or.inl (jBG_of 854 (by decide +kernel) (by decide +kernel))⟩
set_option maxRecDepth 100000 in
theorem ml_RX6_232 : Cond.methodLink RX6 232 yX6_victimsNow ∈ jBG := jBG_of 1179 (by decide +kernel) (by decide +kernel)
set_option maxRecDepth 100000 in
theorem yv_X6_victimsNow : jYV md_X6_victimsNow 0 6 := ⟨⟨jBG_of 1182 (by decide +kernel) (by decide +kernel), jBG_of 95 (by decide +kernel) (by decide +kernel), by decide +kernel, by decide +kernel, by decide +kernel⟩, jBG_of 1181 (by decide +kernel) (by decide +kernel), jBG_of 72 (by decide +kernel) (by decide +kernel), TX6, 28, rfl⟩
set_option maxRecDepth 100000 in
theorem ml_RX6_235 : Cond.methodLink RX6 235 yX6_leftOf ∈ jBG := jBG_of 1183 (by decide +kernel) (by decide +kernel)
set_option maxRecDepth 100000 in
theorem yv_X6_leftOf : jYV md_X6_leftOf 1 6 := ⟨⟨jBG_of 1186 (by decide +kernel) (by decide +kernel), jBG_of 95 (by decide +kernel) (by decide +kernel), by decide +kernel, by decide +kernel, by decide +kernel⟩, jBG_of 1185 (by decide +kernel) (by decide +kernel), jBG_of 73 (by decide +kernel) (by decide +kernel), TX6, 28, rfl⟩
set_option maxRecDepth 100000 in
theorem ml_RX6_241 : Cond.methodLink RX6 241 yX6_nextTried ∈ jBG := jBG_of 1191 (by decide +kernel) (by decide +kernel)
set_option maxRecDepth 100000 in
theorem yv_X6_nextTried : jYV md_X6_nextTried 0 6 := ⟨⟨jBG_of 1194 (by decide +kernel) (by decide +kernel), jBG_of 95 (by decide +kernel) (by decide +kernel), by decide +kernel, by decide +kernel, by decide +kernel⟩, jBG_of 1193 (by decide +kernel) (by decide +kernel), jBG_of 75 (by decide +kernel) (by decide +kernel), TX6, 28, rfl⟩
set_option maxRecDepth 100000 in
theorem ml_RX6_238 : Cond.methodLink RX6 238 yX6_strengthsTried ∈ jBG := jBG_of 1187 (by decide +kernel) (by decide +kernel)
set_option maxRecDepth 100000 in
theorem yv_X6_strengthsTried : jYV md_X6_strengthsTried 0 6 := ⟨⟨jBG_of 1190 (by decide +kernel) (by decide +kernel), jBG_of 95 (by decide +kernel) (by decide +kernel), by decide +kernel, by decide +kernel, by decide +kernel⟩, jBG_of 1189 (by decide +kernel) (by decide +kernel), jBG_of 74 (by decide +kernel) (by decide +kernel), TX6, 28, rfl⟩
set_option maxRecDepth 100000 in
theorem ml_RX6_244 : Cond.methodLink RX6 244 yX6_isMap ∈ jBG := jBG_of 1199 (by decide +kernel) (by decide +kernel)
set_option maxRecDepth 100000 in
theorem yv_X6_isMap : jYV md_X6_isMap 1 6 := ⟨⟨jBG_of 1202 (by decide +kernel) (by decide +kernel), jBG_of 95 (by decide +kernel) (by decide +kernel), by decide +kernel, by decide +kernel, by decide +kernel⟩, jBG_of 1201 (by decide +kernel) (by decide +kernel), jBG_of 76 (by decide +kernel) (by decide +kernel), TX6, 28, rfl⟩
set_option maxRecDepth 100000 in
theorem fp_RX6_247 (nm : String) : jFP RX6 nm 247 6 26 .int := ⟨RX6, TX6, 28, rfl, by decide, by decide +kernel, Or.inl ⟨rfl, Or.inl (jBG_of 856 (by decide +kernel) (by decide +kernel))⟩⟩
set_option maxRecDepth 100000 in
theorem fl_RX6_56 : jFL RX6 56 6 25 := ⟨RX6, TX6, 28, rfl, by decide, Or.inl (jBG_of 855 (by decide +kernel) (by decide +kernel))⟩
set_option maxRecDepth 100000 in
theorem fl_RX6_247 : jFL RX6 247 6 26 := ⟨RX6, TX6, 28, rfl, by decide, Or.inl (jBG_of 856 (by decide +kernel) (by decide +kernel))⟩
set_option maxRecDepth 100000 in
theorem fp_RX6_250 (nm : String) : jFP RX6 nm 250 6 12 .long := ⟨RX6, TX6, 28, rfl, by decide, by decide +kernel, Or.inl ⟨rfl, Or.inl (jBG_of 842 (by decide +kernel) (by decide +kernel))⟩⟩
set_option maxRecDepth 100000 in
theorem ml_RX6_253 : Cond.methodLink RX6 253 yX6_layMaps ∈ jBG := jBG_of 1207 (by decide +kernel) (by decide +kernel)
set_option maxRecDepth 100000 in
theorem yv_X6_layMaps : jYV md_X6_layMaps 1 6 := ⟨⟨jBG_of 1210 (by decide +kernel) (by decide +kernel), jBG_of 95 (by decide +kernel) (by decide +kernel), by decide +kernel, by decide +kernel, by decide +kernel⟩, jBG_of 1209 (by decide +kernel) (by decide +kernel), jBG_of 77 (by decide +kernel) (by decide +kernel), TX6, 28, rfl⟩
set_option maxRecDepth 100000 in
theorem ml_RX6_257 : Cond.methodLink RX6 257 yX6_tellMany ∈ jBG := jBG_of 1211 (by decide +kernel) (by decide +kernel)
set_option maxRecDepth 100000 in
theorem yv_X6_tellMany : jYV md_X6_tellMany 1 6 := ⟨⟨jBG_of 1214 (by decide +kernel) (by decide +kernel), jBG_of 95 (by decide +kernel) (by decide +kernel), by decide +kernel, by decide +kernel, by decide +kernel⟩, jBG_of 1213 (by decide +kernel) (by decide +kernel), jBG_of 78 (by decide +kernel) (by decide +kernel), TX6, 28, rfl⟩
set_option maxRecDepth 100000 in
theorem ml_RX6_260 : Cond.methodLink RX6 260 yX6_of ∈ jBG := jBG_of 1219 (by decide +kernel) (by decide +kernel)
set_option maxRecDepth 100000 in
theorem ys_X6_of : jYS md_X6_of 2 := ⟨⟨jBG_of 1221 (by decide +kernel) (by decide +kernel), jBG_of 95 (by decide +kernel) (by decide +kernel), by decide +kernel, by decide +kernel, by decide +kernel⟩, jBG_of 1220 (by decide +kernel) (by decide +kernel)⟩
set_option maxRecDepth 100000 in
theorem ml_RX6_263 : Cond.methodLink RX6 263 yX6_tellParts ∈ jBG := jBG_of 1222 (by decide +kernel) (by decide +kernel)
set_option maxRecDepth 100000 in
theorem yv_X6_tellParts : jYV md_X6_tellParts 2 6 := ⟨⟨jBG_of 1225 (by decide +kernel) (by decide +kernel), jBG_of 95 (by decide +kernel) (by decide +kernel), by decide +kernel, by decide +kernel, by decide +kernel⟩, jBG_of 1224 (by decide +kernel) (by decide +kernel), jBG_of 79 (by decide +kernel) (by decide +kernel), TX6, 28, rfl⟩
set_option maxRecDepth 100000 in
theorem ml_RX6_267 : Cond.methodLink RX6 267 yX6_victimsOf ∈ jBG := jBG_of 1238 (by decide +kernel) (by decide +kernel)
set_option maxRecDepth 100000 in
theorem yv_X6_victimsOf : jYV md_X6_victimsOf 2 6 := ⟨⟨jBG_of 1241 (by decide +kernel) (by decide +kernel), jBG_of 95 (by decide +kernel) (by decide +kernel), by decide +kernel, by decide +kernel, by decide +kernel⟩, jBG_of 1240 (by decide +kernel) (by decide +kernel), jBG_of 81 (by decide +kernel) (by decide +kernel), TX6, 28, rfl⟩
set_option maxRecDepth 100000 in
theorem ml_RX6_270 : Cond.methodLink RX6 270 yX6_layFits ∈ jBG := jBG_of 1234 (by decide +kernel) (by decide +kernel)
set_option maxRecDepth 100000 in
theorem yv_X6_layFits : jYV md_X6_layFits 1 6 := ⟨⟨jBG_of 1237 (by decide +kernel) (by decide +kernel), jBG_of 95 (by decide +kernel) (by decide +kernel), by decide +kernel, by decide +kernel, by decide +kernel⟩, jBG_of 1236 (by decide +kernel) (by decide +kernel), jBG_of 80 (by decide +kernel) (by decide +kernel), TX6, 28, rfl⟩
set_option maxRecDepth 100000 in
theorem fl_RX6_59 : jFL RX6 59 6 27 := ⟨RX6, TX6, 28, rfl, by decide, Or.inl (jBG_of 857 (by decide +kernel) (by decide +kernel))⟩
set_option maxRecDepth 100000 in
theorem ml_RX6_273 : Cond.methodLink RX6 273 yX6_mostLeft ∈ jBG := jBG_of 1250 (by decide +kernel) (by decide +kernel)
set_option maxRecDepth 100000 in
theorem yv_X6_mostLeft : jYV md_X6_mostLeft 1 6 := ⟨⟨jBG_of 1253 (by decide +kernel) (by decide +kernel), jBG_of 95 (by decide +kernel) (by decide +kernel), by decide +kernel, by decide +kernel, by decide +kernel⟩, jBG_of 1252 (by decide +kernel) (by decide +kernel), jBG_of 82 (by decide +kernel) (by decide +kernel), TX6, 28, rfl⟩
set_option maxRecDepth 100000 in
theorem lc_RX6_276 : Cond.constantLong RX6 276 20 ∈ jBG := jBG_of 1258 (by decide +kernel) (by decide +kernel)
set_option maxRecDepth 100000 in
theorem lc_RX6_278 : Cond.constantLong RX6 278 2147483646 ∈ jBG := jBG_of 1259 (by decide +kernel) (by decide +kernel)
set_option maxRecDepth 100000 in
theorem lc_RX6_280 : Cond.constantLong RX6 280 48271 ∈ jBG := jBG_of 1260 (by decide +kernel) (by decide +kernel)
set_option maxRecDepth 100000 in
theorem lc_RX6_282 : Cond.constantLong RX6 282 2147483647 ∈ jBG := jBG_of 1261 (by decide +kernel) (by decide +kernel)
set_option maxRecDepth 100000 in
theorem lc_RX6_284 : Cond.constantLong RX6 284 4 ∈ jBG := jBG_of 1262 (by decide +kernel) (by decide +kernel)
set_option maxRecDepth 100000 in
theorem fl_RX6_250 : jFL RX6 250 6 12 := ⟨RX6, TX6, 28, rfl, by decide, Or.inl (jBG_of 842 (by decide +kernel) (by decide +kernel))⟩
set_option maxRecDepth 100000 in
theorem fl_RX6_37 : jFL RX6 37 6 13 := ⟨RX6, TX6, 28, rfl, by decide, Or.inl (jBG_of 843 (by decide +kernel) (by decide +kernel))⟩
set_option maxRecDepth 100000 in
theorem sw_X6_countOf_1 : decode md_X6_countOf.2.1 1 = .ok (.tableswitch 91 0 6 #[43, 48, 56, 61, 68, 79, 86], 43) := by decide +kernel
set_option maxRecDepth 100000 in
theorem fl_RX6_151 : jFL RX6 151 6 6 := ⟨RX6, TX6, 28, rfl, by decide, Or.inl (jBG_of 836 (by decide +kernel) (by decide +kernel))⟩
set_option maxRecDepth 100000 in
theorem ml_RX6_286 : Cond.methodLink RX6 286 yX6_sumFrom ∈ jBG := jBG_of 1283 (by decide +kernel) (by decide +kernel)
set_option maxRecDepth 100000 in
theorem yv_X6_sumFrom : jYV md_X6_sumFrom 1 6 := ⟨⟨jBG_of 1286 (by decide +kernel) (by decide +kernel), jBG_of 95 (by decide +kernel) (by decide +kernel), by decide +kernel, by decide +kernel, by decide +kernel⟩, jBG_of 1285 (by decide +kernel) (by decide +kernel), jBG_of 84 (by decide +kernel) (by decide +kernel), TX6, 28, rfl⟩
set_option maxRecDepth 100000 in
theorem ml_RX6_289 : Cond.methodLink RX6 289 yX6_zealots ∈ jBG := jBG_of 1287 (by decide +kernel) (by decide +kernel)
set_option maxRecDepth 100000 in
theorem yv_X6_zealots : jYV md_X6_zealots 0 6 := ⟨⟨jBG_of 1290 (by decide +kernel) (by decide +kernel), jBG_of 95 (by decide +kernel) (by decide +kernel), by decide +kernel, by decide +kernel, by decide +kernel⟩, jBG_of 1289 (by decide +kernel) (by decide +kernel), jBG_of 85 (by decide +kernel) (by decide +kernel), TX6, 28, rfl⟩
set_option maxRecDepth 100000 in
theorem ml_RX6_292 : Cond.methodLink RX6 292 yX6_thereOf ∈ jBG := jBG_of 1291 (by decide +kernel) (by decide +kernel)
set_option maxRecDepth 100000 in
theorem yv_X6_thereOf : jYV md_X6_thereOf 1 6 := ⟨⟨jBG_of 1294 (by decide +kernel) (by decide +kernel), jBG_of 95 (by decide +kernel) (by decide +kernel), by decide +kernel, by decide +kernel, by decide +kernel⟩, jBG_of 1293 (by decide +kernel) (by decide +kernel), jBG_of 86 (by decide +kernel) (by decide +kernel), TX6, 28, rfl⟩
set_option maxRecDepth 100000 in
theorem ml_RX6_295 : Cond.methodLink RX6 295 yX6_countOf ∈ jBG := jBG_of 1279 (by decide +kernel) (by decide +kernel)
set_option maxRecDepth 100000 in
theorem yv_X6_countOf : jYV md_X6_countOf 1 6 := ⟨⟨jBG_of 1282 (by decide +kernel) (by decide +kernel), jBG_of 95 (by decide +kernel) (by decide +kernel), by decide +kernel, by decide +kernel, by decide +kernel⟩, jBG_of 1281 (by decide +kernel) (by decide +kernel), jBG_of 83 (by decide +kernel) (by decide +kernel), TX6, 28, rfl⟩
set_option maxRecDepth 100000 in
theorem fl_RX6_62 : jFL RX6 62 6 14 := ⟨RX6, TX6, 28, rfl, by decide, Or.inl (jBG_of 844 (by decide +kernel) (by decide +kernel))⟩
set_option maxRecDepth 100000 in
theorem lc_RX6_298 : Cond.constantLong RX6 298 17 ∈ jBG := jBG_of 1307 (by decide +kernel) (by decide +kernel)
set_option maxRecDepth 100000 in
theorem lc_RX6_300 : Cond.constantLong RX6 300 31 ∈ jBG := jBG_of 1308 (by decide +kernel) (by decide +kernel)
