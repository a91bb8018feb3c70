set_option maxRecDepth 100000 in
theorem ml_RX5_175 : Cond.methodLink RX5 175 yX5_passWeek ∈ jBG := jBG_of 544 (by decide +kernel) (by decide +kernel)
set_option maxRecDepth 100000 in
theorem yv_X5_passWeek : jYV md_X5_passWeek 0 5 := ⟨⟨jBG_of 547 (by decide +kernel) (by decide +kernel), jBG_of 88 (by decide +kernel) (by decide +kernel), by decide +kernel, by decide +kernel, by decide +kernel⟩, jBG_of 546 (by decide +kernel) (by decide +kernel), jBG_of 16 (by decide +kernel) (by decide +kernel), TX5, 14, rfl⟩
set_option maxRecDepth 100000 in
theorem ml_RX5_184 : Cond.methodLink RX5 184 yX4_setVictim ∈ jBG := jBG_of 571 (by decide +kernel) (by decide +kernel)
set_option maxRecDepth 100000 in
theorem ml_RX5_187 : Cond.methodLink RX5 187 yX4_backTo ∈ jBG := jBG_of 576 (by decide +kernel) (by decide +kernel)
set_option maxRecDepth 100000 in
theorem yv_X4_backTo : jYV md_X4_backTo 1 4 := ⟨⟨jBG_of 579 (by decide +kernel) (by decide +kernel), jBG_of 90 (by decide +kernel) (by decide +kernel), by decide +kernel, by decide +kernel, by decide +kernel⟩, jBG_of 577 (by decide +kernel) (by decide +kernel), jBG_of 578 (by decide +kernel) (by decide +kernel), TX4, 5, rfl⟩
set_option maxRecDepth 100000 in
theorem ml_RX5_190 : Cond.methodLink RX5 190 yX5_shelfAt ∈ jBG := jBG_of 584 (by decide +kernel) (by decide +kernel)
set_option maxRecDepth 100000 in
theorem yv_X5_shelfAt : jYV md_X5_shelfAt 1 5 := ⟨⟨jBG_of 587 (by decide +kernel) (by decide +kernel), jBG_of 88 (by decide +kernel) (by decide +kernel), by decide +kernel, by decide +kernel, by decide +kernel⟩, jBG_of 586 (by decide +kernel) (by decide +kernel), jBG_of 19 (by decide +kernel) (by decide +kernel), TX5, 14, rfl⟩
set_option maxRecDepth 100000 in
theorem ml_RX5_194 : Cond.methodLink RX5 194 yX4_take ∈ jBG := jBG_of 588 (by decide +kernel) (by decide +kernel)
set_option maxRecDepth 100000 in
theorem yv_X4_take : jYV md_X4_take 1 4 := ⟨⟨jBG_of 591 (by decide +kernel) (by decide +kernel), jBG_of 90 (by decide +kernel) (by decide +kernel), by decide +kernel, by decide +kernel, by decide +kernel⟩, jBG_of 589 (by decide +kernel) (by decide +kernel), jBG_of 590 (by decide +kernel) (by decide +kernel), TX4, 5, rfl⟩
set_option maxRecDepth 100000 in
theorem fl_RX5_123 : jFL RX5 123 4 4 := ⟨RX4, TX4, 5, rfl, by decide, Or.inr ⟨"EnemyByLot", List.mem_of_getElem? (i := 131) (by decide +kernel)⟩⟩
set_option maxRecDepth 100000 in
theorem ml_RX5_200 : Cond.methodLink RX5 200 yX5_ringOf ∈ jBG := jBG_of 600 (by decide +kernel) (by decide +kernel)
set_option maxRecDepth 100000 in
theorem yv_X5_ringOf : jYV md_X5_ringOf 1 5 := ⟨⟨jBG_of 603 (by decide +kernel) (by decide +kernel), jBG_of 88 (by decide +kernel) (by decide +kernel), by decide +kernel, by decide +kernel, by decide +kernel⟩, jBG_of 602 (by decide +kernel) (by decide +kernel), jBG_of 20 (by decide +kernel) (by decide +kernel), TX5, 14, rfl⟩
set_option maxRecDepth 100000 in
theorem ml_RX5_209 : Cond.methodLink RX5 209 yX5_lossOf ∈ jBG := jBG_of 612 (by decide +kernel) (by decide +kernel)
set_option maxRecDepth 100000 in
theorem yv_X5_lossOf : jYV md_X5_lossOf 1 5 := ⟨⟨jBG_of 615 (by decide +kernel) (by decide +kernel), jBG_of 88 (by decide +kernel) (by decide +kernel), by decide +kernel, by decide +kernel, by decide +kernel⟩, jBG_of 614 (by decide +kernel) (by decide +kernel), jBG_of 21 (by decide +kernel) (by decide +kernel), TX5, 14, rfl⟩
set_option maxRecDepth 100000 in
theorem ml_RX5_354 : Cond.methodLink RX5 354 yX5_afterWeek ∈ jBG := jBG_of 624 (by decide +kernel) (by decide +kernel)
set_option maxRecDepth 100000 in
theorem ys_X5_afterWeek : jYS md_X5_afterWeek 2 := ⟨⟨jBG_of 626 (by decide +kernel) (by decide +kernel), jBG_of 88 (by decide +kernel) (by decide +kernel), by decide +kernel, by decide +kernel, by decide +kernel⟩, jBG_of 625 (by decide +kernel) (by decide +kernel)⟩
set_option maxRecDepth 100000 in
theorem ml_RX5_212 : Cond.methodLink RX5 212 yX5_fewestWeeks ∈ jBG := jBG_of 620 (by decide +kernel) (by decide +kernel)
set_option maxRecDepth 100000 in
theorem yv_X5_fewestWeeks : jYV md_X5_fewestWeeks 2 5 := ⟨⟨jBG_of 623 (by decide +kernel) (by decide +kernel), jBG_of 88 (by decide +kernel) (by decide +kernel), by decide +kernel, by decide +kernel, by decide +kernel⟩, jBG_of 622 (by decide +kernel) (by decide +kernel), jBG_of 22 (by decide +kernel) (by decide +kernel), TX5, 14, rfl⟩
set_option maxRecDepth 100000 in
theorem ml_RX5_215 : Cond.methodLink RX5 215 yX5_reachesThrough ∈ jBG := jBG_of 635 (by decide +kernel) (by decide +kernel)
set_option maxRecDepth 100000 in
theorem yv_X5_reachesThrough : jYV md_X5_reachesThrough 3 5 := ⟨⟨jBG_of 638 (by decide +kernel) (by decide +kernel), jBG_of 88 (by decide +kernel) (by decide +kernel), by decide +kernel, by decide +kernel, by decide +kernel⟩, jBG_of 637 (by decide +kernel) (by decide +kernel), jBG_of 23 (by decide +kernel) (by decide +kernel), TX5, 14, rfl⟩
set_option maxRecDepth 100000 in
theorem ml_RX5_219 : Cond.methodLink RX5 219 yX5_isWish ∈ jBG := jBG_of 643 (by decide +kernel) (by decide +kernel)
set_option maxRecDepth 100000 in
theorem yv_X5_isWish : jYV md_X5_isWish 2 5 := ⟨⟨jBG_of 646 (by decide +kernel) (by decide +kernel), jBG_of 88 (by decide +kernel) (by decide +kernel), by decide +kernel, by decide +kernel, by decide +kernel⟩, jBG_of 645 (by decide +kernel) (by decide +kernel), jBG_of 24 (by decide +kernel) (by decide +kernel), TX5, 14, rfl⟩
set_option maxRecDepth 100000 in
theorem fl_RX5_39 : jFL RX5 39 5 5 := ⟨RX5, TX5, 14, rfl, by decide, Or.inl (jBG_of 246 (by decide +kernel) (by decide +kernel))⟩
set_option maxRecDepth 100000 in
theorem ml_RX5_235 : Cond.methodLink RX5 235 yX0_victimIn ∈ jBG := jBG_of 673 (by decide +kernel) (by decide +kernel)
set_option maxRecDepth 100000 in
theorem ml_RX5_222 : Cond.methodLink RX5 222 yX4_victimSet ∈ jBG := jBG_of 651 (by decide +kernel) (by decide +kernel)
set_option maxRecDepth 100000 in
theorem yv_X4_victimSet : jYV md_X4_victimSet 0 4 := ⟨⟨jBG_of 654 (by decide +kernel) (by decide +kernel), jBG_of 90 (by decide +kernel) (by decide +kernel), by decide +kernel, by decide +kernel, by decide +kernel⟩, jBG_of 652 (by decide +kernel) (by decide +kernel), jBG_of 653 (by decide +kernel) (by decide +kernel), TX4, 5, rfl⟩
set_option maxRecDepth 100000 in
theorem ml_RX5_225 : Cond.methodLink RX5 225 yX0_seek ∈ jBG := jBG_of 655 (by decide +kernel) (by decide +kernel)
set_option maxRecDepth 100000 in
theorem yv_X0_seek : jYV md_X0_seek 3 0 := ⟨⟨jBG_of 658 (by decide +kernel) (by decide +kernel), jBG_of 91 (by decide +kernel) (by decide +kernel), by decide +kernel, by decide +kernel, by decide +kernel⟩, jBG_of 656 (by decide +kernel) (by decide +kernel), jBG_of 657 (by decide +kernel) (by decide +kernel), TX0, 5, rfl⟩
set_option maxRecDepth 100000 in
theorem ml_RX5_229 : Cond.methodLink RX5 229 yX5_strengthsIn ∈ jBG := jBG_of 669 (by decide +kernel) (by decide +kernel)
set_option maxRecDepth 100000 in
theorem yv_X5_strengthsIn : jYV md_X5_strengthsIn 1 5 := ⟨⟨jBG_of 672 (by decide +kernel) (by decide +kernel), jBG_of 88 (by decide +kernel) (by decide +kernel), by decide +kernel, by decide +kernel, by decide +kernel⟩, jBG_of 671 (by decide +kernel) (by decide +kernel), jBG_of 26 (by decide +kernel) (by decide +kernel), TX5, 14, rfl⟩
set_option maxRecDepth 100000 in
theorem fl_RX5_232 : jFL RX5 232 0 3 := ⟨RX0, TX0, 5, rfl, by decide, Or.inr ⟨"EnemyByLot", List.mem_of_getElem? (i := 154) (by decide +kernel)⟩⟩
set_option maxRecDepth 100000 in
theorem ml_RX5_238 : Cond.methodLink RX5 238 yX5_isMapOfNow ∈ jBG := jBG_of 681 (by decide +kernel) (by decide +kernel)
set_option maxRecDepth 100000 in
theorem yv_X5_isMapOfNow : jYV md_X5_isMapOfNow 1 5 := ⟨⟨jBG_of 684 (by decide +kernel) (by decide +kernel), jBG_of 88 (by decide +kernel) (by decide +kernel), by decide +kernel, by decide +kernel, by decide +kernel⟩, jBG_of 683 (by decide +kernel) (by decide +kernel), jBG_of 27 (by decide +kernel) (by decide +kernel), TX5, 14, rfl⟩
set_option maxRecDepth 100000 in
theorem ml_RX5_357 : Cond.methodLink RX5 357 yX5_commonDivisor ∈ jBG := jBG_of 697 (by decide +kernel) (by decide +kernel)
set_option maxRecDepth 100000 in
theorem ys_X5_commonDivisor : jYS md_X5_commonDivisor 2 := ⟨⟨jBG_of 699 (by decide +kernel) (by decide +kernel), jBG_of 88 (by decide +kernel) (by decide +kernel), by decide +kernel, by decide +kernel, by decide +kernel⟩, jBG_of 698 (by decide +kernel) (by decide +kernel)⟩
set_option maxRecDepth 100000 in
theorem fp_RX5_279 (nm : String) : jFP RX5 nm 279 5 12 .long := ⟨RX5, TX5, 14, rfl, by decide, by decide +kernel, Or.inl ⟨rfl, Or.inl (jBG_of 253 (by decide +kernel) (by decide +kernel))⟩⟩
set_option maxRecDepth 100000 in
theorem ml_RX5_242 : Cond.methodLink RX5 242 yX1_everyone ∈ jBG := jBG_of 689 (by decide +kernel) (by decide +kernel)
set_option maxRecDepth 100000 in
theorem yv_X1_everyone : jYV md_X1_everyone 0 1 := ⟨⟨jBG_of 692 (by decide +kernel) (by decide +kernel), jBG_of 92 (by decide +kernel) (by decide +kernel), by decide +kernel, by decide +kernel, by decide +kernel⟩, jBG_of 690 (by decide +kernel) (by decide +kernel), jBG_of 691 (by decide +kernel) (by decide +kernel), TX1, 7, rfl⟩
set_option maxRecDepth 100000 in
theorem ml_RX5_245 : Cond.methodLink RX5 245 yX5_tell ∈ jBG := jBG_of 693 (by decide +kernel) (by decide +kernel)
set_option maxRecDepth 100000 in
theorem yv_X5_tell : jYV md_X5_tell 2 5 := ⟨⟨jBG_of 696 (by decide +kernel) (by decide +kernel), jBG_of 88 (by decide +kernel) (by decide +kernel), by decide +kernel, by decide +kernel, by decide +kernel⟩, jBG_of 695 (by decide +kernel) (by decide +kernel), jBG_of 28 (by decide +kernel) (by decide +kernel), TX5, 14, rfl⟩
set_option maxRecDepth 100000 in
theorem ml_RX5_249 : Cond.methodLink RX5 249 yX5_refuseDraw ∈ jBG := jBG_of 704 (by decide +kernel) (by decide +kernel)
set_option maxRecDepth 100000 in
theorem yv_X5_refuseDraw : jYV md_X5_refuseDraw 2 5 := ⟨⟨jBG_of 707 (by decide +kernel) (by decide +kernel), jBG_of 88 (by decide +kernel) (by decide +kernel), by decide +kernel, by decide +kernel, by decide +kernel⟩, jBG_of 706 (by decide +kernel) (by decide +kernel), jBG_of 29 (by decide +kernel) (by decide +kernel), TX5, 14, rfl⟩
set_option maxRecDepth 100000 in
theorem ml_RX5_252 : Cond.methodLink RX5 252 yX0_countPair ∈ jBG := jBG_of 708 (by decide +kernel) (by decide +kernel)
set_option maxRecDepth 100000 in
theorem yv_X0_countPair : jYV md_X0_countPair 2 0 := ⟨⟨jBG_of 711 (by decide +kernel) (by decide +kernel), jBG_of 91 (by decide +kernel) (by decide +kernel), by decide +kernel, by decide +kernel, by decide +kernel⟩, jBG_of 709 (by decide +kernel) (by decide +kernel), jBG_of 710 (by decide +kernel) (by decide +kernel), TX0, 5, rfl⟩
set_option maxRecDepth 100000 in
theorem ml_RX5_255 : Cond.methodLink RX5 255 yX0_countMutual ∈ jBG := jBG_of 717 (by decide +kernel) (by decide +kernel)
set_option maxRecDepth 100000 in
theorem yv_X0_countMutual : jYV md_X0_countMutual 2 0 := ⟨⟨jBG_of 720 (by decide +kernel) (by decide +kernel), jBG_of 91 (by decide +kernel) (by decide +kernel), by decide +kernel, by decide +kernel, by decide +kernel⟩, jBG_of 718 (by decide +kernel) (by decide +kernel), jBG_of 719 (by decide +kernel) (by decide +kernel), TX0, 5, rfl⟩
set_option maxRecDepth 100000 in
theorem ml_RX5_361 : Cond.methodLink RX5 361 yX0_retain ∈ jBG := jBG_of 733 (by decide +kernel) (by decide +kernel)
set_option maxRecDepth 100000 in
theorem yv_X0_retain : jYV md_X0_retain 2 0 := ⟨⟨jBG_of 736 (by decide +kernel) (by decide +kernel), jBG_of 91 (by decide +kernel) (by decide +kernel), by decide +kernel, by decide +kernel, by decide +kernel⟩, jBG_of 734 (by decide +kernel) (by decide +kernel), jBG_of 735 (by decide +kernel) (by decide +kernel), TX0, 5, rfl⟩
set_option maxRecDepth 100000 in
theorem ml_RX5_258 : Cond.methodLink RX5 258 yX5_refuseWeeks ∈ jBG := jBG_of 725 (by decide +kernel) (by decide +kernel)
set_option maxRecDepth 100000 in
theorem yv_X5_refuseWeeks : jYV md_X5_refuseWeeks 1 5 := ⟨⟨jBG_of 728 (by decide +kernel) (by decide +kernel), jBG_of 88 (by decide +kernel) (by decide +kernel), by decide +kernel, by decide +kernel, by decide +kernel⟩, jBG_of 727 (by decide +kernel) (by decide +kernel), jBG_of 30 (by decide +kernel) (by decide +kernel), TX5, 14, rfl⟩
set_option maxRecDepth 100000 in
theorem ml_RX5_261 : Cond.methodLink RX5 261 yX5_seekFits ∈ jBG := jBG_of 729 (by decide +kernel) (by decide +kernel)
set_option maxRecDepth 100000 in
theorem yv_X5_seekFits : jYV md_X5_seekFits 1 5 := ⟨⟨jBG_of 732 (by decide +kernel) (by decide +kernel), jBG_of 88 (by decide +kernel) (by decide +kernel), by decide +kernel, by decide +kernel, by decide +kernel⟩, jBG_of 731 (by decide +kernel) (by decide +kernel), jBG_of 31 (by decide +kernel) (by decide +kernel), TX5, 14, rfl⟩
set_option maxRecDepth 100000 in
theorem ml_RX5_265 : Cond.methodLink RX5 265 yX5_refuseFits ∈ jBG := jBG_of 745 (by decide +kernel) (by decide +kernel)
set_option maxRecDepth 100000 in
theorem yv_X5_refuseFits : jYV md_X5_refuseFits 1 5 := ⟨⟨jBG_of 748 (by decide +kernel) (by decide +kernel), jBG_of 88 (by decide +kernel) (by decide +kernel), by decide +kernel, by decide +kernel, by decide +kernel⟩, jBG_of 747 (by decide +kernel) (by decide +kernel), jBG_of 33 (by decide +kernel) (by decide +kernel), TX5, 14, rfl⟩
set_option maxRecDepth 100000 in
theorem ml_RX5_268 : Cond.methodLink RX5 268 yX0_mostAlike ∈ jBG := jBG_of 753 (by decide +kernel) (by decide +kernel)
set_option maxRecDepth 100000 in
theorem yv_X0_mostAlike : jYV md_X0_mostAlike 1 0 := ⟨⟨jBG_of 756 (by decide +kernel) (by decide +kernel), jBG_of 91 (by decide +kernel) (by decide +kernel), by decide +kernel, by decide +kernel, by decide +kernel⟩, jBG_of 754 (by decide +kernel) (by decide +kernel), jBG_of 755 (by decide +kernel) (by decide +kernel), TX0, 5, rfl⟩
set_option maxRecDepth 100000 in
theorem lc_RX5_350 : Cond.constantLong RX5 350 4 ∈ jBG := jBG_of 771 (by decide +kernel) (by decide +kernel)
set_option maxRecDepth 100000 in
theorem lc_RX5_352 : Cond.constantLong RX5 352 3 ∈ jBG := jBG_of 772 (by decide +kernel) (by decide +kernel)
set_option maxRecDepth 100000 in
theorem lc_RX5_271 : Cond.constantLong RX5 271 2147483647 ∈ jBG := jBG_of 765 (by decide +kernel) (by decide +kernel)
set_option maxRecDepth 100000 in
theorem lc_RX5_273 : Cond.constantLong RX5 273 48271 ∈ jBG := jBG_of 766 (by decide +kernel) (by decide +kernel)
set_option maxRecDepth 100000 in
theorem ml_RX5_275 : Cond.methodLink RX5 275 yX5_actByLot ∈ jBG := jBG_of 767 (by decide +kernel) (by decide +kernel)
set_option maxRecDepth 100000 in
theorem yv_X5_actByLot : jYV md_X5_actByLot 2 5 := ⟨⟨jBG_of 770 (by decide +kernel) (by decide +kernel), jBG_of 88 (by decide +kernel) (by decide +kernel), by decide +kernel, by decide +kernel, by decide +kernel⟩, jBG_of 769 (by decide +kernel) (by decide +kernel), jBG_of 34 (by decide +kernel) (by decide +kernel), TX5, 14, rfl⟩
set_option maxRecDepth 100000 in
theorem fl_RX5_90 : jFL RX5 90 5 11 := ⟨RX5, TX5, 14, rfl, by decide, Or.inl (jBG_of 252 (by decide +kernel) (by decide +kernel))⟩
set_option maxRecDepth 100000 in
theorem fl_RX5_279 : jFL RX5 279 5 12 := ⟨RX5, TX5, 14, rfl, by decide, Or.inl (jBG_of 253 (by decide +kernel) (by decide +kernel))⟩
set_option maxRecDepth 100000 in
theorem fl_RX5_67 : jFL RX5 67 5 13 := ⟨RX5, TX5, 14, rfl, by decide, Or.inl (jBG_of 254 (by decide +kernel) (by decide +kernel))⟩
set_option maxRecDepth 100000 in
theorem sw_X5_count_1 : decode md_X5_count.2.1 1 = .ok (.tableswitch 129 0 9 #[55, 63, 74, 82, 90, 98, 103, 108, 116, 124], 55) := by decide +kernel
set_option maxRecDepth 100000 in
theorem fl_RX5_282 : jFL RX5 282 1 6 := ⟨RX1, TX1, 7, rfl, by decide, Or.inr ⟨"EnemyByLot", List.mem_of_getElem? (i := 184) (by decide +kernel)⟩⟩
set_option maxRecDepth 100000 in
theorem ml_RX5_288 : Cond.methodLink RX5 288 yX5_allFines ∈ jBG := jBG_of 789 (by decide +kernel) (by decide +kernel)
set_option maxRecDepth 100000 in
theorem yv_X5_allFines : jYV md_X5_allFines 0 5 := ⟨⟨jBG_of 792 (by decide +kernel) (by decide +kernel), jBG_of 88 (by decide +kernel) (by decide +kernel), by decide +kernel, by decide +kernel, by decide +kernel⟩, jBG_of 791 (by decide +kernel) (by decide +kernel), jBG_of 35 (by decide +kernel) (by decide +kernel), TX5, 14, rfl⟩
set_option maxRecDepth 100000 in
theorem ml_RX5_291 : Cond.methodLink RX5 291 yX5_zealots ∈ jBG := jBG_of 793 (by decide +kernel) (by decide +kernel)
set_option maxRecDepth 100000 in
theorem yv_X5_zealots : jYV md_X5_zealots 0 5 := ⟨⟨jBG_of 796 (by decide +kernel) (by decide +kernel), jBG_of 88 (by decide +kernel) (by decide +kernel), by decide +kernel, by decide +kernel, by decide +kernel⟩, jBG_of 795 (by decide +kernel) (by decide +kernel), jBG_of 36 (by decide +kernel) (by decide +kernel), TX5, 14, rfl⟩
set_option maxRecDepth 100000 in
theorem ml_RX5_294 : Cond.methodLink RX5 294 yX5_present ∈ jBG := jBG_of 797 (by decide +kernel) (by decide +kernel)
set_option maxRecDepth 100000 in
theorem ys_X5_present : jYS md_X5_present 1 := ⟨⟨jBG_of 799 (by decide +kernel) (by decide +kernel), jBG_of 88 (by decide +kernel) (by decide +kernel), by decide +kernel, by decide +kernel, by decide +kernel⟩, jBG_of 798 (by decide +kernel) (by decide +kernel)⟩
set_option maxRecDepth 100000 in
theorem ml_RX5_298 : Cond.methodLink RX5 298 yX5_keptTowns ∈ jBG := jBG_of 800 (by decide +kernel) (by decide +kernel)
set_option maxRecDepth 100000 in
theorem yv_X5_keptTowns : jYV md_X5_keptTowns 0 5 := ⟨⟨jBG_of 803 (by decide +kernel) (by decide +kernel), jBG_of 88 (by decide +kernel) (by decide +kernel), by decide +kernel, by decide +kernel, by decide +kernel⟩, jBG_of 802 (by decide +kernel) (by decide +kernel), jBG_of 37 (by decide +kernel) (by decide +kernel), TX5, 14, rfl⟩
set_option maxRecDepth 100000 in
theorem fl_RX5_301 : jFL RX5 301 5 10 := ⟨RX5, TX5, 14, rfl, by decide, Or.inl (jBG_of 251 (by decide +kernel) (by decide +kernel))⟩
set_option maxRecDepth 100000 in
theorem lc_RX5_304 : Cond.constantLong RX5 304 17 ∈ jBG := jBG_of 816 (by decide +kernel) (by decide +kernel)
set_option maxRecDepth 100000 in
theorem lc_RX5_306 : Cond.constantLong RX5 306 31 ∈ jBG := jBG_of 817 (by decide +kernel) (by decide +kernel)
set_option maxRecDepth 100000 in
theorem ml_RX5_308 : Cond.methodLink RX5 308 yX5_count ∈ jBG := jBG_of 818 (by decide +kernel) (by decide +kernel)
set_option maxRecDepth 100000 in
theorem yv_X5_count : jYV md_X5_count 1 5 := ⟨⟨jBG_of 788 (by decide +kernel) (by decide +kernel), jBG_of 88 (by decide +kernel) (by decide +kernel), by decide +kernel, by decide +kernel, by decide +kernel⟩, jBG_of 786 (by decide +kernel) (by decide +kernel), jBG_of 787 (by decide +kernel) (by decide +kernel), TX5, 14, rfl⟩
set_option maxRecDepth 100000 in
theorem ml_RX5_311 : Cond.methodLink RX5 311 yX2_mixInto ∈ jBG := jBG_of 819 (by decide +kernel) (by decide +kernel)
set_option maxRecDepth 100000 in
theorem yv_X2_mixInto : jYV md_X2_mixInto 1 2 := ⟨⟨jBG_of 822 (by decide +kernel) (by decide +kernel), jBG_of 93 (by decide +kernel) (by decide +kernel), by decide +kernel, by decide +kernel, by decide +kernel⟩, jBG_of 820 (by decide +kernel) (by decide +kernel), jBG_of 821 (by decide +kernel) (by decide +kernel), TX2, 2, rfl⟩
set_option maxRecDepth 100000 in
theorem mo_RX6_1 : Cond.methodLink RX6 1 Lib.objectInit ∈ jBG := jBG_of 829 (by decide +kernel) (by decide +kernel)
set_option maxRecDepth 100000 in
theorem fp_RX6_7_i : jFP RX6 "<init>" 7 6 0 (.array .int) := ⟨RX6, TX6, 28, rfl, by decide, by decide +kernel, Or.inr ⟨rfl, rfl, rfl, jBG_of 830 (by decide +kernel) (by decide +kernel)⟩⟩
set_option maxRecDepth 100000 in
theorem fp_RX6_13_i : jFP RX6 "<init>" 13 6 2 (.array .int) := ⟨RX6, TX6, 28, rfl, by decide, by decide +kernel, Or.inr ⟨rfl, rfl, rfl, jBG_of 832 (by decide +kernel) (by decide +kernel)⟩⟩
set_option maxRecDepth 100000 in
theorem fp_RX6_16_i : jFP RX6 "<init>" 16 6 3 (.array .int) := ⟨RX6, TX6, 28, rfl, by decide, by decide +kernel, Or.inr ⟨rfl, rfl, rfl, jBG_of 833 (by decide +kernel) (by decide +kernel)⟩⟩
set_option maxRecDepth 100000 in
theorem fp_RX6_19_i : jFP RX6 "<init>" 19 6 4 (.array .int) := ⟨RX6, TX6, 28, rfl, by decide, by decide +kernel, Or.inr ⟨rfl, rfl, rfl, jBG_of 834 (by decide +kernel) (by decide +kernel)⟩⟩
set_option maxRecDepth 100000 in
theorem fp_RX6_22_i : jFP RX6 "<init>" 22 6 5 (.array .int) := ⟨RX6, TX6, 28, rfl, by decide, by decide +kernel, Or.inr ⟨rfl, rfl, rfl, jBG_of 835 (by decide +kernel) (by decide +kernel)⟩⟩
set_option maxRecDepth 100000 in
theorem fp_RX6_25_i : jFP RX6 "<init>" 25 6 7 (.array .int) := ⟨RX6, TX6, 28, rfl, by decide, by decide +kernel, Or.inr ⟨rfl, rfl, rfl, jBG_of 837 (by decide +kernel) (by decide +kernel)⟩⟩
set_option maxRecDepth 100000 in
theorem fp_RX6_28_i : jFP RX6 "<init>" 28 6 8 (.array .int) := ⟨RX6, TX6, 28, rfl, by decide, by decide +kernel, Or.inr ⟨rfl, rfl, rfl, jBG_of 838 (by decide +kernel) (by decide +kernel)⟩⟩
set_option maxRecDepth 100000 in
theorem fp_RX6_31_i : jFP RX6 "<init>" 31 6 9 (.array .int) := ⟨RX6, TX6, 28, rfl, by decide, by decide +kernel, Or.inr ⟨rfl, rfl, rfl, jBG_of 839 (by decide +kernel) (by decide +kernel)⟩⟩
set_option maxRecDepth 100000 in
theorem fp_RX6_34_i : jFP RX6 "<init>" 34 6 10 (.array .int) := ⟨RX6, TX6, 28, rfl, by decide, by decide +kernel, Or.inr ⟨rfl, rfl, rfl, jBG_of 840 (by decide +kernel) (by decide +kernel)⟩⟩
set_option maxRecDepth 100000 in
theorem fp_RX6_37 (nm : String) : jFP RX6 nm 37 6 13 .long := ⟨RX6, TX6, 28, rfl, by decide, by decide +kernel, Or.inl ⟨rfl, Or.inl (jBG_of 843 (by decide +kernel) (by decide +kernel))⟩⟩
set_option maxRecDepth 100000 in
theorem fp_RX6_41_i : jFP RX6 "<init>" 41 6 15 (.array .int) := ⟨RX6, TX6, 28, rfl, by decide, by decide +kernel, Or.inr ⟨rfl, rfl, rfl, jBG_of 845 (by decide +kernel) (by decide +kernel)⟩⟩
set_option maxRecDepth 100000 in
theorem fp_RX6_44_i : jFP RX6 "<init>" 44 6 19 (.array .int) := ⟨RX6, TX6, 28, rfl, by decide, by decide +kernel, Or.inr ⟨rfl, rfl, rfl, jBG_of 849 (by decide +kernel) (by decide +kernel)⟩⟩
set_option maxRecDepth 100000 in
theorem fp_RX6_47_i : jFP RX6 "<init>" 47 6 21 (.array .int) := ⟨RX6, TX6, 28, rfl, by decide, by decide +kernel, Or.inr ⟨rfl, rfl, rfl, jBG_of 851 (by decide +kernel) (by decide +kernel)⟩⟩
set_option maxRecDepth 100000 in
theorem fp_RX6_50_i : jFP RX6 "<init>" 50 6 23 (.array .int) := ⟨RX6, TX6, 28, rfl, by decide, by decide +kernel, Or.inr ⟨rfl, rfl, rfl, jBG_of 853 (by decide +kernel) (by decide +kernel)⟩⟩
set_option maxRecDepth 100000 in
theorem fp_RX6_53_i : jFP RX6 "<init>" 53 6 24 (.array .int) := ⟨RX6, TX6, 28, rfl, by decide, by decide +kernel, Or.inr ⟨rfl, rfl, rfl, jBG_of 854 (by decide +kernel) (by decide +kernel)⟩⟩
set_option maxRecDepth 100000 in
theorem fp_RX6_56_i : jFP RX6 "<init>" 56 6 25 (.array .int) := ⟨RX6, TX6, 28, rfl, by decide, by decide +kernel, Or.inr ⟨rfl, rfl, rfl, jBG_of 855 (by decide +kernel) (by decide +kernel)⟩⟩
set_option maxRecDepth 100000 in
theorem fp_RX6_59_i : jFP RX6 "<init>" 59 6 27 (.array .int) := ⟨RX6, TX6, 28, rfl, by decide, by decide +kernel, Or.inr ⟨rfl, rfl, rfl, jBG_of 857 (by decide +kernel) (by decide +kernel)⟩⟩
set_option maxRecDepth 100000 in
theorem fl_RX6_7 : jFL RX6 7 6 0 := ⟨RX6, TX6, 28, rfl, by decide, Or.inl (jBG_of 830 (by decide +kernel) (by decide +kernel))⟩
set_option maxRecDepth 100000 in
theorem fp_RX6_62 (nm : String) : jFP RX6 nm 62 6 14 .int := ⟨RX6, TX6, 28, rfl, by decide, by decide +kernel, Or.inl ⟨rfl, Or.inl (jBG_of 844 (by decide +kernel) (by decide +kernel))⟩⟩
set_option maxRecDepth 100000 in
theorem fl_RX6_41 : jFL RX6 41 6 15 := ⟨RX6, TX6, 28, rfl, by decide, Or.inl (jBG_of 845 (by decide +kernel) (by decide +kernel))⟩
set_option maxRecDepth 100000 in
theorem fp_RX6_66 (nm : String) : jFP RX6 nm 66 6 11 .int := ⟨RX6, TX6, 28, rfl, by decide, by decide +kernel, Or.inl ⟨rfl, Or.inl (jBG_of 841 (by decide +kernel) (by decide +kernel))⟩⟩
set_option maxRecDepth 100000 in
theorem lc_RX6_69 : Cond.constantLong RX6 69 5 ∈ jBG := jBG_of 922 (by decide +kernel) (by decide +kernel)
set_option maxRecDepth 100000 in
theorem ml_RX6_71 : Cond.methodLink RX6 71 yX6_in ∈ jBG := jBG_of 923 (by decide +kernel) (by decide +kernel)
set_option maxRecDepth 100000 in
theorem ys_X6_in : jYS md_X6_in 3 := ⟨⟨jBG_of 925 (by decide +kernel) (by decide +kernel), jBG_of 95 (by decide +kernel) (by decide +kernel), by decide +kernel, by decide +kernel, by decide +kernel⟩, jBG_of 924 (by decide +kernel) (by decide +kernel)⟩
set_option maxRecDepth 100000 in
theorem lc_RX6_75 : Cond.constantLong RX6 75 3 ∈ jBG := jBG_of 973 (by decide +kernel) (by decide +kernel)
set_option maxRecDepth 100000 in
theorem fl_RX6_25 : jFL RX6 25 6 7 := ⟨RX6, TX6, 28, rfl, by decide, Or.inl (jBG_of 837 (by decide +kernel) (by decide +kernel))⟩
set_option maxRecDepth 100000 in
theorem fl_RX6_28 : jFL RX6 28 6 8 := ⟨RX6, TX6, 28, rfl, by decide, Or.inl (jBG_of 838 (by decide +kernel) (by decide +kernel))⟩
set_option maxRecDepth 100000 in
theorem ml_RX6_77 : Cond.methodLink RX6 77 yX6_isRow ∈ jBG := jBG_of 919 (by decide +kernel) (by decide +kernel)
set_option maxRecDepth 100000 in
theorem ys_X6_isRow : jYS md_X6_isRow 1 := ⟨⟨jBG_of 921 (by decide +kernel) (by decide +kernel), jBG_of 95 (by decide +kernel) (by decide +kernel), by decide +kernel, by decide +kernel, by decide +kernel⟩, jBG_of 920 (by decide +kernel) (by decide +kernel)⟩
set_option maxRecDepth 100000 in
theorem ml_RX6_85 : Cond.methodLink RX6 85 yX6_makeRow ∈ jBG := jBG_of 930 (by decide +kernel) (by decide +kernel)
set_option maxRecDepth 100000 in
theorem yv_X6_makeRow : jYV md_X6_makeRow 2 6 := ⟨⟨jBG_of 933 (by decide +kernel) (by decide +kernel), jBG_of 95 (by decide +kernel) (by decide +kernel), by decide +kernel, by decide +kernel, by decide +kernel⟩, jBG_of 932 (by decide +kernel) (by decide +kernel), jBG_of 39 (by decide +kernel) (by decide +kernel), TX6, 28, rfl⟩
set_option maxRecDepth 100000 in
theorem ml_RX6_81 : Cond.methodLink RX6 81 yX6_find ∈ jBG := jBG_of 926 (by decide +kernel) (by decide +kernel)
set_option maxRecDepth 100000 in
theorem yv_X6_find : jYV md_X6_find 1 6 := ⟨⟨jBG_of 929 (by decide +kernel) (by decide +kernel), jBG_of 95 (by decide +kernel) (by decide +kernel), by decide +kernel, by decide +kernel, by decide +kernel⟩, jBG_of 928 (by decide +kernel) (by decide +kernel), jBG_of 38 (by decide +kernel) (by decide +kernel), TX6, 28, rfl⟩
set_option maxRecDepth 100000 in
theorem ml_RX6_89 : Cond.methodLink RX6 89 yX6_refused ∈ jBG := jBG_of 938 (by decide +kernel) (by decide +kernel)
set_option maxRecDepth 100000 in
theorem yv_X6_refused : jYV md_X6_refused 2 6 := ⟨⟨jBG_of 941 (by decide +kernel) (by decide +kernel), jBG_of 95 (by decide +kernel) (by decide +kernel), by decide +kernel, by decide +kernel, by decide +kernel⟩, jBG_of 940 (by decide +kernel) (by decide +kernel), jBG_of 40 (by decide +kernel) (by decide +kernel), TX6, 28, rfl⟩
set_option maxRecDepth 100000 in
theorem ml_RX6_93 : Cond.methodLink RX6 93 yX6_tell ∈ jBG := jBG_of 942 (by decide +kernel) (by decide +kernel)
set_option maxRecDepth 100000 in
theorem yv_X6_tell : jYV md_X6_tell 1 6 := ⟨⟨jBG_of 945 (by decide +kernel) (by decide +kernel), jBG_of 95 (by decide +kernel) (by decide +kernel), by decide +kernel, by decide +kernel, by decide +kernel⟩, jBG_of 944 (by decide +kernel) (by decide +kernel), jBG_of 41 (by decide +kernel) (by decide +kernel), TX6, 28, rfl⟩
set_option maxRecDepth 100000 in
theorem ml_RX6_96 : Cond.methodLink RX6 96 yX6_isSpan ∈ jBG := jBG_of 958 (by decide +kernel) (by decide +kernel)
set_option maxRecDepth 100000 in
theorem yv_X6_isSpan : jYV md_X6_isSpan 3 6 := ⟨⟨jBG_of 961 (by decide +kernel) (by decide +kernel), jBG_of 95 (by decide +kernel) (by decide +kernel), by decide +kernel, by decide +kernel, by decide +kernel⟩, jBG_of 960 (by decide +kernel) (by decide +kernel), jBG_of 42 (by decide +kernel) (by decide +kernel), TX6, 28, rfl⟩
set_option maxRecDepth 100000 in
theorem ml_RX6_100 : Cond.methodLink RX6 100 yX6_isText ∈ jBG := jBG_of 970 (by decide +kernel) (by decide +kernel)
set_option maxRecDepth 100000 in
theorem ys_X6_isText : jYS md_X6_isText 1 := ⟨⟨jBG_of 972 (by decide +kernel) (by decide +kernel), jBG_of 95 (by decide +kernel) (by decide +kernel), by decide +kernel, by decide +kernel, by decide +kernel⟩, jBG_of 971 (by decide +kernel) (by decide +kernel)⟩
set_option maxRecDepth 100000 in
theorem fl_RX6_31 : jFL RX6 31 6 9 := ⟨RX6, TX6, 28, rfl, by decide, Or.inl (jBG_of 839 (by decide +kernel) (by decide +kernel))⟩
set_option maxRecDepth 100000 in
theorem fl_RX6_34 : jFL RX6 34 6 10 := ⟨RX6, TX6, 28, rfl, by decide, Or.inl (jBG_of 840 (by decide +kernel) (by decide +kernel))⟩
set_option maxRecDepth 100000 in
theorem fl_RX6_103 : jFL RX6 103 6 16 := ⟨RX6, TX6, 28, rfl, by decide, Or.inl (jBG_of 846 (by decide +kernel) (by decide +kernel))⟩
set_option maxRecDepth 100000 in
theorem fl_RX6_106 : jFL RX6 106 6 17 := ⟨RX6, TX6, 28, rfl, by decide, Or.inl (jBG_of 847 (by decide +kernel) (by decide +kernel))⟩
set_option maxRecDepth 100000 in
theorem fl_RX6_109 : jFL RX6 109 6 18 := ⟨RX6, TX6, 28, rfl, by decide, Or.inl (jBG_of 848 (by decide +kernel) (by decide +kernel))⟩
set_option maxRecDepth 100000 in
theorem ml_RX6_112 : Cond.methodLink RX6 112 yX6_here ∈ jBG := jBG_of 990 (by decide +kernel) (by decide +kernel)
set_option maxRecDepth 100000 in
theorem yv_X6_here : jYV md_X6_here 0 6 := ⟨⟨jBG_of 993 (by decide +kernel) (by decide +kernel), jBG_of 95 (by decide +kernel) (by decide +kernel), by decide +kernel, by decide +kernel, by decide +kernel⟩, jBG_of 992 (by decide +kernel) (by decide +kernel), jBG_of 45 (by decide +kernel) (by decide +kernel), TX6, 28, rfl⟩
set_option maxRecDepth 100000 in
theorem fp_RX6_106 (nm : String) : jFP RX6 nm 106 6 17 .int := ⟨RX6, TX6, 28, rfl, by decide, by decide +kernel, Or.inl ⟨rfl, Or.inl (jBG_of 847 (by decide +kernel) (by decide +kernel))⟩⟩
set_option maxRecDepth 100000 in
theorem ml_RX6_116 : Cond.methodLink RX6 116 yX6_kindOfLetter ∈ jBG := jBG_of 1009 (by decide +kernel) (by decide +kernel)
set_option maxRecDepth 100000 in
theorem ys_X6_kindOfLetter : jYS md_X6_kindOfLetter 1 := ⟨⟨jBG_of 1011 (by decide +kernel) (by decide +kernel), jBG_of 95 (by decide +kernel) (by decide +kernel), by decide +kernel, by decide +kernel, by decide +kernel⟩, jBG_of 1010 (by decide +kernel) (by decide +kernel)⟩
