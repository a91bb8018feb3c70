theorem ag_row {s : ST} (hI : Inv s) (a0 a1 : Int32) : ∃ (v : Int32) (s1 s2 : ST), f_X5_row (some 0) a0 a1 (HP s) = some (v, HP s1) ∧ f_X6_row (some 60) a0 a1 (HP s1) = some (v, HP s2) ∧ Inv s2 := by
  sorry
theorem ag_lay {s : ST} (hI : Inv s) (a0 a1 a2 : Int32) : ∃ (v : Int32) (s1 s2 : ST), f_X5_lay (some 0) a0 a1 a2 (HP s) = some (v, HP s1) ∧ f_X6_lay (some 60) a0 a1 a2 (HP s1) = some (v, HP s2) ∧ Inv s2 := by
  sorry
theorem ag_at {s : ST} (hI : Inv s) (a0 a1 : Int32) : ∃ (v : Int32) (s1 s2 : ST), f_X5_at (some 0) a0 a1 (HP s) = some (v, HP s1) ∧ f_X6_at (some 60) a0 a1 (HP s1) = some (v, HP s2) ∧ Inv s2 := by
  sorry
theorem ag_tear {s : ST} (hI : Inv s) (a0 : Int32) : ∃ (v : Int32) (s1 s2 : ST), f_X5_tear (some 0) a0 (HP s) = some (v, HP s1) ∧ f_X6_tear (some 60) a0 (HP s1) = some (v, HP s2) ∧ Inv s2 := by
  sorry
theorem ag_copy {s : ST} (hI : Inv s) (a0 a1 a2 a3 a4 : Int32) : ∃ (v : Int32) (s1 s2 : ST), f_X5_copy (some 0) a0 a1 a2 a3 a4 (HP s) = some (v, HP s1) ∧ f_X6_copy (some 60) a0 a1 a2 a3 a4 (HP s1) = some (v, HP s2) ∧ Inv s2 := by
  sorry
theorem ag_mean {s : ST} (hI : Inv s) (a0 : Int32) : ∃ (v : Int32) (s1 s2 : ST), f_X5_mean (some 0) a0 (HP s) = some (v, HP s1) ∧ f_X6_mean (some 60) a0 (HP s1) = some (v, HP s2) ∧ Inv s2 := by
  sorry
theorem ag_text {s : ST} (hI : Inv s) (a0 a1 : Int32) : ∃ (v : Int32) (s1 s2 : ST), f_X5_text (some 0) a0 a1 (HP s) = some (v, HP s1) ∧ f_X6_text (some 60) a0 a1 (HP s1) = some (v, HP s2) ∧ Inv s2 := by
  sorry
theorem ag_put {s : ST} (hI : Inv s) (a0 a1 a2 : Int32) : ∃ (v : Int32) (s1 s2 : ST), f_X5_put (some 0) a0 a1 a2 (HP s) = some (v, HP s1) ∧ f_X6_put (some 60) a0 a1 a2 (HP s1) = some (v, HP s2) ∧ Inv s2 := by
  sorry
theorem ag_fault {s : ST} (hI : Inv s) (a0 : Int32) : ∃ (v : Int32) (s1 s2 : ST), f_X5_fault (some 0) a0 (HP s) = some (v, HP s1) ∧ f_X6_fault (some 60) a0 (HP s1) = some (v, HP s2) ∧ Inv s2 := by
  sorry
theorem ag_town {s : ST} (hI : Inv s) (a0 : Int32) : ∃ (v : Int32) (s1 s2 : ST), f_X5_town (some 0) a0 (HP s) = some (v, HP s1) ∧ f_X6_town (some 60) a0 (HP s1) = some (v, HP s2) ∧ Inv s2 := by
  sorry
theorem ag_person {s : ST} (hI : Inv s) (a0 a1 : Int32) : ∃ (v : Int32) (s1 s2 : ST), f_X5_person (some 0) a0 a1 (HP s) = some (v, HP s1) ∧ f_X6_person (some 60) a0 a1 (HP s1) = some (v, HP s2) ∧ Inv s2 := by
  sorry
theorem ag_mark {s : ST} (hI : Inv s) (a0 a1 : Int32) : ∃ (v : Int32) (s1 s2 : ST), f_X5_mark (some 0) a0 a1 (HP s) = some (v, HP s1) ∧ f_X6_mark (some 60) a0 a1 (HP s1) = some (v, HP s2) ∧ Inv s2 := by
  sorry
theorem ag_strength {s : ST} (hI : Inv s) (a0 a1 : Int32) : ∃ (v : Int32) (s1 s2 : ST), f_X5_strength (some 0) a0 a1 (HP s) = some (v, HP s1) ∧ f_X6_strength (some 60) a0 a1 (HP s1) = some (v, HP s2) ∧ Inv s2 := by
  sorry
theorem ag_week {s : ST} (hI : Inv s) (a0 : Int32) : ∃ (v : Int32) (s1 s2 : ST), f_X5_week (some 0) a0 (HP s) = some (v, HP s1) ∧ f_X6_week (some 60) a0 (HP s1) = some (v, HP s2) ∧ Inv s2 := by
  sorry
theorem ag_exchange {s : ST} (hI : Inv s) (a0 a1 : Int32) : ∃ (v : Int32) (s1 s2 : ST), f_X5_exchange (some 0) a0 a1 (HP s) = some (v, HP s1) ∧ f_X6_exchange (some 60) a0 a1 (HP s1) = some (v, HP s2) ∧ Inv s2 := by
  sorry
theorem ag_undo {s : ST} (hI : Inv s) (a0 : Int32) : ∃ (v : Int32) (s1 s2 : ST), f_X5_undo (some 0) a0 (HP s) = some (v, HP s1) ∧ f_X6_undo (some 60) a0 (HP s1) = some (v, HP s2) ∧ Inv s2 := by
  sorry
theorem ag_keep {s : ST} (hI : Inv s) (a0 : Int32) : ∃ (v : Int32) (s1 s2 : ST), f_X5_keep (some 0) a0 (HP s) = some (v, HP s1) ∧ f_X6_keep (some 60) a0 (HP s1) = some (v, HP s2) ∧ Inv s2 := by
  sorry
theorem ag_on {s : ST} (hI : Inv s) (a0 : Int32) : ∃ (v : Int32) (s1 s2 : ST), f_X5_on (some 0) a0 (HP s) = some (v, HP s1) ∧ f_X6_on (some 60) a0 (HP s1) = some (v, HP s2) ∧ Inv s2 := by
  sorry
theorem ag_rings {s : ST} (hI : Inv s) : ∃ (v : Int32) (s1 s2 : ST), f_X5_rings (some 0) (HP s) = some (v, HP s1) ∧ f_X6_rings (some 60) (HP s1) = some (v, HP s2) ∧ Inv s2 := by
  sorry
theorem ag_allies {s : ST} (hI : Inv s) (a0 : Int32) : ∃ (v : Int32) (s1 s2 : ST), f_X5_allies (some 0) a0 (HP s) = some (v, HP s1) ∧ f_X6_allies (some 60) a0 (HP s1) = some (v, HP s2) ∧ Inv s2 := by
  sorry
theorem ag_safe {s : ST} (hI : Inv s) : ∃ (v : Int32) (s1 s2 : ST), f_X5_safe (some 0) (HP s) = some (v, HP s1) ∧ f_X6_safe (some 60) (HP s1) = some (v, HP s2) ∧ Inv s2 := by
  sorry
theorem ag_weeks {s : ST} (hI : Inv s) (a0 a1 : Int32) : ∃ (v : Int32) (s1 s2 : ST), f_X5_weeks (some 0) a0 a1 (HP s) = some (v, HP s1) ∧ f_X6_weeks (some 60) a0 a1 (HP s1) = some (v, HP s2) ∧ Inv s2 := by
  sorry
theorem ag_thwart {s : ST} (hI : Inv s) (a0 a1 : Int32) : ∃ (v : Int32) (s1 s2 : ST), f_X5_thwart (some 0) a0 a1 (HP s) = some (v, HP s1) ∧ f_X6_thwart (some 60) a0 a1 (HP s1) = some (v, HP s2) ∧ Inv s2 := by
  sorry
theorem ag_ways {s : ST} (hI : Inv s) (a0 a1 : Int32) : ∃ (v : Int32) (s1 s2 : ST), f_X5_ways (some 0) a0 a1 (HP s) = some (v, HP s1) ∧ f_X6_ways (some 60) a0 a1 (HP s1) = some (v, HP s2) ∧ Inv s2 := by
  sorry
theorem ag_wishes {s : ST} (hI : Inv s) : ∃ (v : Int32) (s1 s2 : ST), f_X5_wishes (some 0) (HP s) = some (v, HP s1) ∧ f_X6_wishes (some 60) (HP s1) = some (v, HP s2) ∧ Inv s2 := by
  sorry
theorem ag_mildest {s : ST} (hI : Inv s) (a0 : Int32) : ∃ (v : Int32) (s1 s2 : ST), f_X5_mildest (some 0) a0 (HP s) = some (v, HP s1) ∧ f_X6_mildest (some 60) a0 (HP s1) = some (v, HP s2) ∧ Inv s2 := by
  sorry
theorem ag_none {s : ST} (hI : Inv s) (a0 : Int32) : ∃ (v : Int32) (s1 s2 : ST), f_X5_none (some 0) a0 (HP s) = some (v, HP s1) ∧ f_X6_none (some 60) a0 (HP s1) = some (v, HP s2) ∧ Inv s2 := by
  sorry
theorem ag_maps {s : ST} (hI : Inv s) : ∃ (v : Int32) (s1 s2 : ST), f_X5_maps (some 0) (HP s) = some (v, HP s1) ∧ f_X6_maps (some 60) (HP s1) = some (v, HP s2) ∧ Inv s2 := by
  sorry
theorem ag_odds {s : ST} (hI : Inv s) (a0 a1 : Int32) : ∃ (v : Int32) (s1 s2 : ST), f_X5_odds (some 0) a0 a1 (HP s) = some (v, HP s1) ∧ f_X6_odds (some 60) a0 a1 (HP s1) = some (v, HP s2) ∧ Inv s2 := by
  sorry
theorem ag_both {s : ST} (hI : Inv s) (a0 a1 : Int32) : ∃ (v : Int32) (s1 s2 : ST), f_X5_both (some 0) a0 a1 (HP s) = some (v, HP s1) ∧ f_X6_both (some 60) a0 a1 (HP s1) = some (v, HP s2) ∧ Inv s2 := by
  sorry
theorem ag_fits {s : ST} (hI : Inv s) (a0 : Int32) : ∃ (v : Int32) (s1 s2 : ST), f_X5_fits (some 0) a0 (HP s) = some (v, HP s1) ∧ f_X6_fits (some 60) a0 (HP s1) = some (v, HP s2) ∧ Inv s2 := by
  sorry
theorem ag_sure {s : ST} (hI : Inv s) (a0 a1 : Int32) : ∃ (v : Int32) (s1 s2 : ST), f_X5_sure (some 0) a0 a1 (HP s) = some (v, HP s1) ∧ f_X6_sure (some 60) a0 a1 (HP s1) = some (v, HP s2) ∧ Inv s2 := by
  sorry
theorem ag_ask {s : ST} (hI : Inv s) (a0 : Int32) : ∃ (v : Int32) (s1 s2 : ST), f_X5_ask (some 0) a0 (HP s) = some (v, HP s1) ∧ f_X6_ask (some 60) a0 (HP s1) = some (v, HP s2) ∧ Inv s2 := by
  sorry
theorem ag_lots {s : ST} (hI : Inv s) (a0 a1 : Int32) : ∃ (v : Int32) (s1 s2 : ST), f_X5_lots (some 0) a0 a1 (HP s) = some (v, HP s1) ∧ f_X6_lots (some 60) a0 a1 (HP s1) = some (v, HP s2) ∧ Inv s2 := by
  sorry
theorem ag_asked {s : ST} (hI : Inv s) : ∃ (v : Int32) (s1 s2 : ST), f_X5_asked (some 0) (HP s) = some (v, HP s1) ∧ f_X6_asked (some 60) (HP s1) = some (v, HP s2) ∧ Inv s2 := by
  sorry
theorem ag_upper {s : ST} (hI : Inv s) : ∃ (v : Int64) (s1 s2 : ST), f_X5_upper (some 0) (HP s) = some (v, HP s1) ∧ f_X6_upper (some 60) (HP s1) = some (v, HP s2) ∧ Inv s2 := by
  sorry
theorem ag_lower {s : ST} (hI : Inv s) : ∃ (v : Int64) (s1 s2 : ST), f_X5_lower (some 0) (HP s) = some (v, HP s1) ∧ f_X6_lower (some 60) (HP s1) = some (v, HP s2) ∧ Inv s2 := by
  sorry
theorem ag_count {s : ST} (hI : Inv s) (a0 : Int32) : ∃ (v : Int32) (s1 s2 : ST), f_X5_count (some 0) a0 (HP s) = some (v, HP s1) ∧ f_X6_count (some 60) a0 (HP s1) = some (v, HP s2) ∧ Inv s2 := by
  sorry
theorem ag_finding {s : ST} (hI : Inv s) : ∃ (v : Int32) (s1 s2 : ST), f_X5_finding (some 0) (HP s) = some (v, HP s1) ∧ f_X6_finding (some 60) (HP s1) = some (v, HP s2) ∧ Inv s2 := by
  sorry
theorem ag_findings {s : ST} (hI : Inv s) (a0 : Int32) : ∃ (v : Int32) (s1 s2 : ST), f_X5_findings (some 0) a0 (HP s) = some (v, HP s1) ∧ f_X6_findings (some 60) a0 (HP s1) = some (v, HP s2) ∧ Inv s2 := by
  sorry
theorem ag_digest {s : ST} (hI : Inv s) : ∃ (v : Int64) (s1 s2 : ST), f_X5_digest (some 0) (HP s) = some (v, HP s1) ∧ f_X6_digest (some 60) (HP s1) = some (v, HP s2) ∧ Inv s2 := by
  sorry
