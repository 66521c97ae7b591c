def zrok (x1 x2 x3 x4 x5 : Int32) : Prop := ¬ x1 < 0 ∧ ¬ 2 < x1 ∧ ¬ FX8_isLiteral x2 = 0 ∧ ¬ FX8_isStrength x5 = 0 ∧ ¬ FX8_areLiterals x3 = 0 ∧ ¬ FX8_areLiterals x4 = 0 ∧ (x1 = 0 → x4 = 0)
section ZRULE
variable {rc_isSettled : Int32} {c_kind : Nat → Int32} {c_head : Nat → Int32} {c_body : Nat → Int32} {c_excepts : Nat → Int32} {c_power : Nat → Int32} {c_beats : Nat → Int32} {c_facts : Int32} {c_size : Int32} {c_shut : Int32} {hi_sg : Nat → Nat} {hi_y : Nat → S0} {hi_D : Nat} {hi_un : Int32} {x1 : Int32} {x2 : Int32} {x3 : Int32} {x4 : Int32} {x5 : Int32}
theorem rule_bad8 (h : ¬ zrok x1 x2 x3 x4 x5) : (FX8_rule rc_isSettled c_kind c_head c_body c_excepts c_power c_beats c_facts c_size c_shut hi_sg hi_y hi_D hi_un x1 x2 x3 x4 x5) = (-1, rc_isSettled, c_kind, c_head, c_body, c_excepts, c_power, c_beats, c_size, hi_sg, hi_y, hi_D, hi_un) := by
  unfold FX8_rule
  simp only [bnd]
  by_cases p1 : x1 < 0
  · rw [if_pos p1]
  rw [if_neg p1]
  by_cases p2 : 2 < x1
  · rw [if_pos p2]
  rw [if_neg p2]
  by_cases p3 : FX8_isLiteral x2 = 0
  · rw [if_pos p3]
  rw [if_neg p3]
  by_cases p4 : FX8_isStrength x5 = 0
  · rw [if_pos p4]
  rw [if_neg p4]
  by_cases p5 : FX8_areLiterals x3 = 0
  · rw [if_pos p5]
  rw [if_neg p5]
  by_cases p6 : FX8_areLiterals x4 = 0
  · rw [if_pos p6]
  rw [if_neg p6]
  by_cases p7 : x1 = 0
  · rw [if_pos p7]
    by_cases p8 : x4 = 0
    · exact absurd ⟨p1, p2, p3, p4, p5, p6, fun _ => p8⟩ h
    · rw [if_neg p8]
  · exact absurd ⟨p1, p2, p3, p4, p5, p6, fun e => absurd e p7⟩ h
theorem rule_ok8 (h : zrok x1 x2 x3 x4 x5) : (FX8_rule rc_isSettled c_kind c_head c_body c_excepts c_power c_beats c_facts c_size c_shut hi_sg hi_y hi_D hi_un x1 x2 x3 x4 x5) = (FX8_rule_52 rc_isSettled c_kind c_head c_body c_excepts c_power c_beats c_facts c_size c_shut hi_sg hi_y hi_D hi_un x1 x2 x3 x4 x5) rc_isSettled c_kind c_head c_body c_excepts c_power c_beats c_size hi_sg hi_y hi_D hi_un := by
  obtain ⟨p1, p2, p3, p4, p5, p6, p7⟩ := h
  unfold FX8_rule
  simp only [bnd]
  rw [if_neg p1, if_neg p2, if_neg p3, if_neg p4, if_neg p5, if_neg p6]
  by_cases c : x1 = 0
  · rw [if_pos c, if_pos (p7 c)]
  · rw [if_neg c]
end ZRULE
