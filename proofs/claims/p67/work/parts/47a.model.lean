/-! the reference: envy -/
theorem i3lt (a b : Int32) : (a < b) = ¬ b ≤ a := propext ⟨fun h => by grind, fun h => by grind⟩
theorem i6lt (a b : Int64) : (a < b) = ¬ b ≤ a := propext ⟨fun h => by grind, fun h => by grind⟩
