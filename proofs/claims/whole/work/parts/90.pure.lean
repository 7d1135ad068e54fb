theorem pure_law {L : Nat} {f : Nat → Int32} (hL : L ≤ 256) : ∃ n, f_law_L18 L f n P0 0 = some true := by
  sorry
