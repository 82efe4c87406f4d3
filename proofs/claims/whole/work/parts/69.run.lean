/-! run: open yet -/
theorem pr_run (p1 p2 p3 : Int32) : Pr tyL 76 163 [.int p1, .int p2, .int p3] := by
  sorry
