/-! ways of a table -/
theorem ts_eq {x v : Int} (h1 : ¬ x < v) {w : Int} (h2 : x < w) (hw : w = v + 1 := by rfl) : x = v := by omega
theorem ts_lo {x lo v : Int} (h : x < lo) (hv : lo ≤ v) : ¬ x = v := by omega
theorem ts_hi {x hi v : Int} (h : ¬ x < hi) (hv : v < hi) : ¬ x = v := by omega
theorem ts_gt {x hi : Int} (h : ¬ x < hi + 1) : hi < x := by omega
