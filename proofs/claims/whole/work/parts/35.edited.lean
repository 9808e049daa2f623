/-! edited -/
theorem iv_edited {u : SX} {v : SY} (I : iv_R u v) (v1 v2 v3 v4 : Int32) : wpX_edited (fun r u' => wpY_edited (fun r' v' => r' = r ∧ iv_R u' v') v v1 v2 v3 v4) u v1 v2 v3 v4 := by
  sorry
