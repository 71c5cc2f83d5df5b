/-! ===== sheets: checks ===== -/
theorem ot_isSheet (x : Int32) (m : gM) : f_OT_isSheet x m = some (if gib x 4 = true then 1 else 0, m) := by
  unfold f_OT_isSheet
  have := gchk (α := Option (Int32 × gM)) (x := x) (n := 4) (by decide) (A := some (0, m)) (B := some (1, m))
  refine Eq.trans this ?_
  cases gib x 4 <;> rfl
theorem ot_isLane (x : Int32) (m : gM) : f_OT_isLane x m = some (if gib x 3 = true then 1 else 0, m) := ot_within (x := x) (n := 2) (by decide) m
