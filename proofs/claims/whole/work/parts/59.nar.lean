/-! ===== what a row of bytes keeps ===== -/
theorem nB_b (z : Int) : nB z = iB z := by
  unfold nB vp_nar iB
  rfl
theorem nZ_z (z : Int) : nZ z = (Int32.ofInt z &&& 1).toInt := by
  unfold nZ vp_nar
  rfl
