theorem bw_out3_0 {x : Int32} (h0 : ¬ x = 0) (h1 : ¬ x = 1) (h2 : ¬ x = 2) : x.toInt < 0 ∨ 2 < x.toInt := by
  have e0 : ¬ x.toInt = 0 := lv_neT h0 (rfl : (0 : Int32).toInt = 0)
  have e1 : ¬ x.toInt = 1 := lv_neT h1 (rfl : (1 : Int32).toInt = 1)
  have e2 : ¬ x.toInt = 2 := lv_neT h2 (rfl : (2 : Int32).toInt = 2)
  omega
theorem bw_out4_0 {x : Int32} (h0 : ¬ x = 0) (h1 : ¬ x = 1) (h2 : ¬ x = 2) (h3 : ¬ x = 3) : x.toInt < 0 ∨ 3 < x.toInt := by
  have e0 : ¬ x.toInt = 0 := lv_neT h0 (rfl : (0 : Int32).toInt = 0)
  have e1 : ¬ x.toInt = 1 := lv_neT h1 (rfl : (1 : Int32).toInt = 1)
  have e2 : ¬ x.toInt = 2 := lv_neT h2 (rfl : (2 : Int32).toInt = 2)
  have e3 : ¬ x.toInt = 3 := lv_neT h3 (rfl : (3 : Int32).toInt = 3)
  omega
theorem bw_out4_6 {x : Int32} (h0 : ¬ x = 6) (h1 : ¬ x = 7) (h2 : ¬ x = 8) (h3 : ¬ x = 9) : x.toInt < 6 ∨ 9 < x.toInt := by
  have e0 : ¬ x.toInt = 6 := lv_neT h0 (rfl : (6 : Int32).toInt = 6)
  have e1 : ¬ x.toInt = 7 := lv_neT h1 (rfl : (7 : Int32).toInt = 7)
  have e2 : ¬ x.toInt = 8 := lv_neT h2 (rfl : (8 : Int32).toInt = 8)
  have e3 : ¬ x.toInt = 9 := lv_neT h3 (rfl : (9 : Int32).toInt = 9)
  omega
