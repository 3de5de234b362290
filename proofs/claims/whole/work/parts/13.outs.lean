theorem bw_out3_0 {x : Int32} (h0 : ¬ x = 0) (h1 : ¬ x = 1) (h2 : ¬ x = 2) : x.toInt < 0 ∨ 2 < x.toInt := by
  have e0 : ¬ x.toInt = 0 := lv_neT h0 (rfl : (0 : Int32).toInt = 0)
  have e1 : ¬ x.toInt = 1 := lv_neT h1 (rfl : (1 : Int32).toInt = 1)
  have e2 : ¬ x.toInt = 2 := lv_neT h2 (rfl : (2 : Int32).toInt = 2)
  omega
theorem bw_out3_1 {x : Int32} (h0 : ¬ x = 1) (h1 : ¬ x = 2) (h2 : ¬ x = 3) : x.toInt < 1 ∨ 3 < x.toInt := by
  have e0 : ¬ x.toInt = 1 := lv_neT h0 (rfl : (1 : Int32).toInt = 1)
  have e1 : ¬ x.toInt = 2 := lv_neT h1 (rfl : (2 : Int32).toInt = 2)
  have e2 : ¬ x.toInt = 3 := lv_neT h2 (rfl : (3 : Int32).toInt = 3)
  omega
theorem bw_out4_0 {x : Int32} (h0 : ¬ x = 0) (h1 : ¬ x = 1) (h2 : ¬ x = 2) (h3 : ¬ x = 3) : x.toInt < 0 ∨ 3 < x.toInt := by
  have e0 : ¬ x.toInt = 0 := lv_neT h0 (rfl : (0 : Int32).toInt = 0)
  have e1 : ¬ x.toInt = 1 := lv_neT h1 (rfl : (1 : Int32).toInt = 1)
  have e2 : ¬ x.toInt = 2 := lv_neT h2 (rfl : (2 : Int32).toInt = 2)
  have e3 : ¬ x.toInt = 3 := lv_neT h3 (rfl : (3 : Int32).toInt = 3)
  omega
theorem bw_out4_1 {x : Int32} (h0 : ¬ x = 1) (h1 : ¬ x = 2) (h2 : ¬ x = 3) (h3 : ¬ x = 4) : x.toInt < 1 ∨ 4 < x.toInt := by
  have e0 : ¬ x.toInt = 1 := lv_neT h0 (rfl : (1 : Int32).toInt = 1)
  have e1 : ¬ x.toInt = 2 := lv_neT h1 (rfl : (2 : Int32).toInt = 2)
  have e2 : ¬ x.toInt = 3 := lv_neT h2 (rfl : (3 : Int32).toInt = 3)
  have e3 : ¬ x.toInt = 4 := lv_neT h3 (rfl : (4 : Int32).toInt = 4)
  omega
theorem bw_out4_2 {x : Int32} (h0 : ¬ x = 2) (h1 : ¬ x = 3) (h2 : ¬ x = 4) (h3 : ¬ x = 5) : x.toInt < 2 ∨ 5 < x.toInt := by
  have e0 : ¬ x.toInt = 2 := lv_neT h0 (rfl : (2 : Int32).toInt = 2)
  have e1 : ¬ x.toInt = 3 := lv_neT h1 (rfl : (3 : Int32).toInt = 3)
  have e2 : ¬ x.toInt = 4 := lv_neT h2 (rfl : (4 : Int32).toInt = 4)
  have e3 : ¬ x.toInt = 5 := lv_neT h3 (rfl : (5 : Int32).toInt = 5)
  omega
theorem bw_out4_6 {x : Int32} (h0 : ¬ x = 6) (h1 : ¬ x = 7) (h2 : ¬ x = 8) (h3 : ¬ x = 9) : x.toInt < 6 ∨ 9 < x.toInt := by
  have e0 : ¬ x.toInt = 6 := lv_neT h0 (rfl : (6 : Int32).toInt = 6)
  have e1 : ¬ x.toInt = 7 := lv_neT h1 (rfl : (7 : Int32).toInt = 7)
  have e2 : ¬ x.toInt = 8 := lv_neT h2 (rfl : (8 : Int32).toInt = 8)
  have e3 : ¬ x.toInt = 9 := lv_neT h3 (rfl : (9 : Int32).toInt = 9)
  omega
theorem bw_out5_0 {x : Int32} (h0 : ¬ x = 0) (h1 : ¬ x = 1) (h2 : ¬ x = 2) (h3 : ¬ x = 3) (h4 : ¬ x = 4) : x.toInt < 0 ∨ 4 < x.toInt := by
  have e0 : ¬ x.toInt = 0 := lv_neT h0 (rfl : (0 : Int32).toInt = 0)
  have e1 : ¬ x.toInt = 1 := lv_neT h1 (rfl : (1 : Int32).toInt = 1)
  have e2 : ¬ x.toInt = 2 := lv_neT h2 (rfl : (2 : Int32).toInt = 2)
  have e3 : ¬ x.toInt = 3 := lv_neT h3 (rfl : (3 : Int32).toInt = 3)
  have e4 : ¬ x.toInt = 4 := lv_neT h4 (rfl : (4 : Int32).toInt = 4)
  omega
theorem bw_out5_1 {x : Int32} (h0 : ¬ x = 1) (h1 : ¬ x = 2) (h2 : ¬ x = 3) (h3 : ¬ x = 4) (h4 : ¬ x = 5) : x.toInt < 1 ∨ 5 < x.toInt := by
  have e0 : ¬ x.toInt = 1 := lv_neT h0 (rfl : (1 : Int32).toInt = 1)
  have e1 : ¬ x.toInt = 2 := lv_neT h1 (rfl : (2 : Int32).toInt = 2)
  have e2 : ¬ x.toInt = 3 := lv_neT h2 (rfl : (3 : Int32).toInt = 3)
  have e3 : ¬ x.toInt = 4 := lv_neT h3 (rfl : (4 : Int32).toInt = 4)
  have e4 : ¬ x.toInt = 5 := lv_neT h4 (rfl : (5 : Int32).toInt = 5)
  omega
theorem bw_out10_0 {x : Int32} (h0 : ¬ x = 0) (h1 : ¬ x = 1) (h2 : ¬ x = 2) (h3 : ¬ x = 3) (h4 : ¬ x = 4) (h5 : ¬ x = 5) (h6 : ¬ x = 6) (h7 : ¬ x = 7) (h8 : ¬ x = 8) (h9 : ¬ x = 9) : x.toInt < 0 ∨ 9 < x.toInt := by
  have e0 : ¬ x.toInt = 0 := lv_neT h0 (rfl : (0 : Int32).toInt = 0)
  have e1 : ¬ x.toInt = 1 := lv_neT h1 (rfl : (1 : Int32).toInt = 1)
  have e2 : ¬ x.toInt = 2 := lv_neT h2 (rfl : (2 : Int32).toInt = 2)
  have e3 : ¬ x.toInt = 3 := lv_neT h3 (rfl : (3 : Int32).toInt = 3)
  have e4 : ¬ x.toInt = 4 := lv_neT h4 (rfl : (4 : Int32).toInt = 4)
  have e5 : ¬ x.toInt = 5 := lv_neT h5 (rfl : (5 : Int32).toInt = 5)
  have e6 : ¬ x.toInt = 6 := lv_neT h6 (rfl : (6 : Int32).toInt = 6)
  have e7 : ¬ x.toInt = 7 := lv_neT h7 (rfl : (7 : Int32).toInt = 7)
  have e8 : ¬ x.toInt = 8 := lv_neT h8 (rfl : (8 : Int32).toInt = 8)
  have e9 : ¬ x.toInt = 9 := lv_neT h9 (rfl : (9 : Int32).toInt = 9)
  omega
