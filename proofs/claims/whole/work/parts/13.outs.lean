theorem bw_out3_0 {x : Int32} (h0 : ¬ x = 0) (h1 : ¬ x = 1) (h2 : ¬ x = 2) : x.toInt < 0 ∨ 2 < x.toInt := by
  have e0 : ¬ x.toInt = 0 := lv_neT h0 (rfl : (0 : Int32).toInt = 0)
  have e1 : ¬ x.toInt = 1 := lv_neT h1 (rfl : (1 : Int32).toInt = 1)
  have e2 : ¬ x.toInt = 2 := lv_neT h2 (rfl : (2 : Int32).toInt = 2)
  omega
theorem bw_out3_1 {x : Int32} (h0 : ¬ x = 1) (h1 : ¬ x = 2) (h2 : ¬ x = 3) : x.toInt < 1 ∨ 3 < x.toInt := by
  have e0 : ¬ x.toInt = 1 := lv_neT h0 (rfl : (1 : Int32).toInt = 1)
  have e1 : ¬ x.toInt = 2 := lv_neT h1 (rfl : (2 : Int32).toInt = 2)
  have e2 : ¬ x.toInt = 3 := lv_neT h2 (rfl : (3 : Int32).toInt = 3)
  omega
theorem bw_out4_0 {x : Int32} (h0 : ¬ x = 0) (h1 : ¬ x = 1) (h2 : ¬ x = 2) (h3 : ¬ x = 3) : x.toInt < 0 ∨ 3 < x.toInt := by
  have e0 : ¬ x.toInt = 0 := lv_neT h0 (rfl : (0 : Int32).toInt = 0)
  have e1 : ¬ x.toInt = 1 := lv_neT h1 (rfl : (1 : Int32).toInt = 1)
  have e2 : ¬ x.toInt = 2 := lv_neT h2 (rfl : (2 : Int32).toInt = 2)
  have e3 : ¬ x.toInt = 3 := lv_neT h3 (rfl : (3 : Int32).toInt = 3)
  omega
theorem bw_out4_1 {x : Int32} (h0 : ¬ x = 1) (h1 : ¬ x = 2) (h2 : ¬ x = 3) (h3 : ¬ x = 4) : x.toInt < 1 ∨ 4 < x.toInt := by
  have e0 : ¬ x.toInt = 1 := lv_neT h0 (rfl : (1 : Int32).toInt = 1)
  have e1 : ¬ x.toInt = 2 := lv_neT h1 (rfl : (2 : Int32).toInt = 2)
  have e2 : ¬ x.toInt = 3 := lv_neT h2 (rfl : (3 : Int32).toInt = 3)
  have e3 : ¬ x.toInt = 4 := lv_neT h3 (rfl : (4 : Int32).toInt = 4)
  omega
theorem bw_out4_2 {x : Int32} (h0 : ¬ x = 2) (h1 : ¬ x = 3) (h2 : ¬ x = 4) (h3 : ¬ x = 5) : x.toInt < 2 ∨ 5 < x.toInt := by
  have e0 : ¬ x.toInt = 2 := lv_neT h0 (rfl : (2 : Int32).toInt = 2)
  have e1 : ¬ x.toInt = 3 := lv_neT h1 (rfl : (3 : Int32).toInt = 3)
  have e2 : ¬ x.toInt = 4 := lv_neT h2 (rfl : (4 : Int32).toInt = 4)
  have e3 : ¬ x.toInt = 5 := lv_neT h3 (rfl : (5 : Int32).toInt = 5)
  omega
theorem bw_out4_6 {x : Int32} (h0 : ¬ x = 6) (h1 : ¬ x = 7) (h2 : ¬ x = 8) (h3 : ¬ x = 9) : x.toInt < 6 ∨ 9 < x.toInt := by
  have e0 : ¬ x.toInt = 6 := lv_neT h0 (rfl : (6 : Int32).toInt = 6)
  have e1 : ¬ x.toInt = 7 := lv_neT h1 (rfl : (7 : Int32).toInt = 7)
  have e2 : ¬ x.toInt = 8 := lv_neT h2 (rfl : (8 : Int32).toInt = 8)
  have e3 : ¬ x.toInt = 9 := lv_neT h3 (rfl : (9 : Int32).toInt = 9)
  omega
theorem bw_out5_0 {x : Int32} (h0 : ¬ x = 0) (h1 : ¬ x = 1) (h2 : ¬ x = 2) (h3 : ¬ x = 3) (h4 : ¬ x = 4) : x.toInt < 0 ∨ 4 < x.toInt := by
  have e0 : ¬ x.toInt = 0 := lv_neT h0 (rfl : (0 : Int32).toInt = 0)
  have e1 : ¬ x.toInt = 1 := lv_neT h1 (rfl : (1 : Int32).toInt = 1)
  have e2 : ¬ x.toInt = 2 := lv_neT h2 (rfl : (2 : Int32).toInt = 2)
  have e3 : ¬ x.toInt = 3 := lv_neT h3 (rfl : (3 : Int32).toInt = 3)
  have e4 : ¬ x.toInt = 4 := lv_neT h4 (rfl : (4 : Int32).toInt = 4)
  omega
theorem bw_out5_1 {x : Int32} (h0 : ¬ x = 1) (h1 : ¬ x = 2) (h2 : ¬ x = 3) (h3 : ¬ x = 4) (h4 : ¬ x = 5) : x.toInt < 1 ∨ 5 < x.toInt := by
  have e0 : ¬ x.toInt = 1 := lv_neT h0 (rfl : (1 : Int32).toInt = 1)
  have e1 : ¬ x.toInt = 2 := lv_neT h1 (rfl : (2 : Int32).toInt = 2)
  have e2 : ¬ x.toInt = 3 := lv_neT h2 (rfl : (3 : Int32).toInt = 3)
  have e3 : ¬ x.toInt = 4 := lv_neT h3 (rfl : (4 : Int32).toInt = 4)
  have e4 : ¬ x.toInt = 5 := lv_neT h4 (rfl : (5 : Int32).toInt = 5)
  omega
theorem bw_out10_0 {x : Int32} (h0 : ¬ x = 0) (h1 : ¬ x = 1) (h2 : ¬ x = 2) (h3 : ¬ x = 3) (h4 : ¬ x = 4) (h5 : ¬ x = 5) (h6 : ¬ x = 6) (h7 : ¬ x = 7) (h8 : ¬ x = 8) (h9 : ¬ x = 9) : x.toInt < 0 ∨ 9 < x.toInt := by
  have e0 : ¬ x.toInt = 0 := lv_neT h0 (rfl : (0 : Int32).toInt = 0)
  have e1 : ¬ x.toInt = 1 := lv_neT h1 (rfl : (1 : Int32).toInt = 1)
  have e2 : ¬ x.toInt = 2 := lv_neT h2 (rfl : (2 : Int32).toInt = 2)
  have e3 : ¬ x.toInt = 3 := lv_neT h3 (rfl : (3 : Int32).toInt = 3)
  have e4 : ¬ x.toInt = 4 := lv_neT h4 (rfl : (4 : Int32).toInt = 4)
  have e5 : ¬ x.toInt = 5 := lv_neT h5 (rfl : (5 : Int32).toInt = 5)
  have e6 : ¬ x.toInt = 6 := lv_neT h6 (rfl : (6 : Int32).toInt = 6)
  have e7 : ¬ x.toInt = 7 := lv_neT h7 (rfl : (7 : Int32).toInt = 7)
  have e8 : ¬ x.toInt = 8 := lv_neT h8 (rfl : (8 : Int32).toInt = 8)
  have e9 : ¬ x.toInt = 9 := lv_neT h9 (rfl : (9 : Int32).toInt = 9)
  omega
theorem bw_out22_0 {x : Int32} (h0 : ¬ x = 0) (h1 : ¬ x = 1) (h2 : ¬ x = 2) (h3 : ¬ x = 3) (h4 : ¬ x = 4) (h5 : ¬ x = 5) (h6 : ¬ x = 6) (h7 : ¬ x = 7) (h8 : ¬ x = 8) (h9 : ¬ x = 9) (h10 : ¬ x = 10) (h11 : ¬ x = 11) (h12 : ¬ x = 12) (h13 : ¬ x = 13) (h14 : ¬ x = 14) (h15 : ¬ x = 15) (h16 : ¬ x = 16) (h17 : ¬ x = 17) (h18 : ¬ x = 18) (h19 : ¬ x = 19) (h20 : ¬ x = 20) (h21 : ¬ x = 21) : x.toInt < 0 ∨ 21 < x.toInt := by
  have e0 : ¬ x.toInt = 0 := lv_neT h0 (rfl : (0 : Int32).toInt = 0)
  have e1 : ¬ x.toInt = 1 := lv_neT h1 (rfl : (1 : Int32).toInt = 1)
  have e2 : ¬ x.toInt = 2 := lv_neT h2 (rfl : (2 : Int32).toInt = 2)
  have e3 : ¬ x.toInt = 3 := lv_neT h3 (rfl : (3 : Int32).toInt = 3)
  have e4 : ¬ x.toInt = 4 := lv_neT h4 (rfl : (4 : Int32).toInt = 4)
  have e5 : ¬ x.toInt = 5 := lv_neT h5 (rfl : (5 : Int32).toInt = 5)
  have e6 : ¬ x.toInt = 6 := lv_neT h6 (rfl : (6 : Int32).toInt = 6)
  have e7 : ¬ x.toInt = 7 := lv_neT h7 (rfl : (7 : Int32).toInt = 7)
  have e8 : ¬ x.toInt = 8 := lv_neT h8 (rfl : (8 : Int32).toInt = 8)
  have e9 : ¬ x.toInt = 9 := lv_neT h9 (rfl : (9 : Int32).toInt = 9)
  have e10 : ¬ x.toInt = 10 := lv_neT h10 (rfl : (10 : Int32).toInt = 10)
  have e11 : ¬ x.toInt = 11 := lv_neT h11 (rfl : (11 : Int32).toInt = 11)
  have e12 : ¬ x.toInt = 12 := lv_neT h12 (rfl : (12 : Int32).toInt = 12)
  have e13 : ¬ x.toInt = 13 := lv_neT h13 (rfl : (13 : Int32).toInt = 13)
  have e14 : ¬ x.toInt = 14 := lv_neT h14 (rfl : (14 : Int32).toInt = 14)
  have e15 : ¬ x.toInt = 15 := lv_neT h15 (rfl : (15 : Int32).toInt = 15)
  have e16 : ¬ x.toInt = 16 := lv_neT h16 (rfl : (16 : Int32).toInt = 16)
  have e17 : ¬ x.toInt = 17 := lv_neT h17 (rfl : (17 : Int32).toInt = 17)
  have e18 : ¬ x.toInt = 18 := lv_neT h18 (rfl : (18 : Int32).toInt = 18)
  have e19 : ¬ x.toInt = 19 := lv_neT h19 (rfl : (19 : Int32).toInt = 19)
  have e20 : ¬ x.toInt = 20 := lv_neT h20 (rfl : (20 : Int32).toInt = 20)
  have e21 : ¬ x.toInt = 21 := lv_neT h21 (rfl : (21 : Int32).toInt = 21)
  omega
