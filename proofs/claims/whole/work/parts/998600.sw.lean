/-! what is outside a switch -/
theorem sw_0_2 {x : Int} (h0 : ¬ x = 0) (h1 : ¬ x = 1) (h2 : ¬ x = 2) : x < 0 ∨ 2 < x := by omega
theorem sw_0_3 {x : Int} (h0 : ¬ x = 0) (h1 : ¬ x = 1) (h2 : ¬ x = 2) (h3 : ¬ x = 3) : x < 0 ∨ 3 < x := by omega
theorem sw_0_4 {x : Int} (h0 : ¬ x = 0) (h1 : ¬ x = 1) (h2 : ¬ x = 2) (h3 : ¬ x = 3) (h4 : ¬ x = 4) : x < 0 ∨ 4 < x := by omega
theorem sw_0_9 {x : Int} (h0 : ¬ x = 0) (h1 : ¬ x = 1) (h2 : ¬ x = 2) (h3 : ¬ x = 3) (h4 : ¬ x = 4) (h5 : ¬ x = 5) (h6 : ¬ x = 6) (h7 : ¬ x = 7) (h8 : ¬ x = 8) (h9 : ¬ x = 9) : x < 0 ∨ 9 < x := by omega
theorem sw_0_20 {x : Int} (h0 : ¬ x = 0) (h1 : ¬ x = 1) (h2 : ¬ x = 2) (h3 : ¬ x = 3) (h4 : ¬ x = 4) (h5 : ¬ x = 5) (h6 : ¬ x = 6) (h7 : ¬ x = 7) (h8 : ¬ x = 8) (h9 : ¬ x = 9) (h10 : ¬ x = 10) (h11 : ¬ x = 11) (h12 : ¬ x = 12) (h13 : ¬ x = 13) (h14 : ¬ x = 14) (h15 : ¬ x = 15) (h16 : ¬ x = 16) (h17 : ¬ x = 17) (h18 : ¬ x = 18) (h19 : ¬ x = 19) (h20 : ¬ x = 20) : x < 0 ∨ 20 < x := by omega
theorem sw_1_3 {x : Int} (h0 : ¬ x = 1) (h1 : ¬ x = 2) (h2 : ¬ x = 3) : x < 1 ∨ 3 < x := by omega
theorem sw_200_210 {x : Int} (h0 : ¬ x = 200) (h1 : ¬ x = 201) (h2 : ¬ x = 202) (h3 : ¬ x = 203) (h4 : ¬ x = 204) (h5 : ¬ x = 205) (h6 : ¬ x = 206) (h7 : ¬ x = 207) (h8 : ¬ x = 208) (h9 : ¬ x = 209) (h10 : ¬ x = 210) : x < 200 ∨ 210 < x := by omega
