/-! the tables' rows that the program uses, by their places -/
theorem wt_t (i : Nat) {w : Cond} (h : tables_1[i]? = some w) (g : goodWord w = true) : w ∈ wT := List.mem_filter.mpr ⟨List.mem_append_right _ (List.mem_of_getElem? h), g⟩
theorem wt_s (i : Nat) {w : Cond} (h : (k2_sels lw_privs)[i]? = some w) (g : goodWord w = true) : w ∈ wT := List.mem_filter.mpr ⟨List.mem_append_left _ (List.mem_of_getElem? h), g⟩
theorem wtab_1 {w : Cond} (h : w ∈ tables_1_1) : w ∈ tables_1 := List.mem_append_left _ h
theorem wtab_2 {w : Cond} (h : w ∈ tables_1_2) : w ∈ tables_1 := List.mem_append_right _ (List.mem_append_left _ h)
theorem wtab_3 {w : Cond} (h : w ∈ tables_1_3) : w ∈ tables_1 := List.mem_append_right _ (List.mem_append_right _ (List.mem_append_left _ h))
theorem wtab_4 {w : Cond} (h : w ∈ tables_1_4) : w ∈ tables_1 := List.mem_append_right _ (List.mem_append_right _ (List.mem_append_right _ (List.mem_append_left _ h)))
theorem wtab_5 {w : Cond} (h : w ∈ tables_1_5) : w ∈ tables_1 := List.mem_append_right _ (List.mem_append_right _ (List.mem_append_right _ (List.mem_append_right _ (List.mem_append_left _ h))))
theorem wtab_6 {w : Cond} (h : w ∈ tables_1_6) : w ∈ tables_1 := List.mem_append_right _ (List.mem_append_right _ (List.mem_append_right _ (List.mem_append_right _ (List.mem_append_right _ (List.mem_append_left _ h)))))
theorem wtab_7 {w : Cond} (h : w ∈ tables_1_7) : w ∈ tables_1 := List.mem_append_right _ (List.mem_append_right _ (List.mem_append_right _ (List.mem_append_right _ (List.mem_append_right _ (List.mem_append_right _ h)))))
theorem wu {w : Cond} (h : w ∈ tables_1) (g : goodWord w = true) : w ∈ wT := List.mem_filter.mpr ⟨List.mem_append_right _ h, g⟩
theorem wn {w : Cond} (h : w ∈ tables_1) (g : isNW w = true) : w ∈ wN := List.mem_filter.mpr ⟨List.mem_append_right _ h, g⟩
theorem wn_t (i : Nat) {w : Cond} (h : tables_1[i]? = some w) (g : isNW w = true) : w ∈ wN := List.mem_filter.mpr ⟨List.mem_append_right _ (List.mem_of_getElem? h), g⟩
theorem ly_0_0 : u_lay RX0 TX0 0 ∈ wT := wu (wtab_2 (List.mem_of_getElem? (i := 57) (by decide +kernel))) rfl
theorem ly_0_1 : u_lay RX0 TX0 1 ∈ wT := wu (wtab_2 (List.mem_of_getElem? (i := 59) (by decide +kernel))) rfl
theorem ly_0_2 : u_lay RX0 TX0 2 ∈ wT := wu (wtab_2 (List.mem_of_getElem? (i := 61) (by decide +kernel))) rfl
theorem ly_0_3 : u_lay RX0 TX0 3 ∈ wT := wu (wtab_2 (List.mem_of_getElem? (i := 63) (by decide +kernel))) rfl
theorem ly_0_4 : u_lay RX0 TX0 4 ∈ wT := wu (wtab_2 (List.mem_of_getElem? (i := 65) (by decide +kernel))) rfl
theorem inX0 : ∀ w ∈ u_ws RX0 TX0 5, w ∈ wT := by
  intro w hw
  obtain ⟨k, hk, rfl⟩ := List.mem_map.mp hw
  have hk := List.mem_range.mp hk
  match k, hk with
  | 0, _ => exact ly_0_0
  | 1, _ => exact ly_0_1
  | 2, _ => exact ly_0_2
  | 3, _ => exact ly_0_3
  | 4, _ => exact ly_0_4
  | (k + 5), hk => exact absurd hk (by omega)
theorem ly_1_0 : u_lay RX1 TX1 0 ∈ wT := wu (wtab_2 (List.mem_of_getElem? (i := 131) (by decide +kernel))) rfl
theorem ly_1_1 : u_lay RX1 TX1 1 ∈ wT := wu (wtab_2 (List.mem_of_getElem? (i := 133) (by decide +kernel))) rfl
theorem ly_1_2 : u_lay RX1 TX1 2 ∈ wT := wu (wtab_2 (List.mem_of_getElem? (i := 135) (by decide +kernel))) rfl
theorem ly_1_3 : u_lay RX1 TX1 3 ∈ wT := wu (wtab_2 (List.mem_of_getElem? (i := 137) (by decide +kernel))) rfl
theorem ly_1_4 : u_lay RX1 TX1 4 ∈ wT := wu (wtab_2 (List.mem_of_getElem? (i := 139) (by decide +kernel))) rfl
theorem ly_1_5 : u_lay RX1 TX1 5 ∈ wT := wu (wtab_2 (List.mem_of_getElem? (i := 141) (by decide +kernel))) rfl
theorem ly_1_6 : u_lay RX1 TX1 6 ∈ wT := wu (wtab_2 (List.mem_of_getElem? (i := 143) (by decide +kernel))) rfl
theorem ly_1_7 : u_lay RX1 TX1 7 ∈ wT := wu (wtab_2 (List.mem_of_getElem? (i := 145) (by decide +kernel))) rfl
theorem inX1 : ∀ w ∈ u_ws RX1 TX1 8, w ∈ wT := by
  intro w hw
  obtain ⟨k, hk, rfl⟩ := List.mem_map.mp hw
  have hk := List.mem_range.mp hk
  match k, hk with
  | 0, _ => exact ly_1_0
  | 1, _ => exact ly_1_1
  | 2, _ => exact ly_1_2
  | 3, _ => exact ly_1_3
  | 4, _ => exact ly_1_4
  | 5, _ => exact ly_1_5
  | 6, _ => exact ly_1_6
  | 7, _ => exact ly_1_7
  | (k + 8), hk => exact absurd hk (by omega)
theorem ly_2_0 : u_lay RX2 TX2 0 ∈ wT := wu (wtab_1 (List.mem_of_getElem? (i := 235) (by decide +kernel))) rfl
theorem ly_2_1 : u_lay RX2 TX2 1 ∈ wT := wu (wtab_1 (List.mem_of_getElem? (i := 237) (by decide +kernel))) rfl
theorem ly_2_2 : u_lay RX2 TX2 2 ∈ wT := wu (wtab_1 (List.mem_of_getElem? (i := 239) (by decide +kernel))) rfl
theorem ly_2_3 : u_lay RX2 TX2 3 ∈ wT := wu (wtab_2 (List.mem_of_getElem? (i := 1) (by decide +kernel))) rfl
theorem ly_2_4 : u_lay RX2 TX2 4 ∈ wT := wu (wtab_2 (List.mem_of_getElem? (i := 3) (by decide +kernel))) rfl
theorem ly_2_5 : u_lay RX2 TX2 5 ∈ wT := wu (wtab_2 (List.mem_of_getElem? (i := 5) (by decide +kernel))) rfl
theorem ly_2_6 : u_lay RX2 TX2 6 ∈ wT := wu (wtab_2 (List.mem_of_getElem? (i := 7) (by decide +kernel))) rfl
theorem ly_2_7 : u_lay RX2 TX2 7 ∈ wT := wu (wtab_2 (List.mem_of_getElem? (i := 9) (by decide +kernel))) rfl
theorem ly_2_8 : u_lay RX2 TX2 8 ∈ wT := wu (wtab_2 (List.mem_of_getElem? (i := 11) (by decide +kernel))) rfl
theorem inX2 : ∀ w ∈ u_ws RX2 TX2 9, w ∈ wT := by
  intro w hw
  obtain ⟨k, hk, rfl⟩ := List.mem_map.mp hw
  have hk := List.mem_range.mp hk
  match k, hk with
  | 0, _ => exact ly_2_0
  | 1, _ => exact ly_2_1
  | 2, _ => exact ly_2_2
  | 3, _ => exact ly_2_3
  | 4, _ => exact ly_2_4
  | 5, _ => exact ly_2_5
  | 6, _ => exact ly_2_6
  | 7, _ => exact ly_2_7
  | 8, _ => exact ly_2_8
  | (k + 9), hk => exact absurd hk (by omega)
theorem ly_3_0 : u_lay RX3 TX3 0 ∈ wT := wu (wtab_1 (List.mem_of_getElem? (i := 186) (by decide +kernel))) rfl
theorem ly_3_1 : u_lay RX3 TX3 1 ∈ wT := wu (wtab_1 (List.mem_of_getElem? (i := 188) (by decide +kernel))) rfl
theorem ly_3_2 : u_lay RX3 TX3 2 ∈ wT := wu (wtab_1 (List.mem_of_getElem? (i := 190) (by decide +kernel))) rfl
theorem ly_3_3 : u_lay RX3 TX3 3 ∈ wT := wu (wtab_1 (List.mem_of_getElem? (i := 192) (by decide +kernel))) rfl
theorem ly_3_4 : u_lay RX3 TX3 4 ∈ wT := wu (wtab_1 (List.mem_of_getElem? (i := 194) (by decide +kernel))) rfl
theorem ly_3_5 : u_lay RX3 TX3 5 ∈ wT := wu (wtab_1 (List.mem_of_getElem? (i := 196) (by decide +kernel))) rfl
theorem ly_3_6 : u_lay RX3 TX3 6 ∈ wT := wu (wtab_1 (List.mem_of_getElem? (i := 198) (by decide +kernel))) rfl
theorem ly_3_7 : u_lay RX3 TX3 7 ∈ wT := wu (wtab_1 (List.mem_of_getElem? (i := 200) (by decide +kernel))) rfl
theorem inX3 : ∀ w ∈ u_ws RX3 TX3 8, w ∈ wT := by
  intro w hw
  obtain ⟨k, hk, rfl⟩ := List.mem_map.mp hw
  have hk := List.mem_range.mp hk
  match k, hk with
  | 0, _ => exact ly_3_0
  | 1, _ => exact ly_3_1
  | 2, _ => exact ly_3_2
  | 3, _ => exact ly_3_3
  | 4, _ => exact ly_3_4
  | 5, _ => exact ly_3_5
  | 6, _ => exact ly_3_6
  | 7, _ => exact ly_3_7
  | (k + 8), hk => exact absurd hk (by omega)
theorem ly_4_0 : u_lay RX4 TX4 0 ∈ wT := wu (wtab_2 (List.mem_of_getElem? (i := 85) (by decide +kernel))) rfl
theorem ly_4_1 : u_lay RX4 TX4 1 ∈ wT := wu (wtab_2 (List.mem_of_getElem? (i := 87) (by decide +kernel))) rfl
theorem ly_4_2 : u_lay RX4 TX4 2 ∈ wT := wu (wtab_2 (List.mem_of_getElem? (i := 89) (by decide +kernel))) rfl
theorem ly_4_3 : u_lay RX4 TX4 3 ∈ wT := wu (wtab_2 (List.mem_of_getElem? (i := 91) (by decide +kernel))) rfl
theorem ly_4_4 : u_lay RX4 TX4 4 ∈ wT := wu (wtab_2 (List.mem_of_getElem? (i := 93) (by decide +kernel))) rfl
theorem ly_4_5 : u_lay RX4 TX4 5 ∈ wT := wu (wtab_2 (List.mem_of_getElem? (i := 95) (by decide +kernel))) rfl
theorem ly_4_6 : u_lay RX4 TX4 6 ∈ wT := wu (wtab_2 (List.mem_of_getElem? (i := 97) (by decide +kernel))) rfl
theorem ly_4_7 : u_lay RX4 TX4 7 ∈ wT := wu (wtab_2 (List.mem_of_getElem? (i := 99) (by decide +kernel))) rfl
theorem ly_4_8 : u_lay RX4 TX4 8 ∈ wT := wu (wtab_2 (List.mem_of_getElem? (i := 101) (by decide +kernel))) rfl
theorem ly_4_9 : u_lay RX4 TX4 9 ∈ wT := wu (wtab_2 (List.mem_of_getElem? (i := 103) (by decide +kernel))) rfl
theorem ly_4_10 : u_lay RX4 TX4 10 ∈ wT := wu (wtab_2 (List.mem_of_getElem? (i := 105) (by decide +kernel))) rfl
theorem ly_4_11 : u_lay RX4 TX4 11 ∈ wT := wu (wtab_2 (List.mem_of_getElem? (i := 107) (by decide +kernel))) rfl
theorem ly_4_12 : u_lay RX4 TX4 12 ∈ wT := wu (wtab_2 (List.mem_of_getElem? (i := 109) (by decide +kernel))) rfl
theorem ly_4_13 : u_lay RX4 TX4 13 ∈ wT := wu (wtab_2 (List.mem_of_getElem? (i := 111) (by decide +kernel))) rfl
theorem ly_4_14 : u_lay RX4 TX4 14 ∈ wT := wu (wtab_2 (List.mem_of_getElem? (i := 113) (by decide +kernel))) rfl
theorem inX4 : ∀ w ∈ u_ws RX4 TX4 15, w ∈ wT := by
  intro w hw
  obtain ⟨k, hk, rfl⟩ := List.mem_map.mp hw
  have hk := List.mem_range.mp hk
  match k, hk with
  | 0, _ => exact ly_4_0
  | 1, _ => exact ly_4_1
  | 2, _ => exact ly_4_2
  | 3, _ => exact ly_4_3
  | 4, _ => exact ly_4_4
  | 5, _ => exact ly_4_5
  | 6, _ => exact ly_4_6
  | 7, _ => exact ly_4_7
  | 8, _ => exact ly_4_8
  | 9, _ => exact ly_4_9
  | 10, _ => exact ly_4_10
  | 11, _ => exact ly_4_11
  | 12, _ => exact ly_4_12
  | 13, _ => exact ly_4_13
  | 14, _ => exact ly_4_14
  | (k + 15), hk => exact absurd hk (by omega)
theorem ly_5_0 : u_lay RX5 TX5 0 ∈ wT := wu (wtab_2 (List.mem_of_getElem? (i := 29) (by decide +kernel))) rfl
theorem ly_5_1 : u_lay RX5 TX5 1 ∈ wT := wu (wtab_2 (List.mem_of_getElem? (i := 31) (by decide +kernel))) rfl
theorem ly_5_2 : u_lay RX5 TX5 2 ∈ wT := wu (wtab_2 (List.mem_of_getElem? (i := 33) (by decide +kernel))) rfl
theorem ly_5_3 : u_lay RX5 TX5 3 ∈ wT := wu (wtab_2 (List.mem_of_getElem? (i := 35) (by decide +kernel))) rfl
theorem ly_5_4 : u_lay RX5 TX5 4 ∈ wT := wu (wtab_2 (List.mem_of_getElem? (i := 37) (by decide +kernel))) rfl
theorem inX5 : ∀ w ∈ u_ws RX5 TX5 5, w ∈ wT := by
  intro w hw
  obtain ⟨k, hk, rfl⟩ := List.mem_map.mp hw
  have hk := List.mem_range.mp hk
  match k, hk with
  | 0, _ => exact ly_5_0
  | 1, _ => exact ly_5_1
  | 2, _ => exact ly_5_2
  | 3, _ => exact ly_5_3
  | 4, _ => exact ly_5_4
  | (k + 5), hk => exact absurd hk (by omega)
theorem ly_6_0 : u_lay RX6 TX6 0 ∈ wT := wu (wtab_1 (List.mem_of_getElem? (i := 104) (by decide +kernel))) rfl
theorem ly_6_1 : u_lay RX6 TX6 1 ∈ wT := wu (wtab_1 (List.mem_of_getElem? (i := 106) (by decide +kernel))) rfl
theorem ly_6_2 : u_lay RX6 TX6 2 ∈ wT := wu (wtab_1 (List.mem_of_getElem? (i := 108) (by decide +kernel))) rfl
theorem ly_6_3 : u_lay RX6 TX6 3 ∈ wT := wu (wtab_1 (List.mem_of_getElem? (i := 110) (by decide +kernel))) rfl
theorem ly_6_4 : u_lay RX6 TX6 4 ∈ wT := wu (wtab_1 (List.mem_of_getElem? (i := 112) (by decide +kernel))) rfl
theorem ly_6_5 : u_lay RX6 TX6 5 ∈ wT := wu (wtab_1 (List.mem_of_getElem? (i := 114) (by decide +kernel))) rfl
theorem ly_6_6 : u_lay RX6 TX6 6 ∈ wT := wu (wtab_1 (List.mem_of_getElem? (i := 116) (by decide +kernel))) rfl
theorem ly_6_7 : u_lay RX6 TX6 7 ∈ wT := wu (wtab_1 (List.mem_of_getElem? (i := 118) (by decide +kernel))) rfl
theorem ly_6_8 : u_lay RX6 TX6 8 ∈ wT := wu (wtab_1 (List.mem_of_getElem? (i := 120) (by decide +kernel))) rfl
theorem ly_6_9 : u_lay RX6 TX6 9 ∈ wT := wu (wtab_1 (List.mem_of_getElem? (i := 122) (by decide +kernel))) rfl
theorem ly_6_10 : u_lay RX6 TX6 10 ∈ wT := wu (wtab_1 (List.mem_of_getElem? (i := 124) (by decide +kernel))) rfl
theorem ly_6_11 : u_lay RX6 TX6 11 ∈ wT := wu (wtab_1 (List.mem_of_getElem? (i := 126) (by decide +kernel))) rfl
theorem ly_6_12 : u_lay RX6 TX6 12 ∈ wT := wu (wtab_1 (List.mem_of_getElem? (i := 128) (by decide +kernel))) rfl
theorem ly_6_13 : u_lay RX6 TX6 13 ∈ wT := wu (wtab_1 (List.mem_of_getElem? (i := 130) (by decide +kernel))) rfl
theorem ly_6_14 : u_lay RX6 TX6 14 ∈ wT := wu (wtab_1 (List.mem_of_getElem? (i := 132) (by decide +kernel))) rfl
theorem ly_6_15 : u_lay RX6 TX6 15 ∈ wT := wu (wtab_1 (List.mem_of_getElem? (i := 134) (by decide +kernel))) rfl
theorem ly_6_16 : u_lay RX6 TX6 16 ∈ wT := wu (wtab_1 (List.mem_of_getElem? (i := 136) (by decide +kernel))) rfl
theorem ly_6_17 : u_lay RX6 TX6 17 ∈ wT := wu (wtab_1 (List.mem_of_getElem? (i := 138) (by decide +kernel))) rfl
theorem ly_6_18 : u_lay RX6 TX6 18 ∈ wT := wu (wtab_1 (List.mem_of_getElem? (i := 140) (by decide +kernel))) rfl
theorem ly_6_19 : u_lay RX6 TX6 19 ∈ wT := wu (wtab_1 (List.mem_of_getElem? (i := 142) (by decide +kernel))) rfl
theorem inX6 : ∀ w ∈ u_ws RX6 TX6 20, w ∈ wT := by
  intro w hw
  obtain ⟨k, hk, rfl⟩ := List.mem_map.mp hw
  have hk := List.mem_range.mp hk
  match k, hk with
  | 0, _ => exact ly_6_0
  | 1, _ => exact ly_6_1
  | 2, _ => exact ly_6_2
  | 3, _ => exact ly_6_3
  | 4, _ => exact ly_6_4
  | 5, _ => exact ly_6_5
  | 6, _ => exact ly_6_6
  | 7, _ => exact ly_6_7
  | 8, _ => exact ly_6_8
  | 9, _ => exact ly_6_9
  | 10, _ => exact ly_6_10
  | 11, _ => exact ly_6_11
  | 12, _ => exact ly_6_12
  | 13, _ => exact ly_6_13
  | 14, _ => exact ly_6_14
  | 15, _ => exact ly_6_15
  | 16, _ => exact ly_6_16
  | 17, _ => exact ly_6_17
  | 18, _ => exact ly_6_18
  | 19, _ => exact ly_6_19
  | (k + 20), hk => exact absurd hk (by omega)
theorem ly_7_0 : u_lay RX7 TX7 0 ∈ wT := wu (wtab_2 (List.mem_of_getElem? (i := 158) (by decide +kernel))) rfl
theorem ly_7_1 : u_lay RX7 TX7 1 ∈ wT := wu (wtab_2 (List.mem_of_getElem? (i := 160) (by decide +kernel))) rfl
theorem ly_7_2 : u_lay RX7 TX7 2 ∈ wT := wu (wtab_2 (List.mem_of_getElem? (i := 162) (by decide +kernel))) rfl
theorem ly_7_3 : u_lay RX7 TX7 3 ∈ wT := wu (wtab_2 (List.mem_of_getElem? (i := 164) (by decide +kernel))) rfl
theorem ly_7_4 : u_lay RX7 TX7 4 ∈ wT := wu (wtab_2 (List.mem_of_getElem? (i := 166) (by decide +kernel))) rfl
theorem ly_7_5 : u_lay RX7 TX7 5 ∈ wT := wu (wtab_2 (List.mem_of_getElem? (i := 168) (by decide +kernel))) rfl
theorem ly_7_6 : u_lay RX7 TX7 6 ∈ wT := wu (wtab_2 (List.mem_of_getElem? (i := 170) (by decide +kernel))) rfl
theorem ly_7_7 : u_lay RX7 TX7 7 ∈ wT := wu (wtab_2 (List.mem_of_getElem? (i := 172) (by decide +kernel))) rfl
theorem ly_7_8 : u_lay RX7 TX7 8 ∈ wT := wu (wtab_2 (List.mem_of_getElem? (i := 174) (by decide +kernel))) rfl
theorem inX7 : ∀ w ∈ u_ws RX7 TX7 9, w ∈ wT := by
  intro w hw
  obtain ⟨k, hk, rfl⟩ := List.mem_map.mp hw
  have hk := List.mem_range.mp hk
  match k, hk with
  | 0, _ => exact ly_7_0
  | 1, _ => exact ly_7_1
  | 2, _ => exact ly_7_2
  | 3, _ => exact ly_7_3
  | 4, _ => exact ly_7_4
  | 5, _ => exact ly_7_5
  | 6, _ => exact ly_7_6
  | 7, _ => exact ly_7_7
  | 8, _ => exact ly_7_8
  | (k + 9), hk => exact absurd hk (by omega)
theorem ly_8_0 : u_lay RX8 TX8 0 ∈ wT := wu (wtab_5 (List.mem_of_getElem? (i := 99) (by decide +kernel))) rfl
theorem ly_8_1 : u_lay RX8 TX8 1 ∈ wT := wu (wtab_5 (List.mem_of_getElem? (i := 101) (by decide +kernel))) rfl
theorem ly_8_2 : u_lay RX8 TX8 2 ∈ wT := wu (wtab_5 (List.mem_of_getElem? (i := 103) (by decide +kernel))) rfl
theorem ly_8_3 : u_lay RX8 TX8 3 ∈ wT := wu (wtab_5 (List.mem_of_getElem? (i := 105) (by decide +kernel))) rfl
theorem ly_8_4 : u_lay RX8 TX8 4 ∈ wT := wu (wtab_5 (List.mem_of_getElem? (i := 107) (by decide +kernel))) rfl
theorem ly_8_5 : u_lay RX8 TX8 5 ∈ wT := wu (wtab_5 (List.mem_of_getElem? (i := 109) (by decide +kernel))) rfl
theorem ly_8_6 : u_lay RX8 TX8 6 ∈ wT := wu (wtab_5 (List.mem_of_getElem? (i := 111) (by decide +kernel))) rfl
theorem ly_8_7 : u_lay RX8 TX8 7 ∈ wT := wu (wtab_5 (List.mem_of_getElem? (i := 113) (by decide +kernel))) rfl
theorem ly_8_8 : u_lay RX8 TX8 8 ∈ wT := wu (wtab_5 (List.mem_of_getElem? (i := 115) (by decide +kernel))) rfl
theorem ly_8_9 : u_lay RX8 TX8 9 ∈ wT := wu (wtab_5 (List.mem_of_getElem? (i := 117) (by decide +kernel))) rfl
theorem ly_8_10 : u_lay RX8 TX8 10 ∈ wT := wu (wtab_5 (List.mem_of_getElem? (i := 119) (by decide +kernel))) rfl
theorem ly_8_11 : u_lay RX8 TX8 11 ∈ wT := wu (wtab_5 (List.mem_of_getElem? (i := 121) (by decide +kernel))) rfl
theorem ly_8_12 : u_lay RX8 TX8 12 ∈ wT := wu (wtab_5 (List.mem_of_getElem? (i := 123) (by decide +kernel))) rfl
theorem ly_8_13 : u_lay RX8 TX8 13 ∈ wT := wu (wtab_5 (List.mem_of_getElem? (i := 125) (by decide +kernel))) rfl
theorem ly_8_14 : u_lay RX8 TX8 14 ∈ wT := wu (wtab_5 (List.mem_of_getElem? (i := 127) (by decide +kernel))) rfl
theorem ly_8_15 : u_lay RX8 TX8 15 ∈ wT := wu (wtab_5 (List.mem_of_getElem? (i := 129) (by decide +kernel))) rfl
theorem ly_8_16 : u_lay RX8 TX8 16 ∈ wT := wu (wtab_5 (List.mem_of_getElem? (i := 131) (by decide +kernel))) rfl
theorem ly_8_17 : u_lay RX8 TX8 17 ∈ wT := wu (wtab_5 (List.mem_of_getElem? (i := 133) (by decide +kernel))) rfl
theorem ly_8_18 : u_lay RX8 TX8 18 ∈ wT := wu (wtab_5 (List.mem_of_getElem? (i := 135) (by decide +kernel))) rfl
theorem ly_8_19 : u_lay RX8 TX8 19 ∈ wT := wu (wtab_5 (List.mem_of_getElem? (i := 137) (by decide +kernel))) rfl
theorem ly_8_20 : u_lay RX8 TX8 20 ∈ wT := wu (wtab_5 (List.mem_of_getElem? (i := 139) (by decide +kernel))) rfl
theorem ly_8_21 : u_lay RX8 TX8 21 ∈ wT := wu (wtab_5 (List.mem_of_getElem? (i := 141) (by decide +kernel))) rfl
theorem ly_8_22 : u_lay RX8 TX8 22 ∈ wT := wu (wtab_5 (List.mem_of_getElem? (i := 143) (by decide +kernel))) rfl
theorem ly_8_23 : u_lay RX8 TX8 23 ∈ wT := wu (wtab_5 (List.mem_of_getElem? (i := 145) (by decide +kernel))) rfl
theorem ly_8_24 : u_lay RX8 TX8 24 ∈ wT := wu (wtab_5 (List.mem_of_getElem? (i := 147) (by decide +kernel))) rfl
theorem ly_8_25 : u_lay RX8 TX8 25 ∈ wT := wu (wtab_5 (List.mem_of_getElem? (i := 149) (by decide +kernel))) rfl
theorem ly_8_26 : u_lay RX8 TX8 26 ∈ wT := wu (wtab_5 (List.mem_of_getElem? (i := 151) (by decide +kernel))) rfl
theorem ly_8_27 : u_lay RX8 TX8 27 ∈ wT := wu (wtab_5 (List.mem_of_getElem? (i := 153) (by decide +kernel))) rfl
theorem ly_8_28 : u_lay RX8 TX8 28 ∈ wT := wu (wtab_5 (List.mem_of_getElem? (i := 155) (by decide +kernel))) rfl
theorem ly_8_29 : u_lay RX8 TX8 29 ∈ wT := wu (wtab_5 (List.mem_of_getElem? (i := 157) (by decide +kernel))) rfl
theorem ly_8_30 : u_lay RX8 TX8 30 ∈ wT := wu (wtab_5 (List.mem_of_getElem? (i := 159) (by decide +kernel))) rfl
theorem ly_8_31 : u_lay RX8 TX8 31 ∈ wT := wu (wtab_5 (List.mem_of_getElem? (i := 161) (by decide +kernel))) rfl
theorem ly_8_32 : u_lay RX8 TX8 32 ∈ wT := wu (wtab_5 (List.mem_of_getElem? (i := 163) (by decide +kernel))) rfl
theorem ly_8_33 : u_lay RX8 TX8 33 ∈ wT := wu (wtab_5 (List.mem_of_getElem? (i := 165) (by decide +kernel))) rfl
theorem ly_8_34 : u_lay RX8 TX8 34 ∈ wT := wu (wtab_5 (List.mem_of_getElem? (i := 167) (by decide +kernel))) rfl
theorem ly_8_35 : u_lay RX8 TX8 35 ∈ wT := wu (wtab_5 (List.mem_of_getElem? (i := 169) (by decide +kernel))) rfl
theorem ly_8_36 : u_lay RX8 TX8 36 ∈ wT := wu (wtab_5 (List.mem_of_getElem? (i := 171) (by decide +kernel))) rfl
theorem ly_8_37 : u_lay RX8 TX8 37 ∈ wT := wu (wtab_5 (List.mem_of_getElem? (i := 173) (by decide +kernel))) rfl
theorem ly_8_38 : u_lay RX8 TX8 38 ∈ wT := wu (wtab_5 (List.mem_of_getElem? (i := 175) (by decide +kernel))) rfl
theorem ly_8_39 : u_lay RX8 TX8 39 ∈ wT := wu (wtab_5 (List.mem_of_getElem? (i := 177) (by decide +kernel))) rfl
theorem ly_8_40 : u_lay RX8 TX8 40 ∈ wT := wu (wtab_5 (List.mem_of_getElem? (i := 179) (by decide +kernel))) rfl
theorem ly_8_41 : u_lay RX8 TX8 41 ∈ wT := wu (wtab_5 (List.mem_of_getElem? (i := 181) (by decide +kernel))) rfl
theorem ly_8_42 : u_lay RX8 TX8 42 ∈ wT := wu (wtab_5 (List.mem_of_getElem? (i := 183) (by decide +kernel))) rfl
theorem ly_8_43 : u_lay RX8 TX8 43 ∈ wT := wu (wtab_5 (List.mem_of_getElem? (i := 185) (by decide +kernel))) rfl
theorem ly_8_44 : u_lay RX8 TX8 44 ∈ wT := wu (wtab_5 (List.mem_of_getElem? (i := 187) (by decide +kernel))) rfl
theorem ly_8_45 : u_lay RX8 TX8 45 ∈ wT := wu (wtab_5 (List.mem_of_getElem? (i := 189) (by decide +kernel))) rfl
theorem ly_8_46 : u_lay RX8 TX8 46 ∈ wT := wu (wtab_5 (List.mem_of_getElem? (i := 191) (by decide +kernel))) rfl
theorem ly_8_47 : u_lay RX8 TX8 47 ∈ wT := wu (wtab_5 (List.mem_of_getElem? (i := 193) (by decide +kernel))) rfl
theorem ly_8_48 : u_lay RX8 TX8 48 ∈ wT := wu (wtab_5 (List.mem_of_getElem? (i := 195) (by decide +kernel))) rfl
theorem ly_8_49 : u_lay RX8 TX8 49 ∈ wT := wu (wtab_5 (List.mem_of_getElem? (i := 197) (by decide +kernel))) rfl
theorem ly_8_50 : u_lay RX8 TX8 50 ∈ wT := wu (wtab_5 (List.mem_of_getElem? (i := 199) (by decide +kernel))) rfl
theorem ly_8_51 : u_lay RX8 TX8 51 ∈ wT := wu (wtab_5 (List.mem_of_getElem? (i := 201) (by decide +kernel))) rfl
theorem ly_8_52 : u_lay RX8 TX8 52 ∈ wT := wu (wtab_5 (List.mem_of_getElem? (i := 203) (by decide +kernel))) rfl
theorem ly_8_53 : u_lay RX8 TX8 53 ∈ wT := wu (wtab_5 (List.mem_of_getElem? (i := 205) (by decide +kernel))) rfl
theorem ly_8_54 : u_lay RX8 TX8 54 ∈ wT := wu (wtab_5 (List.mem_of_getElem? (i := 207) (by decide +kernel))) rfl
theorem ly_8_55 : u_lay RX8 TX8 55 ∈ wT := wu (wtab_5 (List.mem_of_getElem? (i := 209) (by decide +kernel))) rfl
theorem ly_8_56 : u_lay RX8 TX8 56 ∈ wT := wu (wtab_5 (List.mem_of_getElem? (i := 211) (by decide +kernel))) rfl
theorem ly_8_57 : u_lay RX8 TX8 57 ∈ wT := wu (wtab_5 (List.mem_of_getElem? (i := 213) (by decide +kernel))) rfl
theorem ly_8_58 : u_lay RX8 TX8 58 ∈ wT := wu (wtab_5 (List.mem_of_getElem? (i := 215) (by decide +kernel))) rfl
theorem ly_8_59 : u_lay RX8 TX8 59 ∈ wT := wu (wtab_5 (List.mem_of_getElem? (i := 217) (by decide +kernel))) rfl
theorem inX8 : ∀ w ∈ u_ws RX8 TX8 60, w ∈ wT := by
  intro w hw
  obtain ⟨k, hk, rfl⟩ := List.mem_map.mp hw
  have hk := List.mem_range.mp hk
  match k, hk with
  | 0, _ => exact ly_8_0
  | 1, _ => exact ly_8_1
  | 2, _ => exact ly_8_2
  | 3, _ => exact ly_8_3
  | 4, _ => exact ly_8_4
  | 5, _ => exact ly_8_5
  | 6, _ => exact ly_8_6
  | 7, _ => exact ly_8_7
  | 8, _ => exact ly_8_8
  | 9, _ => exact ly_8_9
  | 10, _ => exact ly_8_10
  | 11, _ => exact ly_8_11
  | 12, _ => exact ly_8_12
  | 13, _ => exact ly_8_13
  | 14, _ => exact ly_8_14
  | 15, _ => exact ly_8_15
  | 16, _ => exact ly_8_16
  | 17, _ => exact ly_8_17
  | 18, _ => exact ly_8_18
  | 19, _ => exact ly_8_19
  | 20, _ => exact ly_8_20
  | 21, _ => exact ly_8_21
  | 22, _ => exact ly_8_22
  | 23, _ => exact ly_8_23
  | 24, _ => exact ly_8_24
  | 25, _ => exact ly_8_25
  | 26, _ => exact ly_8_26
  | 27, _ => exact ly_8_27
  | 28, _ => exact ly_8_28
  | 29, _ => exact ly_8_29
  | 30, _ => exact ly_8_30
  | 31, _ => exact ly_8_31
  | 32, _ => exact ly_8_32
  | 33, _ => exact ly_8_33
  | 34, _ => exact ly_8_34
  | 35, _ => exact ly_8_35
  | 36, _ => exact ly_8_36
  | 37, _ => exact ly_8_37
  | 38, _ => exact ly_8_38
  | 39, _ => exact ly_8_39
  | 40, _ => exact ly_8_40
  | 41, _ => exact ly_8_41
  | 42, _ => exact ly_8_42
  | 43, _ => exact ly_8_43
  | 44, _ => exact ly_8_44
  | 45, _ => exact ly_8_45
  | 46, _ => exact ly_8_46
  | 47, _ => exact ly_8_47
  | 48, _ => exact ly_8_48
  | 49, _ => exact ly_8_49
  | 50, _ => exact ly_8_50
  | 51, _ => exact ly_8_51
  | 52, _ => exact ly_8_52
  | 53, _ => exact ly_8_53
  | 54, _ => exact ly_8_54
  | 55, _ => exact ly_8_55
  | 56, _ => exact ly_8_56
  | 57, _ => exact ly_8_57
  | 58, _ => exact ly_8_58
  | 59, _ => exact ly_8_59
  | (k + 60), hk => exact absurd hk (by omega)
theorem fl_X0_9 : FL RX0 9 0 2 RX0 TX0 5 := ⟨rfl, by decide, rfl, by decide, inX0, Or.inl (wu (wtab_2 (List.mem_of_getElem? (i := 54) (by decide +kernel))) rfl)⟩
theorem fl_X0_15 : FL RX0 15 0 3 RX0 TX0 5 := ⟨rfl, by decide, rfl, by decide, inX0, Or.inl (wu (wtab_2 (List.mem_of_getElem? (i := 55) (by decide +kernel))) rfl)⟩
theorem fl_X0_18 : FL RX0 18 0 0 RX0 TX0 5 := ⟨rfl, by decide, rfl, by decide, inX0, Or.inl (wu (wtab_2 (List.mem_of_getElem? (i := 52) (by decide +kernel))) rfl)⟩
theorem fl_X0_22 : FL RX0 22 2 0 RX2 TX2 9 := ⟨rfl, by decide, rfl, by decide, inX2, Or.inr ⟨"CallCourt", wn (wtab_1 (List.mem_of_getElem? (i := 204) (by decide +kernel))) rfl⟩⟩
theorem fl_X0_28 : FL RX0 28 0 1 RX0 TX0 5 := ⟨rfl, by decide, rfl, by decide, inX0, Or.inl (wu (wtab_2 (List.mem_of_getElem? (i := 53) (by decide +kernel))) rfl)⟩
theorem fl_X0_57 : FL RX0 57 6 16 RX6 TX6 20 := ⟨rfl, by decide, rfl, by decide, inX6, Or.inr ⟨"CallCourt", wn (wtab_1 (List.mem_of_getElem? (i := 88) (by decide +kernel))) rfl⟩⟩
theorem fl_X0_63 : FL RX0 63 2 3 RX2 TX2 9 := ⟨rfl, by decide, rfl, by decide, inX2, Or.inr ⟨"CallCourt", wn (wtab_1 (List.mem_of_getElem? (i := 217) (by decide +kernel))) rfl⟩⟩
theorem fl_X0_66 : FL RX0 66 2 2 RX2 TX2 9 := ⟨rfl, by decide, rfl, by decide, inX2, Or.inr ⟨"CallCourt", wn (wtab_1 (List.mem_of_getElem? (i := 214) (by decide +kernel))) rfl⟩⟩
theorem fl_X0_76 : FL RX0 76 6 9 RX6 TX6 20 := ⟨rfl, by decide, rfl, by decide, inX6, Or.inr ⟨"CallCourt", wn (wtab_1 (List.mem_of_getElem? (i := 64) (by decide +kernel))) rfl⟩⟩
theorem fl_X0_79 : FL RX0 79 6 10 RX6 TX6 20 := ⟨rfl, by decide, rfl, by decide, inX6, Or.inr ⟨"CallCourt", wn (wtab_1 (List.mem_of_getElem? (i := 67) (by decide +kernel))) rfl⟩⟩
theorem fl_X0_82 : FL RX0 82 6 0 RX6 TX6 20 := ⟨rfl, by decide, rfl, by decide, inX6, Or.inr ⟨"CallCourt", wn (wtab_1 (List.mem_of_getElem? (i := 35) (by decide +kernel))) rfl⟩⟩
theorem fl_X0_89 : FL RX0 89 6 12 RX6 TX6 20 := ⟨rfl, by decide, rfl, by decide, inX6, Or.inr ⟨"CallCourt", wn (wtab_1 (List.mem_of_getElem? (i := 74) (by decide +kernel))) rfl⟩⟩
theorem fl_X0_92 : FL RX0 92 6 13 RX6 TX6 20 := ⟨rfl, by decide, rfl, by decide, inX6, Or.inr ⟨"CallCourt", wn (wtab_1 (List.mem_of_getElem? (i := 78) (by decide +kernel))) rfl⟩⟩
theorem fl_X0_103 : FL RX0 103 6 6 RX6 TX6 20 := ⟨rfl, by decide, rfl, by decide, inX6, Or.inr ⟨"CallCourt", wn (wtab_1 (List.mem_of_getElem? (i := 55) (by decide +kernel))) rfl⟩⟩
theorem fl_X0_113 : FL RX0 113 6 14 RX6 TX6 20 := ⟨rfl, by decide, rfl, by decide, inX6, Or.inr ⟨"CallCourt", wn (wtab_1 (List.mem_of_getElem? (i := 83) (by decide +kernel))) rfl⟩⟩
theorem fl_X0_116 : FL RX0 116 3 1 RX3 TX3 8 := ⟨rfl, by decide, rfl, by decide, inX3, Or.inr ⟨"CallCourt", wn (wtab_1 (List.mem_of_getElem? (i := 158) (by decide +kernel))) rfl⟩⟩
theorem fl_X0_126 : FL RX0 126 0 4 RX0 TX0 5 := ⟨rfl, by decide, rfl, by decide, inX0, Or.inl (wu (wtab_2 (List.mem_of_getElem? (i := 56) (by decide +kernel))) rfl)⟩
theorem fl_X0_135 : FL RX0 135 3 0 RX3 TX3 8 := ⟨rfl, by decide, rfl, by decide, inX3, Or.inr ⟨"CallCourt", wn (wtab_1 (List.mem_of_getElem? (i := 154) (by decide +kernel))) rfl⟩⟩
theorem fl_X0_156 : FL RX0 156 3 2 RX3 TX3 8 := ⟨rfl, by decide, rfl, by decide, inX3, Or.inr ⟨"CallCourt", wn (wtab_1 (List.mem_of_getElem? (i := 164) (by decide +kernel))) rfl⟩⟩
theorem fl_X0_184 : FL RX0 184 6 8 RX6 TX6 20 := ⟨rfl, by decide, rfl, by decide, inX6, Or.inr ⟨"CallCourt", wn (wtab_1 (List.mem_of_getElem? (i := 62) (by decide +kernel))) rfl⟩⟩
theorem fl_X0_193 : FL RX0 193 2 7 RX2 TX2 9 := ⟨rfl, by decide, rfl, by decide, inX2, Or.inr ⟨"CallCourt", wn (wtab_1 (List.mem_of_getElem? (i := 231) (by decide +kernel))) rfl⟩⟩
theorem fl_X0_196 : FL RX0 196 6 18 RX6 TX6 20 := ⟨rfl, by decide, rfl, by decide, inX6, Or.inr ⟨"CallCourt", wn (wtab_1 (List.mem_of_getElem? (i := 99) (by decide +kernel))) rfl⟩⟩
theorem fl_X0_199 : FL RX0 199 3 3 RX3 TX3 8 := ⟨rfl, by decide, rfl, by decide, inX3, Or.inr ⟨"CallCourt", wn (wtab_1 (List.mem_of_getElem? (i := 169) (by decide +kernel))) rfl⟩⟩
theorem fl_X0_205 : FL RX0 205 6 17 RX6 TX6 20 := ⟨rfl, by decide, rfl, by decide, inX6, Or.inr ⟨"CallCourt", wn (wtab_1 (List.mem_of_getElem? (i := 94) (by decide +kernel))) rfl⟩⟩
theorem fl_X0_209 : FL RX0 209 3 7 RX3 TX3 8 := ⟨rfl, by decide, rfl, by decide, inX3, Or.inr ⟨"CallCourt", wn (wtab_1 (List.mem_of_getElem? (i := 184) (by decide +kernel))) rfl⟩⟩
theorem fl_X0_216 : FL RX0 216 2 5 RX2 TX2 9 := ⟨rfl, by decide, rfl, by decide, inX2, Or.inr ⟨"CallCourt", wn (wtab_1 (List.mem_of_getElem? (i := 225) (by decide +kernel))) rfl⟩⟩
theorem fl_X0_219 : FL RX0 219 2 6 RX2 TX2 9 := ⟨rfl, by decide, rfl, by decide, inX2, Or.inr ⟨"CallCourt", wn (wtab_1 (List.mem_of_getElem? (i := 228) (by decide +kernel))) rfl⟩⟩
theorem fl_X0_222 : FL RX0 222 6 19 RX6 TX6 20 := ⟨rfl, by decide, rfl, by decide, inX6, Or.inr ⟨"CallCourt", wn (wtab_1 (List.mem_of_getElem? (i := 103) (by decide +kernel))) rfl⟩⟩
theorem fl_X1_9 : FL RX1 9 1 1 RX1 TX1 8 := ⟨rfl, by decide, rfl, by decide, inX1, Or.inl (wu (wtab_2 (List.mem_of_getElem? (i := 123) (by decide +kernel))) rfl)⟩
theorem fl_X1_15 : FL RX1 15 1 3 RX1 TX1 8 := ⟨rfl, by decide, rfl, by decide, inX1, Or.inl (wu (wtab_2 (List.mem_of_getElem? (i := 125) (by decide +kernel))) rfl)⟩
theorem fl_X1_18 : FL RX1 18 1 4 RX1 TX1 8 := ⟨rfl, by decide, rfl, by decide, inX1, Or.inl (wu (wtab_2 (List.mem_of_getElem? (i := 126) (by decide +kernel))) rfl)⟩
theorem fl_X1_21 : FL RX1 21 1 5 RX1 TX1 8 := ⟨rfl, by decide, rfl, by decide, inX1, Or.inl (wu (wtab_2 (List.mem_of_getElem? (i := 127) (by decide +kernel))) rfl)⟩
theorem fl_X1_25 : FL RX1 25 1 0 RX1 TX1 8 := ⟨rfl, by decide, rfl, by decide, inX1, Or.inl (wu (wtab_2 (List.mem_of_getElem? (i := 122) (by decide +kernel))) rfl)⟩
theorem fl_X1_29 : FL RX1 29 2 2 RX2 TX2 9 := ⟨rfl, by decide, rfl, by decide, inX2, Or.inr ⟨"CallCourt", wn (wtab_1 (List.mem_of_getElem? (i := 213) (by decide +kernel))) rfl⟩⟩
theorem fl_X1_35 : FL RX1 35 2 5 RX2 TX2 9 := ⟨rfl, by decide, rfl, by decide, inX2, Or.inr ⟨"CallCourt", wn (wtab_1 (List.mem_of_getElem? (i := 223) (by decide +kernel))) rfl⟩⟩
theorem fl_X1_42 : FL RX1 42 3 3 RX3 TX3 8 := ⟨rfl, by decide, rfl, by decide, inX3, Or.inr ⟨"CallCourt", wn (wtab_1 (List.mem_of_getElem? (i := 167) (by decide +kernel))) rfl⟩⟩
theorem fl_X1_48 : FL RX1 48 2 0 RX2 TX2 9 := ⟨rfl, by decide, rfl, by decide, inX2, Or.inr ⟨"CallCourt", wn (wtab_1 (List.mem_of_getElem? (i := 206) (by decide +kernel))) rfl⟩⟩
theorem fl_X1_62 : FL RX1 62 6 11 RX6 TX6 20 := ⟨rfl, by decide, rfl, by decide, inX6, Or.inr ⟨"CallCourt", wn (wtab_1 (List.mem_of_getElem? (i := 70) (by decide +kernel))) rfl⟩⟩
theorem fl_X1_73 : FL RX1 73 1 2 RX1 TX1 8 := ⟨rfl, by decide, rfl, by decide, inX1, Or.inl (wu (wtab_2 (List.mem_of_getElem? (i := 124) (by decide +kernel))) rfl)⟩
theorem fl_X1_76 : FL RX1 76 6 12 RX6 TX6 20 := ⟨rfl, by decide, rfl, by decide, inX6, Or.inr ⟨"CallCourt", wn (wtab_1 (List.mem_of_getElem? (i := 75) (by decide +kernel))) rfl⟩⟩
theorem fl_X1_79 : FL RX1 79 6 13 RX6 TX6 20 := ⟨rfl, by decide, rfl, by decide, inX6, Or.inr ⟨"CallCourt", wn (wtab_1 (List.mem_of_getElem? (i := 79) (by decide +kernel))) rfl⟩⟩
theorem fl_X1_85 : FL RX1 85 3 1 RX3 TX3 8 := ⟨rfl, by decide, rfl, by decide, inX3, Or.inr ⟨"CallCourt", wn (wtab_1 (List.mem_of_getElem? (i := 157) (by decide +kernel))) rfl⟩⟩
theorem fl_X1_99 : FL RX1 99 3 2 RX3 TX3 8 := ⟨rfl, by decide, rfl, by decide, inX3, Or.inr ⟨"CallCourt", wn (wtab_1 (List.mem_of_getElem? (i := 163) (by decide +kernel))) rfl⟩⟩
theorem fl_X1_129 : FL RX1 129 1 6 RX1 TX1 8 := ⟨rfl, by decide, rfl, by decide, inX1, Or.inl (wu (wtab_2 (List.mem_of_getElem? (i := 128) (by decide +kernel))) rfl)⟩
theorem fl_X1_135 : FL RX1 135 1 7 RX1 TX1 8 := ⟨rfl, by decide, rfl, by decide, inX1, Or.inl (wu (wtab_2 (List.mem_of_getElem? (i := 129) (by decide +kernel))) rfl)⟩
theorem fl_X1_146 : FL RX1 146 3 7 RX3 TX3 8 := ⟨rfl, by decide, rfl, by decide, inX3, Or.inr ⟨"CallCourt", wn (wtab_1 (List.mem_of_getElem? (i := 183) (by decide +kernel))) rfl⟩⟩
theorem fl_X1_172 : FL RX1 172 6 4 RX6 TX6 20 := ⟨rfl, by decide, rfl, by decide, inX6, Or.inr ⟨"CallCourt", wn (wtab_1 (List.mem_of_getElem? (i := 48) (by decide +kernel))) rfl⟩⟩
theorem fl_X1_178 : FL RX1 178 2 3 RX2 TX2 9 := ⟨rfl, by decide, rfl, by decide, inX2, Or.inr ⟨"CallCourt", wn (wtab_1 (List.mem_of_getElem? (i := 219) (by decide +kernel))) rfl⟩⟩
theorem fl_X2_11 : FL RX2 11 2 0 RX2 TX2 9 := ⟨rfl, by decide, rfl, by decide, inX2, Or.inl (wu (wtab_1 (List.mem_of_getElem? (i := 203) (by decide +kernel))) rfl)⟩
theorem fl_X2_19 : FL RX2 19 2 2 RX2 TX2 9 := ⟨rfl, by decide, rfl, by decide, inX2, Or.inl (wu (wtab_1 (List.mem_of_getElem? (i := 211) (by decide +kernel))) rfl)⟩
theorem fl_X2_23 : FL RX2 23 2 4 RX2 TX2 9 := ⟨rfl, by decide, rfl, by decide, inX2, Or.inl (wu (wtab_1 (List.mem_of_getElem? (i := 221) (by decide +kernel))) rfl)⟩
theorem fl_X2_27 : FL RX2 27 2 5 RX2 TX2 9 := ⟨rfl, by decide, rfl, by decide, inX2, Or.inl (wu (wtab_1 (List.mem_of_getElem? (i := 222) (by decide +kernel))) rfl)⟩
theorem fl_X2_31 : FL RX2 31 2 6 RX2 TX2 9 := ⟨rfl, by decide, rfl, by decide, inX2, Or.inl (wu (wtab_1 (List.mem_of_getElem? (i := 226) (by decide +kernel))) rfl)⟩
theorem fl_X2_38 : FL RX2 38 2 1 RX2 TX2 9 := ⟨rfl, by decide, rfl, by decide, inX2, Or.inl (wu (wtab_1 (List.mem_of_getElem? (i := 208) (by decide +kernel))) rfl)⟩
theorem fl_X2_42 : FL RX2 42 2 3 RX2 TX2 9 := ⟨rfl, by decide, rfl, by decide, inX2, Or.inl (wu (wtab_1 (List.mem_of_getElem? (i := 216) (by decide +kernel))) rfl)⟩
theorem fl_X2_45 : FL RX2 45 2 7 RX2 TX2 9 := ⟨rfl, by decide, rfl, by decide, inX2, Or.inl (wu (wtab_1 (List.mem_of_getElem? (i := 229) (by decide +kernel))) rfl)⟩
theorem fl_X2_48 : FL RX2 48 2 8 RX2 TX2 9 := ⟨rfl, by decide, rfl, by decide, inX2, Or.inl (wu (wtab_1 (List.mem_of_getElem? (i := 232) (by decide +kernel))) rfl)⟩
theorem fl_X2_51 : FL RX2 51 6 14 RX6 TX6 20 := ⟨rfl, by decide, rfl, by decide, inX6, Or.inr ⟨"CallCourt", wn (wtab_1 (List.mem_of_getElem? (i := 82) (by decide +kernel))) rfl⟩⟩
theorem fl_X2_54 : FL RX2 54 6 2 RX6 TX6 20 := ⟨rfl, by decide, rfl, by decide, inX6, Or.inr ⟨"CallCourt", wn (wtab_1 (List.mem_of_getElem? (i := 40) (by decide +kernel))) rfl⟩⟩
theorem fl_X2_57 : FL RX2 57 6 3 RX6 TX6 20 := ⟨rfl, by decide, rfl, by decide, inX6, Or.inr ⟨"CallCourt", wn (wtab_1 (List.mem_of_getElem? (i := 43) (by decide +kernel))) rfl⟩⟩
theorem fl_X2_60 : FL RX2 60 6 5 RX6 TX6 20 := ⟨rfl, by decide, rfl, by decide, inX6, Or.inr ⟨"CallCourt", wn (wtab_1 (List.mem_of_getElem? (i := 51) (by decide +kernel))) rfl⟩⟩
theorem fl_X2_63 : FL RX2 63 3 5 RX3 TX3 8 := ⟨rfl, by decide, rfl, by decide, inX3, Or.inr ⟨"CallCourt", wn (wtab_1 (List.mem_of_getElem? (i := 175) (by decide +kernel))) rfl⟩⟩
theorem fl_X2_66 : FL RX2 66 6 15 RX6 TX6 20 := ⟨rfl, by decide, rfl, by decide, inX6, Or.inr ⟨"CallCourt", wn (wtab_1 (List.mem_of_getElem? (i := 86) (by decide +kernel))) rfl⟩⟩
theorem fl_X2_69 : FL RX2 69 3 1 RX3 TX3 8 := ⟨rfl, by decide, rfl, by decide, inX3, Or.inr ⟨"CallCourt", wn (wtab_1 (List.mem_of_getElem? (i := 159) (by decide +kernel))) rfl⟩⟩
theorem fl_X2_72 : FL RX2 72 3 7 RX3 TX3 8 := ⟨rfl, by decide, rfl, by decide, inX3, Or.inr ⟨"CallCourt", wn (wtab_1 (List.mem_of_getElem? (i := 181) (by decide +kernel))) rfl⟩⟩
theorem fl_X2_75 : FL RX2 75 6 16 RX6 TX6 20 := ⟨rfl, by decide, rfl, by decide, inX6, Or.inr ⟨"CallCourt", wn (wtab_1 (List.mem_of_getElem? (i := 90) (by decide +kernel))) rfl⟩⟩
theorem fl_X2_78 : FL RX2 78 6 17 RX6 TX6 20 := ⟨rfl, by decide, rfl, by decide, inX6, Or.inr ⟨"CallCourt", wn (wtab_1 (List.mem_of_getElem? (i := 93) (by decide +kernel))) rfl⟩⟩
theorem fl_X2_79 : FL RX2 79 6 18 RX6 TX6 20 := ⟨rfl, by decide, rfl, by decide, inX6, Or.inr ⟨"CallCourt", wn (wtab_1 (List.mem_of_getElem? (i := 97) (by decide +kernel))) rfl⟩⟩
theorem fl_X2_82 : FL RX2 82 6 19 RX6 TX6 20 := ⟨rfl, by decide, rfl, by decide, inX6, Or.inr ⟨"CallCourt", wn (wtab_1 (List.mem_of_getElem? (i := 102) (by decide +kernel))) rfl⟩⟩
theorem fl_X3_9 : FL RX3 9 3 5 RX3 TX3 8 := ⟨rfl, by decide, rfl, by decide, inX3, Or.inl (wu (wtab_1 (List.mem_of_getElem? (i := 174) (by decide +kernel))) rfl)⟩
theorem fl_X3_15 : FL RX3 15 3 6 RX3 TX3 8 := ⟨rfl, by decide, rfl, by decide, inX3, Or.inl (wu (wtab_1 (List.mem_of_getElem? (i := 178) (by decide +kernel))) rfl)⟩
theorem fl_X3_18 : FL RX3 18 3 1 RX3 TX3 8 := ⟨rfl, by decide, rfl, by decide, inX3, Or.inl (wu (wtab_1 (List.mem_of_getElem? (i := 156) (by decide +kernel))) rfl)⟩
theorem fl_X3_22 : FL RX3 22 3 0 RX3 TX3 8 := ⟨rfl, by decide, rfl, by decide, inX3, Or.inl (wu (wtab_1 (List.mem_of_getElem? (i := 153) (by decide +kernel))) rfl)⟩
theorem fl_X3_26 : FL RX3 26 3 2 RX3 TX3 8 := ⟨rfl, by decide, rfl, by decide, inX3, Or.inl (wu (wtab_1 (List.mem_of_getElem? (i := 161) (by decide +kernel))) rfl)⟩
theorem fl_X3_29 : FL RX3 29 3 3 RX3 TX3 8 := ⟨rfl, by decide, rfl, by decide, inX3, Or.inl (wu (wtab_1 (List.mem_of_getElem? (i := 166) (by decide +kernel))) rfl)⟩
theorem fl_X3_32 : FL RX3 32 3 4 RX3 TX3 8 := ⟨rfl, by decide, rfl, by decide, inX3, Or.inl (wu (wtab_1 (List.mem_of_getElem? (i := 171) (by decide +kernel))) rfl)⟩
theorem fl_X4_9 : FL RX4 9 4 2 RX4 TX4 15 := ⟨rfl, by decide, rfl, by decide, inX4, Or.inl (wu (wtab_2 (List.mem_of_getElem? (i := 70) (by decide +kernel))) rfl)⟩
theorem fl_X4_15 : FL RX4 15 4 0 RX4 TX4 15 := ⟨rfl, by decide, rfl, by decide, inX4, Or.inl (wu (wtab_2 (List.mem_of_getElem? (i := 68) (by decide +kernel))) rfl)⟩
theorem fl_X4_19 : FL RX4 19 4 3 RX4 TX4 15 := ⟨rfl, by decide, rfl, by decide, inX4, Or.inl (wu (wtab_2 (List.mem_of_getElem? (i := 71) (by decide +kernel))) rfl)⟩
theorem fl_X4_28 : FL RX4 28 4 1 RX4 TX4 15 := ⟨rfl, by decide, rfl, by decide, inX4, Or.inl (wu (wtab_2 (List.mem_of_getElem? (i := 69) (by decide +kernel))) rfl)⟩
theorem fl_X4_32 : FL RX4 32 2 0 RX2 TX2 9 := ⟨rfl, by decide, rfl, by decide, inX2, Or.inr ⟨"CallCourt", wn (wtab_1 (List.mem_of_getElem? (i := 205) (by decide +kernel))) rfl⟩⟩
theorem fl_X4_38 : FL RX4 38 4 12 RX4 TX4 15 := ⟨rfl, by decide, rfl, by decide, inX4, Or.inl (wu (wtab_2 (List.mem_of_getElem? (i := 82) (by decide +kernel))) rfl)⟩
theorem fl_X4_42 : FL RX4 42 2 2 RX2 TX2 9 := ⟨rfl, by decide, rfl, by decide, inX2, Or.inr ⟨"CallCourt", wn (wtab_1 (List.mem_of_getElem? (i := 212) (by decide +kernel))) rfl⟩⟩
theorem fl_X4_46 : FL RX4 46 4 14 RX4 TX4 15 := ⟨rfl, by decide, rfl, by decide, inX4, Or.inl (wu (wtab_2 (List.mem_of_getElem? (i := 84) (by decide +kernel))) rfl)⟩
theorem fl_X4_56 : FL RX4 56 4 11 RX4 TX4 15 := ⟨rfl, by decide, rfl, by decide, inX4, Or.inl (wu (wtab_2 (List.mem_of_getElem? (i := 81) (by decide +kernel))) rfl)⟩
theorem fl_X4_60 : FL RX4 60 4 5 RX4 TX4 15 := ⟨rfl, by decide, rfl, by decide, inX4, Or.inl (wu (wtab_2 (List.mem_of_getElem? (i := 73) (by decide +kernel))) rfl)⟩
theorem fl_X4_82 : FL RX4 82 4 4 RX4 TX4 15 := ⟨rfl, by decide, rfl, by decide, inX4, Or.inl (wu (wtab_2 (List.mem_of_getElem? (i := 72) (by decide +kernel))) rfl)⟩
theorem fl_X4_85 : FL RX4 85 5 0 RX5 TX5 5 := ⟨rfl, by decide, rfl, by decide, inX5, Or.inr ⟨"CallCourt", wn (wtab_2 (List.mem_of_getElem? (i := 21) (by decide +kernel))) rfl⟩⟩
theorem fl_X4_91 : FL RX4 91 5 1 RX5 TX5 5 := ⟨rfl, by decide, rfl, by decide, inX5, Or.inr ⟨"CallCourt", wn (wtab_2 (List.mem_of_getElem? (i := 23) (by decide +kernel))) rfl⟩⟩
theorem fl_X4_94 : FL RX4 94 4 6 RX4 TX4 15 := ⟨rfl, by decide, rfl, by decide, inX4, Or.inl (wu (wtab_2 (List.mem_of_getElem? (i := 74) (by decide +kernel))) rfl)⟩
theorem fl_X4_98 : FL RX4 98 4 7 RX4 TX4 15 := ⟨rfl, by decide, rfl, by decide, inX4, Or.inl (wu (wtab_2 (List.mem_of_getElem? (i := 75) (by decide +kernel))) rfl)⟩
theorem fl_X4_101 : FL RX4 101 4 8 RX4 TX4 15 := ⟨rfl, by decide, rfl, by decide, inX4, Or.inl (wu (wtab_2 (List.mem_of_getElem? (i := 77) (by decide +kernel))) rfl)⟩
theorem fl_X4_104 : FL RX4 104 4 9 RX4 TX4 15 := ⟨rfl, by decide, rfl, by decide, inX4, Or.inl (wu (wtab_2 (List.mem_of_getElem? (i := 79) (by decide +kernel))) rfl)⟩
theorem fl_X4_107 : FL RX4 107 4 10 RX4 TX4 15 := ⟨rfl, by decide, rfl, by decide, inX4, Or.inl (wu (wtab_2 (List.mem_of_getElem? (i := 80) (by decide +kernel))) rfl)⟩
theorem fl_X4_133 : FL RX4 133 5 3 RX5 TX5 5 := ⟨rfl, by decide, rfl, by decide, inX5, Or.inr ⟨"CallCourt", wn (wtab_2 (List.mem_of_getElem? (i := 27) (by decide +kernel))) rfl⟩⟩
theorem fl_X4_136 : FL RX4 136 5 2 RX5 TX5 5 := ⟨rfl, by decide, rfl, by decide, inX5, Or.inr ⟨"CallCourt", wn (wtab_2 (List.mem_of_getElem? (i := 25) (by decide +kernel))) rfl⟩⟩
theorem fl_X4_146 : FL RX4 146 2 8 RX2 TX2 9 := ⟨rfl, by decide, rfl, by decide, inX2, Or.inr ⟨"CallCourt", wn (wtab_1 (List.mem_of_getElem? (i := 233) (by decide +kernel))) rfl⟩⟩
theorem fl_X4_151 : FL RX4 151 2 1 RX2 TX2 9 := ⟨rfl, by decide, rfl, by decide, inX2, Or.inr ⟨"CallCourt", wn (wtab_1 (List.mem_of_getElem? (i := 210) (by decide +kernel))) rfl⟩⟩
theorem fl_X4_154 : FL RX4 154 2 3 RX2 TX2 9 := ⟨rfl, by decide, rfl, by decide, inX2, Or.inr ⟨"CallCourt", wn (wtab_1 (List.mem_of_getElem? (i := 218) (by decide +kernel))) rfl⟩⟩
theorem fl_X4_165 : FL RX4 165 6 1 RX6 TX6 20 := ⟨rfl, by decide, rfl, by decide, inX6, Or.inr ⟨"CallCourt", wn (wtab_1 (List.mem_of_getElem? (i := 38) (by decide +kernel))) rfl⟩⟩
theorem fl_X4_183 : FL RX4 183 6 7 RX6 TX6 20 := ⟨rfl, by decide, rfl, by decide, inX6, Or.inr ⟨"CallCourt", wn (wtab_1 (List.mem_of_getElem? (i := 59) (by decide +kernel))) rfl⟩⟩
theorem fl_X4_186 : FL RX4 186 6 8 RX6 TX6 20 := ⟨rfl, by decide, rfl, by decide, inX6, Or.inr ⟨"CallCourt", wn (wtab_1 (List.mem_of_getElem? (i := 61) (by decide +kernel))) rfl⟩⟩
theorem fl_X4_189 : FL RX4 189 6 0 RX6 TX6 20 := ⟨rfl, by decide, rfl, by decide, inX6, Or.inr ⟨"CallCourt", wn (wtab_1 (List.mem_of_getElem? (i := 36) (by decide +kernel))) rfl⟩⟩
theorem fl_X4_196 : FL RX4 196 6 6 RX6 TX6 20 := ⟨rfl, by decide, rfl, by decide, inX6, Or.inr ⟨"CallCourt", wn (wtab_1 (List.mem_of_getElem? (i := 57) (by decide +kernel))) rfl⟩⟩
theorem fl_X4_202 : FL RX4 202 6 3 RX6 TX6 20 := ⟨rfl, by decide, rfl, by decide, inX6, Or.inr ⟨"CallCourt", wn (wtab_1 (List.mem_of_getElem? (i := 45) (by decide +kernel))) rfl⟩⟩
theorem fl_X4_213 : FL RX4 213 6 5 RX6 TX6 20 := ⟨rfl, by decide, rfl, by decide, inX6, Or.inr ⟨"CallCourt", wn (wtab_1 (List.mem_of_getElem? (i := 53) (by decide +kernel))) rfl⟩⟩
theorem fl_X4_216 : FL RX4 216 4 13 RX4 TX4 15 := ⟨rfl, by decide, rfl, by decide, inX4, Or.inl (wu (wtab_2 (List.mem_of_getElem? (i := 83) (by decide +kernel))) rfl)⟩
theorem fl_X4_222 : FL RX4 222 6 9 RX6 TX6 20 := ⟨rfl, by decide, rfl, by decide, inX6, Or.inr ⟨"CallCourt", wn (wtab_1 (List.mem_of_getElem? (i := 65) (by decide +kernel))) rfl⟩⟩
theorem fl_X4_225 : FL RX4 225 6 10 RX6 TX6 20 := ⟨rfl, by decide, rfl, by decide, inX6, Or.inr ⟨"CallCourt", wn (wtab_1 (List.mem_of_getElem? (i := 68) (by decide +kernel))) rfl⟩⟩
theorem fl_X4_228 : FL RX4 228 6 14 RX6 TX6 20 := ⟨rfl, by decide, rfl, by decide, inX6, Or.inr ⟨"CallCourt", wn (wtab_1 (List.mem_of_getElem? (i := 84) (by decide +kernel))) rfl⟩⟩
theorem fl_X4_231 : FL RX4 231 6 11 RX6 TX6 20 := ⟨rfl, by decide, rfl, by decide, inX6, Or.inr ⟨"CallCourt", wn (wtab_1 (List.mem_of_getElem? (i := 72) (by decide +kernel))) rfl⟩⟩
theorem fl_X4_248 : FL RX4 248 3 2 RX3 TX3 8 := ⟨rfl, by decide, rfl, by decide, inX3, Or.inr ⟨"CallCourt", wn (wtab_1 (List.mem_of_getElem? (i := 165) (by decide +kernel))) rfl⟩⟩
theorem fl_X4_251 : FL RX4 251 3 3 RX3 TX3 8 := ⟨rfl, by decide, rfl, by decide, inX3, Or.inr ⟨"CallCourt", wn (wtab_1 (List.mem_of_getElem? (i := 170) (by decide +kernel))) rfl⟩⟩
theorem fl_X4_266 : FL RX4 266 6 17 RX6 TX6 20 := ⟨rfl, by decide, rfl, by decide, inX6, Or.inr ⟨"CallCourt", wn (wtab_1 (List.mem_of_getElem? (i := 95) (by decide +kernel))) rfl⟩⟩
theorem fl_X4_270 : FL RX4 270 6 4 RX6 TX6 20 := ⟨rfl, by decide, rfl, by decide, inX6, Or.inr ⟨"CallCourt", wn (wtab_1 (List.mem_of_getElem? (i := 49) (by decide +kernel))) rfl⟩⟩
theorem fl_X4_279 : FL RX4 279 3 5 RX3 TX3 8 := ⟨rfl, by decide, rfl, by decide, inX3, Or.inr ⟨"CallCourt", wn (wtab_1 (List.mem_of_getElem? (i := 177) (by decide +kernel))) rfl⟩⟩
theorem fl_X4_282 : FL RX4 282 3 0 RX3 TX3 8 := ⟨rfl, by decide, rfl, by decide, inX3, Or.inr ⟨"CallCourt", wn (wtab_1 (List.mem_of_getElem? (i := 155) (by decide +kernel))) rfl⟩⟩
theorem fl_X4_283 : FL RX4 283 3 4 RX3 TX3 8 := ⟨rfl, by decide, rfl, by decide, inX3, Or.inr ⟨"CallCourt", wn (wtab_1 (List.mem_of_getElem? (i := 173) (by decide +kernel))) rfl⟩⟩
theorem fl_X4_286 : FL RX4 286 3 6 RX3 TX3 8 := ⟨rfl, by decide, rfl, by decide, inX3, Or.inr ⟨"CallCourt", wn (wtab_1 (List.mem_of_getElem? (i := 180) (by decide +kernel))) rfl⟩⟩
theorem fl_X4_293 : FL RX4 293 3 7 RX3 TX3 8 := ⟨rfl, by decide, rfl, by decide, inX3, Or.inr ⟨"CallCourt", wn (wtab_1 (List.mem_of_getElem? (i := 185) (by decide +kernel))) rfl⟩⟩
theorem fl_X5_9 : FL RX5 9 5 0 RX5 TX5 5 := ⟨rfl, by decide, rfl, by decide, inX5, Or.inl (wu (wtab_2 (List.mem_of_getElem? (i := 20) (by decide +kernel))) rfl)⟩
theorem fl_X5_15 : FL RX5 15 5 1 RX5 TX5 5 := ⟨rfl, by decide, rfl, by decide, inX5, Or.inl (wu (wtab_2 (List.mem_of_getElem? (i := 22) (by decide +kernel))) rfl)⟩
theorem fl_X5_19 : FL RX5 19 5 2 RX5 TX5 5 := ⟨rfl, by decide, rfl, by decide, inX5, Or.inl (wu (wtab_2 (List.mem_of_getElem? (i := 24) (by decide +kernel))) rfl)⟩
theorem fl_X5_22 : FL RX5 22 5 3 RX5 TX5 5 := ⟨rfl, by decide, rfl, by decide, inX5, Or.inl (wu (wtab_2 (List.mem_of_getElem? (i := 26) (by decide +kernel))) rfl)⟩
theorem fl_X5_26 : FL RX5 26 5 4 RX5 TX5 5 := ⟨rfl, by decide, rfl, by decide, inX5, Or.inl (wu (wtab_2 (List.mem_of_getElem? (i := 28) (by decide +kernel))) rfl)⟩
theorem fl_X6_9 : FL RX6 9 6 7 RX6 TX6 20 := ⟨rfl, by decide, rfl, by decide, inX6, Or.inl (wu (wtab_1 (List.mem_of_getElem? (i := 58) (by decide +kernel))) rfl)⟩
theorem fl_X6_15 : FL RX6 15 6 8 RX6 TX6 20 := ⟨rfl, by decide, rfl, by decide, inX6, Or.inl (wu (wtab_1 (List.mem_of_getElem? (i := 60) (by decide +kernel))) rfl)⟩
theorem fl_X6_19 : FL RX6 19 6 10 RX6 TX6 20 := ⟨rfl, by decide, rfl, by decide, inX6, Or.inl (wu (wtab_1 (List.mem_of_getElem? (i := 66) (by decide +kernel))) rfl)⟩
theorem fl_X6_22 : FL RX6 22 6 13 RX6 TX6 20 := ⟨rfl, by decide, rfl, by decide, inX6, Or.inl (wu (wtab_1 (List.mem_of_getElem? (i := 77) (by decide +kernel))) rfl)⟩
theorem fl_X6_25 : FL RX6 25 6 15 RX6 TX6 20 := ⟨rfl, by decide, rfl, by decide, inX6, Or.inl (wu (wtab_1 (List.mem_of_getElem? (i := 85) (by decide +kernel))) rfl)⟩
theorem fl_X6_28 : FL RX6 28 6 0 RX6 TX6 20 := ⟨rfl, by decide, rfl, by decide, inX6, Or.inl (wu (wtab_1 (List.mem_of_getElem? (i := 34) (by decide +kernel))) rfl)⟩
theorem fl_X6_32 : FL RX6 32 6 4 RX6 TX6 20 := ⟨rfl, by decide, rfl, by decide, inX6, Or.inl (wu (wtab_1 (List.mem_of_getElem? (i := 46) (by decide +kernel))) rfl)⟩
theorem fl_X6_35 : FL RX6 35 6 2 RX6 TX6 20 := ⟨rfl, by decide, rfl, by decide, inX6, Or.inl (wu (wtab_1 (List.mem_of_getElem? (i := 39) (by decide +kernel))) rfl)⟩
theorem fl_X6_38 : FL RX6 38 6 3 RX6 TX6 20 := ⟨rfl, by decide, rfl, by decide, inX6, Or.inl (wu (wtab_1 (List.mem_of_getElem? (i := 42) (by decide +kernel))) rfl)⟩
theorem fl_X6_41 : FL RX6 41 6 16 RX6 TX6 20 := ⟨rfl, by decide, rfl, by decide, inX6, Or.inl (wu (wtab_1 (List.mem_of_getElem? (i := 87) (by decide +kernel))) rfl)⟩
theorem fl_X6_44 : FL RX6 44 6 1 RX6 TX6 20 := ⟨rfl, by decide, rfl, by decide, inX6, Or.inl (wu (wtab_1 (List.mem_of_getElem? (i := 37) (by decide +kernel))) rfl)⟩
theorem fl_X6_48 : FL RX6 48 6 5 RX6 TX6 20 := ⟨rfl, by decide, rfl, by decide, inX6, Or.inl (wu (wtab_1 (List.mem_of_getElem? (i := 50) (by decide +kernel))) rfl)⟩
theorem fl_X6_51 : FL RX6 51 6 6 RX6 TX6 20 := ⟨rfl, by decide, rfl, by decide, inX6, Or.inl (wu (wtab_1 (List.mem_of_getElem? (i := 54) (by decide +kernel))) rfl)⟩
theorem fl_X6_54 : FL RX6 54 6 9 RX6 TX6 20 := ⟨rfl, by decide, rfl, by decide, inX6, Or.inl (wu (wtab_1 (List.mem_of_getElem? (i := 63) (by decide +kernel))) rfl)⟩
theorem fl_X6_57 : FL RX6 57 6 11 RX6 TX6 20 := ⟨rfl, by decide, rfl, by decide, inX6, Or.inl (wu (wtab_1 (List.mem_of_getElem? (i := 69) (by decide +kernel))) rfl)⟩
theorem fl_X6_60 : FL RX6 60 6 12 RX6 TX6 20 := ⟨rfl, by decide, rfl, by decide, inX6, Or.inl (wu (wtab_1 (List.mem_of_getElem? (i := 73) (by decide +kernel))) rfl)⟩
theorem fl_X6_63 : FL RX6 63 6 14 RX6 TX6 20 := ⟨rfl, by decide, rfl, by decide, inX6, Or.inl (wu (wtab_1 (List.mem_of_getElem? (i := 81) (by decide +kernel))) rfl)⟩
theorem fl_X6_66 : FL RX6 66 6 17 RX6 TX6 20 := ⟨rfl, by decide, rfl, by decide, inX6, Or.inl (wu (wtab_1 (List.mem_of_getElem? (i := 91) (by decide +kernel))) rfl)⟩
theorem fl_X6_69 : FL RX6 69 6 18 RX6 TX6 20 := ⟨rfl, by decide, rfl, by decide, inX6, Or.inl (wu (wtab_1 (List.mem_of_getElem? (i := 96) (by decide +kernel))) rfl)⟩
theorem fl_X6_72 : FL RX6 72 6 19 RX6 TX6 20 := ⟨rfl, by decide, rfl, by decide, inX6, Or.inl (wu (wtab_1 (List.mem_of_getElem? (i := 100) (by decide +kernel))) rfl)⟩
theorem fl_X7_9 : FL RX7 9 7 0 RX7 TX7 9 := ⟨rfl, by decide, rfl, by decide, inX7, Or.inl (wu (wtab_2 (List.mem_of_getElem? (i := 149) (by decide +kernel))) rfl)⟩
theorem fl_X7_16 : FL RX7 16 7 4 RX7 TX7 9 := ⟨rfl, by decide, rfl, by decide, inX7, Or.inl (wu (wtab_2 (List.mem_of_getElem? (i := 153) (by decide +kernel))) rfl)⟩
theorem fl_X7_20 : FL RX7 20 7 5 RX7 TX7 9 := ⟨rfl, by decide, rfl, by decide, inX7, Or.inl (wu (wtab_2 (List.mem_of_getElem? (i := 154) (by decide +kernel))) rfl)⟩
theorem fl_X7_26 : FL RX7 26 7 6 RX7 TX7 9 := ⟨rfl, by decide, rfl, by decide, inX7, Or.inl (wu (wtab_2 (List.mem_of_getElem? (i := 155) (by decide +kernel))) rfl)⟩
theorem fl_X7_35 : FL RX7 35 7 7 RX7 TX7 9 := ⟨rfl, by decide, rfl, by decide, inX7, Or.inl (wu (wtab_2 (List.mem_of_getElem? (i := 156) (by decide +kernel))) rfl)⟩
theorem fl_X7_44 : FL RX7 44 7 8 RX7 TX7 9 := ⟨rfl, by decide, rfl, by decide, inX7, Or.inl (wu (wtab_2 (List.mem_of_getElem? (i := 157) (by decide +kernel))) rfl)⟩
theorem fl_X7_48 : FL RX7 48 7 1 RX7 TX7 9 := ⟨rfl, by decide, rfl, by decide, inX7, Or.inl (wu (wtab_2 (List.mem_of_getElem? (i := 150) (by decide +kernel))) rfl)⟩
theorem fl_X7_64 : FL RX7 64 4 7 RX4 TX4 15 := ⟨rfl, by decide, rfl, by decide, inX4, Or.inr ⟨"CallCourt", wn (wtab_2 (List.mem_of_getElem? (i := 76) (by decide +kernel))) rfl⟩⟩
theorem fl_X7_67 : FL RX7 67 7 2 RX7 TX7 9 := ⟨rfl, by decide, rfl, by decide, inX7, Or.inl (wu (wtab_2 (List.mem_of_getElem? (i := 151) (by decide +kernel))) rfl)⟩
theorem fl_X7_70 : FL RX7 70 4 8 RX4 TX4 15 := ⟨rfl, by decide, rfl, by decide, inX4, Or.inr ⟨"CallCourt", wn (wtab_2 (List.mem_of_getElem? (i := 78) (by decide +kernel))) rfl⟩⟩
theorem fl_X7_73 : FL RX7 73 2 1 RX2 TX2 9 := ⟨rfl, by decide, rfl, by decide, inX2, Or.inr ⟨"CallCourt", wn (wtab_1 (List.mem_of_getElem? (i := 209) (by decide +kernel))) rfl⟩⟩
theorem fl_X7_80 : FL RX7 80 2 0 RX2 TX2 9 := ⟨rfl, by decide, rfl, by decide, inX2, Or.inr ⟨"CallCourt", wn (wtab_1 (List.mem_of_getElem? (i := 207) (by decide +kernel))) rfl⟩⟩
theorem fl_X7_84 : FL RX7 84 6 2 RX6 TX6 20 := ⟨rfl, by decide, rfl, by decide, inX6, Or.inr ⟨"CallCourt", wn (wtab_1 (List.mem_of_getElem? (i := 41) (by decide +kernel))) rfl⟩⟩
theorem fl_X7_89 : FL RX7 89 6 3 RX6 TX6 20 := ⟨rfl, by decide, rfl, by decide, inX6, Or.inr ⟨"CallCourt", wn (wtab_1 (List.mem_of_getElem? (i := 44) (by decide +kernel))) rfl⟩⟩
theorem fl_X7_92 : FL RX7 92 6 4 RX6 TX6 20 := ⟨rfl, by decide, rfl, by decide, inX6, Or.inr ⟨"CallCourt", wn (wtab_1 (List.mem_of_getElem? (i := 47) (by decide +kernel))) rfl⟩⟩
theorem fl_X7_95 : FL RX7 95 6 11 RX6 TX6 20 := ⟨rfl, by decide, rfl, by decide, inX6, Or.inr ⟨"CallCourt", wn (wtab_1 (List.mem_of_getElem? (i := 71) (by decide +kernel))) rfl⟩⟩
theorem fl_X7_98 : FL RX7 98 6 5 RX6 TX6 20 := ⟨rfl, by decide, rfl, by decide, inX6, Or.inr ⟨"CallCourt", wn (wtab_1 (List.mem_of_getElem? (i := 52) (by decide +kernel))) rfl⟩⟩
theorem fl_X7_101 : FL RX7 101 6 17 RX6 TX6 20 := ⟨rfl, by decide, rfl, by decide, inX6, Or.inr ⟨"CallCourt", wn (wtab_1 (List.mem_of_getElem? (i := 92) (by decide +kernel))) rfl⟩⟩
theorem fl_X7_104 : FL RX7 104 6 19 RX6 TX6 20 := ⟨rfl, by decide, rfl, by decide, inX6, Or.inr ⟨"CallCourt", wn (wtab_1 (List.mem_of_getElem? (i := 101) (by decide +kernel))) rfl⟩⟩
theorem fl_X7_107 : FL RX7 107 6 6 RX6 TX6 20 := ⟨rfl, by decide, rfl, by decide, inX6, Or.inr ⟨"CallCourt", wn (wtab_1 (List.mem_of_getElem? (i := 56) (by decide +kernel))) rfl⟩⟩
theorem fl_X7_110 : FL RX7 110 6 12 RX6 TX6 20 := ⟨rfl, by decide, rfl, by decide, inX6, Or.inr ⟨"CallCourt", wn (wtab_1 (List.mem_of_getElem? (i := 76) (by decide +kernel))) rfl⟩⟩
theorem fl_X7_113 : FL RX7 113 6 16 RX6 TX6 20 := ⟨rfl, by decide, rfl, by decide, inX6, Or.inr ⟨"CallCourt", wn (wtab_1 (List.mem_of_getElem? (i := 89) (by decide +kernel))) rfl⟩⟩
theorem fl_X7_116 : FL RX7 116 6 13 RX6 TX6 20 := ⟨rfl, by decide, rfl, by decide, inX6, Or.inr ⟨"CallCourt", wn (wtab_1 (List.mem_of_getElem? (i := 80) (by decide +kernel))) rfl⟩⟩
theorem fl_X7_131 : FL RX7 131 2 2 RX2 TX2 9 := ⟨rfl, by decide, rfl, by decide, inX2, Or.inr ⟨"CallCourt", wn (wtab_1 (List.mem_of_getElem? (i := 215) (by decide +kernel))) rfl⟩⟩
theorem fl_X7_135 : FL RX7 135 3 1 RX3 TX3 8 := ⟨rfl, by decide, rfl, by decide, inX3, Or.inr ⟨"CallCourt", wn (wtab_1 (List.mem_of_getElem? (i := 160) (by decide +kernel))) rfl⟩⟩
theorem fl_X7_140 : FL RX7 140 3 2 RX3 TX3 8 := ⟨rfl, by decide, rfl, by decide, inX3, Or.inr ⟨"CallCourt", wn (wtab_1 (List.mem_of_getElem? (i := 162) (by decide +kernel))) rfl⟩⟩
theorem fl_X7_143 : FL RX7 143 3 3 RX3 TX3 8 := ⟨rfl, by decide, rfl, by decide, inX3, Or.inr ⟨"CallCourt", wn (wtab_1 (List.mem_of_getElem? (i := 168) (by decide +kernel))) rfl⟩⟩
theorem fl_X7_146 : FL RX7 146 3 4 RX3 TX3 8 := ⟨rfl, by decide, rfl, by decide, inX3, Or.inr ⟨"CallCourt", wn (wtab_1 (List.mem_of_getElem? (i := 172) (by decide +kernel))) rfl⟩⟩
theorem fl_X7_149 : FL RX7 149 3 5 RX3 TX3 8 := ⟨rfl, by decide, rfl, by decide, inX3, Or.inr ⟨"CallCourt", wn (wtab_1 (List.mem_of_getElem? (i := 176) (by decide +kernel))) rfl⟩⟩
theorem fl_X7_156 : FL RX7 156 3 6 RX3 TX3 8 := ⟨rfl, by decide, rfl, by decide, inX3, Or.inr ⟨"CallCourt", wn (wtab_1 (List.mem_of_getElem? (i := 179) (by decide +kernel))) rfl⟩⟩
theorem fl_X7_166 : FL RX7 166 6 18 RX6 TX6 20 := ⟨rfl, by decide, rfl, by decide, inX6, Or.inr ⟨"CallCourt", wn (wtab_1 (List.mem_of_getElem? (i := 98) (by decide +kernel))) rfl⟩⟩
theorem fl_X7_169 : FL RX7 169 2 5 RX2 TX2 9 := ⟨rfl, by decide, rfl, by decide, inX2, Or.inr ⟨"CallCourt", wn (wtab_1 (List.mem_of_getElem? (i := 224) (by decide +kernel))) rfl⟩⟩
theorem fl_X7_172 : FL RX7 172 2 6 RX2 TX2 9 := ⟨rfl, by decide, rfl, by decide, inX2, Or.inr ⟨"CallCourt", wn (wtab_1 (List.mem_of_getElem? (i := 227) (by decide +kernel))) rfl⟩⟩
theorem fl_X7_184 : FL RX7 184 3 7 RX3 TX3 8 := ⟨rfl, by decide, rfl, by decide, inX3, Or.inr ⟨"CallCourt", wn (wtab_1 (List.mem_of_getElem? (i := 182) (by decide +kernel))) rfl⟩⟩
theorem fl_X7_206 : FL RX7 206 1 7 RX1 TX1 8 := ⟨rfl, by decide, rfl, by decide, inX1, Or.inr ⟨"CallCourt", wn (wtab_2 (List.mem_of_getElem? (i := 130) (by decide +kernel))) rfl⟩⟩
theorem fl_X7_209 : FL RX7 209 7 3 RX7 TX7 9 := ⟨rfl, by decide, rfl, by decide, inX7, Or.inl (wu (wtab_2 (List.mem_of_getElem? (i := 152) (by decide +kernel))) rfl)⟩
theorem fl_X7_215 : FL RX7 215 2 3 RX2 TX2 9 := ⟨rfl, by decide, rfl, by decide, inX2, Or.inr ⟨"CallCourt", wn (wtab_1 (List.mem_of_getElem? (i := 220) (by decide +kernel))) rfl⟩⟩
theorem fl_X7_216 : FL RX7 216 2 7 RX2 TX2 9 := ⟨rfl, by decide, rfl, by decide, inX2, Or.inr ⟨"CallCourt", wn (wtab_1 (List.mem_of_getElem? (i := 230) (by decide +kernel))) rfl⟩⟩
theorem fl_X7_217 : FL RX7 217 2 8 RX2 TX2 9 := ⟨rfl, by decide, rfl, by decide, inX2, Or.inr ⟨"CallCourt", wn (wtab_1 (List.mem_of_getElem? (i := 234) (by decide +kernel))) rfl⟩⟩
theorem fl_X8_7 : FL RX8 7 8 0 RX8 TX8 60 := ⟨rfl, by decide, rfl, by decide, inX8, Or.inl (wu (wtab_5 (List.mem_of_getElem? (i := 39) (by decide +kernel))) rfl)⟩
theorem fl_X8_41 : FL RX8 41 8 3 RX8 TX8 60 := ⟨rfl, by decide, rfl, by decide, inX8, Or.inl (wu (wtab_5 (List.mem_of_getElem? (i := 42) (by decide +kernel))) rfl)⟩
theorem fl_X8_45 : FL RX8 45 8 12 RX8 TX8 60 := ⟨rfl, by decide, rfl, by decide, inX8, Or.inl (wu (wtab_5 (List.mem_of_getElem? (i := 51) (by decide +kernel))) rfl)⟩
theorem fl_X8_49 : FL RX8 49 8 13 RX8 TX8 60 := ⟨rfl, by decide, rfl, by decide, inX8, Or.inl (wu (wtab_5 (List.mem_of_getElem? (i := 52) (by decide +kernel))) rfl)⟩
theorem fl_X8_52 : FL RX8 52 8 14 RX8 TX8 60 := ⟨rfl, by decide, rfl, by decide, inX8, Or.inl (wu (wtab_5 (List.mem_of_getElem? (i := 53) (by decide +kernel))) rfl)⟩
theorem fl_X8_55 : FL RX8 55 8 15 RX8 TX8 60 := ⟨rfl, by decide, rfl, by decide, inX8, Or.inl (wu (wtab_5 (List.mem_of_getElem? (i := 54) (by decide +kernel))) rfl)⟩
theorem fl_X8_58 : FL RX8 58 8 16 RX8 TX8 60 := ⟨rfl, by decide, rfl, by decide, inX8, Or.inl (wu (wtab_5 (List.mem_of_getElem? (i := 55) (by decide +kernel))) rfl)⟩
theorem fl_X8_61 : FL RX8 61 8 17 RX8 TX8 60 := ⟨rfl, by decide, rfl, by decide, inX8, Or.inl (wu (wtab_5 (List.mem_of_getElem? (i := 56) (by decide +kernel))) rfl)⟩
theorem fl_X8_64 : FL RX8 64 8 18 RX8 TX8 60 := ⟨rfl, by decide, rfl, by decide, inX8, Or.inl (wu (wtab_5 (List.mem_of_getElem? (i := 57) (by decide +kernel))) rfl)⟩
theorem fl_X8_67 : FL RX8 67 8 19 RX8 TX8 60 := ⟨rfl, by decide, rfl, by decide, inX8, Or.inl (wu (wtab_5 (List.mem_of_getElem? (i := 58) (by decide +kernel))) rfl)⟩
theorem fl_X8_70 : FL RX8 70 8 20 RX8 TX8 60 := ⟨rfl, by decide, rfl, by decide, inX8, Or.inl (wu (wtab_5 (List.mem_of_getElem? (i := 59) (by decide +kernel))) rfl)⟩
theorem fl_X8_73 : FL RX8 73 8 21 RX8 TX8 60 := ⟨rfl, by decide, rfl, by decide, inX8, Or.inl (wu (wtab_5 (List.mem_of_getElem? (i := 60) (by decide +kernel))) rfl)⟩
theorem fl_X8_76 : FL RX8 76 8 22 RX8 TX8 60 := ⟨rfl, by decide, rfl, by decide, inX8, Or.inl (wu (wtab_5 (List.mem_of_getElem? (i := 61) (by decide +kernel))) rfl)⟩
theorem fl_X8_79 : FL RX8 79 8 23 RX8 TX8 60 := ⟨rfl, by decide, rfl, by decide, inX8, Or.inl (wu (wtab_5 (List.mem_of_getElem? (i := 62) (by decide +kernel))) rfl)⟩
theorem fl_X8_82 : FL RX8 82 8 24 RX8 TX8 60 := ⟨rfl, by decide, rfl, by decide, inX8, Or.inl (wu (wtab_5 (List.mem_of_getElem? (i := 63) (by decide +kernel))) rfl)⟩
theorem fl_X8_85 : FL RX8 85 8 25 RX8 TX8 60 := ⟨rfl, by decide, rfl, by decide, inX8, Or.inl (wu (wtab_5 (List.mem_of_getElem? (i := 64) (by decide +kernel))) rfl)⟩
theorem fl_X8_88 : FL RX8 88 8 26 RX8 TX8 60 := ⟨rfl, by decide, rfl, by decide, inX8, Or.inl (wu (wtab_5 (List.mem_of_getElem? (i := 65) (by decide +kernel))) rfl)⟩
theorem fl_X8_91 : FL RX8 91 8 27 RX8 TX8 60 := ⟨rfl, by decide, rfl, by decide, inX8, Or.inl (wu (wtab_5 (List.mem_of_getElem? (i := 66) (by decide +kernel))) rfl)⟩
theorem fl_X8_94 : FL RX8 94 8 28 RX8 TX8 60 := ⟨rfl, by decide, rfl, by decide, inX8, Or.inl (wu (wtab_5 (List.mem_of_getElem? (i := 67) (by decide +kernel))) rfl)⟩
theorem fl_X8_97 : FL RX8 97 8 29 RX8 TX8 60 := ⟨rfl, by decide, rfl, by decide, inX8, Or.inl (wu (wtab_5 (List.mem_of_getElem? (i := 68) (by decide +kernel))) rfl)⟩
theorem fl_X8_100 : FL RX8 100 8 30 RX8 TX8 60 := ⟨rfl, by decide, rfl, by decide, inX8, Or.inl (wu (wtab_5 (List.mem_of_getElem? (i := 69) (by decide +kernel))) rfl)⟩
theorem fl_X8_103 : FL RX8 103 8 31 RX8 TX8 60 := ⟨rfl, by decide, rfl, by decide, inX8, Or.inl (wu (wtab_5 (List.mem_of_getElem? (i := 70) (by decide +kernel))) rfl)⟩
theorem fl_X8_107 : FL RX8 107 8 32 RX8 TX8 60 := ⟨rfl, by decide, rfl, by decide, inX8, Or.inl (wu (wtab_5 (List.mem_of_getElem? (i := 71) (by decide +kernel))) rfl)⟩
theorem fl_X8_110 : FL RX8 110 8 33 RX8 TX8 60 := ⟨rfl, by decide, rfl, by decide, inX8, Or.inl (wu (wtab_5 (List.mem_of_getElem? (i := 72) (by decide +kernel))) rfl)⟩
theorem fl_X8_113 : FL RX8 113 8 34 RX8 TX8 60 := ⟨rfl, by decide, rfl, by decide, inX8, Or.inl (wu (wtab_5 (List.mem_of_getElem? (i := 73) (by decide +kernel))) rfl)⟩
theorem fl_X8_116 : FL RX8 116 8 35 RX8 TX8 60 := ⟨rfl, by decide, rfl, by decide, inX8, Or.inl (wu (wtab_5 (List.mem_of_getElem? (i := 74) (by decide +kernel))) rfl)⟩
theorem fl_X8_119 : FL RX8 119 8 36 RX8 TX8 60 := ⟨rfl, by decide, rfl, by decide, inX8, Or.inl (wu (wtab_5 (List.mem_of_getElem? (i := 75) (by decide +kernel))) rfl)⟩
theorem fl_X8_122 : FL RX8 122 8 37 RX8 TX8 60 := ⟨rfl, by decide, rfl, by decide, inX8, Or.inl (wu (wtab_5 (List.mem_of_getElem? (i := 76) (by decide +kernel))) rfl)⟩
theorem fl_X8_125 : FL RX8 125 8 38 RX8 TX8 60 := ⟨rfl, by decide, rfl, by decide, inX8, Or.inl (wu (wtab_5 (List.mem_of_getElem? (i := 77) (by decide +kernel))) rfl)⟩
theorem fl_X8_128 : FL RX8 128 8 39 RX8 TX8 60 := ⟨rfl, by decide, rfl, by decide, inX8, Or.inl (wu (wtab_5 (List.mem_of_getElem? (i := 78) (by decide +kernel))) rfl)⟩
theorem fl_X8_131 : FL RX8 131 8 40 RX8 TX8 60 := ⟨rfl, by decide, rfl, by decide, inX8, Or.inl (wu (wtab_5 (List.mem_of_getElem? (i := 79) (by decide +kernel))) rfl)⟩
theorem fl_X8_134 : FL RX8 134 8 41 RX8 TX8 60 := ⟨rfl, by decide, rfl, by decide, inX8, Or.inl (wu (wtab_5 (List.mem_of_getElem? (i := 80) (by decide +kernel))) rfl)⟩
theorem fl_X8_137 : FL RX8 137 8 42 RX8 TX8 60 := ⟨rfl, by decide, rfl, by decide, inX8, Or.inl (wu (wtab_5 (List.mem_of_getElem? (i := 81) (by decide +kernel))) rfl)⟩
theorem fl_X8_140 : FL RX8 140 8 43 RX8 TX8 60 := ⟨rfl, by decide, rfl, by decide, inX8, Or.inl (wu (wtab_5 (List.mem_of_getElem? (i := 82) (by decide +kernel))) rfl)⟩
theorem fl_X8_143 : FL RX8 143 8 44 RX8 TX8 60 := ⟨rfl, by decide, rfl, by decide, inX8, Or.inl (wu (wtab_5 (List.mem_of_getElem? (i := 83) (by decide +kernel))) rfl)⟩
theorem fl_X8_146 : FL RX8 146 8 45 RX8 TX8 60 := ⟨rfl, by decide, rfl, by decide, inX8, Or.inl (wu (wtab_5 (List.mem_of_getElem? (i := 84) (by decide +kernel))) rfl)⟩
theorem fl_X8_149 : FL RX8 149 8 49 RX8 TX8 60 := ⟨rfl, by decide, rfl, by decide, inX8, Or.inl (wu (wtab_5 (List.mem_of_getElem? (i := 88) (by decide +kernel))) rfl)⟩
theorem fl_X8_152 : FL RX8 152 8 51 RX8 TX8 60 := ⟨rfl, by decide, rfl, by decide, inX8, Or.inl (wu (wtab_5 (List.mem_of_getElem? (i := 90) (by decide +kernel))) rfl)⟩
theorem fl_X8_155 : FL RX8 155 8 55 RX8 TX8 60 := ⟨rfl, by decide, rfl, by decide, inX8, Or.inl (wu (wtab_5 (List.mem_of_getElem? (i := 94) (by decide +kernel))) rfl)⟩
theorem fl_X8_158 : FL RX8 158 8 57 RX8 TX8 60 := ⟨rfl, by decide, rfl, by decide, inX8, Or.inl (wu (wtab_5 (List.mem_of_getElem? (i := 96) (by decide +kernel))) rfl)⟩
theorem fl_X8_161 : FL RX8 161 8 1 RX8 TX8 60 := ⟨rfl, by decide, rfl, by decide, inX8, Or.inl (wu (wtab_5 (List.mem_of_getElem? (i := 40) (by decide +kernel))) rfl)⟩
theorem fl_X8_169 : FL RX8 169 8 4 RX8 TX8 60 := ⟨rfl, by decide, rfl, by decide, inX8, Or.inl (wu (wtab_5 (List.mem_of_getElem? (i := 43) (by decide +kernel))) rfl)⟩
theorem fl_X8_172 : FL RX8 172 8 6 RX8 TX8 60 := ⟨rfl, by decide, rfl, by decide, inX8, Or.inl (wu (wtab_5 (List.mem_of_getElem? (i := 45) (by decide +kernel))) rfl)⟩
theorem fl_X8_175 : FL RX8 175 8 5 RX8 TX8 60 := ⟨rfl, by decide, rfl, by decide, inX8, Or.inl (wu (wtab_5 (List.mem_of_getElem? (i := 44) (by decide +kernel))) rfl)⟩
theorem fl_X8_182 : FL RX8 182 8 7 RX8 TX8 60 := ⟨rfl, by decide, rfl, by decide, inX8, Or.inl (wu (wtab_5 (List.mem_of_getElem? (i := 46) (by decide +kernel))) rfl)⟩
theorem fl_X8_189 : FL RX8 189 8 8 RX8 TX8 60 := ⟨rfl, by decide, rfl, by decide, inX8, Or.inl (wu (wtab_5 (List.mem_of_getElem? (i := 47) (by decide +kernel))) rfl)⟩
theorem fl_X8_192 : FL RX8 192 8 9 RX8 TX8 60 := ⟨rfl, by decide, rfl, by decide, inX8, Or.inl (wu (wtab_5 (List.mem_of_getElem? (i := 48) (by decide +kernel))) rfl)⟩
theorem fl_X8_208 : FL RX8 208 8 10 RX8 TX8 60 := ⟨rfl, by decide, rfl, by decide, inX8, Or.inl (wu (wtab_5 (List.mem_of_getElem? (i := 49) (by decide +kernel))) rfl)⟩
theorem fl_X8_211 : FL RX8 211 8 11 RX8 TX8 60 := ⟨rfl, by decide, rfl, by decide, inX8, Or.inl (wu (wtab_5 (List.mem_of_getElem? (i := 50) (by decide +kernel))) rfl)⟩
theorem fl_X8_246 : FL RX8 246 8 46 RX8 TX8 60 := ⟨rfl, by decide, rfl, by decide, inX8, Or.inl (wu (wtab_5 (List.mem_of_getElem? (i := 85) (by decide +kernel))) rfl)⟩
theorem fl_X8_255 : FL RX8 255 8 47 RX8 TX8 60 := ⟨rfl, by decide, rfl, by decide, inX8, Or.inl (wu (wtab_5 (List.mem_of_getElem? (i := 86) (by decide +kernel))) rfl)⟩
theorem fl_X8_271 : FL RX8 271 8 48 RX8 TX8 60 := ⟨rfl, by decide, rfl, by decide, inX8, Or.inl (wu (wtab_5 (List.mem_of_getElem? (i := 87) (by decide +kernel))) rfl)⟩
theorem fl_X8_316 : FL RX8 316 8 2 RX8 TX8 60 := ⟨rfl, by decide, rfl, by decide, inX8, Or.inl (wu (wtab_5 (List.mem_of_getElem? (i := 41) (by decide +kernel))) rfl)⟩
theorem fl_X8_386 : FL RX8 386 8 50 RX8 TX8 60 := ⟨rfl, by decide, rfl, by decide, inX8, Or.inl (wu (wtab_5 (List.mem_of_getElem? (i := 89) (by decide +kernel))) rfl)⟩
theorem fl_X8_389 : FL RX8 389 8 52 RX8 TX8 60 := ⟨rfl, by decide, rfl, by decide, inX8, Or.inl (wu (wtab_5 (List.mem_of_getElem? (i := 91) (by decide +kernel))) rfl)⟩
theorem fl_X8_401 : FL RX8 401 8 53 RX8 TX8 60 := ⟨rfl, by decide, rfl, by decide, inX8, Or.inl (wu (wtab_5 (List.mem_of_getElem? (i := 92) (by decide +kernel))) rfl)⟩
theorem fl_X8_404 : FL RX8 404 8 54 RX8 TX8 60 := ⟨rfl, by decide, rfl, by decide, inX8, Or.inl (wu (wtab_5 (List.mem_of_getElem? (i := 93) (by decide +kernel))) rfl)⟩
theorem fl_X8_413 : FL RX8 413 8 56 RX8 TX8 60 := ⟨rfl, by decide, rfl, by decide, inX8, Or.inl (wu (wtab_5 (List.mem_of_getElem? (i := 95) (by decide +kernel))) rfl)⟩
theorem fl_X8_428 : FL RX8 428 8 58 RX8 TX8 60 := ⟨rfl, by decide, rfl, by decide, inX8, Or.inl (wu (wtab_5 (List.mem_of_getElem? (i := 97) (by decide +kernel))) rfl)⟩
theorem fl_X8_451 : FL RX8 451 8 59 RX8 TX8 60 := ⟨rfl, by decide, rfl, by decide, inX8, Or.inl (wu (wtab_5 (List.mem_of_getElem? (i := 98) (by decide +kernel))) rfl)⟩
theorem fp_0_0 : FP 0 0 TX0 5 tyX0 (.object "CallCourt$Family") := ⟨tyX0_ok, nmX0, rfl, tyX0_ok 0 (by decide)⟩
theorem fp_0_1 : FP 0 1 TX0 5 tyX0 (.object "CallCourt$Type") := ⟨tyX0_ok, nmX0, rfl, tyX0_ok 1 (by decide)⟩
theorem fp_0_4 : FP 0 4 TX0 5 tyX0 .int := ⟨tyX0_ok, nmX0, rfl, tyX0_ok 4 (by decide)⟩
theorem fp_1_0 : FP 1 0 TX1 8 tyX1 (.object "CallCourt$Family") := ⟨tyX1_ok, nmX1, rfl, tyX1_ok 0 (by decide)⟩
theorem fp_1_2 : FP 1 2 TX1 8 tyX1 .int := ⟨tyX1_ok, nmX1, rfl, tyX1_ok 2 (by decide)⟩
theorem fp_1_6 : FP 1 6 TX1 8 tyX1 .int := ⟨tyX1_ok, nmX1, rfl, tyX1_ok 6 (by decide)⟩
theorem fp_1_7 : FP 1 7 TX1 8 tyX1 .int := ⟨tyX1_ok, nmX1, rfl, tyX1_ok 7 (by decide)⟩
theorem fp_2_1 : FP 2 1 TX2 9 tyX2 .int := ⟨tyX2_ok, nmX2, rfl, tyX2_ok 1 (by decide)⟩
theorem fp_2_3 : FP 2 3 TX2 9 tyX2 .int := ⟨tyX2_ok, nmX2, rfl, tyX2_ok 3 (by decide)⟩
theorem fp_2_7 : FP 2 7 TX2 9 tyX2 .int := ⟨tyX2_ok, nmX2, rfl, tyX2_ok 7 (by decide)⟩
theorem fp_2_8 : FP 2 8 TX2 9 tyX2 .int := ⟨tyX2_ok, nmX2, rfl, tyX2_ok 8 (by decide)⟩
theorem fp_3_0 : FP 3 0 TX3 8 tyX3 .long := ⟨tyX3_ok, nmX3, rfl, tyX3_ok 0 (by decide)⟩
theorem fp_3_1 : FP 3 1 TX3 8 tyX3 .int := ⟨tyX3_ok, nmX3, rfl, tyX3_ok 1 (by decide)⟩
theorem fp_3_2 : FP 3 2 TX3 8 tyX3 .int := ⟨tyX3_ok, nmX3, rfl, tyX3_ok 2 (by decide)⟩
theorem fp_3_3 : FP 3 3 TX3 8 tyX3 .int := ⟨tyX3_ok, nmX3, rfl, tyX3_ok 3 (by decide)⟩
theorem fp_3_4 : FP 3 4 TX3 8 tyX3 .int := ⟨tyX3_ok, nmX3, rfl, tyX3_ok 4 (by decide)⟩
theorem fp_3_7 : FP 3 7 TX3 8 tyX3 .int := ⟨tyX3_ok, nmX3, rfl, tyX3_ok 7 (by decide)⟩
theorem fp_4_3 : FP 4 3 TX4 15 tyX4 (.object "CallCourt$Family") := ⟨tyX4_ok, nmX4, rfl, tyX4_ok 3 (by decide)⟩
theorem fp_4_4 : FP 4 4 TX4 15 tyX4 .int := ⟨tyX4_ok, nmX4, rfl, tyX4_ok 4 (by decide)⟩
theorem fp_4_5 : FP 4 5 TX4 15 tyX4 .int := ⟨tyX4_ok, nmX4, rfl, tyX4_ok 5 (by decide)⟩
theorem fp_4_6 : FP 4 6 TX4 15 tyX4 .long := ⟨tyX4_ok, nmX4, rfl, tyX4_ok 6 (by decide)⟩
theorem fp_4_7 : FP 4 7 TX4 15 tyX4 .int := ⟨tyX4_ok, nmX4, rfl, tyX4_ok 7 (by decide)⟩
theorem fp_4_8 : FP 4 8 TX4 15 tyX4 .int := ⟨tyX4_ok, nmX4, rfl, tyX4_ok 8 (by decide)⟩
theorem fp_4_9 : FP 4 9 TX4 15 tyX4 .int := ⟨tyX4_ok, nmX4, rfl, tyX4_ok 9 (by decide)⟩
theorem fp_4_10 : FP 4 10 TX4 15 tyX4 .int := ⟨tyX4_ok, nmX4, rfl, tyX4_ok 10 (by decide)⟩
theorem fp_4_11 : FP 4 11 TX4 15 tyX4 .int := ⟨tyX4_ok, nmX4, rfl, tyX4_ok 11 (by decide)⟩
theorem fp_4_12 : FP 4 12 TX4 15 tyX4 (.object "CallCourt$Type") := ⟨tyX4_ok, nmX4, rfl, tyX4_ok 12 (by decide)⟩
theorem fp_4_13 : FP 4 13 TX4 15 tyX4 .int := ⟨tyX4_ok, nmX4, rfl, tyX4_ok 13 (by decide)⟩
theorem fp_4_14 : FP 4 14 TX4 15 tyX4 (.object "CallCourt$Member") := ⟨tyX4_ok, nmX4, rfl, tyX4_ok 14 (by decide)⟩
theorem fp_5_3 : FP 5 3 TX5 5 tyX5 .int := ⟨tyX5_ok, nmX5, rfl, tyX5_ok 3 (by decide)⟩
theorem fp_5_4 : FP 5 4 TX5 5 tyX5 .int := ⟨tyX5_ok, nmX5, rfl, tyX5_ok 4 (by decide)⟩
theorem fp_6_1 : FP 6 1 TX6 20 tyX6 .long := ⟨tyX6_ok, nmX6, rfl, tyX6_ok 1 (by decide)⟩
theorem fp_6_2 : FP 6 2 TX6 20 tyX6 .int := ⟨tyX6_ok, nmX6, rfl, tyX6_ok 2 (by decide)⟩
theorem fp_6_3 : FP 6 3 TX6 20 tyX6 .int := ⟨tyX6_ok, nmX6, rfl, tyX6_ok 3 (by decide)⟩
theorem fp_6_4 : FP 6 4 TX6 20 tyX6 .int := ⟨tyX6_ok, nmX6, rfl, tyX6_ok 4 (by decide)⟩
theorem fp_6_5 : FP 6 5 TX6 20 tyX6 .int := ⟨tyX6_ok, nmX6, rfl, tyX6_ok 5 (by decide)⟩
theorem fp_6_6 : FP 6 6 TX6 20 tyX6 .int := ⟨tyX6_ok, nmX6, rfl, tyX6_ok 6 (by decide)⟩
theorem fp_6_9 : FP 6 9 TX6 20 tyX6 .int := ⟨tyX6_ok, nmX6, rfl, tyX6_ok 9 (by decide)⟩
theorem fp_6_11 : FP 6 11 TX6 20 tyX6 .int := ⟨tyX6_ok, nmX6, rfl, tyX6_ok 11 (by decide)⟩
theorem fp_6_12 : FP 6 12 TX6 20 tyX6 .int := ⟨tyX6_ok, nmX6, rfl, tyX6_ok 12 (by decide)⟩
theorem fp_6_14 : FP 6 14 TX6 20 tyX6 .int := ⟨tyX6_ok, nmX6, rfl, tyX6_ok 14 (by decide)⟩
theorem fp_6_16 : FP 6 16 TX6 20 tyX6 .int := ⟨tyX6_ok, nmX6, rfl, tyX6_ok 16 (by decide)⟩
theorem fp_6_17 : FP 6 17 TX6 20 tyX6 .int := ⟨tyX6_ok, nmX6, rfl, tyX6_ok 17 (by decide)⟩
theorem fp_6_18 : FP 6 18 TX6 20 tyX6 .int := ⟨tyX6_ok, nmX6, rfl, tyX6_ok 18 (by decide)⟩
theorem fp_6_19 : FP 6 19 TX6 20 tyX6 .int := ⟨tyX6_ok, nmX6, rfl, tyX6_ok 19 (by decide)⟩
theorem fp_7_1 : FP 7 1 TX7 9 tyX7 .int := ⟨tyX7_ok, nmX7, rfl, tyX7_ok 1 (by decide)⟩
theorem fp_7_2 : FP 7 2 TX7 9 tyX7 .int := ⟨tyX7_ok, nmX7, rfl, tyX7_ok 2 (by decide)⟩
theorem fp_7_3 : FP 7 3 TX7 9 tyX7 .int := ⟨tyX7_ok, nmX7, rfl, tyX7_ok 3 (by decide)⟩
theorem fp_7_4 : FP 7 4 TX7 9 tyX7 (.object "CallCourt$Family") := ⟨tyX7_ok, nmX7, rfl, tyX7_ok 4 (by decide)⟩
theorem fp_7_5 : FP 7 5 TX7 9 tyX7 (.object "CallCourt$Family") := ⟨tyX7_ok, nmX7, rfl, tyX7_ok 5 (by decide)⟩
theorem fp_8_1 : FP 8 1 TX8 60 tyX8 .int := ⟨tyX8_ok, nmX8, rfl, tyX8_ok 1 (by decide)⟩
theorem fp_8_2 : FP 8 2 TX8 60 tyX8 .int := ⟨tyX8_ok, nmX8, rfl, tyX8_ok 2 (by decide)⟩
theorem fp_8_4 : FP 8 4 TX8 60 tyX8 .int := ⟨tyX8_ok, nmX8, rfl, tyX8_ok 4 (by decide)⟩
theorem fp_8_5 : FP 8 5 TX8 60 tyX8 .int := ⟨tyX8_ok, nmX8, rfl, tyX8_ok 5 (by decide)⟩
theorem fp_8_6 : FP 8 6 TX8 60 tyX8 .int := ⟨tyX8_ok, nmX8, rfl, tyX8_ok 6 (by decide)⟩
theorem fp_8_7 : FP 8 7 TX8 60 tyX8 .long := ⟨tyX8_ok, nmX8, rfl, tyX8_ok 7 (by decide)⟩
theorem fp_8_8 : FP 8 8 TX8 60 tyX8 .int := ⟨tyX8_ok, nmX8, rfl, tyX8_ok 8 (by decide)⟩
theorem fp_8_9 : FP 8 9 TX8 60 tyX8 .int := ⟨tyX8_ok, nmX8, rfl, tyX8_ok 9 (by decide)⟩
theorem fp_8_10 : FP 8 10 TX8 60 tyX8 .int := ⟨tyX8_ok, nmX8, rfl, tyX8_ok 10 (by decide)⟩
theorem fp_8_11 : FP 8 11 TX8 60 tyX8 .int := ⟨tyX8_ok, nmX8, rfl, tyX8_ok 11 (by decide)⟩
theorem fp_8_46 : FP 8 46 TX8 60 tyX8 .int := ⟨tyX8_ok, nmX8, rfl, tyX8_ok 46 (by decide)⟩
theorem fp_8_47 : FP 8 47 TX8 60 tyX8 .int := ⟨tyX8_ok, nmX8, rfl, tyX8_ok 47 (by decide)⟩
theorem fp_8_48 : FP 8 48 TX8 60 tyX8 .boolean := ⟨tyX8_ok, nmX8, rfl, tyX8_ok 48 (by decide)⟩
theorem fp_8_50 : FP 8 50 TX8 60 tyX8 .int := ⟨tyX8_ok, nmX8, rfl, tyX8_ok 50 (by decide)⟩
theorem fp_8_52 : FP 8 52 TX8 60 tyX8 .int := ⟨tyX8_ok, nmX8, rfl, tyX8_ok 52 (by decide)⟩
theorem fp_8_53 : FP 8 53 TX8 60 tyX8 .int := ⟨tyX8_ok, nmX8, rfl, tyX8_ok 53 (by decide)⟩
theorem fp_8_54 : FP 8 54 TX8 60 tyX8 .int := ⟨tyX8_ok, nmX8, rfl, tyX8_ok 54 (by decide)⟩
theorem fp_8_56 : FP 8 56 TX8 60 tyX8 .int := ⟨tyX8_ok, nmX8, rfl, tyX8_ok 56 (by decide)⟩
theorem fp_8_58 : FP 8 58 TX8 60 tyX8 .int := ⟨tyX8_ok, nmX8, rfl, tyX8_ok 58 (by decide)⟩
theorem fp_8_59 : FP 8 59 TX8 60 tyX8 .int := ⟨tyX8_ok, nmX8, rfl, tyX8_ok 59 (by decide)⟩
theorem cl_X4_149 : Cond.constantLong RX4 149 2 ∈ wT := wu (wtab_4 (List.mem_of_getElem? (i := 43) (by decide +kernel))) rfl
theorem cl_X8_13 : Cond.constantLong RX8 13 1885430635 ∈ wT := wu (wtab_5 (List.mem_of_getElem? (i := 25) (by decide +kernel))) rfl
theorem cl_X8_15 : Cond.constantLong RX8 15 119225631139186 ∈ wT := wu (wtab_5 (List.mem_of_getElem? (i := 26) (by decide +kernel))) rfl
theorem cl_X8_17 : Cond.constantLong RX8 17 427020088179 ∈ wT := wu (wtab_5 (List.mem_of_getElem? (i := 27) (by decide +kernel))) rfl
theorem cl_X8_19 : Cond.constantLong RX8 19 1717658469 ∈ wT := wu (wtab_5 (List.mem_of_getElem? (i := 28) (by decide +kernel))) rfl
theorem cl_X8_21 : Cond.constantLong RX8 21 28518 ∈ wT := wu (wtab_5 (List.mem_of_getElem? (i := 29) (by decide +kernel))) rfl
theorem cl_X8_23 : Cond.constantLong RX8 23 504363246962 ∈ wT := wu (wtab_5 (List.mem_of_getElem? (i := 30) (by decide +kernel))) rfl
theorem cl_X8_25 : Cond.constantLong RX8 25 1869636974 ∈ wT := wu (wtab_5 (List.mem_of_getElem? (i := 31) (by decide +kernel))) rfl
theorem cl_X8_27 : Cond.constantLong RX8 27 1852137842 ∈ wT := wu (wtab_5 (List.mem_of_getElem? (i := 32) (by decide +kernel))) rfl
theorem cl_X8_29 : Cond.constantLong RX8 29 7305070 ∈ wT := wu (wtab_5 (List.mem_of_getElem? (i := 33) (by decide +kernel))) rfl
theorem cl_X8_31 : Cond.constantLong RX8 31 126943688419683 ∈ wT := wu (wtab_5 (List.mem_of_getElem? (i := 34) (by decide +kernel))) rfl
theorem cl_X8_33 : Cond.constantLong RX8 33 7017298113369039732 ∈ wT := wu (wtab_5 (List.mem_of_getElem? (i := 35) (by decide +kernel))) rfl
theorem cl_X8_35 : Cond.constantLong RX8 35 1818586740 ∈ wT := wu (wtab_5 (List.mem_of_getElem? (i := 36) (by decide +kernel))) rfl
theorem cl_X8_37 : Cond.constantLong RX8 37 6909556 ∈ wT := wu (wtab_5 (List.mem_of_getElem? (i := 37) (by decide +kernel))) rfl
theorem cl_X8_39 : Cond.constantLong RX8 39 1852796517 ∈ wT := wu (wtab_5 (List.mem_of_getElem? (i := 38) (by decide +kernel))) rfl
theorem cl_X8_253 : Cond.constantLong RX8 253 2 ∈ wT := wu (wtab_6 (List.mem_of_getElem? (i := 35) (by decide +kernel))) rfl
theorem wc_X0_close : Cond.code yX0_close cX0_close 3 (some .int) ∈ wT := wu (wtab_3 (List.mem_of_getElem? (i := 82) (by rfl))) rfl
theorem wd_X0_close : yX0_close.cls ≠ "java/lang/invoke/MethodHandle" ∧ yX0_close.cls ≠ "java/lang/invoke/VarHandle" ∧ (parseMethodDescriptor yX0_close.desc).map (fun d => d.parameters.length) = some 2 := ⟨by decide +kernel, by decide +kernel, by decide +kernel⟩
theorem wi_X0_close : Cond.instanceMethod yX0_close ∈ wT := wu (wtab_3 (List.mem_of_getElem? (i := 80) (by decide +kernel))) rfl
theorem wz_X0_close : Cond.selects RX0 yX0_close yX0_close ∈ wT := wu (wtab_3 (List.mem_of_getElem? (i := 81) (by decide +kernel))) rfl
theorem wc_X0_gatherAbove : Cond.code yX0_gatherAbove cX0_gatherAbove 6 (some .boolean) ∈ wT := wu (wtab_3 (List.mem_of_getElem? (i := 94) (by rfl))) rfl
theorem wd_X0_gatherAbove : yX0_gatherAbove.cls ≠ "java/lang/invoke/MethodHandle" ∧ yX0_gatherAbove.cls ≠ "java/lang/invoke/VarHandle" ∧ (parseMethodDescriptor yX0_gatherAbove.desc).map (fun d => d.parameters.length) = some 0 := ⟨by decide +kernel, by decide +kernel, by decide +kernel⟩
theorem wi_X0_gatherAbove : Cond.instanceMethod yX0_gatherAbove ∈ wT := wu (wtab_3 (List.mem_of_getElem? (i := 93) (by decide +kernel))) rfl
theorem wz_X0_gatherAbove : Cond.selects RX0 yX0_gatherAbove yX0_gatherAbove ∈ wT := wt_s 22 (by decide +kernel) rfl
theorem wc_X0_gatherFree : Cond.code yX0_gatherFree cX0_gatherFree 2 none ∈ wT := wu (wtab_3 (List.mem_of_getElem? (i := 127) (by rfl))) rfl
theorem wd_X0_gatherFree : yX0_gatherFree.cls ≠ "java/lang/invoke/MethodHandle" ∧ yX0_gatherFree.cls ≠ "java/lang/invoke/VarHandle" ∧ (parseMethodDescriptor yX0_gatherFree.desc).map (fun d => d.parameters.length) = some 0 := ⟨by decide +kernel, by decide +kernel, by decide +kernel⟩
theorem wi_X0_gatherFree : Cond.instanceMethod yX0_gatherFree ∈ wT := wu (wtab_3 (List.mem_of_getElem? (i := 126) (by decide +kernel))) rfl
theorem wz_X0_gatherFree : Cond.selects RX0 yX0_gatherFree yX0_gatherFree ∈ wT := wt_s 26 (by decide +kernel) rfl
theorem wc_X0_gatherKinds : Cond.code yX0_gatherKinds cX0_gatherKinds 4 none ∈ wT := wu (wtab_3 (List.mem_of_getElem? (i := 115) (by rfl))) rfl
theorem wd_X0_gatherKinds : yX0_gatherKinds.cls ≠ "java/lang/invoke/MethodHandle" ∧ yX0_gatherKinds.cls ≠ "java/lang/invoke/VarHandle" ∧ (parseMethodDescriptor yX0_gatherKinds.desc).map (fun d => d.parameters.length) = some 0 := ⟨by decide +kernel, by decide +kernel, by decide +kernel⟩
theorem wi_X0_gatherKinds : Cond.instanceMethod yX0_gatherKinds ∈ wT := wu (wtab_3 (List.mem_of_getElem? (i := 114) (by decide +kernel))) rfl
theorem wz_X0_gatherKinds : Cond.selects RX0 yX0_gatherKinds yX0_gatherKinds ∈ wT := wt_s 25 (by decide +kernel) rfl
theorem wc_X0_hasQuarrel : Cond.code yX0_hasQuarrel cX0_hasQuarrel 3 (some .boolean) ∈ wT := wu (wtab_3 (List.mem_of_getElem? (i := 196) (by rfl))) rfl
theorem wd_X0_hasQuarrel : yX0_hasQuarrel.cls ≠ "java/lang/invoke/MethodHandle" ∧ yX0_hasQuarrel.cls ≠ "java/lang/invoke/VarHandle" ∧ (parseMethodDescriptor yX0_hasQuarrel.desc).map (fun d => d.parameters.length) = some 0 := ⟨by decide +kernel, by decide +kernel, by decide +kernel⟩
theorem wi_X0_hasQuarrel : Cond.instanceMethod yX0_hasQuarrel ∈ wT := wu (wtab_3 (List.mem_of_getElem? (i := 195) (by decide +kernel))) rfl
theorem wz_X0_hasQuarrel : Cond.selects RX0 yX0_hasQuarrel yX0_hasQuarrel ∈ wT := wt_s 38 (by decide +kernel) rfl
theorem wc_X0_hasTwins : Cond.code yX0_hasTwins cX0_hasTwins 3 (some .boolean) ∈ wT := wu (wtab_3 (List.mem_of_getElem? (i := 86) (by rfl))) rfl
theorem wd_X0_hasTwins : yX0_hasTwins.cls ≠ "java/lang/invoke/MethodHandle" ∧ yX0_hasTwins.cls ≠ "java/lang/invoke/VarHandle" ∧ (parseMethodDescriptor yX0_hasTwins.desc).map (fun d => d.parameters.length) = some 0 := ⟨by decide +kernel, by decide +kernel, by decide +kernel⟩
theorem wi_X0_hasTwins : Cond.instanceMethod yX0_hasTwins ∈ wT := wu (wtab_3 (List.mem_of_getElem? (i := 85) (by decide +kernel))) rfl
theorem wz_X0_hasTwins : Cond.selects RX0 yX0_hasTwins yX0_hasTwins ∈ wT := wt_s 21 (by decide +kernel) rfl
theorem wc_X0_hasWrongOverride : Cond.code yX0_hasWrongOverride cX0_hasWrongOverride 3 (some .boolean) ∈ wT := wu (wtab_3 (List.mem_of_getElem? (i := 168) (by rfl))) rfl
theorem wd_X0_hasWrongOverride : yX0_hasWrongOverride.cls ≠ "java/lang/invoke/MethodHandle" ∧ yX0_hasWrongOverride.cls ≠ "java/lang/invoke/VarHandle" ∧ (parseMethodDescriptor yX0_hasWrongOverride.desc).map (fun d => d.parameters.length) = some 0 := ⟨by decide +kernel, by decide +kernel, by decide +kernel⟩
theorem wi_X0_hasWrongOverride : Cond.instanceMethod yX0_hasWrongOverride ∈ wT := wu (wtab_3 (List.mem_of_getElem? (i := 167) (by decide +kernel))) rfl
theorem wz_X0_hasWrongOverride : Cond.selects RX0 yX0_hasWrongOverride yX0_hasWrongOverride ∈ wT := wt_s 33 (by decide +kernel) rfl
theorem wc_X0_isAbove : Cond.code yX0_isAbove cX0_isAbove 2 (some .boolean) ∈ wT := wu (wtab_3 (List.mem_of_getElem? (i := 131) (by rfl))) rfl
theorem wd_X0_isAbove : yX0_isAbove.cls ≠ "java/lang/invoke/MethodHandle" ∧ yX0_isAbove.cls ≠ "java/lang/invoke/VarHandle" ∧ (parseMethodDescriptor yX0_isAbove.desc).map (fun d => d.parameters.length) = some 1 := ⟨by decide +kernel, by decide +kernel, by decide +kernel⟩
theorem wi_X0_isAbove : Cond.instanceMethod yX0_isAbove ∈ wT := wu (wtab_3 (List.mem_of_getElem? (i := 130) (by decide +kernel))) rfl
theorem wz_X0_isAbove : Cond.selects RX0 yX0_isAbove yX0_isAbove ∈ wT := wt_s 27 (by decide +kernel) rfl
theorem wc_X0_isAlike : Cond.code yX0_isAlike cX0_isAlike 5 (some .boolean) ∈ wT := wu (wtab_3 (List.mem_of_getElem? (i := 147) (by rfl))) rfl
theorem wd_X0_isAlike : yX0_isAlike.cls ≠ "java/lang/invoke/MethodHandle" ∧ yX0_isAlike.cls ≠ "java/lang/invoke/VarHandle" ∧ (parseMethodDescriptor yX0_isAlike.desc).map (fun d => d.parameters.length) = some 2 := ⟨by decide +kernel, by decide +kernel, by decide +kernel⟩
theorem wi_X0_isAlike : Cond.instanceMethod yX0_isAlike ∈ wT := wu (wtab_3 (List.mem_of_getElem? (i := 146) (by decide +kernel))) rfl
theorem wz_X0_isAlike : Cond.selects RX0 yX0_isAlike yX0_isAlike ∈ wT := wt_s 30 (by decide +kernel) rfl
theorem wc_X0_isNarrow : Cond.code yX0_isNarrow cX0_isNarrow 5 (some .boolean) ∈ wT := wu (wtab_3 (List.mem_of_getElem? (i := 192) (by rfl))) rfl
theorem wd_X0_isNarrow : yX0_isNarrow.cls ≠ "java/lang/invoke/MethodHandle" ∧ yX0_isNarrow.cls ≠ "java/lang/invoke/VarHandle" ∧ (parseMethodDescriptor yX0_isNarrow.desc).map (fun d => d.parameters.length) = some 2 := ⟨by decide +kernel, by decide +kernel, by decide +kernel⟩
theorem wi_X0_isNarrow : Cond.instanceMethod yX0_isNarrow ∈ wT := wu (wtab_3 (List.mem_of_getElem? (i := 191) (by decide +kernel))) rfl
theorem wz_X0_isNarrow : Cond.selects RX0 yX0_isNarrow yX0_isNarrow ∈ wT := wt_s 37 (by decide +kernel) rfl
theorem wc_X0_isOverridden : Cond.code yX0_isOverridden cX0_isOverridden 3 (some .boolean) ∈ wT := wu (wtab_3 (List.mem_of_getElem? (i := 204) (by rfl))) rfl
theorem wd_X0_isOverridden : yX0_isOverridden.cls ≠ "java/lang/invoke/MethodHandle" ∧ yX0_isOverridden.cls ≠ "java/lang/invoke/VarHandle" ∧ (parseMethodDescriptor yX0_isOverridden.desc).map (fun d => d.parameters.length) = some 1 := ⟨by decide +kernel, by decide +kernel, by decide +kernel⟩
theorem wi_X0_isOverridden : Cond.instanceMethod yX0_isOverridden ∈ wT := wu (wtab_3 (List.mem_of_getElem? (i := 203) (by decide +kernel))) rfl
theorem wz_X0_isOverridden : Cond.selects RX0 yX0_isOverridden yX0_isOverridden ∈ wT := wt_s 40 (by decide +kernel) rfl
theorem wc_X0_isQuarrel : Cond.code yX0_isQuarrel cX0_isQuarrel 5 (some .boolean) ∈ wT := wu (wtab_3 (List.mem_of_getElem? (i := 200) (by rfl))) rfl
theorem wd_X0_isQuarrel : yX0_isQuarrel.cls ≠ "java/lang/invoke/MethodHandle" ∧ yX0_isQuarrel.cls ≠ "java/lang/invoke/VarHandle" ∧ (parseMethodDescriptor yX0_isQuarrel.desc).map (fun d => d.parameters.length) = some 2 := ⟨by decide +kernel, by decide +kernel, by decide +kernel⟩
theorem wi_X0_isQuarrel : Cond.instanceMethod yX0_isQuarrel ∈ wT := wu (wtab_3 (List.mem_of_getElem? (i := 199) (by decide +kernel))) rfl
theorem wz_X0_isQuarrel : Cond.selects RX0 yX0_isQuarrel yX0_isQuarrel ∈ wT := wt_s 39 (by decide +kernel) rfl
theorem wc_X0_isWithinReach : Cond.code yX0_isWithinReach cX0_isWithinReach 3 (some .boolean) ∈ wT := wu (wtab_3 (List.mem_of_getElem? (i := 151) (by rfl))) rfl
theorem wd_X0_isWithinReach : yX0_isWithinReach.cls ≠ "java/lang/invoke/MethodHandle" ∧ yX0_isWithinReach.cls ≠ "java/lang/invoke/VarHandle" ∧ (parseMethodDescriptor yX0_isWithinReach.desc).map (fun d => d.parameters.length) = some 1 := ⟨by decide +kernel, by decide +kernel, by decide +kernel⟩
theorem wi_X0_isWithinReach : Cond.instanceMethod yX0_isWithinReach ∈ wT := wu (wtab_3 (List.mem_of_getElem? (i := 150) (by decide +kernel))) rfl
theorem wz_X0_isWithinReach : Cond.selects RX0 yX0_isWithinReach yX0_isWithinReach ∈ wT := wt_s 31 (by decide +kernel) rfl
theorem wc_X0_isWrong : Cond.code yX0_isWrong cX0_isWrong 5 (some .boolean) ∈ wT := wu (wtab_3 (List.mem_of_getElem? (i := 180) (by rfl))) rfl
theorem wd_X0_isWrong : yX0_isWrong.cls ≠ "java/lang/invoke/MethodHandle" ∧ yX0_isWrong.cls ≠ "java/lang/invoke/VarHandle" ∧ (parseMethodDescriptor yX0_isWrong.desc).map (fun d => d.parameters.length) = some 2 := ⟨by decide +kernel, by decide +kernel, by decide +kernel⟩
theorem wi_X0_isWrong : Cond.instanceMethod yX0_isWrong ∈ wT := wu (wtab_3 (List.mem_of_getElem? (i := 179) (by decide +kernel))) rfl
theorem wz_X0_isWrong : Cond.selects RX0 yX0_isWrong yX0_isWrong ∈ wT := wt_s 35 (by decide +kernel) rfl
theorem wc_X0_list : Cond.code yX0_list cX0_list 3 (some .int) ∈ wT := wu (wtab_3 (List.mem_of_getElem? (i := 98) (by rfl))) rfl
theorem wd_X0_list : yX0_list.cls ≠ "java/lang/invoke/MethodHandle" ∧ yX0_list.cls ≠ "java/lang/invoke/VarHandle" ∧ (parseMethodDescriptor yX0_list.desc).map (fun d => d.parameters.length) = some 2 := ⟨by decide +kernel, by decide +kernel, by decide +kernel⟩
theorem wi_X0_list : Cond.instanceMethod yX0_list ∈ wT := wu (wtab_3 (List.mem_of_getElem? (i := 97) (by decide +kernel))) rfl
theorem wz_X0_list : Cond.selects RX0 yX0_list yX0_list ∈ wT := wt_s 23 (by decide +kernel) rfl
theorem wc_X0_makeBridge : Cond.code yX0_makeBridge cX0_makeBridge 4 none ∈ wT := wu (wtab_3 (List.mem_of_getElem? (i := 216) (by rfl))) rfl
theorem wd_X0_makeBridge : yX0_makeBridge.cls ≠ "java/lang/invoke/MethodHandle" ∧ yX0_makeBridge.cls ≠ "java/lang/invoke/VarHandle" ∧ (parseMethodDescriptor yX0_makeBridge.desc).map (fun d => d.parameters.length) = some 2 := ⟨by decide +kernel, by decide +kernel, by decide +kernel⟩
theorem wi_X0_makeBridge : Cond.instanceMethod yX0_makeBridge ∈ wT := wu (wtab_3 (List.mem_of_getElem? (i := 215) (by decide +kernel))) rfl
theorem wz_X0_makeBridge : Cond.selects RX0 yX0_makeBridge yX0_makeBridge ∈ wT := wt_s 43 (by decide +kernel) rfl
theorem wc_X0_makeBridges : Cond.code yX0_makeBridges cX0_makeBridges 3 none ∈ wT := wu (wtab_3 (List.mem_of_getElem? (i := 208) (by rfl))) rfl
theorem wd_X0_makeBridges : yX0_makeBridges.cls ≠ "java/lang/invoke/MethodHandle" ∧ yX0_makeBridges.cls ≠ "java/lang/invoke/VarHandle" ∧ (parseMethodDescriptor yX0_makeBridges.desc).map (fun d => d.parameters.length) = some 0 := ⟨by decide +kernel, by decide +kernel, by decide +kernel⟩
theorem wi_X0_makeBridges : Cond.instanceMethod yX0_makeBridges ∈ wT := wu (wtab_3 (List.mem_of_getElem? (i := 207) (by decide +kernel))) rfl
theorem wz_X0_makeBridges : Cond.selects RX0 yX0_makeBridges yX0_makeBridges ∈ wT := wt_s 41 (by decide +kernel) rfl
theorem wc_X0_makeBridgesTo : Cond.code yX0_makeBridgesTo cX0_makeBridgesTo 6 none ∈ wT := wu (wtab_3 (List.mem_of_getElem? (i := 212) (by rfl))) rfl
theorem wd_X0_makeBridgesTo : yX0_makeBridgesTo.cls ≠ "java/lang/invoke/MethodHandle" ∧ yX0_makeBridgesTo.cls ≠ "java/lang/invoke/VarHandle" ∧ (parseMethodDescriptor yX0_makeBridgesTo.desc).map (fun d => d.parameters.length) = some 1 := ⟨by decide +kernel, by decide +kernel, by decide +kernel⟩
theorem wi_X0_makeBridgesTo : Cond.instanceMethod yX0_makeBridgesTo ∈ wT := wu (wtab_3 (List.mem_of_getElem? (i := 211) (by decide +kernel))) rfl
theorem wz_X0_makeBridgesTo : Cond.selects RX0 yX0_makeBridgesTo yX0_makeBridgesTo ∈ wT := wt_s 42 (by decide +kernel) rfl
theorem wc_X0_markOverrides : Cond.code yX0_markOverrides cX0_markOverrides 2 none ∈ wT := wu (wtab_3 (List.mem_of_getElem? (i := 139) (by rfl))) rfl
theorem wd_X0_markOverrides : yX0_markOverrides.cls ≠ "java/lang/invoke/MethodHandle" ∧ yX0_markOverrides.cls ≠ "java/lang/invoke/VarHandle" ∧ (parseMethodDescriptor yX0_markOverrides.desc).map (fun d => d.parameters.length) = some 0 := ⟨by decide +kernel, by decide +kernel, by decide +kernel⟩
theorem wi_X0_markOverrides : Cond.instanceMethod yX0_markOverrides ∈ wT := wu (wtab_3 (List.mem_of_getElem? (i := 138) (by decide +kernel))) rfl
theorem wz_X0_markOverrides : Cond.selects RX0 yX0_markOverrides yX0_markOverrides ∈ wT := wt_s 28 (by decide +kernel) rfl
theorem wc_X0_markOverridesOf : Cond.code yX0_markOverridesOf cX0_markOverridesOf 4 none ∈ wT := wu (wtab_3 (List.mem_of_getElem? (i := 143) (by rfl))) rfl
theorem wd_X0_markOverridesOf : yX0_markOverridesOf.cls ≠ "java/lang/invoke/MethodHandle" ∧ yX0_markOverridesOf.cls ≠ "java/lang/invoke/VarHandle" ∧ (parseMethodDescriptor yX0_markOverridesOf.desc).map (fun d => d.parameters.length) = some 1 := ⟨by decide +kernel, by decide +kernel, by decide +kernel⟩
theorem wi_X0_markOverridesOf : Cond.instanceMethod yX0_markOverridesOf ∈ wT := wu (wtab_3 (List.mem_of_getElem? (i := 142) (by decide +kernel))) rfl
theorem wz_X0_markOverridesOf : Cond.selects RX0 yX0_markOverridesOf yX0_markOverridesOf ∈ wT := wt_s 29 (by decide +kernel) rfl
theorem wc_X0_overridesBetween : Cond.code yX0_overridesBetween cX0_overridesBetween 4 (some .boolean) ∈ wT := wu (wtab_3 (List.mem_of_getElem? (i := 156) (by rfl))) rfl
theorem wd_X0_overridesBetween : yX0_overridesBetween.cls ≠ "java/lang/invoke/MethodHandle" ∧ yX0_overridesBetween.cls ≠ "java/lang/invoke/VarHandle" ∧ (parseMethodDescriptor yX0_overridesBetween.desc).map (fun d => d.parameters.length) = some 2 := ⟨by decide +kernel, by decide +kernel, by decide +kernel⟩
theorem wi_X0_overridesBetween : Cond.instanceMethod yX0_overridesBetween ∈ wT := wu (wtab_3 (List.mem_of_getElem? (i := 155) (by decide +kernel))) rfl
theorem wz_X0_overridesBetween : Cond.selects RX0 yX0_overridesBetween yX0_overridesBetween ∈ wT := wt_s 32 (by decide +kernel) rfl
theorem wc_X0_resultSeen : Cond.code yX0_resultSeen cX0_resultSeen 2 (some .int) ∈ wT := wu (wtab_3 (List.mem_of_getElem? (i := 188) (by rfl))) rfl
theorem wd_X0_resultSeen : yX0_resultSeen.cls ≠ "java/lang/invoke/MethodHandle" ∧ yX0_resultSeen.cls ≠ "java/lang/invoke/VarHandle" ∧ (parseMethodDescriptor yX0_resultSeen.desc).map (fun d => d.parameters.length) = some 1 := ⟨by decide +kernel, by decide +kernel, by decide +kernel⟩
theorem wi_X0_resultSeen : Cond.instanceMethod yX0_resultSeen ∈ wT := wu (wtab_3 (List.mem_of_getElem? (i := 187) (by decide +kernel))) rfl
theorem wz_X0_resultSeen : Cond.selects RX0 yX0_resultSeen yX0_resultSeen ∈ wT := wt_s 36 (by decide +kernel) rfl
theorem wc_X0_standsFor : Cond.code yX0_standsFor cX0_standsFor 3 (some .boolean) ∈ wT := wu (wtab_3 (List.mem_of_getElem? (i := 172) (by rfl))) rfl
theorem wd_X0_standsFor : yX0_standsFor.cls ≠ "java/lang/invoke/MethodHandle" ∧ yX0_standsFor.cls ≠ "java/lang/invoke/VarHandle" ∧ (parseMethodDescriptor yX0_standsFor.desc).map (fun d => d.parameters.length) = some 2 := ⟨by decide +kernel, by decide +kernel, by decide +kernel⟩
theorem wi_X0_standsFor : Cond.instanceMethod yX0_standsFor ∈ wT := wu (wtab_3 (List.mem_of_getElem? (i := 171) (by decide +kernel))) rfl
theorem wz_X0_standsFor : Cond.selects RX0 yX0_standsFor yX0_standsFor ∈ wT := wt_s 34 (by decide +kernel) rfl
theorem wc_X0_takeArguments : Cond.code yX0_takeArguments cX0_takeArguments 6 (some .boolean) ∈ wT := wu (wtab_3 (List.mem_of_getElem? (i := 102) (by rfl))) rfl
theorem wd_X0_takeArguments : yX0_takeArguments.cls ≠ "java/lang/invoke/MethodHandle" ∧ yX0_takeArguments.cls ≠ "java/lang/invoke/VarHandle" ∧ (parseMethodDescriptor yX0_takeArguments.desc).map (fun d => d.parameters.length) = some 2 := ⟨by decide +kernel, by decide +kernel, by decide +kernel⟩
theorem wi_X0_takeArguments : Cond.instanceMethod yX0_takeArguments ∈ wT := wu (wtab_3 (List.mem_of_getElem? (i := 101) (by decide +kernel))) rfl
theorem wz_X0_takeArguments : Cond.selects RX0 yX0_takeArguments yX0_takeArguments ∈ wT := wt_s 24 (by decide +kernel) rfl
theorem wc_X1_count : Cond.code yX1_count cX1_count 8 (some .int) ∈ wT := wu (wtab_5 (List.mem_of_getElem? (i := 6) (by rfl))) rfl
theorem wd_X1_count : yX1_count.cls ≠ "java/lang/invoke/MethodHandle" ∧ yX1_count.cls ≠ "java/lang/invoke/VarHandle" ∧ (parseMethodDescriptor yX1_count.desc).map (fun d => d.parameters.length) = some 2 := ⟨by decide +kernel, by decide +kernel, by decide +kernel⟩
theorem wi_X1_count : Cond.instanceMethod yX1_count ∈ wT := wu (wtab_5 (List.mem_of_getElem? (i := 4) (by decide +kernel))) rfl
theorem wz_X1_count : Cond.selects RX1 yX1_count yX1_count ∈ wT := wu (wtab_5 (List.mem_of_getElem? (i := 5) (by decide +kernel))) rfl
theorem wc_X1_find : Cond.code yX1_find cX1_find 7 (some .int) ∈ wT := wu (wtab_4 (List.mem_of_getElem? (i := 129) (by rfl))) rfl
theorem wd_X1_find : yX1_find.cls ≠ "java/lang/invoke/MethodHandle" ∧ yX1_find.cls ≠ "java/lang/invoke/VarHandle" ∧ (parseMethodDescriptor yX1_find.desc).map (fun d => d.parameters.length) = some 2 := ⟨by decide +kernel, by decide +kernel, by decide +kernel⟩
theorem wi_X1_find : Cond.instanceMethod yX1_find ∈ wT := wu (wtab_4 (List.mem_of_getElem? (i := 127) (by decide +kernel))) rfl
theorem wz_X1_find : Cond.selects RX1 yX1_find yX1_find ∈ wT := wu (wtab_4 (List.mem_of_getElem? (i := 128) (by decide +kernel))) rfl
theorem wc_X1_fitsReceiver : Cond.code yX1_fitsReceiver cX1_fitsReceiver 5 (some .boolean) ∈ wT := wu (wtab_4 (List.mem_of_getElem? (i := 208) (by rfl))) rfl
theorem wd_X1_fitsReceiver : yX1_fitsReceiver.cls ≠ "java/lang/invoke/MethodHandle" ∧ yX1_fitsReceiver.cls ≠ "java/lang/invoke/VarHandle" ∧ (parseMethodDescriptor yX1_fitsReceiver.desc).map (fun d => d.parameters.length) = some 4 := ⟨by decide +kernel, by decide +kernel, by decide +kernel⟩
theorem wi_X1_fitsReceiver : Cond.instanceMethod yX1_fitsReceiver ∈ wT := wu (wtab_4 (List.mem_of_getElem? (i := 207) (by decide +kernel))) rfl
theorem wz_X1_fitsReceiver : Cond.selects RX1 yX1_fitsReceiver yX1_fitsReceiver ∈ wT := wt_s 71 (by decide +kernel) rfl
theorem wc_X1_fitsSort : Cond.code yX1_fitsSort cX1_fitsSort 5 (some .boolean) ∈ wT := wu (wtab_4 (List.mem_of_getElem? (i := 196) (by rfl))) rfl
theorem wd_X1_fitsSort : yX1_fitsSort.cls ≠ "java/lang/invoke/MethodHandle" ∧ yX1_fitsSort.cls ≠ "java/lang/invoke/VarHandle" ∧ (parseMethodDescriptor yX1_fitsSort.desc).map (fun d => d.parameters.length) = some 3 := ⟨by decide +kernel, by decide +kernel, by decide +kernel⟩
theorem wi_X1_fitsSort : Cond.instanceMethod yX1_fitsSort ∈ wT := wu (wtab_4 (List.mem_of_getElem? (i := 195) (by decide +kernel))) rfl
theorem wz_X1_fitsSort : Cond.selects RX1 yX1_fitsSort yX1_fitsSort ∈ wT := wt_s 69 (by decide +kernel) rfl
theorem wc_X1_gatherChain : Cond.code yX1_gatherChain cX1_gatherChain 5 none ∈ wT := wu (wtab_4 (List.mem_of_getElem? (i := 226) (by rfl))) rfl
theorem wd_X1_gatherChain : yX1_gatherChain.cls ≠ "java/lang/invoke/MethodHandle" ∧ yX1_gatherChain.cls ≠ "java/lang/invoke/VarHandle" ∧ (parseMethodDescriptor yX1_gatherChain.desc).map (fun d => d.parameters.length) = some 2 := ⟨by decide +kernel, by decide +kernel, by decide +kernel⟩
theorem wi_X1_gatherChain : Cond.instanceMethod yX1_gatherChain ∈ wT := wu (wtab_4 (List.mem_of_getElem? (i := 225) (by decide +kernel))) rfl
theorem wz_X1_gatherChain : Cond.selects RX1 yX1_gatherChain yX1_gatherChain ∈ wT := wt_s 74 (by decide +kernel) rfl
theorem wc_X1_gatherFaces : Cond.code yX1_gatherFaces cX1_gatherFaces 8 none ∈ wT := wu (wtab_4 (List.mem_of_getElem? (i := 135) (by rfl))) rfl
theorem wd_X1_gatherFaces : yX1_gatherFaces.cls ≠ "java/lang/invoke/MethodHandle" ∧ yX1_gatherFaces.cls ≠ "java/lang/invoke/VarHandle" ∧ (parseMethodDescriptor yX1_gatherFaces.desc).map (fun d => d.parameters.length) = some 2 := ⟨by decide +kernel, by decide +kernel, by decide +kernel⟩
theorem wi_X1_gatherFaces : Cond.instanceMethod yX1_gatherFaces ∈ wT := wu (wtab_4 (List.mem_of_getElem? (i := 134) (by decide +kernel))) rfl
theorem wz_X1_gatherFaces : Cond.selects RX1 yX1_gatherFaces yX1_gatherFaces ∈ wT := wt_s 62 (by decide +kernel) rfl
theorem wc_X1_isAbstract : Cond.code yX1_isAbstract cX1_isAbstract 2 (some .boolean) ∈ wT := wu (wtab_4 (List.mem_of_getElem? (i := 148) (by rfl))) rfl
theorem wd_X1_isAbstract : yX1_isAbstract.cls ≠ "java/lang/invoke/MethodHandle" ∧ yX1_isAbstract.cls ≠ "java/lang/invoke/VarHandle" ∧ (parseMethodDescriptor yX1_isAbstract.desc).map (fun d => d.parameters.length) = some 1 := ⟨by decide +kernel, by decide +kernel, by decide +kernel⟩
theorem wi_X1_isAbstract : Cond.instanceMethod yX1_isAbstract ∈ wT := wu (wtab_4 (List.mem_of_getElem? (i := 147) (by decide +kernel))) rfl
theorem wz_X1_isAbstract : Cond.selects RX1 yX1_isAbstract yX1_isAbstract ∈ wT := wt_s 65 (by decide +kernel) rfl
theorem wc_X1_isGranted : Cond.code yX1_isGranted cX1_isGranted 6 (some .boolean) ∈ wT := wu (wtab_4 (List.mem_of_getElem? (i := 177) (by rfl))) rfl
theorem wd_X1_isGranted : yX1_isGranted.cls ≠ "java/lang/invoke/MethodHandle" ∧ yX1_isGranted.cls ≠ "java/lang/invoke/VarHandle" ∧ (parseMethodDescriptor yX1_isGranted.desc).map (fun d => d.parameters.length) = some 4 := ⟨by decide +kernel, by decide +kernel, by decide +kernel⟩
theorem wi_X1_isGranted : Cond.instanceMethod yX1_isGranted ∈ wT := wu (wtab_4 (List.mem_of_getElem? (i := 175) (by decide +kernel))) rfl
theorem wz_X1_isGranted : Cond.selects RX1 yX1_isGranted yX1_isGranted ∈ wT := wu (wtab_4 (List.mem_of_getElem? (i := 176) (by decide +kernel))) rfl
theorem wc_X1_isNear : Cond.code yX1_isNear cX1_isNear 6 (some .boolean) ∈ wT := wu (wtab_4 (List.mem_of_getElem? (i := 183) (by rfl))) rfl
theorem wd_X1_isNear : yX1_isNear.cls ≠ "java/lang/invoke/MethodHandle" ∧ yX1_isNear.cls ≠ "java/lang/invoke/VarHandle" ∧ (parseMethodDescriptor yX1_isNear.desc).map (fun d => d.parameters.length) = some 4 := ⟨by decide +kernel, by decide +kernel, by decide +kernel⟩
theorem wi_X1_isNear : Cond.instanceMethod yX1_isNear ∈ wT := wu (wtab_4 (List.mem_of_getElem? (i := 182) (by decide +kernel))) rfl
theorem wz_X1_isNear : Cond.selects RX1 yX1_isNear yX1_isNear ∈ wT := wt_s 68 (by decide +kernel) rfl
theorem wc_X1_isSpecific : Cond.code yX1_isSpecific cX1_isSpecific 4 (some .boolean) ∈ wT := wu (wtab_4 (List.mem_of_getElem? (i := 152) (by rfl))) rfl
theorem wd_X1_isSpecific : yX1_isSpecific.cls ≠ "java/lang/invoke/MethodHandle" ∧ yX1_isSpecific.cls ≠ "java/lang/invoke/VarHandle" ∧ (parseMethodDescriptor yX1_isSpecific.desc).map (fun d => d.parameters.length) = some 1 := ⟨by decide +kernel, by decide +kernel, by decide +kernel⟩
theorem wi_X1_isSpecific : Cond.instanceMethod yX1_isSpecific ∈ wT := wu (wtab_4 (List.mem_of_getElem? (i := 151) (by decide +kernel))) rfl
theorem wz_X1_isSpecific : Cond.selects RX1 yX1_isSpecific yX1_isSpecific ∈ wT := wt_s 66 (by decide +kernel) rfl
theorem wc_X1_judge : Cond.code yX1_judge cX1_judge 7 (some .int) ∈ wT := wu (wtab_4 (List.mem_of_getElem? (i := 192) (by rfl))) rfl
theorem wd_X1_judge : yX1_judge.cls ≠ "java/lang/invoke/MethodHandle" ∧ yX1_judge.cls ≠ "java/lang/invoke/VarHandle" ∧ (parseMethodDescriptor yX1_judge.desc).map (fun d => d.parameters.length) = some 5 := ⟨by decide +kernel, by decide +kernel, by decide +kernel⟩
theorem wi_X1_judge : Cond.instanceMethod yX1_judge ∈ wT := wu (wtab_4 (List.mem_of_getElem? (i := 190) (by decide +kernel))) rfl
theorem wz_X1_judge : Cond.selects RX1 yX1_judge yX1_judge ∈ wT := wu (wtab_4 (List.mem_of_getElem? (i := 191) (by decide +kernel))) rfl
theorem wc_X1_markReplacing : Cond.code yX1_markReplacing cX1_markReplacing 5 none ∈ wT := wu (wtab_4 (List.mem_of_getElem? (i := 230) (by rfl))) rfl
theorem wd_X1_markReplacing : yX1_markReplacing.cls ≠ "java/lang/invoke/MethodHandle" ∧ yX1_markReplacing.cls ≠ "java/lang/invoke/VarHandle" ∧ (parseMethodDescriptor yX1_markReplacing.desc).map (fun d => d.parameters.length) = some 1 := ⟨by decide +kernel, by decide +kernel, by decide +kernel⟩
theorem wi_X1_markReplacing : Cond.instanceMethod yX1_markReplacing ∈ wT := wu (wtab_4 (List.mem_of_getElem? (i := 229) (by decide +kernel))) rfl
theorem wz_X1_markReplacing : Cond.selects RX1 yX1_markReplacing yX1_markReplacing ∈ wT := wt_s 75 (by decide +kernel) rfl
theorem wc_X1_memberOf : Cond.code yX1_memberOf cX1_memberOf 2 (some (.object "CallCourt$Member")) ∈ wT := wu (wtab_4 (List.mem_of_getElem? (i := 139) (by rfl))) rfl
theorem wd_X1_memberOf : yX1_memberOf.cls ≠ "java/lang/invoke/MethodHandle" ∧ yX1_memberOf.cls ≠ "java/lang/invoke/VarHandle" ∧ (parseMethodDescriptor yX1_memberOf.desc).map (fun d => d.parameters.length) = some 1 := ⟨by decide +kernel, by decide +kernel, by decide +kernel⟩
theorem wi_X1_memberOf : Cond.instanceMethod yX1_memberOf ∈ wT := wu (wtab_4 (List.mem_of_getElem? (i := 138) (by decide +kernel))) rfl
theorem wz_X1_memberOf : Cond.selects RX1 yX1_memberOf yX1_memberOf ∈ wT := wt_s 63 (by decide +kernel) rfl
theorem wc_X1_open : Cond.code yX1_open cX1_open 2 none ∈ wT := wu (wtab_4 (List.mem_of_getElem? (i := 125) (by rfl))) rfl
theorem wd_X1_open : yX1_open.cls ≠ "java/lang/invoke/MethodHandle" ∧ yX1_open.cls ≠ "java/lang/invoke/VarHandle" ∧ (parseMethodDescriptor yX1_open.desc).map (fun d => d.parameters.length) = some 1 := ⟨by decide +kernel, by decide +kernel, by decide +kernel⟩
theorem wi_X1_open : Cond.instanceMethod yX1_open ∈ wT := wu (wtab_4 (List.mem_of_getElem? (i := 123) (by decide +kernel))) rfl
theorem wz_X1_open : Cond.selects RX1 yX1_open yX1_open ∈ wT := wu (wtab_4 (List.mem_of_getElem? (i := 124) (by decide +kernel))) rfl
theorem wc_X1_placeOfSearch : Cond.code yX1_placeOfSearch cX1_placeOfSearch 6 (some .int) ∈ wT := wu (wtab_4 (List.mem_of_getElem? (i := 201) (by rfl))) rfl
theorem wd_X1_placeOfSearch : yX1_placeOfSearch.cls ≠ "java/lang/invoke/MethodHandle" ∧ yX1_placeOfSearch.cls ≠ "java/lang/invoke/VarHandle" ∧ (parseMethodDescriptor yX1_placeOfSearch.desc).map (fun d => d.parameters.length) = some 3 := ⟨by decide +kernel, by decide +kernel, by decide +kernel⟩
theorem wi_X1_placeOfSearch : Cond.instanceMethod yX1_placeOfSearch ∈ wT := wu (wtab_4 (List.mem_of_getElem? (i := 200) (by decide +kernel))) rfl
theorem wz_X1_placeOfSearch : Cond.selects RX1 yX1_placeOfSearch yX1_placeOfSearch ∈ wT := wt_s 70 (by decide +kernel) rfl
theorem wc_X1_replacesBetween : Cond.code yX1_replacesBetween cX1_replacesBetween 3 (some .boolean) ∈ wT := wu (wtab_4 (List.mem_of_getElem? (i := 234) (by rfl))) rfl
theorem wd_X1_replacesBetween : yX1_replacesBetween.cls ≠ "java/lang/invoke/MethodHandle" ∧ yX1_replacesBetween.cls ≠ "java/lang/invoke/VarHandle" ∧ (parseMethodDescriptor yX1_replacesBetween.desc).map (fun d => d.parameters.length) = some 1 := ⟨by decide +kernel, by decide +kernel, by decide +kernel⟩
theorem wi_X1_replacesBetween : Cond.instanceMethod yX1_replacesBetween ∈ wT := wu (wtab_4 (List.mem_of_getElem? (i := 233) (by decide +kernel))) rfl
theorem wz_X1_replacesBetween : Cond.selects RX1 yX1_replacesBetween yX1_replacesBetween ∈ wT := wt_s 76 (by decide +kernel) rfl
theorem wc_X1_runThroughBridges : Cond.code yX1_runThroughBridges cX1_runThroughBridges 5 (some .int) ∈ wT := wu (wtab_4 (List.mem_of_getElem? (i := 212) (by rfl))) rfl
theorem wd_X1_runThroughBridges : yX1_runThroughBridges.cls ≠ "java/lang/invoke/MethodHandle" ∧ yX1_runThroughBridges.cls ≠ "java/lang/invoke/VarHandle" ∧ (parseMethodDescriptor yX1_runThroughBridges.desc).map (fun d => d.parameters.length) = some 2 := ⟨by decide +kernel, by decide +kernel, by decide +kernel⟩
theorem wi_X1_runThroughBridges : Cond.instanceMethod yX1_runThroughBridges ∈ wT := wu (wtab_4 (List.mem_of_getElem? (i := 211) (by decide +kernel))) rfl
theorem wz_X1_runThroughBridges : Cond.selects RX1 yX1_runThroughBridges yX1_runThroughBridges ∈ wT := wt_s 72 (by decide +kernel) rfl
theorem wc_X1_select : Cond.code yX1_select cX1_select 5 (some .int) ∈ wT := wu (wtab_4 (List.mem_of_getElem? (i := 217) (by rfl))) rfl
theorem wd_X1_select : yX1_select.cls ≠ "java/lang/invoke/MethodHandle" ∧ yX1_select.cls ≠ "java/lang/invoke/VarHandle" ∧ (parseMethodDescriptor yX1_select.desc).map (fun d => d.parameters.length) = some 2 := ⟨by decide +kernel, by decide +kernel, by decide +kernel⟩
theorem wi_X1_select : Cond.instanceMethod yX1_select ∈ wT := wu (wtab_4 (List.mem_of_getElem? (i := 216) (by decide +kernel))) rfl
theorem wz_X1_select : Cond.selects RX1 yX1_select yX1_select ∈ wT := wt_s 73 (by decide +kernel) rfl
theorem wc_X1_soleBody : Cond.code yX1_soleBody cX1_soleBody 3 (some .int) ∈ wT := wu (wtab_4 (List.mem_of_getElem? (i := 144) (by rfl))) rfl
theorem wd_X1_soleBody : yX1_soleBody.cls ≠ "java/lang/invoke/MethodHandle" ∧ yX1_soleBody.cls ≠ "java/lang/invoke/VarHandle" ∧ (parseMethodDescriptor yX1_soleBody.desc).map (fun d => d.parameters.length) = some 0 := ⟨by decide +kernel, by decide +kernel, by decide +kernel⟩
theorem wi_X1_soleBody : Cond.instanceMethod yX1_soleBody ∈ wT := wu (wtab_4 (List.mem_of_getElem? (i := 143) (by decide +kernel))) rfl
theorem wz_X1_soleBody : Cond.selects RX1 yX1_soleBody yX1_soleBody ∈ wT := wt_s 64 (by decide +kernel) rfl
theorem wc_X1_specificAt : Cond.code yX1_specificAt cX1_specificAt 6 (some .int) ∈ wT := wu (wtab_4 (List.mem_of_getElem? (i := 169) (by rfl))) rfl
theorem wd_X1_specificAt : yX1_specificAt.cls ≠ "java/lang/invoke/MethodHandle" ∧ yX1_specificAt.cls ≠ "java/lang/invoke/VarHandle" ∧ (parseMethodDescriptor yX1_specificAt.desc).map (fun d => d.parameters.length) = some 3 := ⟨by decide +kernel, by decide +kernel, by decide +kernel⟩
theorem wi_X1_specificAt : Cond.instanceMethod yX1_specificAt ∈ wT := wu (wtab_4 (List.mem_of_getElem? (i := 167) (by decide +kernel))) rfl
theorem wz_X1_specificAt : Cond.selects RX1 yX1_specificAt yX1_specificAt ∈ wT := wu (wtab_4 (List.mem_of_getElem? (i := 168) (by decide +kernel))) rfl
theorem wc_X2_behind : Cond.code yX2_behind cX2_behind 2 (some .int) ∈ wT := wu (wtab_4 (List.mem_of_getElem? (i := 161) (by rfl))) rfl
theorem wd_X2_behind : yX2_behind.cls ≠ "java/lang/invoke/MethodHandle" ∧ yX2_behind.cls ≠ "java/lang/invoke/VarHandle" ∧ (parseMethodDescriptor yX2_behind.desc).map (fun d => d.parameters.length) = some 1 := ⟨by decide +kernel, by decide +kernel, by decide +kernel⟩
theorem wi_X2_behind : Cond.instanceMethod yX2_behind ∈ wT := wu (wtab_4 (List.mem_of_getElem? (i := 159) (by decide +kernel))) rfl
theorem wz_X2_behind : Cond.selects RX2 yX2_behind yX2_behind ∈ wT := wu (wtab_4 (List.mem_of_getElem? (i := 160) (by decide +kernel))) rfl
theorem wc_X2_clear : Cond.code yX2_clear cX2_clear 2 none ∈ wT := wu (wtab_2 (List.mem_of_getElem? (i := 234) (by rfl))) rfl
theorem wd_X2_clear : yX2_clear.cls ≠ "java/lang/invoke/MethodHandle" ∧ yX2_clear.cls ≠ "java/lang/invoke/VarHandle" ∧ (parseMethodDescriptor yX2_clear.desc).map (fun d => d.parameters.length) = some 0 := ⟨by decide +kernel, by decide +kernel, by decide +kernel⟩
theorem wi_X2_clear : Cond.instanceMethod yX2_clear ∈ wT := wu (wtab_2 (List.mem_of_getElem? (i := 232) (by decide +kernel))) rfl
theorem wz_X2_clear : Cond.selects RX2 yX2_clear yX2_clear ∈ wT := wu (wtab_2 (List.mem_of_getElem? (i := 233) (by decide +kernel))) rfl
theorem wc_X2_hasOverride : Cond.code yX2_hasOverride cX2_hasOverride 3 (some .boolean) ∈ wT := wu (wtab_3 (List.mem_of_getElem? (i := 160) (by rfl))) rfl
theorem wd_X2_hasOverride : yX2_hasOverride.cls ≠ "java/lang/invoke/MethodHandle" ∧ yX2_hasOverride.cls ≠ "java/lang/invoke/VarHandle" ∧ (parseMethodDescriptor yX2_hasOverride.desc).map (fun d => d.parameters.length) = some 2 := ⟨by decide +kernel, by decide +kernel, by decide +kernel⟩
theorem wi_X2_hasOverride : Cond.instanceMethod yX2_hasOverride ∈ wT := wu (wtab_3 (List.mem_of_getElem? (i := 158) (by decide +kernel))) rfl
theorem wz_X2_hasOverride : Cond.selects RX2 yX2_hasOverride yX2_hasOverride ∈ wT := wu (wtab_3 (List.mem_of_getElem? (i := 159) (by decide +kernel))) rfl
theorem wc_X2_isUnder : Cond.code yX2_isUnder cX2_isUnder 3 (some .boolean) ∈ wT := wu (wtab_3 (List.mem_of_getElem? (i := 119) (by rfl))) rfl
theorem wd_X2_isUnder : yX2_isUnder.cls ≠ "java/lang/invoke/MethodHandle" ∧ yX2_isUnder.cls ≠ "java/lang/invoke/VarHandle" ∧ (parseMethodDescriptor yX2_isUnder.desc).map (fun d => d.parameters.length) = some 2 := ⟨by decide +kernel, by decide +kernel, by decide +kernel⟩
theorem wi_X2_isUnder : Cond.instanceMethod yX2_isUnder ∈ wT := wu (wtab_3 (List.mem_of_getElem? (i := 117) (by decide +kernel))) rfl
theorem wz_X2_isUnder : Cond.selects RX2 yX2_isUnder yX2_isUnder ∈ wT := wu (wtab_3 (List.mem_of_getElem? (i := 118) (by decide +kernel))) rfl
theorem wc_X2_kindSeen : Cond.code yX2_kindSeen cX2_kindSeen 5 (some .int) ∈ wT := wu (wtab_3 (List.mem_of_getElem? (i := 123) (by rfl))) rfl
theorem wd_X2_kindSeen : yX2_kindSeen.cls ≠ "java/lang/invoke/MethodHandle" ∧ yX2_kindSeen.cls ≠ "java/lang/invoke/VarHandle" ∧ (parseMethodDescriptor yX2_kindSeen.desc).map (fun d => d.parameters.length) = some 3 := ⟨by decide +kernel, by decide +kernel, by decide +kernel⟩
theorem wi_X2_kindSeen : Cond.instanceMethod yX2_kindSeen ∈ wT := wu (wtab_3 (List.mem_of_getElem? (i := 121) (by decide +kernel))) rfl
theorem wz_X2_kindSeen : Cond.selects RX2 yX2_kindSeen yX2_kindSeen ∈ wT := wu (wtab_3 (List.mem_of_getElem? (i := 122) (by decide +kernel))) rfl
theorem wc_X2_methodIn : Cond.code yX2_methodIn cX2_methodIn 6 (some .int) ∈ wT := wu (wtab_3 (List.mem_of_getElem? (i := 220) (by rfl))) rfl
theorem wd_X2_methodIn : yX2_methodIn.cls ≠ "java/lang/invoke/MethodHandle" ∧ yX2_methodIn.cls ≠ "java/lang/invoke/VarHandle" ∧ (parseMethodDescriptor yX2_methodIn.desc).map (fun d => d.parameters.length) = some 2 := ⟨by decide +kernel, by decide +kernel, by decide +kernel⟩
theorem wi_X2_methodIn : Cond.instanceMethod yX2_methodIn ∈ wT := wu (wtab_3 (List.mem_of_getElem? (i := 218) (by decide +kernel))) rfl
theorem wz_X2_methodIn : Cond.selects RX2 yX2_methodIn yX2_methodIn ∈ wT := wu (wtab_3 (List.mem_of_getElem? (i := 219) (by decide +kernel))) rfl
theorem wc_X2_sameNest : Cond.code yX2_sameNest cX2_sameNest 3 (some .boolean) ∈ wT := wu (wtab_4 (List.mem_of_getElem? (i := 116) (by rfl))) rfl
theorem wd_X2_sameNest : yX2_sameNest.cls ≠ "java/lang/invoke/MethodHandle" ∧ yX2_sameNest.cls ≠ "java/lang/invoke/VarHandle" ∧ (parseMethodDescriptor yX2_sameNest.desc).map (fun d => d.parameters.length) = some 2 := ⟨by decide +kernel, by decide +kernel, by decide +kernel⟩
theorem wi_X2_sameNest : Cond.instanceMethod yX2_sameNest ∈ wT := wu (wtab_4 (List.mem_of_getElem? (i := 114) (by decide +kernel))) rfl
theorem wz_X2_sameNest : Cond.selects RX2 yX2_sameNest yX2_sameNest ∈ wT := wu (wtab_4 (List.mem_of_getElem? (i := 115) (by decide +kernel))) rfl
theorem wc_X2_samePackage : Cond.code yX2_samePackage cX2_samePackage 3 (some .boolean) ∈ wT := wu (wtab_3 (List.mem_of_getElem? (i := 58) (by rfl))) rfl
theorem wd_X2_samePackage : yX2_samePackage.cls ≠ "java/lang/invoke/MethodHandle" ∧ yX2_samePackage.cls ≠ "java/lang/invoke/VarHandle" ∧ (parseMethodDescriptor yX2_samePackage.desc).map (fun d => d.parameters.length) = some 2 := ⟨by decide +kernel, by decide +kernel, by decide +kernel⟩
theorem wi_X2_samePackage : Cond.instanceMethod yX2_samePackage ∈ wT := wu (wtab_3 (List.mem_of_getElem? (i := 56) (by decide +kernel))) rfl
theorem wz_X2_samePackage : Cond.selects RX2 yX2_samePackage yX2_samePackage ∈ wT := wu (wtab_3 (List.mem_of_getElem? (i := 57) (by decide +kernel))) rfl
theorem wc_X2_setOverride : Cond.code yX2_setOverride cX2_setOverride 3 none ∈ wT := wu (wtab_3 (List.mem_of_getElem? (i := 164) (by rfl))) rfl
theorem wd_X2_setOverride : yX2_setOverride.cls ≠ "java/lang/invoke/MethodHandle" ∧ yX2_setOverride.cls ≠ "java/lang/invoke/VarHandle" ∧ (parseMethodDescriptor yX2_setOverride.desc).map (fun d => d.parameters.length) = some 2 := ⟨by decide +kernel, by decide +kernel, by decide +kernel⟩
theorem wi_X2_setOverride : Cond.instanceMethod yX2_setOverride ∈ wT := wu (wtab_3 (List.mem_of_getElem? (i := 162) (by decide +kernel))) rfl
theorem wz_X2_setOverride : Cond.selects RX2 yX2_setOverride yX2_setOverride ∈ wT := wu (wtab_3 (List.mem_of_getElem? (i := 163) (by decide +kernel))) rfl
theorem wc_X2_signatureOf : Cond.code yX2_signatureOf cX2_signatureOf 2 (some .int) ∈ wT := wu (wtab_4 (List.mem_of_getElem? (i := 222) (by rfl))) rfl
theorem wd_X2_signatureOf : yX2_signatureOf.cls ≠ "java/lang/invoke/MethodHandle" ∧ yX2_signatureOf.cls ≠ "java/lang/invoke/VarHandle" ∧ (parseMethodDescriptor yX2_signatureOf.desc).map (fun d => d.parameters.length) = some 1 := ⟨by decide +kernel, by decide +kernel, by decide +kernel⟩
theorem wi_X2_signatureOf : Cond.instanceMethod yX2_signatureOf ∈ wT := wu (wtab_4 (List.mem_of_getElem? (i := 220) (by decide +kernel))) rfl
theorem wz_X2_signatureOf : Cond.selects RX2 yX2_signatureOf yX2_signatureOf ∈ wT := wu (wtab_4 (List.mem_of_getElem? (i := 221) (by decide +kernel))) rfl
theorem wc_X3_clear : Cond.code yX3_clear cX3_clear 2 none ∈ wT := wu (wtab_3 (List.mem_of_getElem? (i := 228) (by rfl))) rfl
theorem wd_X3_clear : yX3_clear.cls ≠ "java/lang/invoke/MethodHandle" ∧ yX3_clear.cls ≠ "java/lang/invoke/VarHandle" ∧ (parseMethodDescriptor yX3_clear.desc).map (fun d => d.parameters.length) = some 1 := ⟨by decide +kernel, by decide +kernel, by decide +kernel⟩
theorem wi_X3_clear : Cond.instanceMethod yX3_clear ∈ wT := wu (wtab_3 (List.mem_of_getElem? (i := 226) (by decide +kernel))) rfl
theorem wz_X3_clear : Cond.selects RX3 yX3_clear yX3_clear ∈ wT := wu (wtab_3 (List.mem_of_getElem? (i := 227) (by decide +kernel))) rfl
theorem wc_X3_hasErasedKindsOf : Cond.code yX3_hasErasedKindsOf cX3_hasErasedKindsOf 2 (some .boolean) ∈ wT := wu (wtab_3 (List.mem_of_getElem? (i := 90) (by rfl))) rfl
theorem wd_X3_hasErasedKindsOf : yX3_hasErasedKindsOf.cls ≠ "java/lang/invoke/MethodHandle" ∧ yX3_hasErasedKindsOf.cls ≠ "java/lang/invoke/VarHandle" ∧ (parseMethodDescriptor yX3_hasErasedKindsOf.desc).map (fun d => d.parameters.length) = some 1 := ⟨by decide +kernel, by decide +kernel, by decide +kernel⟩
theorem wi_X3_hasErasedKindsOf : Cond.instanceMethod yX3_hasErasedKindsOf ∈ wT := wu (wtab_3 (List.mem_of_getElem? (i := 88) (by decide +kernel))) rfl
theorem wz_X3_hasErasedKindsOf : Cond.selects RX3 yX3_hasErasedKindsOf yX3_hasErasedKindsOf ∈ wT := wu (wtab_3 (List.mem_of_getElem? (i := 89) (by decide +kernel))) rfl
theorem wc_X3_isFree : Cond.code yX3_isFree cX3_isFree 1 (some .boolean) ∈ wT := wu (wtab_3 (List.mem_of_getElem? (i := 135) (by rfl))) rfl
theorem wd_X3_isFree : yX3_isFree.cls ≠ "java/lang/invoke/MethodHandle" ∧ yX3_isFree.cls ≠ "java/lang/invoke/VarHandle" ∧ (parseMethodDescriptor yX3_isFree.desc).map (fun d => d.parameters.length) = some 0 := ⟨by decide +kernel, by decide +kernel, by decide +kernel⟩
theorem wi_X3_isFree : Cond.instanceMethod yX3_isFree ∈ wT := wu (wtab_3 (List.mem_of_getElem? (i := 133) (by decide +kernel))) rfl
theorem wz_X3_isFree : Cond.selects RX3 yX3_isFree yX3_isFree ∈ wT := wu (wtab_3 (List.mem_of_getElem? (i := 134) (by decide +kernel))) rfl
theorem wc_X3_isOwn : Cond.code yX3_isOwn cX3_isOwn 1 (some .boolean) ∈ wT := wu (wtab_3 (List.mem_of_getElem? (i := 176) (by rfl))) rfl
theorem wd_X3_isOwn : yX3_isOwn.cls ≠ "java/lang/invoke/MethodHandle" ∧ yX3_isOwn.cls ≠ "java/lang/invoke/VarHandle" ∧ (parseMethodDescriptor yX3_isOwn.desc).map (fun d => d.parameters.length) = some 0 := ⟨by decide +kernel, by decide +kernel, by decide +kernel⟩
theorem wi_X3_isOwn : Cond.instanceMethod yX3_isOwn ∈ wT := wu (wtab_3 (List.mem_of_getElem? (i := 174) (by decide +kernel))) rfl
theorem wz_X3_isOwn : Cond.selects RX3 yX3_isOwn yX3_isOwn ∈ wT := wu (wtab_3 (List.mem_of_getElem? (i := 175) (by decide +kernel))) rfl
theorem wc_X3_isStatic : Cond.code yX3_isStatic cX3_isStatic 1 (some .boolean) ∈ wT := wu (wtab_3 (List.mem_of_getElem? (i := 184) (by rfl))) rfl
theorem wd_X3_isStatic : yX3_isStatic.cls ≠ "java/lang/invoke/MethodHandle" ∧ yX3_isStatic.cls ≠ "java/lang/invoke/VarHandle" ∧ (parseMethodDescriptor yX3_isStatic.desc).map (fun d => d.parameters.length) = some 0 := ⟨by decide +kernel, by decide +kernel, by decide +kernel⟩
theorem wi_X3_isStatic : Cond.instanceMethod yX3_isStatic ∈ wT := wu (wtab_3 (List.mem_of_getElem? (i := 182) (by decide +kernel))) rfl
theorem wz_X3_isStatic : Cond.selects RX3 yX3_isStatic yX3_isStatic ∈ wT := wu (wtab_3 (List.mem_of_getElem? (i := 183) (by decide +kernel))) rfl
theorem wc_X4_advance : Cond.code yX4_advance cX4_advance 1 none ∈ wT := wu (wtab_3 (List.mem_of_getElem? (i := 10) (by rfl))) rfl
theorem wd_X4_advance : yX4_advance.cls ≠ "java/lang/invoke/MethodHandle" ∧ yX4_advance.cls ≠ "java/lang/invoke/VarHandle" ∧ (parseMethodDescriptor yX4_advance.desc).map (fun d => d.parameters.length) = some 0 := ⟨by decide +kernel, by decide +kernel, by decide +kernel⟩
theorem wi_X4_advance : Cond.instanceMethod yX4_advance ∈ wT := wu (wtab_3 (List.mem_of_getElem? (i := 9) (by decide +kernel))) rfl
theorem wz_X4_advance : Cond.selects RX4 yX4_advance yX4_advance ∈ wT := wt_s 8 (by decide +kernel) rfl
theorem wc_X4_closeType : Cond.code yX4_closeType cX4_closeType 2 (some .boolean) ∈ wT := wu (wtab_3 (List.mem_of_getElem? (i := 78) (by rfl))) rfl
theorem wd_X4_closeType : yX4_closeType.cls ≠ "java/lang/invoke/MethodHandle" ∧ yX4_closeType.cls ≠ "java/lang/invoke/VarHandle" ∧ (parseMethodDescriptor yX4_closeType.desc).map (fun d => d.parameters.length) = some 0 := ⟨by decide +kernel, by decide +kernel, by decide +kernel⟩
theorem wi_X4_closeType : Cond.instanceMethod yX4_closeType ∈ wT := wu (wtab_3 (List.mem_of_getElem? (i := 77) (by decide +kernel))) rfl
theorem wz_X4_closeType : Cond.selects RX4 yX4_closeType yX4_closeType ∈ wT := wt_s 20 (by decide +kernel) rfl
theorem wc_X4_fail : Cond.code yX4_fail cX4_fail 2 (some .boolean) ∈ wT := wu (wtab_3 (List.mem_of_getElem? (i := 22) (by rfl))) rfl
theorem wd_X4_fail : yX4_fail.cls ≠ "java/lang/invoke/MethodHandle" ∧ yX4_fail.cls ≠ "java/lang/invoke/VarHandle" ∧ (parseMethodDescriptor yX4_fail.desc).map (fun d => d.parameters.length) = some 1 := ⟨by decide +kernel, by decide +kernel, by decide +kernel⟩
theorem wi_X4_fail : Cond.instanceMethod yX4_fail ∈ wT := wu (wtab_3 (List.mem_of_getElem? (i := 21) (by decide +kernel))) rfl
theorem wz_X4_fail : Cond.selects RX4 yX4_fail yX4_fail ∈ wT := wt_s 11 (by decide +kernel) rfl
theorem wc_X4_keepMember : Cond.code yX4_keepMember cX4_keepMember 3 none ∈ wT := wu (wtab_4 (List.mem_of_getElem? (i := 21) (by rfl))) rfl
theorem wd_X4_keepMember : yX4_keepMember.cls ≠ "java/lang/invoke/MethodHandle" ∧ yX4_keepMember.cls ≠ "java/lang/invoke/VarHandle" ∧ (parseMethodDescriptor yX4_keepMember.desc).map (fun d => d.parameters.length) = some 0 := ⟨by decide +kernel, by decide +kernel, by decide +kernel⟩
theorem wi_X4_keepMember : Cond.instanceMethod yX4_keepMember ∈ wT := wu (wtab_4 (List.mem_of_getElem? (i := 20) (by decide +kernel))) rfl
theorem wz_X4_keepMember : Cond.selects RX4 yX4_keepMember yX4_keepMember ∈ wT := wt_s 52 (by decide +kernel) rfl
theorem wc_X4_kindNamed : Cond.code yX4_kindNamed cX4_kindNamed 5 (some .int) ∈ wT := wu (wtab_3 (List.mem_of_getElem? (i := 74) (by rfl))) rfl
theorem wd_X4_kindNamed : yX4_kindNamed.cls ≠ "java/lang/invoke/MethodHandle" ∧ yX4_kindNamed.cls ≠ "java/lang/invoke/VarHandle" ∧ (parseMethodDescriptor yX4_kindNamed.desc).map (fun d => d.parameters.length) = some 1 := ⟨by decide +kernel, by decide +kernel, by decide +kernel⟩
theorem wi_X4_kindNamed : Cond.instanceMethod yX4_kindNamed ∈ wT := wu (wtab_3 (List.mem_of_getElem? (i := 73) (by decide +kernel))) rfl
theorem wz_X4_kindNamed : Cond.selects RX4 yX4_kindNamed yX4_kindNamed ∈ wT := wt_s 19 (by decide +kernel) rfl
theorem wc_X4_misfit : Cond.code yX4_misfit cX4_misfit 1 (some .boolean) ∈ wT := wu (wtab_3 (List.mem_of_getElem? (i := 18) (by rfl))) rfl
theorem wd_X4_misfit : yX4_misfit.cls ≠ "java/lang/invoke/MethodHandle" ∧ yX4_misfit.cls ≠ "java/lang/invoke/VarHandle" ∧ (parseMethodDescriptor yX4_misfit.desc).map (fun d => d.parameters.length) = some 0 := ⟨by decide +kernel, by decide +kernel, by decide +kernel⟩
theorem wi_X4_misfit : Cond.instanceMethod yX4_misfit ∈ wT := wu (wtab_3 (List.mem_of_getElem? (i := 17) (by decide +kernel))) rfl
theorem wz_X4_misfit : Cond.selects RX4 yX4_misfit yX4_misfit ∈ wT := wt_s 10 (by decide +kernel) rfl
theorem wc_X4_otherTypeSeen : Cond.code yX4_otherTypeSeen cX4_otherTypeSeen 3 (some .int) ∈ wT := wu (wtab_3 (List.mem_of_getElem? (i := 54) (by rfl))) rfl
theorem wd_X4_otherTypeSeen : yX4_otherTypeSeen.cls ≠ "java/lang/invoke/MethodHandle" ∧ yX4_otherTypeSeen.cls ≠ "java/lang/invoke/VarHandle" ∧ (parseMethodDescriptor yX4_otherTypeSeen.desc).map (fun d => d.parameters.length) = some 1 := ⟨by decide +kernel, by decide +kernel, by decide +kernel⟩
theorem wi_X4_otherTypeSeen : Cond.instanceMethod yX4_otherTypeSeen ∈ wT := wu (wtab_3 (List.mem_of_getElem? (i := 53) (by decide +kernel))) rfl
theorem wz_X4_otherTypeSeen : Cond.selects RX4 yX4_otherTypeSeen yX4_otherTypeSeen ∈ wT := wt_s 16 (by decide +kernel) rfl
theorem wc_X4_packNumber : Cond.code yX4_packNumber cX4_packNumber 4 (some .int) ∈ wT := wu (wtab_4 (List.mem_of_getElem? (i := 38) (by rfl))) rfl
theorem wd_X4_packNumber : yX4_packNumber.cls ≠ "java/lang/invoke/MethodHandle" ∧ yX4_packNumber.cls ≠ "java/lang/invoke/VarHandle" ∧ (parseMethodDescriptor yX4_packNumber.desc).map (fun d => d.parameters.length) = some 1 := ⟨by decide +kernel, by decide +kernel, by decide +kernel⟩
theorem wi_X4_packNumber : Cond.instanceMethod yX4_packNumber ∈ wT := wu (wtab_4 (List.mem_of_getElem? (i := 37) (by decide +kernel))) rfl
theorem wz_X4_packNumber : Cond.selects RX4 yX4_packNumber yX4_packNumber ∈ wT := wt_s 56 (by decide +kernel) rfl
theorem wc_X4_passFirst : Cond.code yX4_passFirst cX4_passFirst 1 (some .boolean) ∈ wT := wu (wtab_3 (List.mem_of_getElem? (i := 236) (by rfl))) rfl
theorem wd_X4_passFirst : yX4_passFirst.cls ≠ "java/lang/invoke/MethodHandle" ∧ yX4_passFirst.cls ≠ "java/lang/invoke/VarHandle" ∧ (parseMethodDescriptor yX4_passFirst.desc).map (fun d => d.parameters.length) = some 0 := ⟨by decide +kernel, by decide +kernel, by decide +kernel⟩
theorem wi_X4_passFirst : Cond.instanceMethod yX4_passFirst ∈ wT := wu (wtab_3 (List.mem_of_getElem? (i := 235) (by decide +kernel))) rfl
theorem wz_X4_passFirst : Cond.selects RX4 yX4_passFirst yX4_passFirst ∈ wT := wt_s 46 (by decide +kernel) rfl
theorem wc_X4_read : Cond.code yX4_read cX4_read 4 (some .boolean) ∈ wT := wu (wtab_2 (List.mem_of_getElem? (i := 230) (by rfl))) rfl
theorem wd_X4_read : yX4_read.cls ≠ "java/lang/invoke/MethodHandle" ∧ yX4_read.cls ≠ "java/lang/invoke/VarHandle" ∧ (parseMethodDescriptor yX4_read.desc).map (fun d => d.parameters.length) = some 1 := ⟨by decide +kernel, by decide +kernel, by decide +kernel⟩
theorem wi_X4_read : Cond.instanceMethod yX4_read ∈ wT := wu (wtab_2 (List.mem_of_getElem? (i := 228) (by decide +kernel))) rfl
theorem wz_X4_read : Cond.selects RX4 yX4_read yX4_read ∈ wT := wu (wtab_2 (List.mem_of_getElem? (i := 229) (by decide +kernel))) rfl
theorem wc_X4_readAccess : Cond.code yX4_readAccess cX4_readAccess 1 (some .boolean) ∈ wT := wu (wtab_3 (List.mem_of_getElem? (i := 232) (by rfl))) rfl
theorem wd_X4_readAccess : yX4_readAccess.cls ≠ "java/lang/invoke/MethodHandle" ∧ yX4_readAccess.cls ≠ "java/lang/invoke/VarHandle" ∧ (parseMethodDescriptor yX4_readAccess.desc).map (fun d => d.parameters.length) = some 0 := ⟨by decide +kernel, by decide +kernel, by decide +kernel⟩
theorem wi_X4_readAccess : Cond.instanceMethod yX4_readAccess ∈ wT := wu (wtab_3 (List.mem_of_getElem? (i := 231) (by decide +kernel))) rfl
theorem wz_X4_readAccess : Cond.selects RX4 yX4_readAccess yX4_readAccess ∈ wT := wt_s 45 (by decide +kernel) rfl
theorem wc_X4_readArguments : Cond.code yX4_readArguments cX4_readArguments 4 (some .boolean) ∈ wT := wu (wtab_3 (List.mem_of_getElem? (i := 70) (by rfl))) rfl
theorem wd_X4_readArguments : yX4_readArguments.cls ≠ "java/lang/invoke/MethodHandle" ∧ yX4_readArguments.cls ≠ "java/lang/invoke/VarHandle" ∧ (parseMethodDescriptor yX4_readArguments.desc).map (fun d => d.parameters.length) = some 0 := ⟨by decide +kernel, by decide +kernel, by decide +kernel⟩
theorem wi_X4_readArguments : Cond.instanceMethod yX4_readArguments ∈ wT := wu (wtab_3 (List.mem_of_getElem? (i := 69) (by decide +kernel))) rfl
theorem wz_X4_readArguments : Cond.selects RX4 yX4_readArguments yX4_readArguments ∈ wT := wt_s 18 (by decide +kernel) rfl
theorem wc_X4_readBound : Cond.code yX4_readBound cX4_readBound 3 (some .boolean) ∈ wT := wu (wtab_3 (List.mem_of_getElem? (i := 34) (by rfl))) rfl
theorem wd_X4_readBound : yX4_readBound.cls ≠ "java/lang/invoke/MethodHandle" ∧ yX4_readBound.cls ≠ "java/lang/invoke/VarHandle" ∧ (parseMethodDescriptor yX4_readBound.desc).map (fun d => d.parameters.length) = some 1 := ⟨by decide +kernel, by decide +kernel, by decide +kernel⟩
theorem wi_X4_readBound : Cond.instanceMethod yX4_readBound ∈ wT := wu (wtab_3 (List.mem_of_getElem? (i := 33) (by decide +kernel))) rfl
theorem wz_X4_readBound : Cond.selects RX4 yX4_readBound yX4_readBound ∈ wT := wt_s 12 (by decide +kernel) rfl
theorem wc_X4_readForm : Cond.code yX4_readForm cX4_readForm 3 (some .boolean) ∈ wT := wu (wtab_4 (List.mem_of_getElem? (i := 0) (by rfl))) rfl
theorem wd_X4_readForm : yX4_readForm.cls ≠ "java/lang/invoke/MethodHandle" ∧ yX4_readForm.cls ≠ "java/lang/invoke/VarHandle" ∧ (parseMethodDescriptor yX4_readForm.desc).map (fun d => d.parameters.length) = some 0 := ⟨by decide +kernel, by decide +kernel, by decide +kernel⟩
theorem wi_X4_readForm : Cond.instanceMethod yX4_readForm ∈ wT := wu (wtab_3 (List.mem_of_getElem? (i := 239) (by decide +kernel))) rfl
theorem wz_X4_readForm : Cond.selects RX4 yX4_readForm yX4_readForm ∈ wT := wt_s 47 (by decide +kernel) rfl
theorem wc_X4_readHead : Cond.code yX4_readHead cX4_readHead 1 (some .boolean) ∈ wT := wu (wtab_3 (List.mem_of_getElem? (i := 2) (by rfl))) rfl
theorem wd_X4_readHead : yX4_readHead.cls ≠ "java/lang/invoke/MethodHandle" ∧ yX4_readHead.cls ≠ "java/lang/invoke/VarHandle" ∧ (parseMethodDescriptor yX4_readHead.desc).map (fun d => d.parameters.length) = some 0 := ⟨by decide +kernel, by decide +kernel, by decide +kernel⟩
theorem wi_X4_readHead : Cond.instanceMethod yX4_readHead ∈ wT := wu (wtab_3 (List.mem_of_getElem? (i := 1) (by decide +kernel))) rfl
theorem wz_X4_readHead : Cond.selects RX4 yX4_readHead yX4_readHead ∈ wT := wt_s 6 (by decide +kernel) rfl
theorem wc_X4_readItem : Cond.code yX4_readItem cX4_readItem 1 (some .boolean) ∈ wT := wu (wtab_4 (List.mem_of_getElem? (i := 30) (by rfl))) rfl
theorem wd_X4_readItem : yX4_readItem.cls ≠ "java/lang/invoke/MethodHandle" ∧ yX4_readItem.cls ≠ "java/lang/invoke/VarHandle" ∧ (parseMethodDescriptor yX4_readItem.desc).map (fun d => d.parameters.length) = some 0 := ⟨by decide +kernel, by decide +kernel, by decide +kernel⟩
theorem wi_X4_readItem : Cond.instanceMethod yX4_readItem ∈ wT := wu (wtab_4 (List.mem_of_getElem? (i := 29) (by decide +kernel))) rfl
theorem wz_X4_readItem : Cond.selects RX4 yX4_readItem yX4_readItem ∈ wT := wt_s 54 (by decide +kernel) rfl
theorem wc_X4_readKinds : Cond.code yX4_readKinds cX4_readKinds 3 (some .boolean) ∈ wT := wu (wtab_4 (List.mem_of_getElem? (i := 17) (by rfl))) rfl
theorem wd_X4_readKinds : yX4_readKinds.cls ≠ "java/lang/invoke/MethodHandle" ∧ yX4_readKinds.cls ≠ "java/lang/invoke/VarHandle" ∧ (parseMethodDescriptor yX4_readKinds.desc).map (fun d => d.parameters.length) = some 0 := ⟨by decide +kernel, by decide +kernel, by decide +kernel⟩
theorem wi_X4_readKinds : Cond.instanceMethod yX4_readKinds ∈ wT := wu (wtab_4 (List.mem_of_getElem? (i := 16) (by decide +kernel))) rfl
theorem wz_X4_readKinds : Cond.selects RX4 yX4_readKinds yX4_readKinds ∈ wT := wt_s 51 (by decide +kernel) rfl
theorem wc_X4_readLoader : Cond.code yX4_readLoader cX4_readLoader 1 (some .boolean) ∈ wT := wu (wtab_4 (List.mem_of_getElem? (i := 42) (by rfl))) rfl
theorem wd_X4_readLoader : yX4_readLoader.cls ≠ "java/lang/invoke/MethodHandle" ∧ yX4_readLoader.cls ≠ "java/lang/invoke/VarHandle" ∧ (parseMethodDescriptor yX4_readLoader.desc).map (fun d => d.parameters.length) = some 0 := ⟨by decide +kernel, by decide +kernel, by decide +kernel⟩
theorem wi_X4_readLoader : Cond.instanceMethod yX4_readLoader ∈ wT := wu (wtab_4 (List.mem_of_getElem? (i := 41) (by decide +kernel))) rfl
theorem wz_X4_readLoader : Cond.selects RX4 yX4_readLoader yX4_readLoader ∈ wT := wt_s 57 (by decide +kernel) rfl
theorem wc_X4_readMember : Cond.code yX4_readMember cX4_readMember 3 (some .boolean) ∈ wT := wu (wtab_3 (List.mem_of_getElem? (i := 224) (by rfl))) rfl
theorem wd_X4_readMember : yX4_readMember.cls ≠ "java/lang/invoke/MethodHandle" ∧ yX4_readMember.cls ≠ "java/lang/invoke/VarHandle" ∧ (parseMethodDescriptor yX4_readMember.desc).map (fun d => d.parameters.length) = some 0 := ⟨by decide +kernel, by decide +kernel, by decide +kernel⟩
theorem wi_X4_readMember : Cond.instanceMethod yX4_readMember ∈ wT := wu (wtab_3 (List.mem_of_getElem? (i := 223) (by decide +kernel))) rfl
theorem wz_X4_readMember : Cond.selects RX4 yX4_readMember yX4_readMember ∈ wT := wt_s 44 (by decide +kernel) rfl
theorem wc_X4_readMemberName : Cond.code yX4_readMemberName cX4_readMemberName 1 (some .boolean) ∈ wT := wu (wtab_4 (List.mem_of_getElem? (i := 13) (by rfl))) rfl
theorem wd_X4_readMemberName : yX4_readMemberName.cls ≠ "java/lang/invoke/MethodHandle" ∧ yX4_readMemberName.cls ≠ "java/lang/invoke/VarHandle" ∧ (parseMethodDescriptor yX4_readMemberName.desc).map (fun d => d.parameters.length) = some 0 := ⟨by decide +kernel, by decide +kernel, by decide +kernel⟩
theorem wi_X4_readMemberName : Cond.instanceMethod yX4_readMemberName ∈ wT := wu (wtab_4 (List.mem_of_getElem? (i := 12) (by decide +kernel))) rfl
theorem wz_X4_readMemberName : Cond.selects RX4 yX4_readMemberName yX4_readMemberName ∈ wT := wt_s 50 (by decide +kernel) rfl
theorem wc_X4_readNest : Cond.code yX4_readNest cX4_readNest 2 (some .boolean) ∈ wT := wu (wtab_3 (List.mem_of_getElem? (i := 46) (by rfl))) rfl
theorem wd_X4_readNest : yX4_readNest.cls ≠ "java/lang/invoke/MethodHandle" ∧ yX4_readNest.cls ≠ "java/lang/invoke/VarHandle" ∧ (parseMethodDescriptor yX4_readNest.desc).map (fun d => d.parameters.length) = some 0 := ⟨by decide +kernel, by decide +kernel, by decide +kernel⟩
theorem wi_X4_readNest : Cond.instanceMethod yX4_readNest ∈ wT := wu (wtab_3 (List.mem_of_getElem? (i := 45) (by decide +kernel))) rfl
theorem wz_X4_readNest : Cond.selects RX4 yX4_readNest yX4_readNest ∈ wT := wt_s 15 (by decide +kernel) rfl
theorem wc_X4_readPack : Cond.code yX4_readPack cX4_readPack 1 (some .boolean) ∈ wT := wu (wtab_4 (List.mem_of_getElem? (i := 34) (by rfl))) rfl
theorem wd_X4_readPack : yX4_readPack.cls ≠ "java/lang/invoke/MethodHandle" ∧ yX4_readPack.cls ≠ "java/lang/invoke/VarHandle" ∧ (parseMethodDescriptor yX4_readPack.desc).map (fun d => d.parameters.length) = some 0 := ⟨by decide +kernel, by decide +kernel, by decide +kernel⟩
theorem wi_X4_readPack : Cond.instanceMethod yX4_readPack ∈ wT := wu (wtab_4 (List.mem_of_getElem? (i := 33) (by decide +kernel))) rfl
theorem wz_X4_readPack : Cond.selects RX4 yX4_readPack yX4_readPack ∈ wT := wt_s 55 (by decide +kernel) rfl
theorem wc_X4_readRef : Cond.code yX4_readRef cX4_readRef 2 (some .boolean) ∈ wT := wu (wtab_3 (List.mem_of_getElem? (i := 62) (by rfl))) rfl
theorem wd_X4_readRef : yX4_readRef.cls ≠ "java/lang/invoke/MethodHandle" ∧ yX4_readRef.cls ≠ "java/lang/invoke/VarHandle" ∧ (parseMethodDescriptor yX4_readRef.desc).map (fun d => d.parameters.length) = some 0 := ⟨by decide +kernel, by decide +kernel, by decide +kernel⟩
theorem wi_X4_readRef : Cond.instanceMethod yX4_readRef ∈ wT := wu (wtab_3 (List.mem_of_getElem? (i := 61) (by decide +kernel))) rfl
theorem wz_X4_readRef : Cond.selects RX4 yX4_readRef yX4_readRef ∈ wT := wt_s 17 (by decide +kernel) rfl
theorem wc_X4_readResult : Cond.code yX4_readResult cX4_readResult 1 (some .boolean) ∈ wT := wu (wtab_4 (List.mem_of_getElem? (i := 5) (by rfl))) rfl
theorem wd_X4_readResult : yX4_readResult.cls ≠ "java/lang/invoke/MethodHandle" ∧ yX4_readResult.cls ≠ "java/lang/invoke/VarHandle" ∧ (parseMethodDescriptor yX4_readResult.desc).map (fun d => d.parameters.length) = some 0 := ⟨by decide +kernel, by decide +kernel, by decide +kernel⟩
theorem wi_X4_readResult : Cond.instanceMethod yX4_readResult ∈ wT := wu (wtab_4 (List.mem_of_getElem? (i := 4) (by decide +kernel))) rfl
theorem wz_X4_readResult : Cond.selects RX4 yX4_readResult yX4_readResult ∈ wT := wt_s 48 (by decide +kernel) rfl
theorem wc_X4_readType : Cond.code yX4_readType cX4_readType 2 (some .boolean) ∈ wT := wu (wtab_4 (List.mem_of_getElem? (i := 47) (by rfl))) rfl
theorem wd_X4_readType : yX4_readType.cls ≠ "java/lang/invoke/MethodHandle" ∧ yX4_readType.cls ≠ "java/lang/invoke/VarHandle" ∧ (parseMethodDescriptor yX4_readType.desc).map (fun d => d.parameters.length) = some 0 := ⟨by decide +kernel, by decide +kernel, by decide +kernel⟩
theorem wi_X4_readType : Cond.instanceMethod yX4_readType ∈ wT := wu (wtab_4 (List.mem_of_getElem? (i := 46) (by decide +kernel))) rfl
theorem wz_X4_readType : Cond.selects RX4 yX4_readType yX4_readType ∈ wT := wt_s 58 (by decide +kernel) rfl
theorem wc_X4_readTypeName : Cond.code yX4_readTypeName cX4_readTypeName 2 (some .boolean) ∈ wT := wu (wtab_4 (List.mem_of_getElem? (i := 55) (by rfl))) rfl
theorem wd_X4_readTypeName : yX4_readTypeName.cls ≠ "java/lang/invoke/MethodHandle" ∧ yX4_readTypeName.cls ≠ "java/lang/invoke/VarHandle" ∧ (parseMethodDescriptor yX4_readTypeName.desc).map (fun d => d.parameters.length) = some 0 := ⟨by decide +kernel, by decide +kernel, by decide +kernel⟩
theorem wi_X4_readTypeName : Cond.instanceMethod yX4_readTypeName ∈ wT := wu (wtab_4 (List.mem_of_getElem? (i := 54) (by decide +kernel))) rfl
theorem wz_X4_readTypeName : Cond.selects RX4 yX4_readTypeName yX4_readTypeName ∈ wT := wt_s 59 (by decide +kernel) rfl
theorem wc_X4_readVar : Cond.code yX4_readVar cX4_readVar 2 (some .boolean) ∈ wT := wu (wtab_3 (List.mem_of_getElem? (i := 14) (by rfl))) rfl
theorem wd_X4_readVar : yX4_readVar.cls ≠ "java/lang/invoke/MethodHandle" ∧ yX4_readVar.cls ≠ "java/lang/invoke/VarHandle" ∧ (parseMethodDescriptor yX4_readVar.desc).map (fun d => d.parameters.length) = some 1 := ⟨by decide +kernel, by decide +kernel, by decide +kernel⟩
theorem wi_X4_readVar : Cond.instanceMethod yX4_readVar ∈ wT := wu (wtab_3 (List.mem_of_getElem? (i := 13) (by decide +kernel))) rfl
theorem wz_X4_readVar : Cond.selects RX4 yX4_readVar yX4_readVar ∈ wT := wt_s 9 (by decide +kernel) rfl
theorem wc_X4_readVars : Cond.code yX4_readVars cX4_readVars 2 (some .boolean) ∈ wT := wu (wtab_3 (List.mem_of_getElem? (i := 6) (by rfl))) rfl
theorem wd_X4_readVars : yX4_readVars.cls ≠ "java/lang/invoke/MethodHandle" ∧ yX4_readVars.cls ≠ "java/lang/invoke/VarHandle" ∧ (parseMethodDescriptor yX4_readVars.desc).map (fun d => d.parameters.length) = some 0 := ⟨by decide +kernel, by decide +kernel, by decide +kernel⟩
theorem wi_X4_readVars : Cond.instanceMethod yX4_readVars ∈ wT := wu (wtab_3 (List.mem_of_getElem? (i := 5) (by decide +kernel))) rfl
theorem wz_X4_readVars : Cond.selects RX4 yX4_readVars yX4_readVars ∈ wT := wt_s 7 (by decide +kernel) rfl
theorem wc_X4_seesKind : Cond.code yX4_seesKind cX4_seesKind 3 (some .boolean) ∈ wT := wu (wtab_4 (List.mem_of_getElem? (i := 9) (by rfl))) rfl
theorem wd_X4_seesKind : yX4_seesKind.cls ≠ "java/lang/invoke/MethodHandle" ∧ yX4_seesKind.cls ≠ "java/lang/invoke/VarHandle" ∧ (parseMethodDescriptor yX4_seesKind.desc).map (fun d => d.parameters.length) = some 1 := ⟨by decide +kernel, by decide +kernel, by decide +kernel⟩
theorem wi_X4_seesKind : Cond.instanceMethod yX4_seesKind ∈ wT := wu (wtab_4 (List.mem_of_getElem? (i := 8) (by decide +kernel))) rfl
theorem wz_X4_seesKind : Cond.selects RX4 yX4_seesKind yX4_seesKind ∈ wT := wt_s 49 (by decide +kernel) rfl
theorem wc_X4_signatureOfRow : Cond.code yX4_signatureOfRow cX4_signatureOfRow 3 (some .int) ∈ wT := wu (wtab_4 (List.mem_of_getElem? (i := 25) (by rfl))) rfl
theorem wd_X4_signatureOfRow : yX4_signatureOfRow.cls ≠ "java/lang/invoke/MethodHandle" ∧ yX4_signatureOfRow.cls ≠ "java/lang/invoke/VarHandle" ∧ (parseMethodDescriptor yX4_signatureOfRow.desc).map (fun d => d.parameters.length) = some 0 := ⟨by decide +kernel, by decide +kernel, by decide +kernel⟩
theorem wi_X4_signatureOfRow : Cond.instanceMethod yX4_signatureOfRow ∈ wT := wu (wtab_4 (List.mem_of_getElem? (i := 24) (by decide +kernel))) rfl
theorem wz_X4_signatureOfRow : Cond.selects RX4 yX4_signatureOfRow yX4_signatureOfRow ∈ wT := wt_s 53 (by decide +kernel) rfl
theorem wc_X4_start : Cond.code yX4_start cX4_start 1 none ∈ wT := wu (wtab_2 (List.mem_of_getElem? (i := 238) (by rfl))) rfl
theorem wd_X4_start : yX4_start.cls ≠ "java/lang/invoke/MethodHandle" ∧ yX4_start.cls ≠ "java/lang/invoke/VarHandle" ∧ (parseMethodDescriptor yX4_start.desc).map (fun d => d.parameters.length) = some 0 := ⟨by decide +kernel, by decide +kernel, by decide +kernel⟩
theorem wi_X4_start : Cond.instanceMethod yX4_start ∈ wT := wu (wtab_2 (List.mem_of_getElem? (i := 237) (by decide +kernel))) rfl
theorem wz_X4_start : Cond.selects RX4 yX4_start yX4_start ∈ wT := wt_s 5 (by decide +kernel) rfl
theorem wc_X4_take : Cond.code yX4_take cX4_take 2 (some .boolean) ∈ wT := wu (wtab_3 (List.mem_of_getElem? (i := 42) (by rfl))) rfl
theorem wd_X4_take : yX4_take.cls ≠ "java/lang/invoke/MethodHandle" ∧ yX4_take.cls ≠ "java/lang/invoke/VarHandle" ∧ (parseMethodDescriptor yX4_take.desc).map (fun d => d.parameters.length) = some 1 := ⟨by decide +kernel, by decide +kernel, by decide +kernel⟩
theorem wi_X4_take : Cond.instanceMethod yX4_take ∈ wT := wu (wtab_3 (List.mem_of_getElem? (i := 41) (by decide +kernel))) rfl
theorem wz_X4_take : Cond.selects RX4 yX4_take yX4_take ∈ wT := wt_s 14 (by decide +kernel) rfl
theorem wc_X4_typeSeen : Cond.code yX4_typeSeen cX4_typeSeen 5 (some .int) ∈ wT := wu (wtab_3 (List.mem_of_getElem? (i := 38) (by rfl))) rfl
theorem wd_X4_typeSeen : yX4_typeSeen.cls ≠ "java/lang/invoke/MethodHandle" ∧ yX4_typeSeen.cls ≠ "java/lang/invoke/VarHandle" ∧ (parseMethodDescriptor yX4_typeSeen.desc).map (fun d => d.parameters.length) = some 1 := ⟨by decide +kernel, by decide +kernel, by decide +kernel⟩
theorem wi_X4_typeSeen : Cond.instanceMethod yX4_typeSeen ∈ wT := wu (wtab_3 (List.mem_of_getElem? (i := 37) (by decide +kernel))) rfl
theorem wz_X4_typeSeen : Cond.selects RX4 yX4_typeSeen yX4_typeSeen ∈ wT := wt_s 13 (by decide +kernel) rfl
theorem wc_X5_add : Cond.code yX5_add cX5_add 5 none ∈ wT := wu (wtab_2 (List.mem_of_getElem? (i := 223) (by rfl))) rfl
theorem wd_X5_add : yX5_add.cls ≠ "java/lang/invoke/MethodHandle" ∧ yX5_add.cls ≠ "java/lang/invoke/VarHandle" ∧ (parseMethodDescriptor yX5_add.desc).map (fun d => d.parameters.length) = some 3 := ⟨by decide +kernel, by decide +kernel, by decide +kernel⟩
theorem wi_X5_add : Cond.instanceMethod yX5_add ∈ wT := wu (wtab_2 (List.mem_of_getElem? (i := 222) (by decide +kernel))) rfl
theorem wz_X5_add : Cond.selects RX5 yX5_add yX5_add ∈ wT := wt_s 4 (by decide +kernel) rfl
theorem wc_X5_begin : Cond.code yX5_begin cX5_begin 3 none ∈ wT := wu (wtab_2 (List.mem_of_getElem? (i := 219) (by rfl))) rfl
theorem wd_X5_begin : yX5_begin.cls ≠ "java/lang/invoke/MethodHandle" ∧ yX5_begin.cls ≠ "java/lang/invoke/VarHandle" ∧ (parseMethodDescriptor yX5_begin.desc).map (fun d => d.parameters.length) = some 2 := ⟨by decide +kernel, by decide +kernel, by decide +kernel⟩
theorem wi_X5_begin : Cond.instanceMethod yX5_begin ∈ wT := wu (wtab_2 (List.mem_of_getElem? (i := 218) (by decide +kernel))) rfl
theorem wz_X5_begin : Cond.selects RX5 yX5_begin yX5_begin ∈ wT := wt_s 3 (by decide +kernel) rfl
theorem wc_X5_endWord : Cond.code yX5_endWord cX5_endWord 1 none ∈ wT := wu (wtab_2 (List.mem_of_getElem? (i := 210) (by rfl))) rfl
theorem wd_X5_endWord : yX5_endWord.cls ≠ "java/lang/invoke/MethodHandle" ∧ yX5_endWord.cls ≠ "java/lang/invoke/VarHandle" ∧ (parseMethodDescriptor yX5_endWord.desc).map (fun d => d.parameters.length) = some 0 := ⟨by decide +kernel, by decide +kernel, by decide +kernel⟩
theorem wi_X5_endWord : Cond.instanceMethod yX5_endWord ∈ wT := wu (wtab_2 (List.mem_of_getElem? (i := 209) (by decide +kernel))) rfl
theorem wz_X5_endWord : Cond.selects RX5 yX5_endWord yX5_endWord ∈ wT := wt_s 2 (by decide +kernel) rfl
theorem wc_X5_isDigit : Cond.code yX5_isDigit cX5_isDigit 1 (some .boolean) ∈ wT := wu (wtab_2 (List.mem_of_getElem? (i := 202) (by rfl))) rfl
theorem wd_X5_isDigit : yX5_isDigit.cls ≠ "java/lang/invoke/MethodHandle" ∧ yX5_isDigit.cls ≠ "java/lang/invoke/VarHandle" ∧ (parseMethodDescriptor yX5_isDigit.desc).map (fun d => d.parameters.length) = some 1 := ⟨by decide +kernel, by decide +kernel, by decide +kernel⟩
theorem wi_X5_isDigit : Cond.static yX5_isDigit ∈ wT := wu (wtab_2 (List.mem_of_getElem? (i := 201) (by decide +kernel))) rfl
theorem wc_X5_isLetter : Cond.code yX5_isLetter cX5_isLetter 1 (some .boolean) ∈ wT := wu (wtab_2 (List.mem_of_getElem? (i := 199) (by rfl))) rfl
theorem wd_X5_isLetter : yX5_isLetter.cls ≠ "java/lang/invoke/MethodHandle" ∧ yX5_isLetter.cls ≠ "java/lang/invoke/VarHandle" ∧ (parseMethodDescriptor yX5_isLetter.desc).map (fun d => d.parameters.length) = some 1 := ⟨by decide +kernel, by decide +kernel, by decide +kernel⟩
theorem wi_X5_isLetter : Cond.static yX5_isLetter ∈ wT := wu (wtab_2 (List.mem_of_getElem? (i := 198) (by decide +kernel))) rfl
theorem wc_X5_isSign : Cond.code yX5_isSign cX5_isSign 1 (some .boolean) ∈ wT := wu (wtab_2 (List.mem_of_getElem? (i := 226) (by rfl))) rfl
theorem wd_X5_isSign : yX5_isSign.cls ≠ "java/lang/invoke/MethodHandle" ∧ yX5_isSign.cls ≠ "java/lang/invoke/VarHandle" ∧ (parseMethodDescriptor yX5_isSign.desc).map (fun d => d.parameters.length) = some 1 := ⟨by decide +kernel, by decide +kernel, by decide +kernel⟩
theorem wi_X5_isSign : Cond.static yX5_isSign ∈ wT := wu (wtab_2 (List.mem_of_getElem? (i := 225) (by decide +kernel))) rfl
theorem wc_X5_lengthenWord : Cond.code yX5_lengthenWord cX5_lengthenWord 2 none ∈ wT := wu (wtab_2 (List.mem_of_getElem? (i := 206) (by rfl))) rfl
theorem wd_X5_lengthenWord : yX5_lengthenWord.cls ≠ "java/lang/invoke/MethodHandle" ∧ yX5_lengthenWord.cls ≠ "java/lang/invoke/VarHandle" ∧ (parseMethodDescriptor yX5_lengthenWord.desc).map (fun d => d.parameters.length) = some 1 := ⟨by decide +kernel, by decide +kernel, by decide +kernel⟩
theorem wi_X5_lengthenWord : Cond.instanceMethod yX5_lengthenWord ∈ wT := wu (wtab_2 (List.mem_of_getElem? (i := 205) (by decide +kernel))) rfl
theorem wz_X5_lengthenWord : Cond.selects RX5 yX5_lengthenWord yX5_lengthenWord ∈ wT := wt_s 1 (by decide +kernel) rfl
theorem wc_X5_scan : Cond.code yX5_scan cX5_scan 5 none ∈ wT := wu (wtab_2 (List.mem_of_getElem? (i := 196) (by rfl))) rfl
theorem wd_X5_scan : yX5_scan.cls ≠ "java/lang/invoke/MethodHandle" ∧ yX5_scan.cls ≠ "java/lang/invoke/VarHandle" ∧ (parseMethodDescriptor yX5_scan.desc).map (fun d => d.parameters.length) = some 2 := ⟨by decide +kernel, by decide +kernel, by decide +kernel⟩
theorem wi_X5_scan : Cond.instanceMethod yX5_scan ∈ wT := wu (wtab_2 (List.mem_of_getElem? (i := 194) (by decide +kernel))) rfl
theorem wz_X5_scan : Cond.selects RX5 yX5_scan yX5_scan ∈ wT := wu (wtab_2 (List.mem_of_getElem? (i := 195) (by decide +kernel))) rfl
theorem wc_X5_sortOfWord : Cond.code yX5_sortOfWord cX5_sortOfWord 3 (some .int) ∈ wT := wu (wtab_2 (List.mem_of_getElem? (i := 213) (by rfl))) rfl
theorem wd_X5_sortOfWord : yX5_sortOfWord.cls ≠ "java/lang/invoke/MethodHandle" ∧ yX5_sortOfWord.cls ≠ "java/lang/invoke/VarHandle" ∧ (parseMethodDescriptor yX5_sortOfWord.desc).map (fun d => d.parameters.length) = some 1 := ⟨by decide +kernel, by decide +kernel, by decide +kernel⟩
theorem wi_X5_sortOfWord : Cond.static yX5_sortOfWord ∈ wT := wu (wtab_2 (List.mem_of_getElem? (i := 212) (by decide +kernel))) rfl
theorem wc_X6_argument : Cond.code yX6_argument cX6_argument 3 (some .int) ∈ wT := wu (wtab_3 (List.mem_of_getElem? (i := 110) (by rfl))) rfl
theorem wd_X6_argument : yX6_argument.cls ≠ "java/lang/invoke/MethodHandle" ∧ yX6_argument.cls ≠ "java/lang/invoke/VarHandle" ∧ (parseMethodDescriptor yX6_argument.desc).map (fun d => d.parameters.length) = some 2 := ⟨by decide +kernel, by decide +kernel, by decide +kernel⟩
theorem wi_X6_argument : Cond.instanceMethod yX6_argument ∈ wT := wu (wtab_3 (List.mem_of_getElem? (i := 108) (by decide +kernel))) rfl
theorem wz_X6_argument : Cond.selects RX6 yX6_argument yX6_argument ∈ wT := wu (wtab_3 (List.mem_of_getElem? (i := 109) (by decide +kernel))) rfl
theorem wc_X6_clear : Cond.code yX6_clear cX6_clear 5 none ∈ wT := wu (wtab_4 (List.mem_of_getElem? (i := 51) (by rfl))) rfl
theorem wd_X6_clear : yX6_clear.cls ≠ "java/lang/invoke/MethodHandle" ∧ yX6_clear.cls ≠ "java/lang/invoke/VarHandle" ∧ (parseMethodDescriptor yX6_clear.desc).map (fun d => d.parameters.length) = some 4 := ⟨by decide +kernel, by decide +kernel, by decide +kernel⟩
theorem wi_X6_clear : Cond.instanceMethod yX6_clear ∈ wT := wu (wtab_4 (List.mem_of_getElem? (i := 49) (by decide +kernel))) rfl
theorem wz_X6_clear : Cond.selects RX6 yX6_clear yX6_clear ∈ wT := wu (wtab_4 (List.mem_of_getElem? (i := 50) (by decide +kernel))) rfl
theorem wc_X6_hasRef : Cond.code yX6_hasRef cX6_hasRef 3 (some .boolean) ∈ wT := wu (wtab_3 (List.mem_of_getElem? (i := 66) (by rfl))) rfl
theorem wd_X6_hasRef : yX6_hasRef.cls ≠ "java/lang/invoke/MethodHandle" ∧ yX6_hasRef.cls ≠ "java/lang/invoke/VarHandle" ∧ (parseMethodDescriptor yX6_hasRef.desc).map (fun d => d.parameters.length) = some 1 := ⟨by decide +kernel, by decide +kernel, by decide +kernel⟩
theorem wi_X6_hasRef : Cond.instanceMethod yX6_hasRef ∈ wT := wu (wtab_3 (List.mem_of_getElem? (i := 64) (by decide +kernel))) rfl
theorem wz_X6_hasRef : Cond.selects RX6 yX6_hasRef yX6_hasRef ∈ wT := wu (wtab_3 (List.mem_of_getElem? (i := 65) (by decide +kernel))) rfl
theorem wc_X6_isBelow : Cond.code yX6_isBelow cX6_isBelow 2 (some .boolean) ∈ wT := wu (wtab_3 (List.mem_of_getElem? (i := 106) (by rfl))) rfl
theorem wd_X6_isBelow : yX6_isBelow.cls ≠ "java/lang/invoke/MethodHandle" ∧ yX6_isBelow.cls ≠ "java/lang/invoke/VarHandle" ∧ (parseMethodDescriptor yX6_isBelow.desc).map (fun d => d.parameters.length) = some 1 := ⟨by decide +kernel, by decide +kernel, by decide +kernel⟩
theorem wi_X6_isBelow : Cond.instanceMethod yX6_isBelow ∈ wT := wu (wtab_3 (List.mem_of_getElem? (i := 104) (by decide +kernel))) rfl
theorem wz_X6_isBelow : Cond.selects RX6 yX6_isBelow yX6_isBelow ∈ wT := wu (wtab_3 (List.mem_of_getElem? (i := 105) (by decide +kernel))) rfl
theorem wc_X6_isFace : Cond.code yX6_isFace cX6_isFace 1 (some .boolean) ∈ wT := wu (wtab_3 (List.mem_of_getElem? (i := 50) (by rfl))) rfl
theorem wd_X6_isFace : yX6_isFace.cls ≠ "java/lang/invoke/MethodHandle" ∧ yX6_isFace.cls ≠ "java/lang/invoke/VarHandle" ∧ (parseMethodDescriptor yX6_isFace.desc).map (fun d => d.parameters.length) = some 0 := ⟨by decide +kernel, by decide +kernel, by decide +kernel⟩
theorem wi_X6_isFace : Cond.instanceMethod yX6_isFace ∈ wT := wu (wtab_3 (List.mem_of_getElem? (i := 48) (by decide +kernel))) rfl
theorem wz_X6_isFace : Cond.selects RX6 yX6_isFace yX6_isFace ∈ wT := wu (wtab_3 (List.mem_of_getElem? (i := 49) (by decide +kernel))) rfl
theorem wc_X6_setArgument : Cond.code yX6_setArgument cX6_setArgument 4 none ∈ wT := wu (wtab_3 (List.mem_of_getElem? (i := 30) (by rfl))) rfl
theorem wd_X6_setArgument : yX6_setArgument.cls ≠ "java/lang/invoke/MethodHandle" ∧ yX6_setArgument.cls ≠ "java/lang/invoke/VarHandle" ∧ (parseMethodDescriptor yX6_setArgument.desc).map (fun d => d.parameters.length) = some 3 := ⟨by decide +kernel, by decide +kernel, by decide +kernel⟩
theorem wi_X6_setArgument : Cond.instanceMethod yX6_setArgument ∈ wT := wu (wtab_3 (List.mem_of_getElem? (i := 28) (by decide +kernel))) rfl
theorem wz_X6_setArgument : Cond.selects RX6 yX6_setArgument yX6_setArgument ∈ wT := wu (wtab_3 (List.mem_of_getElem? (i := 29) (by decide +kernel))) rfl
theorem wc_X6_varNamed : Cond.code yX6_varNamed cX6_varNamed 4 (some .int) ∈ wT := wu (wtab_3 (List.mem_of_getElem? (i := 26) (by rfl))) rfl
theorem wd_X6_varNamed : yX6_varNamed.cls ≠ "java/lang/invoke/MethodHandle" ∧ yX6_varNamed.cls ≠ "java/lang/invoke/VarHandle" ∧ (parseMethodDescriptor yX6_varNamed.desc).map (fun d => d.parameters.length) = some 1 := ⟨by decide +kernel, by decide +kernel, by decide +kernel⟩
theorem wi_X6_varNamed : Cond.instanceMethod yX6_varNamed ∈ wT := wu (wtab_3 (List.mem_of_getElem? (i := 24) (by decide +kernel))) rfl
theorem wz_X6_varNamed : Cond.selects RX6 yX6_varNamed yX6_varNamed ∈ wT := wu (wtab_3 (List.mem_of_getElem? (i := 25) (by decide +kernel))) rfl
theorem wc_X7_isMember : Cond.code yX7_isMember cX7_isMember 2 (some .boolean) ∈ wT := wu (wtab_4 (List.mem_of_getElem? (i := 87) (by rfl))) rfl
theorem wd_X7_isMember : yX7_isMember.cls ≠ "java/lang/invoke/MethodHandle" ∧ yX7_isMember.cls ≠ "java/lang/invoke/VarHandle" ∧ (parseMethodDescriptor yX7_isMember.desc).map (fun d => d.parameters.length) = some 1 := ⟨by decide +kernel, by decide +kernel, by decide +kernel⟩
theorem wi_X7_isMember : Cond.instanceMethod yX7_isMember ∈ wT := wu (wtab_4 (List.mem_of_getElem? (i := 86) (by decide +kernel))) rfl
theorem wz_X7_isMember : Cond.selects RX7 yX7_isMember yX7_isMember ∈ wT := wt_s 61 (by decide +kernel) rfl
theorem wc_X7_isType : Cond.code yX7_isType cX7_isType 2 (some .boolean) ∈ wT := wu (wtab_4 (List.mem_of_getElem? (i := 67) (by rfl))) rfl
theorem wd_X7_isType : yX7_isType.cls ≠ "java/lang/invoke/MethodHandle" ∧ yX7_isType.cls ≠ "java/lang/invoke/VarHandle" ∧ (parseMethodDescriptor yX7_isType.desc).map (fun d => d.parameters.length) = some 1 := ⟨by decide +kernel, by decide +kernel, by decide +kernel⟩
theorem wi_X7_isType : Cond.instanceMethod yX7_isType ∈ wT := wu (wtab_4 (List.mem_of_getElem? (i := 66) (by decide +kernel))) rfl
theorem wz_X7_isType : Cond.selects RX7 yX7_isType yX7_isType ∈ wT := wt_s 60 (by decide +kernel) rfl
theorem wc_X7_orNone : Cond.code yX7_orNone cX7_orNone 1 (some .int) ∈ wT := wu (wtab_4 (List.mem_of_getElem? (i := 99) (by rfl))) rfl
theorem wd_X7_orNone : yX7_orNone.cls ≠ "java/lang/invoke/MethodHandle" ∧ yX7_orNone.cls ≠ "java/lang/invoke/VarHandle" ∧ (parseMethodDescriptor yX7_orNone.desc).map (fun d => d.parameters.length) = some 1 := ⟨by decide +kernel, by decide +kernel, by decide +kernel⟩
theorem wi_X7_orNone : Cond.static yX7_orNone ∈ wT := wu (wtab_4 (List.mem_of_getElem? (i := 98) (by decide +kernel))) rfl
theorem wc_X7_put : Cond.code yX7_put cX7_put 3 none ∈ wT := wu (wtab_2 (List.mem_of_getElem? (i := 184) (by rfl))) rfl
theorem wd_X7_put : yX7_put.cls ≠ "java/lang/invoke/MethodHandle" ∧ yX7_put.cls ≠ "java/lang/invoke/VarHandle" ∧ (parseMethodDescriptor yX7_put.desc).map (fun d => d.parameters.length) = some 1 := ⟨by decide +kernel, by decide +kernel, by decide +kernel⟩
theorem wi_X7_put : Cond.instanceMethod yX7_put ∈ wT := wu (wtab_2 (List.mem_of_getElem? (i := 183) (by decide +kernel))) rfl
theorem wz_X7_put : Cond.selects RX7 yX7_put yX7_put ∈ wT := wt_s 0 (by decide +kernel) rfl
theorem wc_X7_tell : Cond.code yX7_tell cX7_tell 2 (some .int) ∈ wT := wu (wtab_4 (List.mem_of_getElem? (i := 157) (by rfl))) rfl
theorem wd_X7_tell : yX7_tell.cls ≠ "java/lang/invoke/MethodHandle" ∧ yX7_tell.cls ≠ "java/lang/invoke/VarHandle" ∧ (parseMethodDescriptor yX7_tell.desc).map (fun d => d.parameters.length) = some 1 := ⟨by decide +kernel, by decide +kernel, by decide +kernel⟩
theorem wi_X7_tell : Cond.instanceMethod yX7_tell ∈ wT := wu (wtab_4 (List.mem_of_getElem? (i := 156) (by decide +kernel))) rfl
theorem wz_X7_tell : Cond.selects RX7 yX7_tell yX7_tell ∈ wT := wt_s 67 (by decide +kernel) rfl
theorem wc_X7_yes : Cond.code yX7_yes cX7_yes 1 (some .int) ∈ wT := wu (wtab_4 (List.mem_of_getElem? (i := 79) (by rfl))) rfl
theorem wd_X7_yes : yX7_yes.cls ≠ "java/lang/invoke/MethodHandle" ∧ yX7_yes.cls ≠ "java/lang/invoke/VarHandle" ∧ (parseMethodDescriptor yX7_yes.desc).map (fun d => d.parameters.length) = some 1 := ⟨by decide +kernel, by decide +kernel, by decide +kernel⟩
theorem wi_X7_yes : Cond.static yX7_yes ∈ wT := wu (wtab_4 (List.mem_of_getElem? (i := 78) (by decide +kernel))) rfl
theorem wc_X8_accessOf : Cond.code yX8_accessOf cX8_accessOf 2 (some .int) ∈ wT := wu (wtab_7 (List.mem_of_getElem? (i := 31) (by rfl))) rfl
theorem wd_X8_accessOf : yX8_accessOf.cls ≠ "java/lang/invoke/MethodHandle" ∧ yX8_accessOf.cls ≠ "java/lang/invoke/VarHandle" ∧ (parseMethodDescriptor yX8_accessOf.desc).map (fun d => d.parameters.length) = some 1 := ⟨by decide +kernel, by decide +kernel, by decide +kernel⟩
theorem wi_X8_accessOf : Cond.instanceMethod yX8_accessOf ∈ wT := wu (wtab_7 (List.mem_of_getElem? (i := 30) (by decide +kernel))) rfl
theorem wz_X8_accessOf : Cond.selects RX8 yX8_accessOf yX8_accessOf ∈ wT := wt_s 134 (by decide +kernel) rfl
theorem wc_X8_boundOf : Cond.code yX8_boundOf cX8_boundOf 3 (some .int) ∈ wT := wu (wtab_6 (List.mem_of_getElem? (i := 139) (by rfl))) rfl
theorem wd_X8_boundOf : yX8_boundOf.cls ≠ "java/lang/invoke/MethodHandle" ∧ yX8_boundOf.cls ≠ "java/lang/invoke/VarHandle" ∧ (parseMethodDescriptor yX8_boundOf.desc).map (fun d => d.parameters.length) = some 2 := ⟨by decide +kernel, by decide +kernel, by decide +kernel⟩
theorem wi_X8_boundOf : Cond.instanceMethod yX8_boundOf ∈ wT := wu (wtab_6 (List.mem_of_getElem? (i := 138) (by decide +kernel))) rfl
theorem wz_X8_boundOf : Cond.selects RX8 yX8_boundOf yX8_boundOf ∈ wT := wt_s 112 (by decide +kernel) rfl
theorem wc_X8_breaksAbove : Cond.code yX8_breaksAbove cX8_breaksAbove 7 (some .boolean) ∈ wT := wu (wtab_6 (List.mem_of_getElem? (i := 163) (by rfl))) rfl
theorem wd_X8_breaksAbove : yX8_breaksAbove.cls ≠ "java/lang/invoke/MethodHandle" ∧ yX8_breaksAbove.cls ≠ "java/lang/invoke/VarHandle" ∧ (parseMethodDescriptor yX8_breaksAbove.desc).map (fun d => d.parameters.length) = some 1 := ⟨by decide +kernel, by decide +kernel, by decide +kernel⟩
theorem wi_X8_breaksAbove : Cond.instanceMethod yX8_breaksAbove ∈ wT := wu (wtab_6 (List.mem_of_getElem? (i := 162) (by decide +kernel))) rfl
theorem wz_X8_breaksAbove : Cond.selects RX8 yX8_breaksAbove yX8_breaksAbove ∈ wT := wt_s 118 (by decide +kernel) rfl
theorem wc_X8_clashes : Cond.code yX8_clashes cX8_clashes 8 (some .boolean) ∈ wT := wu (wtab_6 (List.mem_of_getElem? (i := 175) (by rfl))) rfl
theorem wd_X8_clashes : yX8_clashes.cls ≠ "java/lang/invoke/MethodHandle" ∧ yX8_clashes.cls ≠ "java/lang/invoke/VarHandle" ∧ (parseMethodDescriptor yX8_clashes.desc).map (fun d => d.parameters.length) = some 1 := ⟨by decide +kernel, by decide +kernel, by decide +kernel⟩
theorem wi_X8_clashes : Cond.instanceMethod yX8_clashes ∈ wT := wu (wtab_6 (List.mem_of_getElem? (i := 174) (by decide +kernel))) rfl
theorem wz_X8_clashes : Cond.selects RX8 yX8_clashes yX8_clashes ∈ wT := wt_s 121 (by decide +kernel) rfl
theorem wc_X8_close : Cond.code yX8_close cX8_close 3 none ∈ wT := wu (wtab_6 (List.mem_of_getElem? (i := 107) (by rfl))) rfl
theorem wd_X8_close : yX8_close.cls ≠ "java/lang/invoke/MethodHandle" ∧ yX8_close.cls ≠ "java/lang/invoke/VarHandle" ∧ (parseMethodDescriptor yX8_close.desc).map (fun d => d.parameters.length) = some 1 := ⟨by decide +kernel, by decide +kernel, by decide +kernel⟩
theorem wi_X8_close : Cond.instanceMethod yX8_close ∈ wT := wu (wtab_6 (List.mem_of_getElem? (i := 106) (by decide +kernel))) rfl
theorem wz_X8_close : Cond.selects RX8 yX8_close yX8_close ∈ wT := wt_s 104 (by decide +kernel) rfl
theorem wc_X8_countBodies : Cond.code yX8_countBodies cX8_countBodies 2 none ∈ wT := wu (wtab_7 (List.mem_of_getElem? (i := 43) (by rfl))) rfl
theorem wd_X8_countBodies : yX8_countBodies.cls ≠ "java/lang/invoke/MethodHandle" ∧ yX8_countBodies.cls ≠ "java/lang/invoke/VarHandle" ∧ (parseMethodDescriptor yX8_countBodies.desc).map (fun d => d.parameters.length) = some 0 := ⟨by decide +kernel, by decide +kernel, by decide +kernel⟩
theorem wi_X8_countBodies : Cond.instanceMethod yX8_countBodies ∈ wT := wu (wtab_7 (List.mem_of_getElem? (i := 42) (by decide +kernel))) rfl
theorem wz_X8_countBodies : Cond.selects RX8 yX8_countBodies yX8_countBodies ∈ wT := wt_s 137 (by decide +kernel) rfl
theorem wc_X8_fails : Cond.code yX8_fails cX8_fails 3 none ∈ wT := wu (wtab_6 (List.mem_of_getElem? (i := 26) (by rfl))) rfl
theorem wd_X8_fails : yX8_fails.cls ≠ "java/lang/invoke/MethodHandle" ∧ yX8_fails.cls ≠ "java/lang/invoke/VarHandle" ∧ (parseMethodDescriptor yX8_fails.desc).map (fun d => d.parameters.length) = some 2 := ⟨by decide +kernel, by decide +kernel, by decide +kernel⟩
theorem wi_X8_fails : Cond.instanceMethod yX8_fails ∈ wT := wu (wtab_6 (List.mem_of_getElem? (i := 25) (by decide +kernel))) rfl
theorem wz_X8_fails : Cond.selects RX8 yX8_fails yX8_fails ∈ wT := wt_s 84 (by decide +kernel) rfl
theorem wc_X8_findCan : Cond.code yX8_findCan cX8_findCan 6 none ∈ wT := wu (wtab_7 (List.mem_of_getElem? (i := 91) (by rfl))) rfl
theorem wd_X8_findCan : yX8_findCan.cls ≠ "java/lang/invoke/MethodHandle" ∧ yX8_findCan.cls ≠ "java/lang/invoke/VarHandle" ∧ (parseMethodDescriptor yX8_findCan.desc).map (fun d => d.parameters.length) = some 0 := ⟨by decide +kernel, by decide +kernel, by decide +kernel⟩
theorem wi_X8_findCan : Cond.instanceMethod yX8_findCan ∈ wT := wu (wtab_7 (List.mem_of_getElem? (i := 90) (by decide +kernel))) rfl
theorem wz_X8_findCan : Cond.selects RX8 yX8_findCan yX8_findCan ∈ wT := wt_s 146 (by decide +kernel) rfl
theorem wc_X8_findOver : Cond.code yX8_findOver cX8_findOver 6 none ∈ wT := wu (wtab_6 (List.mem_of_getElem? (i := 143) (by rfl))) rfl
theorem wd_X8_findOver : yX8_findOver.cls ≠ "java/lang/invoke/MethodHandle" ∧ yX8_findOver.cls ≠ "java/lang/invoke/VarHandle" ∧ (parseMethodDescriptor yX8_findOver.desc).map (fun d => d.parameters.length) = some 1 := ⟨by decide +kernel, by decide +kernel, by decide +kernel⟩
theorem wi_X8_findOver : Cond.instanceMethod yX8_findOver ∈ wT := wu (wtab_6 (List.mem_of_getElem? (i := 142) (by decide +kernel))) rfl
theorem wz_X8_findOver : Cond.selects RX8 yX8_findOver yX8_findOver ∈ wT := wt_s 113 (by decide +kernel) rfl
theorem wc_X8_findSpecific : Cond.code yX8_findSpecific cX8_findSpecific 6 none ∈ wT := wu (wtab_7 (List.mem_of_getElem? (i := 19) (by rfl))) rfl
theorem wd_X8_findSpecific : yX8_findSpecific.cls ≠ "java/lang/invoke/MethodHandle" ∧ yX8_findSpecific.cls ≠ "java/lang/invoke/VarHandle" ∧ (parseMethodDescriptor yX8_findSpecific.desc).map (fun d => d.parameters.length) = some 2 := ⟨by decide +kernel, by decide +kernel, by decide +kernel⟩
theorem wi_X8_findSpecific : Cond.instanceMethod yX8_findSpecific ∈ wT := wu (wtab_7 (List.mem_of_getElem? (i := 18) (by decide +kernel))) rfl
theorem wz_X8_findSpecific : Cond.selects RX8 yX8_findSpecific yX8_findSpecific ∈ wT := wt_s 131 (by decide +kernel) rfl
theorem wc_X8_goesOn : Cond.code yX8_goesOn cX8_goesOn 1 (some .boolean) ∈ wT := wu (wtab_6 (List.mem_of_getElem? (i := 10) (by rfl))) rfl
theorem wd_X8_goesOn : yX8_goesOn.cls ≠ "java/lang/invoke/MethodHandle" ∧ yX8_goesOn.cls ≠ "java/lang/invoke/VarHandle" ∧ (parseMethodDescriptor yX8_goesOn.desc).map (fun d => d.parameters.length) = some 0 := ⟨by decide +kernel, by decide +kernel, by decide +kernel⟩
theorem wi_X8_goesOn : Cond.instanceMethod yX8_goesOn ∈ wT := wu (wtab_6 (List.mem_of_getElem? (i := 9) (by decide +kernel))) rfl
theorem wz_X8_goesOn : Cond.selects RX8 yX8_goesOn yX8_goesOn ∈ wT := wt_s 80 (by decide +kernel) rfl
theorem wc_X8_hasSought : Cond.code yX8_hasSought cX8_hasSought 6 (some .boolean) ∈ wT := wu (wtab_6 (List.mem_of_getElem? (i := 195) (by rfl))) rfl
theorem wd_X8_hasSought : yX8_hasSought.cls ≠ "java/lang/invoke/MethodHandle" ∧ yX8_hasSought.cls ≠ "java/lang/invoke/VarHandle" ∧ (parseMethodDescriptor yX8_hasSought.desc).map (fun d => d.parameters.length) = some 2 := ⟨by decide +kernel, by decide +kernel, by decide +kernel⟩
theorem wi_X8_hasSought : Cond.instanceMethod yX8_hasSought ∈ wT := wu (wtab_6 (List.mem_of_getElem? (i := 194) (by decide +kernel))) rfl
theorem wz_X8_hasSought : Cond.selects RX8 yX8_hasSought yX8_hasSought ∈ wT := wt_s 126 (by decide +kernel) rfl
theorem wc_X8_in : Cond.code yX8_in cX8_in 3 (some .boolean) ∈ wT := wu (wtab_5 (List.mem_of_getElem? (i := 230) (by rfl))) rfl
theorem wd_X8_in : yX8_in.cls ≠ "java/lang/invoke/MethodHandle" ∧ yX8_in.cls ≠ "java/lang/invoke/VarHandle" ∧ (parseMethodDescriptor yX8_in.desc).map (fun d => d.parameters.length) = some 3 := ⟨by decide +kernel, by decide +kernel, by decide +kernel⟩
theorem wi_X8_in : Cond.static yX8_in ∈ wT := wu (wtab_5 (List.mem_of_getElem? (i := 229) (by decide +kernel))) rfl
theorem wc_X8_is : Cond.code yX8_is cX8_is 2 (some .boolean) ∈ wT := wu (wtab_6 (List.mem_of_getElem? (i := 18) (by rfl))) rfl
theorem wd_X8_is : yX8_is.cls ≠ "java/lang/invoke/MethodHandle" ∧ yX8_is.cls ≠ "java/lang/invoke/VarHandle" ∧ (parseMethodDescriptor yX8_is.desc).map (fun d => d.parameters.length) = some 1 := ⟨by decide +kernel, by decide +kernel, by decide +kernel⟩
theorem wi_X8_is : Cond.instanceMethod yX8_is ∈ wT := wu (wtab_6 (List.mem_of_getElem? (i := 17) (by decide +kernel))) rfl
theorem wz_X8_is : Cond.selects RX8 yX8_is yX8_is ∈ wT := wt_s 82 (by decide +kernel) rfl
theorem wc_X8_isAkin : Cond.code yX8_isAkin cX8_isAkin 6 (some .boolean) ∈ wT := wu (wtab_6 (List.mem_of_getElem? (i := 147) (by rfl))) rfl
theorem wd_X8_isAkin : yX8_isAkin.cls ≠ "java/lang/invoke/MethodHandle" ∧ yX8_isAkin.cls ≠ "java/lang/invoke/VarHandle" ∧ (parseMethodDescriptor yX8_isAkin.desc).map (fun d => d.parameters.length) = some 3 := ⟨by decide +kernel, by decide +kernel, by decide +kernel⟩
theorem wi_X8_isAkin : Cond.instanceMethod yX8_isAkin ∈ wT := wu (wtab_6 (List.mem_of_getElem? (i := 146) (by decide +kernel))) rfl
theorem wz_X8_isAkin : Cond.selects RX8 yX8_isAkin yX8_isAkin ∈ wT := wt_s 114 (by decide +kernel) rfl
theorem wc_X8_isBare : Cond.code yX8_isBare cX8_isBare 2 (some .boolean) ∈ wT := wu (wtab_6 (List.mem_of_getElem? (i := 179) (by rfl))) rfl
theorem wd_X8_isBare : yX8_isBare.cls ≠ "java/lang/invoke/MethodHandle" ∧ yX8_isBare.cls ≠ "java/lang/invoke/VarHandle" ∧ (parseMethodDescriptor yX8_isBare.desc).map (fun d => d.parameters.length) = some 1 := ⟨by decide +kernel, by decide +kernel, by decide +kernel⟩
theorem wi_X8_isBare : Cond.instanceMethod yX8_isBare ∈ wT := wu (wtab_6 (List.mem_of_getElem? (i := 178) (by decide +kernel))) rfl
theorem wz_X8_isBare : Cond.selects RX8 yX8_isBare yX8_isBare ∈ wT := wt_s 122 (by decide +kernel) rfl
theorem wc_X8_isErasedLike : Cond.code yX8_isErasedLike cX8_isErasedLike 5 (some .boolean) ∈ wT := wu (wtab_6 (List.mem_of_getElem? (i := 131) (by rfl))) rfl
theorem wd_X8_isErasedLike : yX8_isErasedLike.cls ≠ "java/lang/invoke/MethodHandle" ∧ yX8_isErasedLike.cls ≠ "java/lang/invoke/VarHandle" ∧ (parseMethodDescriptor yX8_isErasedLike.desc).map (fun d => d.parameters.length) = some 2 := ⟨by decide +kernel, by decide +kernel, by decide +kernel⟩
theorem wi_X8_isErasedLike : Cond.instanceMethod yX8_isErasedLike ∈ wT := wu (wtab_6 (List.mem_of_getElem? (i := 130) (by decide +kernel))) rfl
theorem wz_X8_isErasedLike : Cond.selects RX8 yX8_isErasedLike yX8_isErasedLike ∈ wT := wt_s 110 (by decide +kernel) rfl
theorem wc_X8_isFigure : Cond.code yX8_isFigure cX8_isFigure 2 (some .boolean) ∈ wT := wu (wtab_6 (List.mem_of_getElem? (i := 6) (by rfl))) rfl
theorem wd_X8_isFigure : yX8_isFigure.cls ≠ "java/lang/invoke/MethodHandle" ∧ yX8_isFigure.cls ≠ "java/lang/invoke/VarHandle" ∧ (parseMethodDescriptor yX8_isFigure.desc).map (fun d => d.parameters.length) = some 1 := ⟨by decide +kernel, by decide +kernel, by decide +kernel⟩
theorem wi_X8_isFigure : Cond.instanceMethod yX8_isFigure ∈ wT := wu (wtab_6 (List.mem_of_getElem? (i := 5) (by decide +kernel))) rfl
theorem wz_X8_isFigure : Cond.selects RX8 yX8_isFigure yX8_isFigure ∈ wT := wt_s 79 (by decide +kernel) rfl
theorem wc_X8_isLetter : Cond.code yX8_isLetter cX8_isLetter 2 (some .boolean) ∈ wT := wu (wtab_6 (List.mem_of_getElem? (i := 2) (by rfl))) rfl
theorem wd_X8_isLetter : yX8_isLetter.cls ≠ "java/lang/invoke/MethodHandle" ∧ yX8_isLetter.cls ≠ "java/lang/invoke/VarHandle" ∧ (parseMethodDescriptor yX8_isLetter.desc).map (fun d => d.parameters.length) = some 1 := ⟨by decide +kernel, by decide +kernel, by decide +kernel⟩
theorem wi_X8_isLetter : Cond.instanceMethod yX8_isLetter ∈ wT := wu (wtab_6 (List.mem_of_getElem? (i := 1) (by decide +kernel))) rfl
theorem wz_X8_isLetter : Cond.selects RX8 yX8_isLetter yX8_isLetter ∈ wT := wt_s 78 (by decide +kernel) rfl
theorem wc_X8_isLike : Cond.code yX8_isLike cX8_isLike 6 (some .boolean) ∈ wT := wu (wtab_6 (List.mem_of_getElem? (i := 151) (by rfl))) rfl
theorem wd_X8_isLike : yX8_isLike.cls ≠ "java/lang/invoke/MethodHandle" ∧ yX8_isLike.cls ≠ "java/lang/invoke/VarHandle" ∧ (parseMethodDescriptor yX8_isLike.desc).map (fun d => d.parameters.length) = some 3 := ⟨by decide +kernel, by decide +kernel, by decide +kernel⟩
theorem wi_X8_isLike : Cond.instanceMethod yX8_isLike ∈ wT := wu (wtab_6 (List.mem_of_getElem? (i := 150) (by decide +kernel))) rfl
theorem wz_X8_isLike : Cond.selects RX8 yX8_isLike yX8_isLike ∈ wT := wt_s 115 (by decide +kernel) rfl
theorem wc_X8_isMember : Cond.code yX8_isMember cX8_isMember 2 (some .boolean) ∈ wT := wu (wtab_6 (List.mem_of_getElem? (i := 223) (by rfl))) rfl
theorem wd_X8_isMember : yX8_isMember.cls ≠ "java/lang/invoke/MethodHandle" ∧ yX8_isMember.cls ≠ "java/lang/invoke/VarHandle" ∧ (parseMethodDescriptor yX8_isMember.desc).map (fun d => d.parameters.length) = some 1 := ⟨by decide +kernel, by decide +kernel, by decide +kernel⟩
theorem wi_X8_isMember : Cond.instanceMethod yX8_isMember ∈ wT := wu (wtab_6 (List.mem_of_getElem? (i := 222) (by decide +kernel))) rfl
theorem wz_X8_isMember : Cond.selects RX8 yX8_isMember yX8_isMember ∈ wT := wt_s 128 (by decide +kernel) rfl
theorem wc_X8_isNarrow : Cond.code yX8_isNarrow cX8_isNarrow 7 (some .boolean) ∈ wT := wu (wtab_6 (List.mem_of_getElem? (i := 167) (by rfl))) rfl
theorem wd_X8_isNarrow : yX8_isNarrow.cls ≠ "java/lang/invoke/MethodHandle" ∧ yX8_isNarrow.cls ≠ "java/lang/invoke/VarHandle" ∧ (parseMethodDescriptor yX8_isNarrow.desc).map (fun d => d.parameters.length) = some 3 := ⟨by decide +kernel, by decide +kernel, by decide +kernel⟩
theorem wi_X8_isNarrow : Cond.instanceMethod yX8_isNarrow ∈ wT := wu (wtab_6 (List.mem_of_getElem? (i := 166) (by decide +kernel))) rfl
theorem wz_X8_isNarrow : Cond.selects RX8 yX8_isNarrow yX8_isNarrow ∈ wT := wt_s 119 (by decide +kernel) rfl
theorem wc_X8_isOver : Cond.code yX8_isOver cX8_isOver 3 (some .boolean) ∈ wT := wu (wtab_6 (List.mem_of_getElem? (i := 159) (by rfl))) rfl
theorem wd_X8_isOver : yX8_isOver.cls ≠ "java/lang/invoke/MethodHandle" ∧ yX8_isOver.cls ≠ "java/lang/invoke/VarHandle" ∧ (parseMethodDescriptor yX8_isOver.desc).map (fun d => d.parameters.length) = some 2 := ⟨by decide +kernel, by decide +kernel, by decide +kernel⟩
theorem wi_X8_isOver : Cond.instanceMethod yX8_isOver ∈ wT := wu (wtab_6 (List.mem_of_getElem? (i := 158) (by decide +kernel))) rfl
theorem wz_X8_isOver : Cond.selects RX8 yX8_isOver yX8_isOver ∈ wT := wt_s 117 (by decide +kernel) rfl
theorem wc_X8_isPlain : Cond.code yX8_isPlain cX8_isPlain 2 (some .boolean) ∈ wT := wu (wtab_7 (List.mem_of_getElem? (i := 23) (by rfl))) rfl
theorem wd_X8_isPlain : yX8_isPlain.cls ≠ "java/lang/invoke/MethodHandle" ∧ yX8_isPlain.cls ≠ "java/lang/invoke/VarHandle" ∧ (parseMethodDescriptor yX8_isPlain.desc).map (fun d => d.parameters.length) = some 1 := ⟨by decide +kernel, by decide +kernel, by decide +kernel⟩
theorem wi_X8_isPlain : Cond.instanceMethod yX8_isPlain ∈ wT := wu (wtab_7 (List.mem_of_getElem? (i := 22) (by decide +kernel))) rfl
theorem wz_X8_isPlain : Cond.selects RX8 yX8_isPlain yX8_isPlain ∈ wT := wt_s 132 (by decide +kernel) rfl
theorem wc_X8_isRef : Cond.code yX8_isRef cX8_isRef 5 (some .boolean) ∈ wT := wu (wtab_7 (List.mem_of_getElem? (i := 71) (by rfl))) rfl
theorem wd_X8_isRef : yX8_isRef.cls ≠ "java/lang/invoke/MethodHandle" ∧ yX8_isRef.cls ≠ "java/lang/invoke/VarHandle" ∧ (parseMethodDescriptor yX8_isRef.desc).map (fun d => d.parameters.length) = some 2 := ⟨by decide +kernel, by decide +kernel, by decide +kernel⟩
theorem wi_X8_isRef : Cond.instanceMethod yX8_isRef ∈ wT := wu (wtab_7 (List.mem_of_getElem? (i := 70) (by decide +kernel))) rfl
theorem wz_X8_isRef : Cond.selects RX8 yX8_isRef yX8_isRef ∈ wT := wt_s 141 (by decide +kernel) rfl
theorem wc_X8_isSamePackage : Cond.code yX8_isSamePackage cX8_isSamePackage 3 (some .boolean) ∈ wT := wu (wtab_6 (List.mem_of_getElem? (i := 63) (by rfl))) rfl
theorem wd_X8_isSamePackage : yX8_isSamePackage.cls ≠ "java/lang/invoke/MethodHandle" ∧ yX8_isSamePackage.cls ≠ "java/lang/invoke/VarHandle" ∧ (parseMethodDescriptor yX8_isSamePackage.desc).map (fun d => d.parameters.length) = some 2 := ⟨by decide +kernel, by decide +kernel, by decide +kernel⟩
theorem wi_X8_isSamePackage : Cond.instanceMethod yX8_isSamePackage ∈ wT := wu (wtab_6 (List.mem_of_getElem? (i := 62) (by decide +kernel))) rfl
theorem wz_X8_isSamePackage : Cond.selects RX8 yX8_isSamePackage yX8_isSamePackage ∈ wT := wt_s 93 (by decide +kernel) rfl
theorem wc_X8_isSought : Cond.code yX8_isSought cX8_isSought 3 (some .boolean) ∈ wT := wu (wtab_6 (List.mem_of_getElem? (i := 191) (by rfl))) rfl
theorem wd_X8_isSought : yX8_isSought.cls ≠ "java/lang/invoke/MethodHandle" ∧ yX8_isSought.cls ≠ "java/lang/invoke/VarHandle" ∧ (parseMethodDescriptor yX8_isSought.desc).map (fun d => d.parameters.length) = some 2 := ⟨by decide +kernel, by decide +kernel, by decide +kernel⟩
theorem wi_X8_isSought : Cond.instanceMethod yX8_isSought ∈ wT := wu (wtab_6 (List.mem_of_getElem? (i := 190) (by decide +kernel))) rfl
theorem wz_X8_isSought : Cond.selects RX8 yX8_isSought yX8_isSought ∈ wT := wt_s 125 (by decide +kernel) rfl
theorem wc_X8_isTorn : Cond.code yX8_isTorn cX8_isTorn 11 (some .boolean) ∈ wT := wu (wtab_6 (List.mem_of_getElem? (i := 111) (by rfl))) rfl
theorem wd_X8_isTorn : yX8_isTorn.cls ≠ "java/lang/invoke/MethodHandle" ∧ yX8_isTorn.cls ≠ "java/lang/invoke/VarHandle" ∧ (parseMethodDescriptor yX8_isTorn.desc).map (fun d => d.parameters.length) = some 1 := ⟨by decide +kernel, by decide +kernel, by decide +kernel⟩
theorem wi_X8_isTorn : Cond.instanceMethod yX8_isTorn ∈ wT := wu (wtab_6 (List.mem_of_getElem? (i := 110) (by decide +kernel))) rfl
theorem wz_X8_isTorn : Cond.selects RX8 yX8_isTorn yX8_isTorn ∈ wT := wt_s 105 (by decide +kernel) rfl
theorem wc_X8_isTwice : Cond.code yX8_isTwice cX8_isTwice 7 (some .boolean) ∈ wT := wu (wtab_6 (List.mem_of_getElem? (i := 127) (by rfl))) rfl
theorem wd_X8_isTwice : yX8_isTwice.cls ≠ "java/lang/invoke/MethodHandle" ∧ yX8_isTwice.cls ≠ "java/lang/invoke/VarHandle" ∧ (parseMethodDescriptor yX8_isTwice.desc).map (fun d => d.parameters.length) = some 1 := ⟨by decide +kernel, by decide +kernel, by decide +kernel⟩
theorem wi_X8_isTwice : Cond.instanceMethod yX8_isTwice ∈ wT := wu (wtab_6 (List.mem_of_getElem? (i := 126) (by decide +kernel))) rfl
theorem wz_X8_isTwice : Cond.selects RX8 yX8_isTwice yX8_isTwice ∈ wT := wt_s 109 (by decide +kernel) rfl
theorem wc_X8_isType : Cond.code yX8_isType cX8_isType 2 (some .boolean) ∈ wT := wu (wtab_6 (List.mem_of_getElem? (i := 207) (by rfl))) rfl
theorem wd_X8_isType : yX8_isType.cls ≠ "java/lang/invoke/MethodHandle" ∧ yX8_isType.cls ≠ "java/lang/invoke/VarHandle" ∧ (parseMethodDescriptor yX8_isType.desc).map (fun d => d.parameters.length) = some 1 := ⟨by decide +kernel, by decide +kernel, by decide +kernel⟩
theorem wi_X8_isType : Cond.instanceMethod yX8_isType ∈ wT := wu (wtab_6 (List.mem_of_getElem? (i := 206) (by decide +kernel))) rfl
theorem wz_X8_isType : Cond.selects RX8 yX8_isType yX8_isType ∈ wT := wt_s 127 (by decide +kernel) rfl
theorem wc_X8_isUnder : Cond.code yX8_isUnder cX8_isUnder 3 (some .boolean) ∈ wT := wu (wtab_6 (List.mem_of_getElem? (i := 171) (by rfl))) rfl
theorem wd_X8_isUnder : yX8_isUnder.cls ≠ "java/lang/invoke/MethodHandle" ∧ yX8_isUnder.cls ≠ "java/lang/invoke/VarHandle" ∧ (parseMethodDescriptor yX8_isUnder.desc).map (fun d => d.parameters.length) = some 2 := ⟨by decide +kernel, by decide +kernel, by decide +kernel⟩
theorem wi_X8_isUnder : Cond.instanceMethod yX8_isUnder ∈ wT := wu (wtab_6 (List.mem_of_getElem? (i := 170) (by decide +kernel))) rfl
theorem wz_X8_isUnder : Cond.selects RX8 yX8_isUnder yX8_isUnder ∈ wT := wt_s 120 (by decide +kernel) rfl
theorem wc_X8_kindErased : Cond.code yX8_kindErased cX8_kindErased 3 (some .int) ∈ wT := wu (wtab_6 (List.mem_of_getElem? (i := 135) (by rfl))) rfl
theorem wd_X8_kindErased : yX8_kindErased.cls ≠ "java/lang/invoke/MethodHandle" ∧ yX8_kindErased.cls ≠ "java/lang/invoke/VarHandle" ∧ (parseMethodDescriptor yX8_kindErased.desc).map (fun d => d.parameters.length) = some 2 := ⟨by decide +kernel, by decide +kernel, by decide +kernel⟩
theorem wi_X8_kindErased : Cond.instanceMethod yX8_kindErased ∈ wT := wu (wtab_6 (List.mem_of_getElem? (i := 134) (by decide +kernel))) rfl
theorem wz_X8_kindErased : Cond.selects RX8 yX8_kindErased yX8_kindErased ∈ wT := wt_s 111 (by decide +kernel) rfl
theorem wc_X8_kindSeen : Cond.code yX8_kindSeen cX8_kindSeen 5 (some .int) ∈ wT := wu (wtab_6 (List.mem_of_getElem? (i := 155) (by rfl))) rfl
theorem wd_X8_kindSeen : yX8_kindSeen.cls ≠ "java/lang/invoke/MethodHandle" ∧ yX8_kindSeen.cls ≠ "java/lang/invoke/VarHandle" ∧ (parseMethodDescriptor yX8_kindSeen.desc).map (fun d => d.parameters.length) = some 3 := ⟨by decide +kernel, by decide +kernel, by decide +kernel⟩
theorem wi_X8_kindSeen : Cond.instanceMethod yX8_kindSeen ∈ wT := wu (wtab_6 (List.mem_of_getElem? (i := 154) (by decide +kernel))) rfl
theorem wz_X8_kindSeen : Cond.selects RX8 yX8_kindSeen yX8_kindSeen ∈ wT := wt_s 116 (by decide +kernel) rfl
theorem wc_X8_lookedUp : Cond.code yX8_lookedUp cX8_lookedUp 5 (some .int) ∈ wT := wu (wtab_7 (List.mem_of_getElem? (i := 11) (by rfl))) rfl
theorem wd_X8_lookedUp : yX8_lookedUp.cls ≠ "java/lang/invoke/MethodHandle" ∧ yX8_lookedUp.cls ≠ "java/lang/invoke/VarHandle" ∧ (parseMethodDescriptor yX8_lookedUp.desc).map (fun d => d.parameters.length) = some 2 := ⟨by decide +kernel, by decide +kernel, by decide +kernel⟩
theorem wi_X8_lookedUp : Cond.instanceMethod yX8_lookedUp ∈ wT := wu (wtab_7 (List.mem_of_getElem? (i := 10) (by decide +kernel))) rfl
theorem wz_X8_lookedUp : Cond.selects RX8 yX8_lookedUp yX8_lookedUp ∈ wT := wt_s 129 (by decide +kernel) rfl
theorem wc_X8_m : Cond.code yX8_m cX8_m 2 (some .int) ∈ wT := wu (wtab_6 (List.mem_of_getElem? (i := 99) (by rfl))) rfl
theorem wd_X8_m : yX8_m.cls ≠ "java/lang/invoke/MethodHandle" ∧ yX8_m.cls ≠ "java/lang/invoke/VarHandle" ∧ (parseMethodDescriptor yX8_m.desc).map (fun d => d.parameters.length) = some 1 := ⟨by decide +kernel, by decide +kernel, by decide +kernel⟩
theorem wi_X8_m : Cond.instanceMethod yX8_m ∈ wT := wu (wtab_6 (List.mem_of_getElem? (i := 98) (by decide +kernel))) rfl
theorem wz_X8_m : Cond.selects RX8 yX8_m yX8_m ∈ wT := wt_s 102 (by decide +kernel) rfl
theorem wc_X8_makeBridges : Cond.code yX8_makeBridges cX8_makeBridges 8 none ∈ wT := wu (wtab_6 (List.mem_of_getElem? (i := 187) (by rfl))) rfl
theorem wd_X8_makeBridges : yX8_makeBridges.cls ≠ "java/lang/invoke/MethodHandle" ∧ yX8_makeBridges.cls ≠ "java/lang/invoke/VarHandle" ∧ (parseMethodDescriptor yX8_makeBridges.desc).map (fun d => d.parameters.length) = some 1 := ⟨by decide +kernel, by decide +kernel, by decide +kernel⟩
theorem wi_X8_makeBridges : Cond.instanceMethod yX8_makeBridges ∈ wT := wu (wtab_6 (List.mem_of_getElem? (i := 186) (by decide +kernel))) rfl
theorem wz_X8_makeBridges : Cond.selects RX8 yX8_makeBridges yX8_makeBridges ∈ wT := wt_s 124 (by decide +kernel) rfl
theorem wc_X8_mayHave : Cond.code yX8_mayHave cX8_mayHave 7 (some .boolean) ∈ wT := wu (wtab_7 (List.mem_of_getElem? (i := 59) (by rfl))) rfl
theorem wd_X8_mayHave : yX8_mayHave.cls ≠ "java/lang/invoke/MethodHandle" ∧ yX8_mayHave.cls ≠ "java/lang/invoke/VarHandle" ∧ (parseMethodDescriptor yX8_mayHave.desc).map (fun d => d.parameters.length) = some 4 := ⟨by decide +kernel, by decide +kernel, by decide +kernel⟩
theorem wi_X8_mayHave : Cond.instanceMethod yX8_mayHave ∈ wT := wu (wtab_7 (List.mem_of_getElem? (i := 58) (by decide +kernel))) rfl
theorem wz_X8_mayHave : Cond.selects RX8 yX8_mayHave yX8_mayHave ∈ wT := wt_s 139 (by decide +kernel) rfl
theorem wc_X8_memberOf : Cond.code yX8_memberOf cX8_memberOf 2 (some .int) ∈ wT := wu (wtab_7 (List.mem_of_getElem? (i := 35) (by rfl))) rfl
theorem wd_X8_memberOf : yX8_memberOf.cls ≠ "java/lang/invoke/MethodHandle" ∧ yX8_memberOf.cls ≠ "java/lang/invoke/VarHandle" ∧ (parseMethodDescriptor yX8_memberOf.desc).map (fun d => d.parameters.length) = some 1 := ⟨by decide +kernel, by decide +kernel, by decide +kernel⟩
theorem wi_X8_memberOf : Cond.instanceMethod yX8_memberOf ∈ wT := wu (wtab_7 (List.mem_of_getElem? (i := 34) (by decide +kernel))) rfl
theorem wz_X8_memberOf : Cond.selects RX8 yX8_memberOf yX8_memberOf ∈ wT := wt_s 135 (by decide +kernel) rfl
theorem wc_X8_methodIn : Cond.code yX8_methodIn cX8_methodIn 6 (some .int) ∈ wT := wu (wtab_7 (List.mem_of_getElem? (i := 15) (by rfl))) rfl
theorem wd_X8_methodIn : yX8_methodIn.cls ≠ "java/lang/invoke/MethodHandle" ∧ yX8_methodIn.cls ≠ "java/lang/invoke/VarHandle" ∧ (parseMethodDescriptor yX8_methodIn.desc).map (fun d => d.parameters.length) = some 2 := ⟨by decide +kernel, by decide +kernel, by decide +kernel⟩
theorem wi_X8_methodIn : Cond.instanceMethod yX8_methodIn ∈ wT := wu (wtab_7 (List.mem_of_getElem? (i := 14) (by decide +kernel))) rfl
theorem wz_X8_methodIn : Cond.selects RX8 yX8_methodIn yX8_methodIn ∈ wT := wt_s 130 (by decide +kernel) rfl
theorem wc_X8_next : Cond.code yX8_next cX8_next 4 none ∈ wT := wu (wtab_5 (List.mem_of_getElem? (i := 238) (by rfl))) rfl
theorem wd_X8_next : yX8_next.cls ≠ "java/lang/invoke/MethodHandle" ∧ yX8_next.cls ≠ "java/lang/invoke/VarHandle" ∧ (parseMethodDescriptor yX8_next.desc).map (fun d => d.parameters.length) = some 0 := ⟨by decide +kernel, by decide +kernel, by decide +kernel⟩
theorem wi_X8_next : Cond.instanceMethod yX8_next ∈ wT := wu (wtab_5 (List.mem_of_getElem? (i := 237) (by decide +kernel))) rfl
theorem wz_X8_next : Cond.selects RX8 yX8_next yX8_next ∈ wT := wt_s 77 (by decide +kernel) rfl
theorem wc_X8_odd : Cond.code yX8_odd cX8_odd 1 none ∈ wT := wu (wtab_6 (List.mem_of_getElem? (i := 22) (by rfl))) rfl
theorem wd_X8_odd : yX8_odd.cls ≠ "java/lang/invoke/MethodHandle" ∧ yX8_odd.cls ≠ "java/lang/invoke/VarHandle" ∧ (parseMethodDescriptor yX8_odd.desc).map (fun d => d.parameters.length) = some 0 := ⟨by decide +kernel, by decide +kernel, by decide +kernel⟩
theorem wi_X8_odd : Cond.instanceMethod yX8_odd ∈ wT := wu (wtab_6 (List.mem_of_getElem? (i := 21) (by decide +kernel))) rfl
theorem wz_X8_odd : Cond.selects RX8 yX8_odd yX8_odd ∈ wT := wt_s 83 (by decide +kernel) rfl
theorem wc_X8_outcomes : Cond.code yX8_outcomes cX8_outcomes 9 (some .int) ∈ wT := wu (wtab_7 (List.mem_of_getElem? (i := 103) (by rfl))) rfl
theorem wd_X8_outcomes : yX8_outcomes.cls ≠ "java/lang/invoke/MethodHandle" ∧ yX8_outcomes.cls ≠ "java/lang/invoke/VarHandle" ∧ (parseMethodDescriptor yX8_outcomes.desc).map (fun d => d.parameters.length) = some 3 := ⟨by decide +kernel, by decide +kernel, by decide +kernel⟩
theorem wi_X8_outcomes : Cond.instanceMethod yX8_outcomes ∈ wT := wu (wtab_7 (List.mem_of_getElem? (i := 102) (by decide +kernel))) rfl
theorem wz_X8_outcomes : Cond.selects RX8 yX8_outcomes yX8_outcomes ∈ wT := wt_s 147 (by decide +kernel) rfl
theorem wc_X8_overridesOne : Cond.code yX8_overridesOne cX8_overridesOne 6 (some .boolean) ∈ wT := wu (wtab_6 (List.mem_of_getElem? (i := 183) (by rfl))) rfl
theorem wd_X8_overridesOne : yX8_overridesOne.cls ≠ "java/lang/invoke/MethodHandle" ∧ yX8_overridesOne.cls ≠ "java/lang/invoke/VarHandle" ∧ (parseMethodDescriptor yX8_overridesOne.desc).map (fun d => d.parameters.length) = some 3 := ⟨by decide +kernel, by decide +kernel, by decide +kernel⟩
theorem wi_X8_overridesOne : Cond.instanceMethod yX8_overridesOne ∈ wT := wu (wtab_6 (List.mem_of_getElem? (i := 182) (by decide +kernel))) rfl
theorem wz_X8_overridesOne : Cond.selects RX8 yX8_overridesOne yX8_overridesOne ∈ wT := wt_s 123 (by decide +kernel) rfl
theorem wc_X8_ownerOf : Cond.code yX8_ownerOf cX8_ownerOf 2 (some .int) ∈ wT := wu (wtab_7 (List.mem_of_getElem? (i := 39) (by rfl))) rfl
theorem wd_X8_ownerOf : yX8_ownerOf.cls ≠ "java/lang/invoke/MethodHandle" ∧ yX8_ownerOf.cls ≠ "java/lang/invoke/VarHandle" ∧ (parseMethodDescriptor yX8_ownerOf.desc).map (fun d => d.parameters.length) = some 1 := ⟨by decide +kernel, by decide +kernel, by decide +kernel⟩
theorem wi_X8_ownerOf : Cond.instanceMethod yX8_ownerOf ∈ wT := wu (wtab_7 (List.mem_of_getElem? (i := 38) (by decide +kernel))) rfl
theorem wz_X8_ownerOf : Cond.selects RX8 yX8_ownerOf yX8_ownerOf ∈ wT := wt_s 136 (by decide +kernel) rfl
theorem wc_X8_past : Cond.code yX8_past cX8_past 1 none ∈ wT := wu (wtab_6 (List.mem_of_getElem? (i := 87) (by rfl))) rfl
theorem wd_X8_past : yX8_past.cls ≠ "java/lang/invoke/MethodHandle" ∧ yX8_past.cls ≠ "java/lang/invoke/VarHandle" ∧ (parseMethodDescriptor yX8_past.desc).map (fun d => d.parameters.length) = some 0 := ⟨by decide +kernel, by decide +kernel, by decide +kernel⟩
theorem wi_X8_past : Cond.instanceMethod yX8_past ∈ wT := wu (wtab_6 (List.mem_of_getElem? (i := 86) (by decide +kernel))) rfl
theorem wz_X8_past : Cond.selects RX8 yX8_past yX8_past ∈ wT := wt_s 99 (by decide +kernel) rfl
theorem wc_X8_puts : Cond.code yX8_puts cX8_puts 6 (some .boolean) ∈ wT := wu (wtab_6 (List.mem_of_getElem? (i := 115) (by rfl))) rfl
theorem wd_X8_puts : yX8_puts.cls ≠ "java/lang/invoke/MethodHandle" ∧ yX8_puts.cls ≠ "java/lang/invoke/VarHandle" ∧ (parseMethodDescriptor yX8_puts.desc).map (fun d => d.parameters.length) = some 4 := ⟨by decide +kernel, by decide +kernel, by decide +kernel⟩
theorem wi_X8_puts : Cond.instanceMethod yX8_puts ∈ wT := wu (wtab_6 (List.mem_of_getElem? (i := 114) (by decide +kernel))) rfl
theorem wz_X8_puts : Cond.selects RX8 yX8_puts yX8_puts ∈ wT := wt_s 106 (by decide +kernel) rfl
theorem wc_X8_readAccess : Cond.code yX8_readAccess cX8_readAccess 3 (some .int) ∈ wT := wu (wtab_6 (List.mem_of_getElem? (i := 83) (by rfl))) rfl
theorem wd_X8_readAccess : yX8_readAccess.cls ≠ "java/lang/invoke/MethodHandle" ∧ yX8_readAccess.cls ≠ "java/lang/invoke/VarHandle" ∧ (parseMethodDescriptor yX8_readAccess.desc).map (fun d => d.parameters.length) = some 1 := ⟨by decide +kernel, by decide +kernel, by decide +kernel⟩
theorem wi_X8_readAccess : Cond.instanceMethod yX8_readAccess ∈ wT := wu (wtab_6 (List.mem_of_getElem? (i := 82) (by decide +kernel))) rfl
theorem wz_X8_readAccess : Cond.selects RX8 yX8_readAccess yX8_readAccess ∈ wT := wt_s 98 (by decide +kernel) rfl
theorem wc_X8_readArguments : Cond.code yX8_readArguments cX8_readArguments 5 (some .int) ∈ wT := wu (wtab_6 (List.mem_of_getElem? (i := 71) (by rfl))) rfl
theorem wd_X8_readArguments : yX8_readArguments.cls ≠ "java/lang/invoke/MethodHandle" ∧ yX8_readArguments.cls ≠ "java/lang/invoke/VarHandle" ∧ (parseMethodDescriptor yX8_readArguments.desc).map (fun d => d.parameters.length) = some 2 := ⟨by decide +kernel, by decide +kernel, by decide +kernel⟩
theorem wi_X8_readArguments : Cond.instanceMethod yX8_readArguments ∈ wT := wu (wtab_6 (List.mem_of_getElem? (i := 70) (by decide +kernel))) rfl
theorem wz_X8_readArguments : Cond.selects RX8 yX8_readArguments yX8_readArguments ∈ wT := wt_s 95 (by decide +kernel) rfl
theorem wc_X8_readKind : Cond.code yX8_readKind cX8_readKind 2 (some .int) ∈ wT := wu (wtab_6 (List.mem_of_getElem? (i := 103) (by rfl))) rfl
theorem wd_X8_readKind : yX8_readKind.cls ≠ "java/lang/invoke/MethodHandle" ∧ yX8_readKind.cls ≠ "java/lang/invoke/VarHandle" ∧ (parseMethodDescriptor yX8_readKind.desc).map (fun d => d.parameters.length) = some 1 := ⟨by decide +kernel, by decide +kernel, by decide +kernel⟩
theorem wi_X8_readKind : Cond.instanceMethod yX8_readKind ∈ wT := wu (wtab_6 (List.mem_of_getElem? (i := 102) (by decide +kernel))) rfl
theorem wz_X8_readKind : Cond.selects RX8 yX8_readKind yX8_readKind ∈ wT := wt_s 103 (by decide +kernel) rfl
theorem wc_X8_readLoader : Cond.code yX8_readLoader cX8_readLoader 1 none ∈ wT := wu (wtab_6 (List.mem_of_getElem? (i := 34) (by rfl))) rfl
theorem wd_X8_readLoader : yX8_readLoader.cls ≠ "java/lang/invoke/MethodHandle" ∧ yX8_readLoader.cls ≠ "java/lang/invoke/VarHandle" ∧ (parseMethodDescriptor yX8_readLoader.desc).map (fun d => d.parameters.length) = some 0 := ⟨by decide +kernel, by decide +kernel, by decide +kernel⟩
theorem wi_X8_readLoader : Cond.instanceMethod yX8_readLoader ∈ wT := wu (wtab_6 (List.mem_of_getElem? (i := 33) (by decide +kernel))) rfl
theorem wz_X8_readLoader : Cond.selects RX8 yX8_readLoader yX8_readLoader ∈ wT := wt_s 86 (by decide +kernel) rfl
theorem wc_X8_readMember : Cond.code yX8_readMember cX8_readMember 10 none ∈ wT := wu (wtab_6 (List.mem_of_getElem? (i := 79) (by rfl))) rfl
theorem wd_X8_readMember : yX8_readMember.cls ≠ "java/lang/invoke/MethodHandle" ∧ yX8_readMember.cls ≠ "java/lang/invoke/VarHandle" ∧ (parseMethodDescriptor yX8_readMember.desc).map (fun d => d.parameters.length) = some 1 := ⟨by decide +kernel, by decide +kernel, by decide +kernel⟩
theorem wi_X8_readMember : Cond.instanceMethod yX8_readMember ∈ wT := wu (wtab_6 (List.mem_of_getElem? (i := 78) (by decide +kernel))) rfl
theorem wz_X8_readMember : Cond.selects RX8 yX8_readMember yX8_readMember ∈ wT := wt_s 97 (by decide +kernel) rfl
theorem wc_X8_readNest : Cond.code yX8_readNest cX8_readNest 3 none ∈ wT := wu (wtab_6 (List.mem_of_getElem? (i := 59) (by rfl))) rfl
theorem wd_X8_readNest : yX8_readNest.cls ≠ "java/lang/invoke/MethodHandle" ∧ yX8_readNest.cls ≠ "java/lang/invoke/VarHandle" ∧ (parseMethodDescriptor yX8_readNest.desc).map (fun d => d.parameters.length) = some 1 := ⟨by decide +kernel, by decide +kernel, by decide +kernel⟩
theorem wi_X8_readNest : Cond.instanceMethod yX8_readNest ∈ wT := wu (wtab_6 (List.mem_of_getElem? (i := 58) (by decide +kernel))) rfl
theorem wz_X8_readNest : Cond.selects RX8 yX8_readNest yX8_readNest ∈ wT := wt_s 92 (by decide +kernel) rfl
theorem wc_X8_readPackage : Cond.code yX8_readPackage cX8_readPackage 3 none ∈ wT := wu (wtab_6 (List.mem_of_getElem? (i := 14) (by rfl))) rfl
theorem wd_X8_readPackage : yX8_readPackage.cls ≠ "java/lang/invoke/MethodHandle" ∧ yX8_readPackage.cls ≠ "java/lang/invoke/VarHandle" ∧ (parseMethodDescriptor yX8_readPackage.desc).map (fun d => d.parameters.length) = some 0 := ⟨by decide +kernel, by decide +kernel, by decide +kernel⟩
theorem wi_X8_readPackage : Cond.instanceMethod yX8_readPackage ∈ wT := wu (wtab_6 (List.mem_of_getElem? (i := 13) (by decide +kernel))) rfl
theorem wz_X8_readPackage : Cond.selects RX8 yX8_readPackage yX8_readPackage ∈ wT := wt_s 81 (by decide +kernel) rfl
theorem wc_X8_readRefs : Cond.code yX8_readRefs cX8_readRefs 8 none ∈ wT := wu (wtab_6 (List.mem_of_getElem? (i := 67) (by rfl))) rfl
theorem wd_X8_readRefs : yX8_readRefs.cls ≠ "java/lang/invoke/MethodHandle" ∧ yX8_readRefs.cls ≠ "java/lang/invoke/VarHandle" ∧ (parseMethodDescriptor yX8_readRefs.desc).map (fun d => d.parameters.length) = some 1 := ⟨by decide +kernel, by decide +kernel, by decide +kernel⟩
theorem wi_X8_readRefs : Cond.instanceMethod yX8_readRefs ∈ wT := wu (wtab_6 (List.mem_of_getElem? (i := 66) (by decide +kernel))) rfl
theorem wz_X8_readRefs : Cond.selects RX8 yX8_readRefs yX8_readRefs ∈ wT := wt_s 94 (by decide +kernel) rfl
theorem wc_X8_readResult : Cond.code yX8_readResult cX8_readResult 5 (some .int) ∈ wT := wu (wtab_6 (List.mem_of_getElem? (i := 95) (by rfl))) rfl
theorem wd_X8_readResult : yX8_readResult.cls ≠ "java/lang/invoke/MethodHandle" ∧ yX8_readResult.cls ≠ "java/lang/invoke/VarHandle" ∧ (parseMethodDescriptor yX8_readResult.desc).map (fun d => d.parameters.length) = some 2 := ⟨by decide +kernel, by decide +kernel, by decide +kernel⟩
theorem wi_X8_readResult : Cond.instanceMethod yX8_readResult ∈ wT := wu (wtab_6 (List.mem_of_getElem? (i := 94) (by decide +kernel))) rfl
theorem wz_X8_readResult : Cond.selects RX8 yX8_readResult yX8_readResult ∈ wT := wt_s 101 (by decide +kernel) rfl
theorem wc_X8_readShape : Cond.code yX8_readShape cX8_readShape 4 (some .int) ∈ wT := wu (wtab_6 (List.mem_of_getElem? (i := 91) (by rfl))) rfl
theorem wd_X8_readShape : yX8_readShape.cls ≠ "java/lang/invoke/MethodHandle" ∧ yX8_readShape.cls ≠ "java/lang/invoke/VarHandle" ∧ (parseMethodDescriptor yX8_readShape.desc).map (fun d => d.parameters.length) = some 2 := ⟨by decide +kernel, by decide +kernel, by decide +kernel⟩
theorem wi_X8_readShape : Cond.instanceMethod yX8_readShape ∈ wT := wu (wtab_6 (List.mem_of_getElem? (i := 90) (by decide +kernel))) rfl
theorem wz_X8_readShape : Cond.selects RX8 yX8_readShape yX8_readShape ∈ wT := wt_s 100 (by decide +kernel) rfl
theorem wc_X8_readType : Cond.code yX8_readType cX8_readType 5 none ∈ wT := wu (wtab_6 (List.mem_of_getElem? (i := 39) (by rfl))) rfl
theorem wd_X8_readType : yX8_readType.cls ≠ "java/lang/invoke/MethodHandle" ∧ yX8_readType.cls ≠ "java/lang/invoke/VarHandle" ∧ (parseMethodDescriptor yX8_readType.desc).map (fun d => d.parameters.length) = some 0 := ⟨by decide +kernel, by decide +kernel, by decide +kernel⟩
theorem wi_X8_readType : Cond.instanceMethod yX8_readType ∈ wT := wu (wtab_6 (List.mem_of_getElem? (i := 38) (by decide +kernel))) rfl
theorem wz_X8_readType : Cond.selects RX8 yX8_readType yX8_readType ∈ wT := wt_s 87 (by decide +kernel) rfl
theorem wc_X8_readVars : Cond.code yX8_readVars cX8_readVars 6 none ∈ wT := wu (wtab_6 (List.mem_of_getElem? (i := 47) (by rfl))) rfl
theorem wd_X8_readVars : yX8_readVars.cls ≠ "java/lang/invoke/MethodHandle" ∧ yX8_readVars.cls ≠ "java/lang/invoke/VarHandle" ∧ (parseMethodDescriptor yX8_readVars.desc).map (fun d => d.parameters.length) = some 1 := ⟨by decide +kernel, by decide +kernel, by decide +kernel⟩
theorem wi_X8_readVars : Cond.instanceMethod yX8_readVars ∈ wT := wu (wtab_6 (List.mem_of_getElem? (i := 46) (by decide +kernel))) rfl
theorem wz_X8_readVars : Cond.selects RX8 yX8_readVars yX8_readVars ∈ wT := wt_s 89 (by decide +kernel) rfl
theorem wc_X8_replaced : Cond.code yX8_replaced cX8_replaced 3 (some .int) ∈ wT := wu (wtab_6 (List.mem_of_getElem? (i := 123) (by rfl))) rfl
theorem wd_X8_replaced : yX8_replaced.cls ≠ "java/lang/invoke/MethodHandle" ∧ yX8_replaced.cls ≠ "java/lang/invoke/VarHandle" ∧ (parseMethodDescriptor yX8_replaced.desc).map (fun d => d.parameters.length) = some 2 := ⟨by decide +kernel, by decide +kernel, by decide +kernel⟩
theorem wi_X8_replaced : Cond.instanceMethod yX8_replaced ∈ wT := wu (wtab_6 (List.mem_of_getElem? (i := 122) (by decide +kernel))) rfl
theorem wz_X8_replaced : Cond.selects RX8 yX8_replaced yX8_replaced ∈ wT := wt_s 108 (by decide +kernel) rfl
theorem wc_X8_ruled : Cond.code yX8_ruled cX8_ruled 10 (some .int) ∈ wT := wu (wtab_7 (List.mem_of_getElem? (i := 67) (by rfl))) rfl
theorem wd_X8_ruled : yX8_ruled.cls ≠ "java/lang/invoke/MethodHandle" ∧ yX8_ruled.cls ≠ "java/lang/invoke/VarHandle" ∧ (parseMethodDescriptor yX8_ruled.desc).map (fun d => d.parameters.length) = some 5 := ⟨by decide +kernel, by decide +kernel, by decide +kernel⟩
theorem wi_X8_ruled : Cond.instanceMethod yX8_ruled ∈ wT := wu (wtab_7 (List.mem_of_getElem? (i := 66) (by decide +kernel))) rfl
theorem wz_X8_ruled : Cond.selects RX8 yX8_ruled yX8_ruled ∈ wT := wt_s 140 (by decide +kernel) rfl
theorem wc_X8_runOf : Cond.code yX8_runOf cX8_runOf 5 (some .int) ∈ wT := wu (wtab_7 (List.mem_of_getElem? (i := 75) (by rfl))) rfl
theorem wd_X8_runOf : yX8_runOf.cls ≠ "java/lang/invoke/MethodHandle" ∧ yX8_runOf.cls ≠ "java/lang/invoke/VarHandle" ∧ (parseMethodDescriptor yX8_runOf.desc).map (fun d => d.parameters.length) = some 3 := ⟨by decide +kernel, by decide +kernel, by decide +kernel⟩
theorem wi_X8_runOf : Cond.instanceMethod yX8_runOf ∈ wT := wu (wtab_7 (List.mem_of_getElem? (i := 74) (by decide +kernel))) rfl
theorem wz_X8_runOf : Cond.selects RX8 yX8_runOf yX8_runOf ∈ wT := wt_s 142 (by decide +kernel) rfl
theorem wc_X8_runs : Cond.code yX8_runs cX8_runs 2 (some .int) ∈ wT := wu (wtab_7 (List.mem_of_getElem? (i := 87) (by rfl))) rfl
theorem wd_X8_runs : yX8_runs.cls ≠ "java/lang/invoke/MethodHandle" ∧ yX8_runs.cls ≠ "java/lang/invoke/VarHandle" ∧ (parseMethodDescriptor yX8_runs.desc).map (fun d => d.parameters.length) = some 1 := ⟨by decide +kernel, by decide +kernel, by decide +kernel⟩
theorem wi_X8_runs : Cond.instanceMethod yX8_runs ∈ wT := wu (wtab_7 (List.mem_of_getElem? (i := 86) (by decide +kernel))) rfl
theorem wz_X8_runs : Cond.selects RX8 yX8_runs yX8_runs ∈ wT := wt_s 145 (by decide +kernel) rfl
theorem wc_X8_seenType : Cond.code yX8_seenType cX8_seenType 7 (some .int) ∈ wT := wu (wtab_6 (List.mem_of_getElem? (i := 55) (by rfl))) rfl
theorem wd_X8_seenType : yX8_seenType.cls ≠ "java/lang/invoke/MethodHandle" ∧ yX8_seenType.cls ≠ "java/lang/invoke/VarHandle" ∧ (parseMethodDescriptor yX8_seenType.desc).map (fun d => d.parameters.length) = some 2 := ⟨by decide +kernel, by decide +kernel, by decide +kernel⟩
theorem wi_X8_seenType : Cond.instanceMethod yX8_seenType ∈ wT := wu (wtab_6 (List.mem_of_getElem? (i := 54) (by decide +kernel))) rfl
theorem wz_X8_seenType : Cond.selects RX8 yX8_seenType yX8_seenType ∈ wT := wt_s 91 (by decide +kernel) rfl
theorem wc_X8_seenVar : Cond.code yX8_seenVar cX8_seenVar 4 (some .int) ∈ wT := wu (wtab_6 (List.mem_of_getElem? (i := 119) (by rfl))) rfl
theorem wd_X8_seenVar : yX8_seenVar.cls ≠ "java/lang/invoke/MethodHandle" ∧ yX8_seenVar.cls ≠ "java/lang/invoke/VarHandle" ∧ (parseMethodDescriptor yX8_seenVar.desc).map (fun d => d.parameters.length) = some 3 := ⟨by decide +kernel, by decide +kernel, by decide +kernel⟩
theorem wi_X8_seenVar : Cond.instanceMethod yX8_seenVar ∈ wT := wu (wtab_6 (List.mem_of_getElem? (i := 118) (by decide +kernel))) rfl
theorem wz_X8_seenVar : Cond.selects RX8 yX8_seenVar yX8_seenVar ∈ wT := wt_s 107 (by decide +kernel) rfl
theorem wc_X8_selected : Cond.code yX8_selected cX8_selected 7 (some .int) ∈ wT := wu (wtab_7 (List.mem_of_getElem? (i := 79) (by rfl))) rfl
theorem wd_X8_selected : yX8_selected.cls ≠ "java/lang/invoke/MethodHandle" ∧ yX8_selected.cls ≠ "java/lang/invoke/VarHandle" ∧ (parseMethodDescriptor yX8_selected.desc).map (fun d => d.parameters.length) = some 2 := ⟨by decide +kernel, by decide +kernel, by decide +kernel⟩
theorem wi_X8_selected : Cond.instanceMethod yX8_selected ∈ wT := wu (wtab_7 (List.mem_of_getElem? (i := 78) (by decide +kernel))) rfl
theorem wz_X8_selected : Cond.selects RX8 yX8_selected yX8_selected ∈ wT := wt_s 143 (by decide +kernel) rfl
theorem wc_X8_shapeOf : Cond.code yX8_shapeOf cX8_shapeOf 2 (some .int) ∈ wT := wu (wtab_7 (List.mem_of_getElem? (i := 27) (by rfl))) rfl
theorem wd_X8_shapeOf : yX8_shapeOf.cls ≠ "java/lang/invoke/MethodHandle" ∧ yX8_shapeOf.cls ≠ "java/lang/invoke/VarHandle" ∧ (parseMethodDescriptor yX8_shapeOf.desc).map (fun d => d.parameters.length) = some 1 := ⟨by decide +kernel, by decide +kernel, by decide +kernel⟩
theorem wi_X8_shapeOf : Cond.instanceMethod yX8_shapeOf ∈ wT := wu (wtab_7 (List.mem_of_getElem? (i := 26) (by decide +kernel))) rfl
theorem wz_X8_shapeOf : Cond.selects RX8 yX8_shapeOf yX8_shapeOf ∈ wT := wt_s 133 (by decide +kernel) rfl
theorem wc_X8_soughtBy : Cond.code yX8_soughtBy cX8_soughtBy 2 (some .int) ∈ wT := wu (wtab_7 (List.mem_of_getElem? (i := 83) (by rfl))) rfl
theorem wd_X8_soughtBy : yX8_soughtBy.cls ≠ "java/lang/invoke/MethodHandle" ∧ yX8_soughtBy.cls ≠ "java/lang/invoke/VarHandle" ∧ (parseMethodDescriptor yX8_soughtBy.desc).map (fun d => d.parameters.length) = some 1 := ⟨by decide +kernel, by decide +kernel, by decide +kernel⟩
theorem wi_X8_soughtBy : Cond.instanceMethod yX8_soughtBy ∈ wT := wu (wtab_7 (List.mem_of_getElem? (i := 82) (by decide +kernel))) rfl
theorem wz_X8_soughtBy : Cond.selects RX8 yX8_soughtBy yX8_soughtBy ∈ wT := wt_s 144 (by decide +kernel) rfl
theorem wc_X8_t : Cond.code yX8_t cX8_t 2 (some .int) ∈ wT := wu (wtab_6 (List.mem_of_getElem? (i := 43) (by rfl))) rfl
theorem wd_X8_t : yX8_t.cls ≠ "java/lang/invoke/MethodHandle" ∧ yX8_t.cls ≠ "java/lang/invoke/VarHandle" ∧ (parseMethodDescriptor yX8_t.desc).map (fun d => d.parameters.length) = some 1 := ⟨by decide +kernel, by decide +kernel, by decide +kernel⟩
theorem wi_X8_t : Cond.instanceMethod yX8_t ∈ wT := wu (wtab_6 (List.mem_of_getElem? (i := 42) (by decide +kernel))) rfl
theorem wz_X8_t : Cond.selects RX8 yX8_t yX8_t ∈ wT := wt_s 88 (by decide +kernel) rfl
theorem wc_X8_take : Cond.code yX8_take cX8_take 2 none ∈ wT := wu (wtab_6 (List.mem_of_getElem? (i := 30) (by rfl))) rfl
theorem wd_X8_take : yX8_take.cls ≠ "java/lang/invoke/MethodHandle" ∧ yX8_take.cls ≠ "java/lang/invoke/VarHandle" ∧ (parseMethodDescriptor yX8_take.desc).map (fun d => d.parameters.length) = some 1 := ⟨by decide +kernel, by decide +kernel, by decide +kernel⟩
theorem wi_X8_take : Cond.instanceMethod yX8_take ∈ wT := wu (wtab_6 (List.mem_of_getElem? (i := 29) (by decide +kernel))) rfl
theorem wz_X8_take : Cond.selects RX8 yX8_take yX8_take ∈ wT := wt_s 85 (by decide +kernel) rfl
theorem wc_X8_takeNamed : Cond.code yX8_takeNamed cX8_takeNamed 4 (some .int) ∈ wT := wu (wtab_6 (List.mem_of_getElem? (i := 75) (by rfl))) rfl
theorem wd_X8_takeNamed : yX8_takeNamed.cls ≠ "java/lang/invoke/MethodHandle" ∧ yX8_takeNamed.cls ≠ "java/lang/invoke/VarHandle" ∧ (parseMethodDescriptor yX8_takeNamed.desc).map (fun d => d.parameters.length) = some 1 := ⟨by decide +kernel, by decide +kernel, by decide +kernel⟩
theorem wi_X8_takeNamed : Cond.instanceMethod yX8_takeNamed ∈ wT := wu (wtab_6 (List.mem_of_getElem? (i := 74) (by decide +kernel))) rfl
theorem wz_X8_takeNamed : Cond.selects RX8 yX8_takeNamed yX8_takeNamed ∈ wT := wt_s 96 (by decide +kernel) rfl
theorem wc_X8_toldAs : Cond.code yX8_toldAs cX8_toldAs 2 (some .int) ∈ wT := wu (wtab_7 (List.mem_of_getElem? (i := 47) (by rfl))) rfl
theorem wd_X8_toldAs : yX8_toldAs.cls ≠ "java/lang/invoke/MethodHandle" ∧ yX8_toldAs.cls ≠ "java/lang/invoke/VarHandle" ∧ (parseMethodDescriptor yX8_toldAs.desc).map (fun d => d.parameters.length) = some 1 := ⟨by decide +kernel, by decide +kernel, by decide +kernel⟩
theorem wi_X8_toldAs : Cond.instanceMethod yX8_toldAs ∈ wT := wu (wtab_7 (List.mem_of_getElem? (i := 46) (by decide +kernel))) rfl
theorem wz_X8_toldAs : Cond.selects RX8 yX8_toldAs yX8_toldAs ∈ wT := wt_s 138 (by decide +kernel) rfl
theorem wc_X8_varNamed : Cond.code yX8_varNamed cX8_varNamed 6 (some .int) ∈ wT := wu (wtab_6 (List.mem_of_getElem? (i := 51) (by rfl))) rfl
theorem wd_X8_varNamed : yX8_varNamed.cls ≠ "java/lang/invoke/MethodHandle" ∧ yX8_varNamed.cls ≠ "java/lang/invoke/VarHandle" ∧ (parseMethodDescriptor yX8_varNamed.desc).map (fun d => d.parameters.length) = some 2 := ⟨by decide +kernel, by decide +kernel, by decide +kernel⟩
theorem wi_X8_varNamed : Cond.instanceMethod yX8_varNamed ∈ wT := wu (wtab_6 (List.mem_of_getElem? (i := 50) (by decide +kernel))) rfl
theorem wz_X8_varNamed : Cond.selects RX8 yX8_varNamed yX8_varNamed ∈ wT := wt_s 90 (by decide +kernel) rfl
theorem wq_X0 : Cond.initialized RX0 ∈ wT := wu (wtab_1 (List.mem_of_getElem? (i := 7) (by decide +kernel))) rfl
theorem wq_X1 : Cond.initialized RX1 ∈ wT := wu (wtab_1 (List.mem_of_getElem? (i := 8) (by decide +kernel))) rfl
theorem wq_X2 : Cond.initialized RX2 ∈ wT := wu (wtab_1 (List.mem_of_getElem? (i := 2) (by decide +kernel))) rfl
theorem wq_X3 : Cond.initialized RX3 ∈ wT := wu (wtab_1 (List.mem_of_getElem? (i := 4) (by decide +kernel))) rfl
theorem wq_X4 : Cond.initialized RX4 ∈ wT := wu (wtab_1 (List.mem_of_getElem? (i := 6) (by decide +kernel))) rfl
theorem wq_X5 : Cond.initialized RX5 ∈ wT := wu (wtab_1 (List.mem_of_getElem? (i := 5) (by decide +kernel))) rfl
theorem wq_X6 : Cond.initialized RX6 ∈ wT := wu (wtab_1 (List.mem_of_getElem? (i := 3) (by decide +kernel))) rfl
theorem wq_X7 : Cond.initialized RX7 ∈ wT := wu (wtab_1 (List.mem_of_getElem? (i := 1) (by decide +kernel))) rfl
theorem wq_X8 : Cond.initialized RX8 ∈ wT := wu (wtab_1 (List.mem_of_getElem? (i := 9) (by decide +kernel))) rfl
theorem ml_X0_32 : ML RX0 32 yX0_hasTwins cX0_hasTwins 3 (some .boolean) 0 := ml_of (wu (wtab_3 (List.mem_of_getElem? (i := 83) (by decide +kernel))) rfl) wi_X0_hasTwins wz_X0_hasTwins wq_X0 wc_X0_hasTwins wd_X0_hasTwins
theorem ml_X0_36 : ML RX0 36 yX0_gatherAbove cX0_gatherAbove 6 (some .boolean) 0 := ml_of (wu (wtab_3 (List.mem_of_getElem? (i := 91) (by decide +kernel))) rfl) wi_X0_gatherAbove wz_X0_gatherAbove wq_X0 wc_X0_gatherAbove wd_X0_gatherAbove
theorem ml_X0_39 : ML RX0 39 yX0_gatherKinds cX0_gatherKinds 4 none 0 := ml_of (wu (wtab_3 (List.mem_of_getElem? (i := 112) (by decide +kernel))) rfl) wi_X0_gatherKinds wz_X0_gatherKinds wq_X0 wc_X0_gatherKinds wd_X0_gatherKinds
theorem ml_X0_42 : ML RX0 42 yX0_gatherFree cX0_gatherFree 2 none 0 := ml_of (wu (wtab_3 (List.mem_of_getElem? (i := 124) (by decide +kernel))) rfl) wi_X0_gatherFree wz_X0_gatherFree wq_X0 wc_X0_gatherFree wd_X0_gatherFree
theorem ml_X0_45 : ML RX0 45 yX0_markOverrides cX0_markOverrides 2 none 0 := ml_of (wu (wtab_3 (List.mem_of_getElem? (i := 136) (by decide +kernel))) rfl) wi_X0_markOverrides wz_X0_markOverrides wq_X0 wc_X0_markOverrides wd_X0_markOverrides
theorem ml_X0_48 : ML RX0 48 yX0_hasWrongOverride cX0_hasWrongOverride 3 (some .boolean) 0 := ml_of (wu (wtab_3 (List.mem_of_getElem? (i := 165) (by decide +kernel))) rfl) wi_X0_hasWrongOverride wz_X0_hasWrongOverride wq_X0 wc_X0_hasWrongOverride wd_X0_hasWrongOverride
theorem ml_X0_51 : ML RX0 51 yX0_hasQuarrel cX0_hasQuarrel 3 (some .boolean) 0 := ml_of (wu (wtab_3 (List.mem_of_getElem? (i := 193) (by decide +kernel))) rfl) wi_X0_hasQuarrel wz_X0_hasQuarrel wq_X0 wc_X0_hasQuarrel wd_X0_hasQuarrel
theorem ml_X0_54 : ML RX0 54 yX0_makeBridges cX0_makeBridges 3 none 0 := ml_of (wu (wtab_3 (List.mem_of_getElem? (i := 205) (by decide +kernel))) rfl) wi_X0_makeBridges wz_X0_makeBridges wq_X0 wc_X0_makeBridges wd_X0_makeBridges
theorem ml_X0_70 : ML RX0 70 yX3_hasErasedKindsOf cX3_hasErasedKindsOf 2 (some .boolean) 1 := ml_of (wu (wtab_3 (List.mem_of_getElem? (i := 87) (by decide +kernel))) rfl) wi_X3_hasErasedKindsOf wz_X3_hasErasedKindsOf wq_X3 wc_X3_hasErasedKindsOf wd_X3_hasErasedKindsOf
theorem ml_X0_85 : ML RX0 85 yX0_list cX0_list 3 (some .int) 2 := ml_of (wu (wtab_3 (List.mem_of_getElem? (i := 95) (by decide +kernel))) rfl) wi_X0_list wz_X0_list wq_X0 wc_X0_list wd_X0_list
theorem ml_X0_95 : ML RX0 95 yX0_takeArguments cX0_takeArguments 6 (some .boolean) 2 := ml_of (wu (wtab_3 (List.mem_of_getElem? (i := 99) (by decide +kernel))) rfl) wi_X0_takeArguments wz_X0_takeArguments wq_X0 wc_X0_takeArguments wd_X0_takeArguments
theorem ml_X0_99 : ML RX0 99 yX6_isBelow cX6_isBelow 2 (some .boolean) 1 := ml_of (wu (wtab_3 (List.mem_of_getElem? (i := 103) (by decide +kernel))) rfl) wi_X6_isBelow wz_X6_isBelow wq_X6 wc_X6_isBelow wd_X6_isBelow
theorem ml_X0_106 : ML RX0 106 yX6_argument cX6_argument 3 (some .int) 2 := ml_of (wu (wtab_3 (List.mem_of_getElem? (i := 107) (by decide +kernel))) rfl) wi_X6_argument wz_X6_argument wq_X6 wc_X6_argument wd_X6_argument
theorem ml_X0_109 : ML RX0 109 yX6_setArgument cX6_setArgument 4 none 3 := ml_of (wu (wtab_3 (List.mem_of_getElem? (i := 111) (by decide +kernel))) rfl) wi_X6_setArgument wz_X6_setArgument wq_X6 wc_X6_setArgument wd_X6_setArgument
theorem ml_X0_118 : ML RX0 118 yX2_isUnder cX2_isUnder 3 (some .boolean) 2 := ml_of (wu (wtab_3 (List.mem_of_getElem? (i := 116) (by decide +kernel))) rfl) wi_X2_isUnder wz_X2_isUnder wq_X2 wc_X2_isUnder wd_X2_isUnder
theorem ml_X0_122 : ML RX0 122 yX2_kindSeen cX2_kindSeen 5 (some .int) 3 := ml_of (wu (wtab_3 (List.mem_of_getElem? (i := 120) (by decide +kernel))) rfl) wi_X2_kindSeen wz_X2_kindSeen wq_X2 wc_X2_kindSeen wd_X2_kindSeen
theorem ml_X0_129 : ML RX0 129 yX0_isAbove cX0_isAbove 2 (some .boolean) 1 := ml_of (wu (wtab_3 (List.mem_of_getElem? (i := 128) (by decide +kernel))) rfl) wi_X0_isAbove wz_X0_isAbove wq_X0 wc_X0_isAbove wd_X0_isAbove
theorem ml_X0_132 : ML RX0 132 yX3_isFree cX3_isFree 1 (some .boolean) 0 := ml_of (wu (wtab_3 (List.mem_of_getElem? (i := 132) (by decide +kernel))) rfl) wi_X3_isFree wz_X3_isFree wq_X3 wc_X3_isFree wd_X3_isFree
theorem ml_X0_139 : ML RX0 139 yX0_markOverridesOf cX0_markOverridesOf 4 none 1 := ml_of (wu (wtab_3 (List.mem_of_getElem? (i := 140) (by decide +kernel))) rfl) wi_X0_markOverridesOf wz_X0_markOverridesOf wq_X0 wc_X0_markOverridesOf wd_X0_markOverridesOf
theorem ml_X0_143 : ML RX0 143 yX0_isAlike cX0_isAlike 5 (some .boolean) 2 := ml_of (wu (wtab_3 (List.mem_of_getElem? (i := 144) (by decide +kernel))) rfl) wi_X0_isAlike wz_X0_isAlike wq_X0 wc_X0_isAlike wd_X0_isAlike
theorem ml_X0_146 : ML RX0 146 yX0_isWithinReach cX0_isWithinReach 3 (some .boolean) 1 := ml_of (wu (wtab_3 (List.mem_of_getElem? (i := 148) (by decide +kernel))) rfl) wi_X0_isWithinReach wz_X0_isWithinReach wq_X0 wc_X0_isWithinReach wd_X0_isWithinReach
theorem ml_X0_149 : ML RX0 149 yX0_overridesBetween cX0_overridesBetween 4 (some .boolean) 2 := ml_of (wu (wtab_3 (List.mem_of_getElem? (i := 153) (by decide +kernel))) rfl) wi_X0_overridesBetween wz_X0_overridesBetween wq_X0 wc_X0_overridesBetween wd_X0_overridesBetween
theorem ml_X0_152 : ML RX0 152 yX2_setOverride cX2_setOverride 3 none 2 := ml_of (wu (wtab_3 (List.mem_of_getElem? (i := 161) (by decide +kernel))) rfl) wi_X2_setOverride wz_X2_setOverride wq_X2 wc_X2_setOverride wd_X2_setOverride
theorem ml_X0_159 : ML RX0 159 yX2_samePackage cX2_samePackage 3 (some .boolean) 2 := ml_of (wu (wtab_3 (List.mem_of_getElem? (i := 152) (by decide +kernel))) rfl) wi_X2_samePackage wz_X2_samePackage wq_X2 wc_X2_samePackage wd_X2_samePackage
theorem ml_X0_162 : ML RX0 162 yX2_hasOverride cX2_hasOverride 3 (some .boolean) 2 := ml_of (wu (wtab_3 (List.mem_of_getElem? (i := 157) (by decide +kernel))) rfl) wi_X2_hasOverride wz_X2_hasOverride wq_X2 wc_X2_hasOverride wd_X2_hasOverride
theorem ml_X0_165 : ML RX0 165 yX0_standsFor cX0_standsFor 3 (some .boolean) 2 := ml_of (wu (wtab_3 (List.mem_of_getElem? (i := 169) (by decide +kernel))) rfl) wi_X0_standsFor wz_X0_standsFor wq_X0 wc_X0_standsFor wd_X0_standsFor
theorem ml_X0_168 : ML RX0 168 yX0_isWrong cX0_isWrong 5 (some .boolean) 2 := ml_of (wu (wtab_3 (List.mem_of_getElem? (i := 177) (by decide +kernel))) rfl) wi_X0_isWrong wz_X0_isWrong wq_X0 wc_X0_isWrong wd_X0_isWrong
theorem ml_X0_171 : ML RX0 171 yX3_isOwn cX3_isOwn 1 (some .boolean) 0 := ml_of (wu (wtab_3 (List.mem_of_getElem? (i := 173) (by decide +kernel))) rfl) wi_X3_isOwn wz_X3_isOwn wq_X3 wc_X3_isOwn wd_X3_isOwn
theorem ml_X0_174 : ML RX0 174 yX3_isStatic cX3_isStatic 1 (some .boolean) 0 := ml_of (wu (wtab_3 (List.mem_of_getElem? (i := 181) (by decide +kernel))) rfl) wi_X3_isStatic wz_X3_isStatic wq_X3 wc_X3_isStatic wd_X3_isStatic
theorem ml_X0_177 : ML RX0 177 yX0_resultSeen cX0_resultSeen 2 (some .int) 1 := ml_of (wu (wtab_3 (List.mem_of_getElem? (i := 185) (by decide +kernel))) rfl) wi_X0_resultSeen wz_X0_resultSeen wq_X0 wc_X0_resultSeen wd_X0_resultSeen
theorem ml_X0_181 : ML RX0 181 yX0_isNarrow cX0_isNarrow 5 (some .boolean) 2 := ml_of (wu (wtab_3 (List.mem_of_getElem? (i := 189) (by decide +kernel))) rfl) wi_X0_isNarrow wz_X0_isNarrow wq_X0 wc_X0_isNarrow wd_X0_isNarrow
theorem ml_X0_187 : ML RX0 187 yX0_isQuarrel cX0_isQuarrel 5 (some .boolean) 2 := ml_of (wu (wtab_3 (List.mem_of_getElem? (i := 197) (by decide +kernel))) rfl) wi_X0_isQuarrel wz_X0_isQuarrel wq_X0 wc_X0_isQuarrel wd_X0_isQuarrel
theorem ml_X0_190 : ML RX0 190 yX0_isOverridden cX0_isOverridden 3 (some .boolean) 1 := ml_of (wu (wtab_3 (List.mem_of_getElem? (i := 201) (by decide +kernel))) rfl) wi_X0_isOverridden wz_X0_isOverridden wq_X0 wc_X0_isOverridden wd_X0_isOverridden
theorem ml_X0_202 : ML RX0 202 yX0_makeBridgesTo cX0_makeBridgesTo 6 none 1 := ml_of (wu (wtab_3 (List.mem_of_getElem? (i := 209) (by decide +kernel))) rfl) wi_X0_makeBridgesTo wz_X0_makeBridgesTo wq_X0 wc_X0_makeBridgesTo wd_X0_makeBridgesTo
theorem ml_X0_206 : ML RX0 206 yX0_makeBridge cX0_makeBridge 4 none 2 := ml_of (wu (wtab_3 (List.mem_of_getElem? (i := 213) (by decide +kernel))) rfl) wi_X0_makeBridge wz_X0_makeBridge wq_X0 wc_X0_makeBridge wd_X0_makeBridge
theorem ml_X0_212 : ML RX0 212 yX2_methodIn cX2_methodIn 6 (some .int) 2 := ml_of (wu (wtab_3 (List.mem_of_getElem? (i := 217) (by decide +kernel))) rfl) wi_X2_methodIn wz_X2_methodIn wq_X2 wc_X2_methodIn wd_X2_methodIn
theorem ml_X1_38 : ML RX1 38 yX1_memberOf cX1_memberOf 2 (some (.object "CallCourt$Member")) 1 := ml_of (wu (wtab_4 (List.mem_of_getElem? (i := 136) (by decide +kernel))) rfl) wi_X1_memberOf wz_X1_memberOf wq_X1 wc_X1_memberOf wd_X1_memberOf
theorem ml_X1_52 : ML RX1 52 yX6_isFace cX6_isFace 1 (some .boolean) 0 := ml_of (wu (wtab_4 (List.mem_of_getElem? (i := 130) (by decide +kernel))) rfl) wi_X6_isFace wz_X6_isFace wq_X6 wc_X6_isFace wd_X6_isFace
theorem ml_X1_58 : ML RX1 58 yX2_methodIn cX2_methodIn 6 (some .int) 2 := ml_of (wu (wtab_4 (List.mem_of_getElem? (i := 131) (by decide +kernel))) rfl) wi_X2_methodIn wz_X2_methodIn wq_X2 wc_X2_methodIn wd_X2_methodIn
theorem ml_X1_65 : ML RX1 65 yX1_gatherFaces cX1_gatherFaces 8 none 2 := ml_of (wu (wtab_4 (List.mem_of_getElem? (i := 132) (by decide +kernel))) rfl) wi_X1_gatherFaces wz_X1_gatherFaces wq_X1 wc_X1_gatherFaces wd_X1_gatherFaces
theorem ml_X1_69 : ML RX1 69 yX1_soleBody cX1_soleBody 3 (some .int) 0 := ml_of (wu (wtab_4 (List.mem_of_getElem? (i := 141) (by decide +kernel))) rfl) wi_X1_soleBody wz_X1_soleBody wq_X1 wc_X1_soleBody wd_X1_soleBody
theorem ml_X1_82 : ML RX1 82 yX3_isFree cX3_isFree 1 (some .boolean) 0 := ml_of (wu (wtab_4 (List.mem_of_getElem? (i := 140) (by decide +kernel))) rfl) wi_X3_isFree wz_X3_isFree wq_X3 wc_X3_isFree wd_X3_isFree
theorem ml_X1_88 : ML RX1 88 yX2_isUnder cX2_isUnder 3 (some .boolean) 2 := ml_of (wu (wtab_4 (List.mem_of_getElem? (i := 153) (by decide +kernel))) rfl) wi_X2_isUnder wz_X2_isUnder wq_X2 wc_X2_isUnder wd_X2_isUnder
theorem ml_X1_92 : ML RX1 92 yX1_isAbstract cX1_isAbstract 2 (some .boolean) 1 := ml_of (wu (wtab_4 (List.mem_of_getElem? (i := 145) (by decide +kernel))) rfl) wi_X1_isAbstract wz_X1_isAbstract wq_X1 wc_X1_isAbstract wd_X1_isAbstract
theorem ml_X1_96 : ML RX1 96 yX1_isSpecific cX1_isSpecific 4 (some .boolean) 1 := ml_of (wu (wtab_4 (List.mem_of_getElem? (i := 149) (by decide +kernel))) rfl) wi_X1_isSpecific wz_X1_isSpecific wq_X1 wc_X1_isSpecific wd_X1_isSpecific
theorem ml_X1_102 : ML RX1 102 yX2_sameNest cX2_sameNest 3 (some .boolean) 2 := ml_of (wu (wtab_4 (List.mem_of_getElem? (i := 178) (by decide +kernel))) rfl) wi_X2_sameNest wz_X2_sameNest wq_X2 wc_X2_sameNest wd_X2_sameNest
theorem ml_X1_105 : ML RX1 105 yX2_samePackage cX2_samePackage 3 (some .boolean) 2 := ml_of (wu (wtab_4 (List.mem_of_getElem? (i := 179) (by decide +kernel))) rfl) wi_X2_samePackage wz_X2_samePackage wq_X2 wc_X2_samePackage wd_X2_samePackage
theorem ml_X1_108 : ML RX1 108 yX1_isNear cX1_isNear 6 (some .boolean) 4 := ml_of (wu (wtab_4 (List.mem_of_getElem? (i := 180) (by decide +kernel))) rfl) wi_X1_isNear wz_X1_isNear wq_X1 wc_X1_isNear wd_X1_isNear
theorem ml_X1_112 : ML RX1 112 yX3_isStatic cX3_isStatic 1 (some .boolean) 0 := ml_of (wu (wtab_4 (List.mem_of_getElem? (i := 184) (by decide +kernel))) rfl) wi_X3_isStatic wz_X3_isStatic wq_X3 wc_X3_isStatic wd_X3_isStatic
theorem ml_X1_115 : ML RX1 115 yX3_isOwn cX3_isOwn 1 (some .boolean) 0 := ml_of (wu (wtab_4 (List.mem_of_getElem? (i := 218) (by decide +kernel))) rfl) wi_X3_isOwn wz_X3_isOwn wq_X3 wc_X3_isOwn wd_X3_isOwn
theorem ml_X1_118 : ML RX1 118 yX2_signatureOf cX2_signatureOf 2 (some .int) 1 := ml_of (wu (wtab_4 (List.mem_of_getElem? (i := 219) (by decide +kernel))) rfl) wi_X2_signatureOf wz_X2_signatureOf wq_X2 wc_X2_signatureOf wd_X2_signatureOf
theorem ml_X1_122 : ML RX1 122 yX1_gatherChain cX1_gatherChain 5 none 2 := ml_of (wu (wtab_4 (List.mem_of_getElem? (i := 223) (by decide +kernel))) rfl) wi_X1_gatherChain wz_X1_gatherChain wq_X1 wc_X1_gatherChain wd_X1_gatherChain
theorem ml_X1_125 : ML RX1 125 yX1_markReplacing cX1_markReplacing 5 none 1 := ml_of (wu (wtab_4 (List.mem_of_getElem? (i := 227) (by decide +kernel))) rfl) wi_X1_markReplacing wz_X1_markReplacing wq_X1 wc_X1_markReplacing wd_X1_markReplacing
theorem ml_X1_132 : ML RX1 132 yX1_replacesBetween cX1_replacesBetween 3 (some .boolean) 1 := ml_of (wu (wtab_4 (List.mem_of_getElem? (i := 231) (by decide +kernel))) rfl) wi_X1_replacesBetween wz_X1_replacesBetween wq_X1 wc_X1_replacesBetween wd_X1_replacesBetween
theorem ml_X1_138 : ML RX1 138 yX1_fitsSort cX1_fitsSort 5 (some .boolean) 3 := ml_of (wu (wtab_4 (List.mem_of_getElem? (i := 193) (by decide +kernel))) rfl) wi_X1_fitsSort wz_X1_fitsSort wq_X1 wc_X1_fitsSort wd_X1_fitsSort
theorem ml_X1_142 : ML RX1 142 yX1_placeOfSearch cX1_placeOfSearch 6 (some .int) 3 := ml_of (wu (wtab_4 (List.mem_of_getElem? (i := 198) (by decide +kernel))) rfl) wi_X1_placeOfSearch wz_X1_placeOfSearch wq_X1 wc_X1_placeOfSearch wd_X1_placeOfSearch
theorem ml_X1_149 : ML RX1 149 yX1_find cX1_find 7 (some .int) 2 := ml_of (wu (wtab_4 (List.mem_of_getElem? (i := 203) (by decide +kernel))) rfl) wi_X1_find wz_X1_find wq_X1 wc_X1_find wd_X1_find
theorem ml_X1_153 : ML RX1 153 yX1_isGranted cX1_isGranted 6 (some .boolean) 4 := ml_of (wu (wtab_4 (List.mem_of_getElem? (i := 204) (by decide +kernel))) rfl) wi_X1_isGranted wz_X1_isGranted wq_X1 wc_X1_isGranted wd_X1_isGranted
theorem ml_X1_157 : ML RX1 157 yX1_fitsReceiver cX1_fitsReceiver 5 (some .boolean) 4 := ml_of (wu (wtab_4 (List.mem_of_getElem? (i := 205) (by decide +kernel))) rfl) wi_X1_fitsReceiver wz_X1_fitsReceiver wq_X1 wc_X1_fitsReceiver wd_X1_fitsReceiver
theorem ml_X1_160 : ML RX1 160 yX1_runThroughBridges cX1_runThroughBridges 5 (some .int) 2 := ml_of (wu (wtab_4 (List.mem_of_getElem? (i := 209) (by decide +kernel))) rfl) wi_X1_runThroughBridges wz_X1_runThroughBridges wq_X1 wc_X1_runThroughBridges wd_X1_runThroughBridges
theorem ml_X1_163 : ML RX1 163 yX1_select cX1_select 5 (some .int) 2 := ml_of (wu (wtab_4 (List.mem_of_getElem? (i := 214) (by decide +kernel))) rfl) wi_X1_select wz_X1_select wq_X1 wc_X1_select wd_X1_select
theorem ml_X1_166 : ML RX1 166 yX6_hasRef cX6_hasRef 3 (some .boolean) 1 := ml_of (wu (wtab_4 (List.mem_of_getElem? (i := 197) (by decide +kernel))) rfl) wi_X6_hasRef wz_X6_hasRef wq_X6 wc_X6_hasRef wd_X6_hasRef
theorem ml_X1_169 : ML RX1 169 yX6_isBelow cX6_isBelow 2 (some .boolean) 1 := ml_of (wu (wtab_4 (List.mem_of_getElem? (i := 202) (by decide +kernel))) rfl) wi_X6_isBelow wz_X6_isBelow wq_X6 wc_X6_isBelow wd_X6_isBelow
theorem ml_X1_175 : ML RX1 175 yX2_behind cX2_behind 2 (some .int) 1 := ml_of (wu (wtab_4 (List.mem_of_getElem? (i := 213) (by decide +kernel))) rfl) wi_X2_behind wz_X2_behind wq_X2 wc_X2_behind wd_X2_behind
theorem ml_X1_181 : ML RX1 181 yX1_judge cX1_judge 7 (some .int) 5 := ml_of (wu (wtab_5 (List.mem_of_getElem? (i := 7) (by decide +kernel))) rfl) wi_X1_judge wz_X1_judge wq_X1 wc_X1_judge wd_X1_judge
theorem mm_X1 : MM RX1 185 := ⟨wu (wtab_5 (List.mem_of_getElem? (i := 8) (by decide +kernel))) rfl, wu (wtab_5 (List.mem_of_getElem? (i := 9) (by decide +kernel))) rfl, wu (wtab_1 (List.mem_of_getElem? (i := 10) (by decide +kernel))) rfl, wu (wtab_5 (List.mem_of_getElem? (i := 10) (by rfl))) rfl⟩
theorem ml_X4_50 : ML RX4 50 yX2_clear cX2_clear 2 none 0 := ml_of (wu (wtab_2 (List.mem_of_getElem? (i := 231) (by decide +kernel))) rfl) wi_X2_clear wz_X2_clear wq_X2 wc_X2_clear wd_X2_clear
theorem ml_X4_53 : ML RX4 53 yX4_start cX4_start 1 none 0 := ml_of (wu (wtab_2 (List.mem_of_getElem? (i := 235) (by decide +kernel))) rfl) wi_X4_start wz_X4_start wq_X4 wc_X4_start wd_X4_start
theorem ml_X4_63 : ML RX4 63 yX4_readHead cX4_readHead 1 (some .boolean) 0 := ml_of (wu (wtab_2 (List.mem_of_getElem? (i := 239) (by decide +kernel))) rfl) wi_X4_readHead wz_X4_readHead wq_X4 wc_X4_readHead wd_X4_readHead
theorem ml_X4_67 : ML RX4 67 yX4_readRef cX4_readRef 2 (some .boolean) 0 := ml_of (wu (wtab_3 (List.mem_of_getElem? (i := 59) (by decide +kernel))) rfl) wi_X4_readRef wz_X4_readRef wq_X4 wc_X4_readRef wd_X4_readRef
theorem ml_X4_70 : ML RX4 70 yX4_readArguments cX4_readArguments 4 (some .boolean) 0 := ml_of (wu (wtab_3 (List.mem_of_getElem? (i := 67) (by decide +kernel))) rfl) wi_X4_readArguments wz_X4_readArguments wq_X4 wc_X4_readArguments wd_X4_readArguments
theorem ml_X4_73 : ML RX4 73 yX4_closeType cX4_closeType 2 (some .boolean) 0 := ml_of (wu (wtab_3 (List.mem_of_getElem? (i := 75) (by decide +kernel))) rfl) wi_X4_closeType wz_X4_closeType wq_X4 wc_X4_closeType wd_X4_closeType
theorem ml_X4_76 : ML RX4 76 yX4_readMember cX4_readMember 3 (some .boolean) 0 := ml_of (wu (wtab_3 (List.mem_of_getElem? (i := 221) (by decide +kernel))) rfl) wi_X4_readMember wz_X4_readMember wq_X4 wc_X4_readMember wd_X4_readMember
theorem ml_X4_79 : ML RX4 79 yX4_readItem cX4_readItem 1 (some .boolean) 0 := ml_of (wu (wtab_4 (List.mem_of_getElem? (i := 27) (by decide +kernel))) rfl) wi_X4_readItem wz_X4_readItem wq_X4 wc_X4_readItem wd_X4_readItem
theorem ml_X4_110 : ML RX4 110 yX4_readPack cX4_readPack 1 (some .boolean) 0 := ml_of (wu (wtab_4 (List.mem_of_getElem? (i := 31) (by decide +kernel))) rfl) wi_X4_readPack wz_X4_readPack wq_X4 wc_X4_readPack wd_X4_readPack
theorem ml_X4_113 : ML RX4 113 yX4_readLoader cX4_readLoader 1 (some .boolean) 0 := ml_of (wu (wtab_4 (List.mem_of_getElem? (i := 39) (by decide +kernel))) rfl) wi_X4_readLoader wz_X4_readLoader wq_X4 wc_X4_readLoader wd_X4_readLoader
theorem ml_X4_116 : ML RX4 116 yX4_readType cX4_readType 2 (some .boolean) 0 := ml_of (wu (wtab_4 (List.mem_of_getElem? (i := 44) (by decide +kernel))) rfl) wi_X4_readType wz_X4_readType wq_X4 wc_X4_readType wd_X4_readType
theorem ml_X4_119 : ML RX4 119 yX4_misfit cX4_misfit 1 (some .boolean) 0 := ml_of (wu (wtab_3 (List.mem_of_getElem? (i := 15) (by decide +kernel))) rfl) wi_X4_misfit wz_X4_misfit wq_X4 wc_X4_misfit wd_X4_misfit
theorem ml_X4_122 : ML RX4 122 yX0_close cX0_close 3 (some .int) 2 := ml_of (wu (wtab_3 (List.mem_of_getElem? (i := 79) (by decide +kernel))) rfl) wi_X0_close wz_X0_close wq_X0 wc_X0_close wd_X0_close
theorem ml_X4_126 : ML RX4 126 yX4_fail cX4_fail 2 (some .boolean) 1 := ml_of (wu (wtab_3 (List.mem_of_getElem? (i := 19) (by decide +kernel))) rfl) wi_X4_fail wz_X4_fail wq_X4 wc_X4_fail wd_X4_fail
theorem ml_X4_130 : ML RX4 130 yX4_advance cX4_advance 1 none 0 := ml_of (wu (wtab_3 (List.mem_of_getElem? (i := 7) (by decide +kernel))) rfl) wi_X4_advance wz_X4_advance wq_X4 wc_X4_advance wd_X4_advance
theorem ml_X4_139 : ML RX4 139 yX4_packNumber cX4_packNumber 4 (some .int) 1 := ml_of (wu (wtab_4 (List.mem_of_getElem? (i := 35) (by decide +kernel))) rfl) wi_X4_packNumber wz_X4_packNumber wq_X4 wc_X4_packNumber wd_X4_packNumber
theorem ml_X4_143 : ML RX4 143 yX4_take cX4_take 2 (some .boolean) 1 := ml_of (wu (wtab_3 (List.mem_of_getElem? (i := 39) (by decide +kernel))) rfl) wi_X4_take wz_X4_take wq_X4 wc_X4_take wd_X4_take
theorem ml_X4_157 : ML RX4 157 yX6_clear cX6_clear 5 none 4 := ml_of (wu (wtab_4 (List.mem_of_getElem? (i := 48) (by decide +kernel))) rfl) wi_X6_clear wz_X6_clear wq_X6 wc_X6_clear wd_X6_clear
theorem ml_X4_162 : ML RX4 162 yX4_readTypeName cX4_readTypeName 2 (some .boolean) 0 := ml_of (wu (wtab_4 (List.mem_of_getElem? (i := 52) (by decide +kernel))) rfl) wi_X4_readTypeName wz_X4_readTypeName wq_X4 wc_X4_readTypeName wd_X4_readTypeName
theorem ml_X4_168 : ML RX4 168 yX4_readVars cX4_readVars 2 (some .boolean) 0 := ml_of (wu (wtab_3 (List.mem_of_getElem? (i := 3) (by decide +kernel))) rfl) wi_X4_readVars wz_X4_readVars wq_X4 wc_X4_readVars wd_X4_readVars
theorem ml_X4_171 : ML RX4 171 yX4_readNest cX4_readNest 2 (some .boolean) 0 := ml_of (wu (wtab_3 (List.mem_of_getElem? (i := 43) (by decide +kernel))) rfl) wi_X4_readNest wz_X4_readNest wq_X4 wc_X4_readNest wd_X4_readNest
theorem ml_X4_174 : ML RX4 174 yX4_readVar cX4_readVar 2 (some .boolean) 1 := ml_of (wu (wtab_3 (List.mem_of_getElem? (i := 11) (by decide +kernel))) rfl) wi_X4_readVar wz_X4_readVar wq_X4 wc_X4_readVar wd_X4_readVar
theorem ml_X4_177 : ML RX4 177 yX4_readBound cX4_readBound 3 (some .boolean) 1 := ml_of (wu (wtab_3 (List.mem_of_getElem? (i := 31) (by decide +kernel))) rfl) wi_X4_readBound wz_X4_readBound wq_X4 wc_X4_readBound wd_X4_readBound
theorem ml_X4_180 : ML RX4 180 yX6_varNamed cX6_varNamed 4 (some .int) 1 := ml_of (wu (wtab_3 (List.mem_of_getElem? (i := 23) (by decide +kernel))) rfl) wi_X6_varNamed wz_X6_varNamed wq_X6 wc_X6_varNamed wd_X6_varNamed
theorem ml_X4_192 : ML RX4 192 yX6_setArgument cX6_setArgument 4 none 3 := ml_of (wu (wtab_3 (List.mem_of_getElem? (i := 27) (by decide +kernel))) rfl) wi_X6_setArgument wz_X6_setArgument wq_X6 wc_X6_setArgument wd_X6_setArgument
theorem ml_X4_199 : ML RX4 199 yX4_typeSeen cX4_typeSeen 5 (some .int) 1 := ml_of (wu (wtab_3 (List.mem_of_getElem? (i := 35) (by decide +kernel))) rfl) wi_X4_typeSeen wz_X4_typeSeen wq_X4 wc_X4_typeSeen wd_X4_typeSeen
theorem ml_X4_203 : ML RX4 203 yX6_isFace cX6_isFace 1 (some .boolean) 0 := ml_of (wu (wtab_3 (List.mem_of_getElem? (i := 47) (by decide +kernel))) rfl) wi_X6_isFace wz_X6_isFace wq_X6 wc_X6_isFace wd_X6_isFace
theorem ml_X4_206 : ML RX4 206 yX4_otherTypeSeen cX4_otherTypeSeen 3 (some .int) 1 := ml_of (wu (wtab_3 (List.mem_of_getElem? (i := 51) (by decide +kernel))) rfl) wi_X4_otherTypeSeen wz_X4_otherTypeSeen wq_X4 wc_X4_otherTypeSeen wd_X4_otherTypeSeen
theorem ml_X4_209 : ML RX4 209 yX2_samePackage cX2_samePackage 3 (some .boolean) 2 := ml_of (wu (wtab_3 (List.mem_of_getElem? (i := 55) (by decide +kernel))) rfl) wi_X2_samePackage wz_X2_samePackage wq_X2 wc_X2_samePackage wd_X2_samePackage
theorem ml_X4_219 : ML RX4 219 yX6_hasRef cX6_hasRef 3 (some .boolean) 1 := ml_of (wu (wtab_3 (List.mem_of_getElem? (i := 63) (by decide +kernel))) rfl) wi_X6_hasRef wz_X6_hasRef wq_X6 wc_X6_hasRef wd_X6_hasRef
theorem ml_X4_234 : ML RX4 234 yX4_kindNamed cX4_kindNamed 5 (some .int) 1 := ml_of (wu (wtab_3 (List.mem_of_getElem? (i := 71) (by decide +kernel))) rfl) wi_X4_kindNamed wz_X4_kindNamed wq_X4 wc_X4_kindNamed wd_X4_kindNamed
theorem ml_X4_237 : ML RX4 237 yX3_clear cX3_clear 2 none 1 := ml_of (wu (wtab_3 (List.mem_of_getElem? (i := 225) (by decide +kernel))) rfl) wi_X3_clear wz_X3_clear wq_X3 wc_X3_clear wd_X3_clear
theorem ml_X4_242 : ML RX4 242 yX4_readAccess cX4_readAccess 1 (some .boolean) 0 := ml_of (wu (wtab_3 (List.mem_of_getElem? (i := 229) (by decide +kernel))) rfl) wi_X4_readAccess wz_X4_readAccess wq_X4 wc_X4_readAccess wd_X4_readAccess
theorem ml_X4_245 : ML RX4 245 yX4_readForm cX4_readForm 3 (some .boolean) 0 := ml_of (wu (wtab_3 (List.mem_of_getElem? (i := 237) (by decide +kernel))) rfl) wi_X4_readForm wz_X4_readForm wq_X4 wc_X4_readForm wd_X4_readForm
theorem ml_X4_254 : ML RX4 254 yX4_readResult cX4_readResult 1 (some .boolean) 0 := ml_of (wu (wtab_4 (List.mem_of_getElem? (i := 2) (by decide +kernel))) rfl) wi_X4_readResult wz_X4_readResult wq_X4 wc_X4_readResult wd_X4_readResult
theorem ml_X4_257 : ML RX4 257 yX4_readMemberName cX4_readMemberName 1 (some .boolean) 0 := ml_of (wu (wtab_4 (List.mem_of_getElem? (i := 10) (by decide +kernel))) rfl) wi_X4_readMemberName wz_X4_readMemberName wq_X4 wc_X4_readMemberName wd_X4_readMemberName
theorem ml_X4_260 : ML RX4 260 yX4_readKinds cX4_readKinds 3 (some .boolean) 0 := ml_of (wu (wtab_4 (List.mem_of_getElem? (i := 14) (by decide +kernel))) rfl) wi_X4_readKinds wz_X4_readKinds wq_X4 wc_X4_readKinds wd_X4_readKinds
theorem ml_X4_263 : ML RX4 263 yX4_keepMember cX4_keepMember 3 none 0 := ml_of (wu (wtab_4 (List.mem_of_getElem? (i := 18) (by decide +kernel))) rfl) wi_X4_keepMember wz_X4_keepMember wq_X4 wc_X4_keepMember wd_X4_keepMember
theorem ml_X4_267 : ML RX4 267 yX4_passFirst cX4_passFirst 1 (some .boolean) 0 := ml_of (wu (wtab_3 (List.mem_of_getElem? (i := 233) (by decide +kernel))) rfl) wi_X4_passFirst wz_X4_passFirst wq_X4 wc_X4_passFirst wd_X4_passFirst
theorem ml_X4_273 : ML RX4 273 yX3_isOwn cX3_isOwn 1 (some .boolean) 0 := ml_of (wu (wtab_4 (List.mem_of_getElem? (i := 1) (by decide +kernel))) rfl) wi_X3_isOwn wz_X3_isOwn wq_X3 wc_X3_isOwn wd_X3_isOwn
theorem ml_X4_276 : ML RX4 276 yX4_seesKind cX4_seesKind 3 (some .boolean) 1 := ml_of (wu (wtab_4 (List.mem_of_getElem? (i := 6) (by decide +kernel))) rfl) wi_X4_seesKind wz_X4_seesKind wq_X4 wc_X4_seesKind wd_X4_seesKind
theorem ml_X4_289 : ML RX4 289 yX4_signatureOfRow cX4_signatureOfRow 3 (some .int) 0 := ml_of (wu (wtab_4 (List.mem_of_getElem? (i := 22) (by decide +kernel))) rfl) wi_X4_signatureOfRow wz_X4_signatureOfRow wq_X4 wc_X4_signatureOfRow wd_X4_signatureOfRow
theorem ml_X4_296 : ML RX4 296 yX3_hasErasedKindsOf cX3_hasErasedKindsOf 2 (some .boolean) 1 := ml_of (wu (wtab_4 (List.mem_of_getElem? (i := 26) (by decide +kernel))) rfl) wi_X3_hasErasedKindsOf wz_X3_hasErasedKindsOf wq_X3 wc_X3_hasErasedKindsOf wd_X3_hasErasedKindsOf
theorem ms_X5_29 : MS RX5 29 yX5_isLetter cX5_isLetter 1 (some .boolean) 1 := ms_of (wu (wtab_2 (List.mem_of_getElem? (i := 197) (by decide +kernel))) rfl) wi_X5_isLetter wq_X5 wc_X5_isLetter ⟨rfl, wd_X5_isLetter⟩
theorem ms_X5_33 : MS RX5 33 yX5_isDigit cX5_isDigit 1 (some .boolean) 1 := ms_of (wu (wtab_2 (List.mem_of_getElem? (i := 200) (by decide +kernel))) rfl) wi_X5_isDigit wq_X5 wc_X5_isDigit ⟨rfl, wd_X5_isDigit⟩
theorem ml_X5_36 : ML RX5 36 yX5_lengthenWord cX5_lengthenWord 2 none 1 := ml_of (wu (wtab_2 (List.mem_of_getElem? (i := 203) (by decide +kernel))) rfl) wi_X5_lengthenWord wz_X5_lengthenWord wq_X5 wc_X5_lengthenWord wd_X5_lengthenWord
theorem ml_X5_40 : ML RX5 40 yX5_endWord cX5_endWord 1 none 0 := ml_of (wu (wtab_2 (List.mem_of_getElem? (i := 207) (by decide +kernel))) rfl) wi_X5_endWord wz_X5_endWord wq_X5 wc_X5_endWord wd_X5_endWord
theorem ml_X5_43 : ML RX5 43 yX5_begin cX5_begin 3 none 2 := ml_of (wu (wtab_2 (List.mem_of_getElem? (i := 216) (by decide +kernel))) rfl) wi_X5_begin wz_X5_begin wq_X5 wc_X5_begin wd_X5_begin
theorem ml_X5_47 : ML RX5 47 yX5_add cX5_add 5 none 3 := ml_of (wu (wtab_2 (List.mem_of_getElem? (i := 220) (by decide +kernel))) rfl) wi_X5_add wz_X5_add wq_X5 wc_X5_add wd_X5_add
theorem ms_X5_51 : MS RX5 51 yX5_isSign cX5_isSign 1 (some .boolean) 1 := ms_of (wu (wtab_2 (List.mem_of_getElem? (i := 224) (by decide +kernel))) rfl) wi_X5_isSign wq_X5 wc_X5_isSign ⟨rfl, wd_X5_isSign⟩
theorem ms_X5_54 : MS RX5 54 yX5_sortOfWord cX5_sortOfWord 3 (some .int) 1 := ms_of (wu (wtab_2 (List.mem_of_getElem? (i := 211) (by decide +kernel))) rfl) wi_X5_sortOfWord wq_X5 wc_X5_sortOfWord ⟨rfl, wd_X5_sortOfWord⟩
theorem ml_X7_52 : ML RX7 52 yX7_put cX7_put 3 none 1 := ml_of (wu (wtab_2 (List.mem_of_getElem? (i := 181) (by decide +kernel))) rfl) wi_X7_put wz_X7_put wq_X7 wc_X7_put wd_X7_put
theorem ml_X7_56 : ML RX7 56 yX5_scan cX5_scan 5 none 2 := ml_of (wu (wtab_2 (List.mem_of_getElem? (i := 193) (by decide +kernel))) rfl) wi_X5_scan wz_X5_scan wq_X5 wc_X5_scan wd_X5_scan
theorem ml_X7_60 : ML RX7 60 yX4_read cX4_read 4 (some .boolean) 1 := ml_of (wu (wtab_2 (List.mem_of_getElem? (i := 227) (by decide +kernel))) rfl) wi_X4_read wz_X4_read wq_X4 wc_X4_read wd_X4_read
theorem ml_X7_76 : ML RX7 76 yX7_isType cX7_isType 2 (some .boolean) 1 := ml_of (wu (wtab_4 (List.mem_of_getElem? (i := 64) (by decide +kernel))) rfl) wi_X7_isType wz_X7_isType wq_X7 wc_X7_isType wd_X7_isType
theorem ml_X7_120 : ML RX7 120 yX2_isUnder cX2_isUnder 3 (some .boolean) 2 := ml_of (wu (wtab_4 (List.mem_of_getElem? (i := 76) (by decide +kernel))) rfl) wi_X2_isUnder wz_X2_isUnder wq_X2 wc_X2_isUnder wd_X2_isUnder
theorem ms_X7_124 : MS RX7 124 yX7_yes cX7_yes 1 (some .int) 1 := ms_of (wu (wtab_4 (List.mem_of_getElem? (i := 77) (by decide +kernel))) rfl) wi_X7_yes wq_X7 wc_X7_yes ⟨rfl, wd_X7_yes⟩
theorem ml_X7_128 : ML RX7 128 yX7_isMember cX7_isMember 2 (some .boolean) 1 := ml_of (wu (wtab_4 (List.mem_of_getElem? (i := 84) (by decide +kernel))) rfl) wi_X7_isMember wz_X7_isMember wq_X7 wc_X7_isMember wd_X7_isMember
theorem ml_X7_152 : ML RX7 152 yX2_kindSeen cX2_kindSeen 5 (some .int) 3 := ml_of (wu (wtab_4 (List.mem_of_getElem? (i := 92) (by decide +kernel))) rfl) wi_X2_kindSeen wz_X2_kindSeen wq_X2 wc_X2_kindSeen wd_X2_kindSeen
theorem ms_X7_159 : MS RX7 159 yX7_orNone cX7_orNone 1 (some .int) 1 := ms_of (wu (wtab_4 (List.mem_of_getElem? (i := 97) (by decide +kernel))) rfl) wi_X7_orNone wq_X7 wc_X7_orNone ⟨rfl, wd_X7_orNone⟩
theorem ml_X7_163 : ML RX7 163 yX2_hasOverride cX2_hasOverride 3 (some .boolean) 2 := ml_of (wu (wtab_4 (List.mem_of_getElem? (i := 104) (by decide +kernel))) rfl) wi_X2_hasOverride wz_X2_hasOverride wq_X2 wc_X2_hasOverride wd_X2_hasOverride
theorem ml_X7_175 : ML RX7 175 yX2_sameNest cX2_sameNest 3 (some .boolean) 2 := ml_of (wu (wtab_4 (List.mem_of_getElem? (i := 113) (by decide +kernel))) rfl) wi_X2_sameNest wz_X2_sameNest wq_X2 wc_X2_sameNest wd_X2_sameNest
theorem ml_X7_178 : ML RX7 178 yX2_samePackage cX2_samePackage 3 (some .boolean) 2 := ml_of (wu (wtab_4 (List.mem_of_getElem? (i := 117) (by decide +kernel))) rfl) wi_X2_samePackage wz_X2_samePackage wq_X2 wc_X2_samePackage wd_X2_samePackage
theorem ml_X7_181 : ML RX7 181 yX1_open cX1_open 2 none 1 := ml_of (wu (wtab_4 (List.mem_of_getElem? (i := 122) (by decide +kernel))) rfl) wi_X1_open wz_X1_open wq_X1 wc_X1_open wd_X1_open
theorem ml_X7_187 : ML RX7 187 yX1_find cX1_find 7 (some .int) 2 := ml_of (wu (wtab_4 (List.mem_of_getElem? (i := 126) (by decide +kernel))) rfl) wi_X1_find wz_X1_find wq_X1 wc_X1_find wd_X1_find
theorem ml_X7_191 : ML RX7 191 yX7_tell cX7_tell 2 (some .int) 1 := ml_of (wu (wtab_4 (List.mem_of_getElem? (i := 154) (by decide +kernel))) rfl) wi_X7_tell wz_X7_tell wq_X7 wc_X7_tell wd_X7_tell
theorem ml_X7_194 : ML RX7 194 yX1_specificAt cX1_specificAt 6 (some .int) 3 := ml_of (wu (wtab_4 (List.mem_of_getElem? (i := 166) (by decide +kernel))) rfl) wi_X1_specificAt wz_X1_specificAt wq_X1 wc_X1_specificAt wd_X1_specificAt
theorem ml_X7_198 : ML RX7 198 yX1_isGranted cX1_isGranted 6 (some .boolean) 4 := ml_of (wu (wtab_4 (List.mem_of_getElem? (i := 174) (by decide +kernel))) rfl) wi_X1_isGranted wz_X1_isGranted wq_X1 wc_X1_isGranted wd_X1_isGranted
theorem ml_X7_202 : ML RX7 202 yX1_judge cX1_judge 7 (some .int) 5 := ml_of (wu (wtab_4 (List.mem_of_getElem? (i := 189) (by decide +kernel))) rfl) wi_X1_judge wz_X1_judge wq_X1 wc_X1_judge wd_X1_judge
theorem ml_X7_212 : ML RX7 212 yX1_count cX1_count 8 (some .int) 2 := ml_of (wu (wtab_5 (List.mem_of_getElem? (i := 3) (by decide +kernel))) rfl) wi_X1_count wz_X1_count wq_X1 wc_X1_count wd_X1_count
theorem ml_X7_220 : ML RX7 220 yX2_behind cX2_behind 2 (some .int) 1 := ml_of (wu (wtab_4 (List.mem_of_getElem? (i := 158) (by decide +kernel))) rfl) wi_X2_behind wz_X2_behind wq_X2 wc_X2_behind wd_X2_behind
theorem ms_X8_165 : MS RX8 165 yX8_in cX8_in 3 (some .boolean) 3 := ms_of (wu (wtab_5 (List.mem_of_getElem? (i := 228) (by decide +kernel))) rfl) wi_X8_in wq_X8 wc_X8_in ⟨rfl, wd_X8_in⟩
theorem ml_X8_178 : ML RX8 178 yX8_isLetter cX8_isLetter 2 (some .boolean) 1 := ml_of (wu (wtab_5 (List.mem_of_getElem? (i := 239) (by decide +kernel))) rfl) wi_X8_isLetter wz_X8_isLetter wq_X8 wc_X8_isLetter wd_X8_isLetter
theorem ml_X8_186 : ML RX8 186 yX8_isFigure cX8_isFigure 2 (some .boolean) 1 := ml_of (wu (wtab_6 (List.mem_of_getElem? (i := 3) (by decide +kernel))) rfl) wi_X8_isFigure wz_X8_isFigure wq_X8 wc_X8_isFigure wd_X8_isFigure
theorem ml_X8_195 : ML RX8 195 yX8_fails cX8_fails 3 none 2 := ml_of (wu (wtab_6 (List.mem_of_getElem? (i := 23) (by decide +kernel))) rfl) wi_X8_fails wz_X8_fails wq_X8 wc_X8_fails wd_X8_fails
theorem ml_X8_199 : ML RX8 199 yX8_is cX8_is 2 (some .boolean) 1 := ml_of (wu (wtab_6 (List.mem_of_getElem? (i := 15) (by decide +kernel))) rfl) wi_X8_is wz_X8_is wq_X8 wc_X8_is wd_X8_is
theorem ml_X8_202 : ML RX8 202 yX8_next cX8_next 4 none 0 := ml_of (wu (wtab_5 (List.mem_of_getElem? (i := 235) (by decide +kernel))) rfl) wi_X8_next wz_X8_next wq_X8 wc_X8_next wd_X8_next
theorem ml_X8_205 : ML RX8 205 yX8_odd cX8_odd 1 none 0 := ml_of (wu (wtab_6 (List.mem_of_getElem? (i := 19) (by decide +kernel))) rfl) wi_X8_odd wz_X8_odd wq_X8 wc_X8_odd wd_X8_odd
theorem ml_X8_214 : ML RX8 214 yX8_t cX8_t 2 (some .int) 1 := ml_of (wu (wtab_6 (List.mem_of_getElem? (i := 40) (by decide +kernel))) rfl) wi_X8_t wz_X8_t wq_X8 wc_X8_t wd_X8_t
theorem ml_X8_218 : ML RX8 218 yX8_m cX8_m 2 (some .int) 1 := ml_of (wu (wtab_6 (List.mem_of_getElem? (i := 96) (by decide +kernel))) rfl) wi_X8_m wz_X8_m wq_X8 wc_X8_m wd_X8_m
theorem ml_X8_221 : ML RX8 221 yX8_seenVar cX8_seenVar 4 (some .int) 3 := ml_of (wu (wtab_6 (List.mem_of_getElem? (i := 116) (by decide +kernel))) rfl) wi_X8_seenVar wz_X8_seenVar wq_X8 wc_X8_seenVar wd_X8_seenVar
theorem ml_X8_225 : ML RX8 225 yX8_boundOf cX8_boundOf 3 (some .int) 2 := ml_of (wu (wtab_6 (List.mem_of_getElem? (i := 136) (by decide +kernel))) rfl) wi_X8_boundOf wz_X8_boundOf wq_X8 wc_X8_boundOf wd_X8_boundOf
theorem ml_X8_229 : ML RX8 229 yX8_kindSeen cX8_kindSeen 5 (some .int) 3 := ml_of (wu (wtab_6 (List.mem_of_getElem? (i := 152) (by decide +kernel))) rfl) wi_X8_kindSeen wz_X8_kindSeen wq_X8 wc_X8_kindSeen wd_X8_kindSeen
theorem ml_X8_232 : ML RX8 232 yX8_kindErased cX8_kindErased 3 (some .int) 2 := ml_of (wu (wtab_6 (List.mem_of_getElem? (i := 132) (by decide +kernel))) rfl) wi_X8_kindErased wz_X8_kindErased wq_X8 wc_X8_kindErased wd_X8_kindErased
theorem ml_X8_235 : ML RX8 235 yX8_isErasedLike cX8_isErasedLike 5 (some .boolean) 2 := ml_of (wu (wtab_6 (List.mem_of_getElem? (i := 128) (by decide +kernel))) rfl) wi_X8_isErasedLike wz_X8_isErasedLike wq_X8 wc_X8_isErasedLike wd_X8_isErasedLike
theorem ml_X8_239 : ML RX8 239 yX8_varNamed cX8_varNamed 6 (some .int) 2 := ml_of (wu (wtab_6 (List.mem_of_getElem? (i := 48) (by decide +kernel))) rfl) wi_X8_varNamed wz_X8_varNamed wq_X8 wc_X8_varNamed wd_X8_varNamed
theorem ml_X8_243 : ML RX8 243 yX8_seenType cX8_seenType 7 (some .int) 2 := ml_of (wu (wtab_6 (List.mem_of_getElem? (i := 52) (by decide +kernel))) rfl) wi_X8_seenType wz_X8_seenType wq_X8 wc_X8_seenType wd_X8_seenType
theorem ml_X8_249 : ML RX8 249 yX8_take cX8_take 2 none 1 := ml_of (wu (wtab_6 (List.mem_of_getElem? (i := 27) (by decide +kernel))) rfl) wi_X8_take wz_X8_take wq_X8 wc_X8_take wd_X8_take
theorem ml_X8_258 : ML RX8 258 yX8_isSamePackage cX8_isSamePackage 3 (some .boolean) 2 := ml_of (wu (wtab_6 (List.mem_of_getElem? (i := 60) (by decide +kernel))) rfl) wi_X8_isSamePackage wz_X8_isSamePackage wq_X8 wc_X8_isSamePackage wd_X8_isSamePackage
theorem ml_X8_261 : ML RX8 261 yX8_goesOn cX8_goesOn 1 (some .boolean) 0 := ml_of (wu (wtab_6 (List.mem_of_getElem? (i := 7) (by decide +kernel))) rfl) wi_X8_goesOn wz_X8_goesOn wq_X8 wc_X8_goesOn wd_X8_goesOn
theorem ml_X8_265 : ML RX8 265 yX8_takeNamed cX8_takeNamed 4 (some .int) 1 := ml_of (wu (wtab_6 (List.mem_of_getElem? (i := 72) (by decide +kernel))) rfl) wi_X8_takeNamed wz_X8_takeNamed wq_X8 wc_X8_takeNamed wd_X8_takeNamed
theorem ml_X8_268 : ML RX8 268 yX8_readArguments cX8_readArguments 5 (some .int) 2 := ml_of (wu (wtab_6 (List.mem_of_getElem? (i := 68) (by decide +kernel))) rfl) wi_X8_readArguments wz_X8_readArguments wq_X8 wc_X8_readArguments wd_X8_readArguments
theorem ml_X8_275 : ML RX8 275 yX8_past cX8_past 1 none 0 := ml_of (wu (wtab_6 (List.mem_of_getElem? (i := 84) (by decide +kernel))) rfl) wi_X8_past wz_X8_past wq_X8 wc_X8_past wd_X8_past
theorem ml_X8_278 : ML RX8 278 yX8_readAccess cX8_readAccess 3 (some .int) 1 := ml_of (wu (wtab_6 (List.mem_of_getElem? (i := 80) (by decide +kernel))) rfl) wi_X8_readAccess wz_X8_readAccess wq_X8 wc_X8_readAccess wd_X8_readAccess
theorem ml_X8_282 : ML RX8 282 yX8_readShape cX8_readShape 4 (some .int) 2 := ml_of (wu (wtab_6 (List.mem_of_getElem? (i := 88) (by decide +kernel))) rfl) wi_X8_readShape wz_X8_readShape wq_X8 wc_X8_readShape wd_X8_readShape
theorem ml_X8_285 : ML RX8 285 yX8_readResult cX8_readResult 5 (some .int) 2 := ml_of (wu (wtab_6 (List.mem_of_getElem? (i := 92) (by decide +kernel))) rfl) wi_X8_readResult wz_X8_readResult wq_X8 wc_X8_readResult wd_X8_readResult
theorem ml_X8_289 : ML RX8 289 yX8_readKind cX8_readKind 2 (some .int) 1 := ml_of (wu (wtab_6 (List.mem_of_getElem? (i := 100) (by decide +kernel))) rfl) wi_X8_readKind wz_X8_readKind wq_X8 wc_X8_readKind wd_X8_readKind
theorem ml_X8_292 : ML RX8 292 yX8_readVars cX8_readVars 6 none 1 := ml_of (wu (wtab_6 (List.mem_of_getElem? (i := 44) (by decide +kernel))) rfl) wi_X8_readVars wz_X8_readVars wq_X8 wc_X8_readVars wd_X8_readVars
theorem ml_X8_295 : ML RX8 295 yX8_readNest cX8_readNest 3 none 1 := ml_of (wu (wtab_6 (List.mem_of_getElem? (i := 56) (by decide +kernel))) rfl) wi_X8_readNest wz_X8_readNest wq_X8 wc_X8_readNest wd_X8_readNest
theorem ml_X8_298 : ML RX8 298 yX8_readRefs cX8_readRefs 8 none 1 := ml_of (wu (wtab_6 (List.mem_of_getElem? (i := 64) (by decide +kernel))) rfl) wi_X8_readRefs wz_X8_readRefs wq_X8 wc_X8_readRefs wd_X8_readRefs
theorem ml_X8_301 : ML RX8 301 yX8_readMember cX8_readMember 10 none 1 := ml_of (wu (wtab_6 (List.mem_of_getElem? (i := 76) (by decide +kernel))) rfl) wi_X8_readMember wz_X8_readMember wq_X8 wc_X8_readMember wd_X8_readMember
theorem ml_X8_304 : ML RX8 304 yX8_close cX8_close 3 none 1 := ml_of (wu (wtab_6 (List.mem_of_getElem? (i := 104) (by decide +kernel))) rfl) wi_X8_close wz_X8_close wq_X8 wc_X8_close wd_X8_close
theorem ml_X8_307 : ML RX8 307 yX8_readPackage cX8_readPackage 3 none 0 := ml_of (wu (wtab_6 (List.mem_of_getElem? (i := 11) (by decide +kernel))) rfl) wi_X8_readPackage wz_X8_readPackage wq_X8 wc_X8_readPackage wd_X8_readPackage
theorem ml_X8_310 : ML RX8 310 yX8_readLoader cX8_readLoader 1 none 0 := ml_of (wu (wtab_6 (List.mem_of_getElem? (i := 31) (by decide +kernel))) rfl) wi_X8_readLoader wz_X8_readLoader wq_X8 wc_X8_readLoader wd_X8_readLoader
theorem ml_X8_313 : ML RX8 313 yX8_readType cX8_readType 5 none 0 := ml_of (wu (wtab_6 (List.mem_of_getElem? (i := 36) (by decide +kernel))) rfl) wi_X8_readType wz_X8_readType wq_X8 wc_X8_readType wd_X8_readType
theorem ml_X8_319 : ML RX8 319 yX8_puts cX8_puts 6 (some .boolean) 4 := ml_of (wu (wtab_6 (List.mem_of_getElem? (i := 112) (by decide +kernel))) rfl) wi_X8_puts wz_X8_puts wq_X8 wc_X8_puts wd_X8_puts
theorem ml_X8_323 : ML RX8 323 yX8_replaced cX8_replaced 3 (some .int) 2 := ml_of (wu (wtab_6 (List.mem_of_getElem? (i := 120) (by decide +kernel))) rfl) wi_X8_replaced wz_X8_replaced wq_X8 wc_X8_replaced wd_X8_replaced
theorem ml_X8_326 : ML RX8 326 yX8_isLike cX8_isLike 6 (some .boolean) 3 := ml_of (wu (wtab_6 (List.mem_of_getElem? (i := 148) (by decide +kernel))) rfl) wi_X8_isLike wz_X8_isLike wq_X8 wc_X8_isLike wd_X8_isLike
theorem ml_X8_329 : ML RX8 329 yX8_isOver cX8_isOver 3 (some .boolean) 2 := ml_of (wu (wtab_6 (List.mem_of_getElem? (i := 156) (by decide +kernel))) rfl) wi_X8_isOver wz_X8_isOver wq_X8 wc_X8_isOver wd_X8_isOver
theorem ml_X8_332 : ML RX8 332 yX8_isAkin cX8_isAkin 6 (some .boolean) 3 := ml_of (wu (wtab_6 (List.mem_of_getElem? (i := 144) (by decide +kernel))) rfl) wi_X8_isAkin wz_X8_isAkin wq_X8 wc_X8_isAkin wd_X8_isAkin
theorem ml_X8_335 : ML RX8 335 yX8_isUnder cX8_isUnder 3 (some .boolean) 2 := ml_of (wu (wtab_6 (List.mem_of_getElem? (i := 168) (by decide +kernel))) rfl) wi_X8_isUnder wz_X8_isUnder wq_X8 wc_X8_isUnder wd_X8_isUnder
theorem ml_X8_338 : ML RX8 338 yX8_isNarrow cX8_isNarrow 7 (some .boolean) 3 := ml_of (wu (wtab_6 (List.mem_of_getElem? (i := 164) (by decide +kernel))) rfl) wi_X8_isNarrow wz_X8_isNarrow wq_X8 wc_X8_isNarrow wd_X8_isNarrow
theorem ml_X8_341 : ML RX8 341 yX8_isBare cX8_isBare 2 (some .boolean) 1 := ml_of (wu (wtab_6 (List.mem_of_getElem? (i := 176) (by decide +kernel))) rfl) wi_X8_isBare wz_X8_isBare wq_X8 wc_X8_isBare wd_X8_isBare
theorem ml_X8_344 : ML RX8 344 yX8_overridesOne cX8_overridesOne 6 (some .boolean) 3 := ml_of (wu (wtab_6 (List.mem_of_getElem? (i := 180) (by decide +kernel))) rfl) wi_X8_overridesOne wz_X8_overridesOne wq_X8 wc_X8_overridesOne wd_X8_overridesOne
theorem ml_X8_347 : ML RX8 347 yX8_isSought cX8_isSought 3 (some .boolean) 2 := ml_of (wu (wtab_6 (List.mem_of_getElem? (i := 188) (by decide +kernel))) rfl) wi_X8_isSought wz_X8_isSought wq_X8 wc_X8_isSought wd_X8_isSought
theorem ml_X8_350 : ML RX8 350 yX8_hasSought cX8_hasSought 6 (some .boolean) 2 := ml_of (wu (wtab_6 (List.mem_of_getElem? (i := 192) (by decide +kernel))) rfl) wi_X8_hasSought wz_X8_hasSought wq_X8 wc_X8_hasSought wd_X8_hasSought
theorem ml_X8_353 : ML RX8 353 yX8_isTorn cX8_isTorn 11 (some .boolean) 1 := ml_of (wu (wtab_6 (List.mem_of_getElem? (i := 108) (by decide +kernel))) rfl) wi_X8_isTorn wz_X8_isTorn wq_X8 wc_X8_isTorn wd_X8_isTorn
theorem ml_X8_356 : ML RX8 356 yX8_isTwice cX8_isTwice 7 (some .boolean) 1 := ml_of (wu (wtab_6 (List.mem_of_getElem? (i := 124) (by decide +kernel))) rfl) wi_X8_isTwice wz_X8_isTwice wq_X8 wc_X8_isTwice wd_X8_isTwice
theorem ml_X8_359 : ML RX8 359 yX8_findOver cX8_findOver 6 none 1 := ml_of (wu (wtab_6 (List.mem_of_getElem? (i := 140) (by decide +kernel))) rfl) wi_X8_findOver wz_X8_findOver wq_X8 wc_X8_findOver wd_X8_findOver
theorem ml_X8_362 : ML RX8 362 yX8_breaksAbove cX8_breaksAbove 7 (some .boolean) 1 := ml_of (wu (wtab_6 (List.mem_of_getElem? (i := 160) (by decide +kernel))) rfl) wi_X8_breaksAbove wz_X8_breaksAbove wq_X8 wc_X8_breaksAbove wd_X8_breaksAbove
theorem ml_X8_365 : ML RX8 365 yX8_clashes cX8_clashes 8 (some .boolean) 1 := ml_of (wu (wtab_6 (List.mem_of_getElem? (i := 172) (by decide +kernel))) rfl) wi_X8_clashes wz_X8_clashes wq_X8 wc_X8_clashes wd_X8_clashes
theorem ml_X8_368 : ML RX8 368 yX8_makeBridges cX8_makeBridges 8 none 1 := ml_of (wu (wtab_6 (List.mem_of_getElem? (i := 184) (by decide +kernel))) rfl) wi_X8_makeBridges wz_X8_makeBridges wq_X8 wc_X8_makeBridges wd_X8_makeBridges
theorem ml_X8_371 : ML RX8 371 yX8_isType cX8_isType 2 (some .boolean) 1 := ml_of (wu (wtab_6 (List.mem_of_getElem? (i := 204) (by decide +kernel))) rfl) wi_X8_isType wz_X8_isType wq_X8 wc_X8_isType wd_X8_isType
theorem ml_X8_374 : ML RX8 374 yX8_isMember cX8_isMember 2 (some .boolean) 1 := ml_of (wu (wtab_6 (List.mem_of_getElem? (i := 220) (by decide +kernel))) rfl) wi_X8_isMember wz_X8_isMember wq_X8 wc_X8_isMember wd_X8_isMember
theorem ml_X8_377 : ML RX8 377 yX8_memberOf cX8_memberOf 2 (some .int) 1 := ml_of (wu (wtab_7 (List.mem_of_getElem? (i := 32) (by decide +kernel))) rfl) wi_X8_memberOf wz_X8_memberOf wq_X8 wc_X8_memberOf wd_X8_memberOf
theorem ml_X8_380 : ML RX8 380 yX8_shapeOf cX8_shapeOf 2 (some .int) 1 := ml_of (wu (wtab_7 (List.mem_of_getElem? (i := 24) (by decide +kernel))) rfl) wi_X8_shapeOf wz_X8_shapeOf wq_X8 wc_X8_shapeOf wd_X8_shapeOf
theorem ml_X8_383 : ML RX8 383 yX8_accessOf cX8_accessOf 2 (some .int) 1 := ml_of (wu (wtab_7 (List.mem_of_getElem? (i := 28) (by decide +kernel))) rfl) wi_X8_accessOf wz_X8_accessOf wq_X8 wc_X8_accessOf wd_X8_accessOf
theorem ml_X8_392 : ML RX8 392 yX8_methodIn cX8_methodIn 6 (some .int) 2 := ml_of (wu (wtab_7 (List.mem_of_getElem? (i := 12) (by decide +kernel))) rfl) wi_X8_methodIn wz_X8_methodIn wq_X8 wc_X8_methodIn wd_X8_methodIn
theorem ml_X8_395 : ML RX8 395 yX8_isPlain cX8_isPlain 2 (some .boolean) 1 := ml_of (wu (wtab_7 (List.mem_of_getElem? (i := 20) (by decide +kernel))) rfl) wi_X8_isPlain wz_X8_isPlain wq_X8 wc_X8_isPlain wd_X8_isPlain
theorem ml_X8_398 : ML RX8 398 yX8_ownerOf cX8_ownerOf 2 (some .int) 1 := ml_of (wu (wtab_7 (List.mem_of_getElem? (i := 36) (by decide +kernel))) rfl) wi_X8_ownerOf wz_X8_ownerOf wq_X8 wc_X8_ownerOf wd_X8_ownerOf
theorem ml_X8_407 : ML RX8 407 yX8_findSpecific cX8_findSpecific 6 none 2 := ml_of (wu (wtab_7 (List.mem_of_getElem? (i := 16) (by decide +kernel))) rfl) wi_X8_findSpecific wz_X8_findSpecific wq_X8 wc_X8_findSpecific wd_X8_findSpecific
theorem ml_X8_410 : ML RX8 410 yX8_countBodies cX8_countBodies 2 none 0 := ml_of (wu (wtab_7 (List.mem_of_getElem? (i := 40) (by decide +kernel))) rfl) wi_X8_countBodies wz_X8_countBodies wq_X8 wc_X8_countBodies wd_X8_countBodies
theorem ml_X8_416 : ML RX8 416 yX8_soughtBy cX8_soughtBy 2 (some .int) 1 := ml_of (wu (wtab_7 (List.mem_of_getElem? (i := 80) (by decide +kernel))) rfl) wi_X8_soughtBy wz_X8_soughtBy wq_X8 wc_X8_soughtBy wd_X8_soughtBy
theorem ml_X8_419 : ML RX8 419 yX8_runs cX8_runs 2 (some .int) 1 := ml_of (wu (wtab_7 (List.mem_of_getElem? (i := 84) (by decide +kernel))) rfl) wi_X8_runs wz_X8_runs wq_X8 wc_X8_runs wd_X8_runs
theorem ml_X8_422 : ML RX8 422 yX8_findCan cX8_findCan 6 none 0 := ml_of (wu (wtab_7 (List.mem_of_getElem? (i := 88) (by decide +kernel))) rfl) wi_X8_findCan wz_X8_findCan wq_X8 wc_X8_findCan wd_X8_findCan
theorem ml_X8_425 : ML RX8 425 yX8_selected cX8_selected 7 (some .int) 2 := ml_of (wu (wtab_7 (List.mem_of_getElem? (i := 76) (by decide +kernel))) rfl) wi_X8_selected wz_X8_selected wq_X8 wc_X8_selected wd_X8_selected
theorem ml_X8_431 : ML RX8 431 yX8_isRef cX8_isRef 5 (some .boolean) 2 := ml_of (wu (wtab_7 (List.mem_of_getElem? (i := 68) (by decide +kernel))) rfl) wi_X8_isRef wz_X8_isRef wq_X8 wc_X8_isRef wd_X8_isRef
theorem ml_X8_434 : ML RX8 434 yX8_lookedUp cX8_lookedUp 5 (some .int) 2 := ml_of (wu (wtab_7 (List.mem_of_getElem? (i := 8) (by decide +kernel))) rfl) wi_X8_lookedUp wz_X8_lookedUp wq_X8 wc_X8_lookedUp wd_X8_lookedUp
theorem ml_X8_437 : ML RX8 437 yX8_mayHave cX8_mayHave 7 (some .boolean) 4 := ml_of (wu (wtab_7 (List.mem_of_getElem? (i := 56) (by decide +kernel))) rfl) wi_X8_mayHave wz_X8_mayHave wq_X8 wc_X8_mayHave wd_X8_mayHave
theorem ml_X8_440 : ML RX8 440 yX8_runOf cX8_runOf 5 (some .int) 3 := ml_of (wu (wtab_7 (List.mem_of_getElem? (i := 72) (by decide +kernel))) rfl) wi_X8_runOf wz_X8_runOf wq_X8 wc_X8_runOf wd_X8_runOf
theorem ml_X8_444 : ML RX8 444 yX8_toldAs cX8_toldAs 2 (some .int) 1 := ml_of (wu (wtab_7 (List.mem_of_getElem? (i := 44) (by decide +kernel))) rfl) wi_X8_toldAs wz_X8_toldAs wq_X8 wc_X8_toldAs wd_X8_toldAs
theorem ml_X8_447 : ML RX8 447 yX8_ruled cX8_ruled 10 (some .int) 5 := ml_of (wu (wtab_7 (List.mem_of_getElem? (i := 64) (by decide +kernel))) rfl) wi_X8_ruled wz_X8_ruled wq_X8 wc_X8_ruled wd_X8_ruled
theorem ml_X8_454 : ML RX8 454 yX8_outcomes cX8_outcomes 9 (some .int) 3 := ml_of (wu (wtab_7 (List.mem_of_getElem? (i := 100) (by decide +kernel))) rfl) wi_X8_outcomes wz_X8_outcomes wq_X8 wc_X8_outcomes wd_X8_outcomes
