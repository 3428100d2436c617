theorem zmok_0 : ((List.range 10).map (· + 0)).all zmok = true := by decide +kernel
theorem zmok_1 : ((List.range 15).map (· + 10)).all zmok = true := by decide +kernel
theorem zmok_2 : ((List.range 15).map (· + 25)).all zmok = true := by decide +kernel
theorem zmok_3 : ((List.range 15).map (· + 40)).all zmok = true := by decide +kernel
theorem zmok_4 : ((List.range 15).map (· + 55)).all zmok = true := by decide +kernel
theorem zmok_5 : ((List.range 15).map (· + 70)).all zmok = true := by decide +kernel
theorem zmok_6 : ((List.range 15).map (· + 85)).all zmok = true := by decide +kernel
theorem zmok_7 : ((List.range 10).map (· + 100)).all zmok = true := by decide +kernel
theorem zmok_8 : ((List.range 10).map (· + 110)).all zmok = true := by decide +kernel
theorem zmok_9 : ((List.range 8).map (· + 120)).all zmok = true := by decide +kernel
theorem zmok_10 : ((List.range 8).map (· + 128)).all zmok = true := by decide +kernel
theorem zmok_11 : ((List.range 8).map (· + 136)).all zmok = true := by decide +kernel
theorem zmok_l0 : zc144_0.all (zentok (⟨"PantryMarketLaw", "law", "([I)Z"⟩, code, some .boolean, 0, 0, 0, 0)) = true := by decide +kernel
theorem zmok_l1 : zc144_1.all (zentok (⟨"PantryMarketLaw", "law", "([I)Z"⟩, code, some .boolean, 0, 0, 0, 0)) = true := by decide +kernel
theorem zmok_l2 : zc144_2.all (zentok (⟨"PantryMarketLaw", "law", "([I)Z"⟩, code, some .boolean, 0, 0, 0, 0)) = true := by decide +kernel
theorem zmok_l3 : zc144_3.all (zentok (⟨"PantryMarketLaw", "law", "([I)Z"⟩, code, some .boolean, 0, 0, 0, 0)) = true := by decide +kernel
theorem zmok_l4 : zc144_4.all (zentok (⟨"PantryMarketLaw", "law", "([I)Z"⟩, code, some .boolean, 0, 0, 0, 0)) = true := by decide +kernel
theorem zmok_l5 : zc144_5.all (zentok (⟨"PantryMarketLaw", "law", "([I)Z"⟩, code, some .boolean, 0, 0, 0, 0)) = true := by decide +kernel
theorem zmok_l6 : zc144_6.all (zentok (⟨"PantryMarketLaw", "law", "([I)Z"⟩, code, some .boolean, 0, 0, 0, 0)) = true := by decide +kernel
theorem zmok_l7 : zc144_7.all (zentok (⟨"PantryMarketLaw", "law", "([I)Z"⟩, code, some .boolean, 0, 0, 0, 0)) = true := by decide +kernel
theorem zmok_l8 : zc144_8.all (zentok (⟨"PantryMarketLaw", "law", "([I)Z"⟩, code, some .boolean, 0, 0, 0, 0)) = true := by decide +kernel
theorem zmok_law : zmok 144 = true := by
  show ((zc144_0 ++ (zc144_1 ++ (zc144_2 ++ (zc144_3 ++ (zc144_4 ++ (zc144_5 ++ (zc144_6 ++ (zc144_7 ++ zc144_8)))))))).all (zentok (⟨"PantryMarketLaw", "law", "([I)Z"⟩, code, some .boolean, 0, 0, 0, 0)) && true && decide ((some FieldType.boolean : Option FieldType) = some .boolean)) = true
  simp only [List.all_append, zmok_l0, zmok_l1, zmok_l2, zmok_l3, zmok_l4, zmok_l5, zmok_l6, zmok_l7, zmok_l8, Bool.and_self, decide_true]
theorem zmoku_0 {j : Nat} (h1 : 0 ≤ j) (h2 : j < 10) : zmok j = true := List.all_eq_true.mp zmok_0 j (List.mem_map.mpr ⟨j - 0, List.mem_range.mpr (by omega), by omega⟩)
theorem zmoku_1 {j : Nat} (h1 : 10 ≤ j) (h2 : j < 25) : zmok j = true := List.all_eq_true.mp zmok_1 j (List.mem_map.mpr ⟨j - 10, List.mem_range.mpr (by omega), by omega⟩)
theorem zmoku_2 {j : Nat} (h1 : 25 ≤ j) (h2 : j < 40) : zmok j = true := List.all_eq_true.mp zmok_2 j (List.mem_map.mpr ⟨j - 25, List.mem_range.mpr (by omega), by omega⟩)
theorem zmoku_3 {j : Nat} (h1 : 40 ≤ j) (h2 : j < 55) : zmok j = true := List.all_eq_true.mp zmok_3 j (List.mem_map.mpr ⟨j - 40, List.mem_range.mpr (by omega), by omega⟩)
theorem zmoku_4 {j : Nat} (h1 : 55 ≤ j) (h2 : j < 70) : zmok j = true := List.all_eq_true.mp zmok_4 j (List.mem_map.mpr ⟨j - 55, List.mem_range.mpr (by omega), by omega⟩)
theorem zmoku_5 {j : Nat} (h1 : 70 ≤ j) (h2 : j < 85) : zmok j = true := List.all_eq_true.mp zmok_5 j (List.mem_map.mpr ⟨j - 70, List.mem_range.mpr (by omega), by omega⟩)
theorem zmoku_6 {j : Nat} (h1 : 85 ≤ j) (h2 : j < 100) : zmok j = true := List.all_eq_true.mp zmok_6 j (List.mem_map.mpr ⟨j - 85, List.mem_range.mpr (by omega), by omega⟩)
theorem zmoku_7 {j : Nat} (h1 : 100 ≤ j) (h2 : j < 110) : zmok j = true := List.all_eq_true.mp zmok_7 j (List.mem_map.mpr ⟨j - 100, List.mem_range.mpr (by omega), by omega⟩)
theorem zmoku_8 {j : Nat} (h1 : 110 ≤ j) (h2 : j < 120) : zmok j = true := List.all_eq_true.mp zmok_8 j (List.mem_map.mpr ⟨j - 110, List.mem_range.mpr (by omega), by omega⟩)
theorem zmoku_9 {j : Nat} (h1 : 120 ≤ j) (h2 : j < 128) : zmok j = true := List.all_eq_true.mp zmok_9 j (List.mem_map.mpr ⟨j - 120, List.mem_range.mpr (by omega), by omega⟩)
theorem zmoku_10 {j : Nat} (h1 : 128 ≤ j) (h2 : j < 136) : zmok j = true := List.all_eq_true.mp zmok_10 j (List.mem_map.mpr ⟨j - 128, List.mem_range.mpr (by omega), by omega⟩)
theorem zmoku_11 {j : Nat} (h1 : 136 ≤ j) (h2 : j < 144) : zmok j = true := List.all_eq_true.mp zmok_11 j (List.mem_map.mpr ⟨j - 136, List.mem_range.mpr (by omega), by omega⟩)
theorem zmok_all {j : Nat} (h : j < 145) : zmok j = true := by
  by_cases h0 : j < 10
  · exact zmoku_0 (by omega) h0
  by_cases h1 : j < 25
  · exact zmoku_1 (by omega) h1
  by_cases h2 : j < 40
  · exact zmoku_2 (by omega) h2
  by_cases h3 : j < 55
  · exact zmoku_3 (by omega) h3
  by_cases h4 : j < 70
  · exact zmoku_4 (by omega) h4
  by_cases h5 : j < 85
  · exact zmoku_5 (by omega) h5
  by_cases h6 : j < 100
  · exact zmoku_6 (by omega) h6
  by_cases h7 : j < 110
  · exact zmoku_7 (by omega) h7
  by_cases h8 : j < 120
  · exact zmoku_8 (by omega) h8
  by_cases h9 : j < 128
  · exact zmoku_9 (by omega) h9
  by_cases h10 : j < 136
  · exact zmoku_10 (by omega) h10
  by_cases h11 : j < 144
  · exact zmoku_11 (by omega) h11
  have hj : j = 144 := by omega
  subst hj
  exact zmok_law
