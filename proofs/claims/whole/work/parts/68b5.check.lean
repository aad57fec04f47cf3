/-! THE TABLES' CHECK, part 5 -/
set_option maxRecDepth 100000 in
theorem i_t351_0 : i_c351_0.all (i_enB i_MT i_m351) = true := by decide +kernel
set_option maxRecDepth 100000 in
theorem i_t351_1 : i_c351_1.all (i_enB i_MT i_m351) = true := by decide +kernel
set_option maxRecDepth 100000 in
theorem i_t351_2 : i_c351_2.all (i_enB i_MT i_m351) = true := by decide +kernel
set_option maxRecDepth 100000 in
theorem i_t351_3 : i_c351_3.all (i_enB i_MT i_m351) = true := by decide +kernel
set_option maxRecDepth 100000 in
theorem i_t351_4 : i_c351_4.all (i_enB i_MT i_m351) = true := by decide +kernel
set_option maxRecDepth 100000 in
theorem i_t351_5 : i_c351_5.all (i_enB i_MT i_m351) = true := by decide +kernel
set_option maxRecDepth 100000 in
theorem i_t351_6 : i_c351_6.all (i_enB i_MT i_m351) = true := by decide +kernel
set_option maxRecDepth 100000 in
theorem i_t351_7 : i_c351_7.all (i_enB i_MT i_m351) = true := by decide +kernel
set_option maxRecDepth 100000 in
theorem i_t351_8 : i_c351_8.all (i_enB i_MT i_m351) = true := by decide +kernel
theorem i_t351 : i_c351.all (i_enB i_MT i_m351) = true := by
  unfold i_c351
  simp only [List.all_append, i_t351_0, i_t351_1, i_t351_2, i_t351_3, i_t351_4, i_t351_5, i_t351_6, i_t351_7, i_t351_8, Bool.and_self]
