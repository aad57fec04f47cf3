/-! THE LAW OPENS -/
section
variable {L : Nat} {xs : Nat → Int32} {Q : Option Value → iH → Prop}
set_option maxRecDepth 100000
theorem t351_1 : i_goB i_MT i_AT 4 100 351 0 (i_lo0 [.retAddr 3] 4) [] [] 0 0 = some ([some (.retAddr 3), none, none, none], [.ref 0, .ref 0], [.inr (11, i_dfl 11)], 1, 16) := rfl
theorem t351_c : i_cc i_m351 i_m128 [.ref 0] [.ref 0] [.inr (11, i_dfl 11)] 1 16 = true := by decide +kernel
theorem t351_f : i_fr 1 [some (.retAddr 3), none, none, none] [.ref 0] = true := by decide +kernel
noncomputable def i_g2 : Option i_GSt := i_goB i_MT i_AT 12 100 351 7 [some (.retAddr 3), none, none, none] [.ref 0] (i_wd i_g138) 138 16523
theorem t351_2 : i_g2 = some ([some (.retAddr 3), some (.ref 0), none, none], [.ref 138, .ref 138], i_wd i_g2, 139, 16581) := i_stE_s (by decide +kernel)
end
