/-! THE LAW OPENS -/
section
variable {L : Nat} {xs : Nat → Int32} {Q : Option Value → iH → Prop}
set_option maxRecDepth 100000
theorem t351_1 : i_goB i_MT i_AT 4 100 351 0 (i_lo0 [.retAddr 3] 4) [] [] 0 0 = some ([some (.retAddr 3), none, none, none], [.ref 0, .ref 0], [.inr (11, i_dfl 11)], 1, 16) := rfl
end
