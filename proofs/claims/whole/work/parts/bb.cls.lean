/-! THE CLASS IS MADE -/
section
variable {L : Nat} {xs : Nat → Int32}
set_option maxRecDepth 100000
theorem t128_c : i_cc i_m128 i_m82 [.ref 10] [.ref 10, .ref 0] (i_wd i_g11) 10 297 = true := by decide +kernel
theorem t128_f : i_fr (i_wd i_g11).length [some (.ref 0)] [.ref 10, .ref 0] = true := by decide +kernel
theorem t128 {Q : Option Value → iH → Prop} (H : Q none (i_wd i_g138)) : i_C i_MT i_AT L xs 128 [.ref 0] [.inr (11, i_dfl 11)] Q := by
  refine ⟨i_m128, i_k128.1, Nat.le_of_ble_eq_true rfl, i_goB_P ?_ 400 0 _ _ _ 0 0 i_g11_e⟩
  refine g_callG i_k128 rfl rfl i_k82.1 rfl t128_c (t82c ⟨Or.inr t128_f, i_goB_P ?_ 2000 38 _ _ _ 13 1486 i_g138_e⟩)
  exact g_return i_k128 rfl (by decide) (by decide) rfl H
end
