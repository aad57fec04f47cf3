section
set_option maxRecDepth 100000
set_option maxHeartbeats 1000000
theorem i_W14_12 : i_W14[12]? = some (.inl (0, 256, .inl (fun _ => 0))) := by
  unfold i_W14 i_wd i_g14
  rfl
theorem i_W14_13 : i_W14[13]? = some (.inl (1, 33, .inr (.inl (fun _ => 0)))) := by
  unfold i_W14 i_wd i_g14
  rfl
/-- the class's world, made but for its last step -/
noncomputable def i_g138 : Option i_GSt := i_goB i_MT i_AT 207 2000 128 38 [some (.ref 0)] [.ref 10, .ref 0] (i_WT i_W14 i_F12 i_F13) 13 1486
theorem i_g138_e : i_g138 = some ([some (.ref 0)], [], i_wd i_g138, 137, 16507) := i_stE_s (by decide +kernel)
end
section
set_option maxRecDepth 100000
set_option maxHeartbeats 1000000
/-- both worlds, made but for the reference's last two calls -/
noncomputable def i_g172 : Option i_GSt := i_goB i_MT i_AT 404 1000 195 0 (i_lo0 [.ref 138] 1) [] (i_wd i_g138 ++ [.inr (12, i_dfl 12)]) 0 0
theorem i_g172_e : i_g172 = some ([some (.ref 138)], [.int 0, .ref 138], i_wd i_g172, 34, 110833) := i_stE_s (by decide +kernel)
noncomputable def i_W172 : iH := i_wd i_g172
theorem i_W172_l : i_Lay i_W172 := by
  unfold i_Lay
  decide +kernel
end
