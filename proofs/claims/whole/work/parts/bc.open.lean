/-! THE LAW OPENS -/
section
variable {L : Nat} {xs : Nat → Int32} {Q : Option Value → iH → Prop}
set_option maxRecDepth 100000
theorem t351_1 : i_goB i_MT i_AT 4 100 351 0 (i_lo0 [.retAddr 3] 4) [] [] 0 0 = some ([some (.retAddr 3), none, none, none], [.ref 0, .ref 0], [.inr (11, i_dfl 11)], 1, 16) := rfl
theorem t351_c : i_cc i_m351 i_m128 [.ref 0] [.ref 0] [.inr (11, i_dfl 11)] 1 16 = true := by decide +kernel
theorem t351_f : i_fr 1 [some (.retAddr 3), none, none, none] [.ref 0] = true := by decide +kernel
theorem t351_h : (i_wd i_g138).length = 138 := by decide +kernel
theorem t351_n : i_newo 600000 7302250 12 8 [some (.retAddr 3), some (.ref 0), none, none] [] (i_wd i_g138) 138 16523 = some (11, [some (.retAddr 3), some (.ref 0), none, none], [.ref 138], i_wd i_g138 ++ [.inr (12, i_dfl 12)], 139, 16581) := by
  have e1 : i_fr (i_wd i_g138).length [some (.retAddr 3), some (.ref 0), none, none] [] = true := by decide +kernel
  have e2 : (i_wd i_g138).all (i_frE (i_wd i_g138).length) = true := by decide +kernel
  have e3 : 16523 + i_nf 12 = 16581 := by decide +kernel
  unfold i_newo
  rw [e3, if_pos ⟨Nat.le_of_ble_eq_true rfl, Nat.le_of_ble_eq_true rfl, e1, e2⟩, t351_h]
theorem t351_s : i_step L xs i_m351 (.new 10) 12 0 8 [some (.retAddr 3), some (.ref 0), none, none] [] (i_wd i_g138) 138 16523 = some (11, [some (.retAddr 3), some (.ref 0), none, none], [.ref 138], i_wd i_g138 ++ [.inr (12, i_dfl 12)], 139, 16581) := by
  show i_newo (i_mc i_m351) (i_ms i_m351) 12 8 _ _ _ _ _ = _
  rw [show i_mc i_m351 = 600000 from rfl, show i_ms i_m351 = 7302250 from rfl]
  exact t351_n
theorem t351_d : i_cc i_m351 i_m195 [.ref 138] [.ref 138] (i_wd i_g138 ++ [.inr (12, i_dfl 12)]) 139 16581 = true := by decide +kernel
theorem t351_g : i_fr (i_wd i_g138 ++ ([.inr (12, i_dfl 12)] : iH)).length [some (.retAddr 3), some (.ref 0), none, none] [.ref 138] = true := by decide +kernel
theorem t351_b (hL : L ≤ 3072) (HQ : ∀ h, Q (some (.int 1)) h) {h1 h2 : iH} (F1 : i_Fr [139] [] i_W172 h1) (r2 : i_RA o_new h2) (F2 : i_Fr frA [] h1 h2) : i_P i_MT i_AT L xs 351 15 [some (.retAddr 3), some (.ref 0), none, none] [.ref 138] h2 173 127414 Q := by
  refine g_s1 (pc2 := 16) (lo2 := [some (.retAddr 3), some (.ref 0), some (.ref 138), none]) (st2 := []) i_k351 rfl rfl rfl rfl rfl ?_
  refine g_s1 (pc2 := 17) (lo2 := [some (.retAddr 3), some (.ref 0), some (.ref 138), none]) (st2 := [.int 0]) i_k351 rfl rfl rfl rfl rfl ?_
  refine g_s1 (pc2 := 18) (lo2 := [some (.retAddr 3), some (.ref 0), some (.ref 138), some (.int 0)]) (st2 := []) i_k351 rfl rfl rfl rfl rfl ?_
  exact l_all hL HQ (l_new_ok F1 r2 F2)
theorem t351_a (hL : L ≤ 3072) (HQ : ∀ h, Q (some (.int 1)) h) : i_P i_MT i_AT L xs 351 7 [some (.retAddr 3), none, none, none] [.ref 0] (i_wd i_g138) 138 16523 Q := by
  refine g_s1 (pc2 := 8) (lo2 := [some (.retAddr 3), some (.ref 0), none, none]) (st2 := []) i_k351 rfl rfl rfl rfl rfl ?_
  refine g_step (ins := .new 10) (a := 12) (b := 0) i_k351 rfl rfl rfl t351_s ?_
  refine g_s1 (pc2 := 12) (lo2 := [some (.retAddr 3), some (.ref 0), none, none]) (st2 := [.ref 138, .ref 138]) i_k351 rfl rfl rfl rfl rfl ?_
  refine g_callG i_k351 rfl rfl i_k195.1 rfl t351_d (t195 (fun h1 h2 L1 F1 e1 r2 F2 => ⟨Or.inr t351_g, ?_⟩) i_W_2.2.2.2.2.2.2 l_new_wf)
  exact t351_b hL HQ F1 r2 F2
theorem t351 (hL : L ≤ 3072) (HQ : ∀ h, Q (some (.int 1)) h) : i_P i_MT i_AT L xs 351 0 (i_lo0 [.retAddr 3] 4) [] [] 0 0 Q := by
  refine i_goB_P ?_ 100 0 _ _ _ 0 0 t351_1
  refine g_callG i_k351 rfl rfl i_k128.1 rfl t351_c (t128 ⟨Or.inr t351_f, ?_⟩)
  exact t351_a hL HQ
/-- the law, run on any script: it answers 1 -/
theorem l_run (hL : L ≤ 3072) : ∃ n h3, i_ex i_MT i_AT L xs n 351 0 (i_lo0 [.retAddr 3] 4) [] [] 0 0 = some (some (.int 1), h3) := by
  obtain ⟨n, r, h3, e1, e2⟩ := t351 (L := L) (xs := xs) (Q := fun r _ => r = some (.int 1)) hL (fun _ => rfl)
  subst e2
  exact ⟨n, h3, e1⟩
end
