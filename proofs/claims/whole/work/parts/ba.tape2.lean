/-! THE TAPE'S CONSTRUCTOR, called -/
section
variable {L : Nat} {xs : Nat → Int32}
set_option maxRecDepth 100000
theorem l_set_same {l : iH} {i : Nat} {x : va_E} (h : l[i]? = some x) : l.set i x = l := by
  apply List.ext_getElem?
  intro j
  by_cases q : i = j
  · subst q
    rw [List.getElem?_set_self (List.getElem?_eq_some_iff.mp h).1, h]
  · rw [List.getElem?_set_ne q]
theorem i_W14_w : i_W14 = i_WT i_W14 (fun _ => 0) (fun _ => 0) := by
  unfold i_WT
  rw [l_set_same i_W14_12, l_set_same i_W14_13]
theorem i_W14_1 : i_fld i_W14 10 7 1 = some (.ref 12) := by
  unfold i_W14 i_wd i_g14
  rfl
theorem i_W14_2 : i_fld i_W14 10 7 2 = some (.ref 13) := by
  unfold i_W14 i_wd i_g14
  rfl
theorem t82c {Q : Option Value → iH → Prop} (H : Q none (i_WT i_W14 i_F12 i_F13)) : i_C i_MT i_AT L xs 82 [.ref 10] (i_wd i_g11) Q := by
  refine ⟨i_m82, i_k82.1, Nat.le_of_ble_eq_true rfl, i_goB_P ?_ 400 0 _ _ _ 0 0 i_g14_e⟩
  refine g_call i_k82 rfl rfl i_k349.1 ⟨rfl, rfl⟩ rfl (i_rcv_0 rfl) rfl ?_
  rw [show i_wd i_g14 = i_WT i_W14 (fun _ => 0) (fun _ => 0) from i_W14_w]
  exact t349 i_W14_l (fun _ => rfl) (fun f2 h2 => t82 i_W14_l i_W14_1 i_W14_2 h2 H)
end
