/-! THE LAW'S LOOP -/
section
variable {L : Nat} {xs : Nat → Int32} {Q : Option Value → iH → Prop}
set_option maxRecDepth 20000
theorem l_loop (hL : L ≤ 3072) (HQ : ∀ h, Q (some (.int 1)) h) : ∀ d k h, k ≤ 50000 → L + 6 ≤ k + d → l_OK h → l_P L xs Q 18 k h
  | 0, k, h, hk, hd, ok => l_step hL (by omega) ok (HQ h) (fun hk6 => absurd hk6 (by omega))
  | d + 1, k, h, hk, hd, ok => l_step hL (by omega) ok (HQ h) (fun hk6 h2 o => by
    refine b351_1853 ?_
    rw [show i_n k + (6 : Int32) = i_n (k + 6) from n_add k 6]
    exact l_loop hL HQ d (k + 6) h2 (by omega) (by omega) o)
theorem l_all (hL : L ≤ 3072) (HQ : ∀ h, Q (some (.int 1)) h) {h : iH} (ok : l_OK h) : i_P i_MT i_AT L xs 351 18 [some (.retAddr 3), some (.ref 0), some (.ref 138), some (.int 0)] [] h 173 127414 Q := l_loop hL HQ (L + 6) 0 h (by omega) (by omega) ok
/-- the reference, made -/
theorem t195 {Q : Option Value → iH → Prop} (H : ∀ h1 h2, i_Lay h1 → i_Fr [139] [] i_W172 h1 → (∀ i, i < 680 → aI h1 139 i = i_n (o_new i)) → i_RA o_new h2 → i_Fr frA [] h1 h2 → Q none h2) (es : ∀ k, k < 8 → aI i_W172 141 k = i_n (o_ex k) - i_n 1 ∧ aI i_W172 142 k = i_n (o_sy k) - i_n 1) (wn : o_WF o_new) : i_C i_MT i_AT L xs 195 [.ref 138] (i_wd i_g138 ++ [.inr (12, i_dfl 12)]) Q := by
  refine ⟨i_m195, i_k195.1, Nat.le_of_ble_eq_true rfl, i_goB_P ?_ 1000 0 _ _ _ 0 0 i_g172_e⟩
  have hL := i_W172_l
  refine g_call i_k195 rfl rfl i_k196.1 ⟨rfl, rfl⟩ rfl (i_rcv_v hL.o138 rfl (by decide)) rfl ?_
  refine c196 (b := 0) hL (by omega) (fun h1 L1 F1 E1 => ?_)
  refine g_s1 (pc2 := 408) i_k195 rfl rfl rfl rfl rfl ?_
  refine g_call i_k195 rfl rfl i_k252.1 ⟨rfl, rfl⟩ rfl (i_rcv_v L1.o138 rfl (by decide)) rfl ?_
  have e1 : ∀ i, i < 680 → aI h1 139 i = i_n (o_new i) := fun i hi => by rw [E1, if_pos (by omega), Nat.sub_zero]
  have rb : i_RB o_new h1 := ⟨L1, wn, e1, by rw [F1.rI (by simp), F1.rI (by simp)]; exact es, trivial⟩
  refine c252 rb (fun h2 r2 F2 => ?_)
  exact g_return i_k195 rfl (by decide) (by decide) rfl (H h1 h2 L1 F1 e1 r2 F2)
end
