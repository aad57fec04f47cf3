/-! THE CLASS: more questions over the minutes -/
section
variable {L : Nat} {xs : Nat → Int32} {h : iH} {Q : Option Value → iH → Prop} {a : Nat → Nat} {t : Nat}
set_option maxRecDepth 20000
theorem i_CO.np (g : i_CO a t h) : fI h (t + 7) 0 = i_n (a 5) := g.ct.2.2.2.2.2.2.2.1.1
theorem i_CO.nc (g : i_CO a t h) : fI h t 5 = i_n (a 3) := g.ct.2.2.2.2.1.1
theorem i_CO.wa (g : i_CO a t h) {p : Nat} (hp : p < a 5) : aI h (t + 12) p = i_n (a (157 + 5 * p)) := (g.ct.2.2.2.2.2.2.2.1.2 p hp).2.2.2.1
theorem o_WF.wb (w : o_WF a) {p : Nat} (hp : p < a 5) : a (157 + 5 * p) < 256 := (w.2.2.2.2.2.2.2.2.2.2.1 p hp).2.2.2.2.2.1
theorem c14 (g : i_CO a t h) {p m : Nat} (hp : p < a 5) (hm : m ≤ 60) (H : ∀ h2 : iH, i_CO a t h2 → i_Fr [99, 100, 106, 107] [] h h2 → Q (some (.int (o_op (o_fw a m p)))) h2) : i_C i_MT i_AT L xs 14 [.ref 95, .int (i_n p), .int (i_n m)] h Q := by
  have h5 := g.w.2.2.2.2.1
  have hwb := g.w.wb hp
  have key : ∀ k, k ≤ a 5 → (∀ i, 0 ≤ i → i < k → (o_wat a i p && decide (0 < o_wt a i p m)) = false) → ∀ h1, i_CO a t h1 → i_Fr [99, 100, 106, 107] [] h h1 → i_P i_MT i_AT L xs 14 2 [some (.ref 95), some (.int (i_n p)), some (.int (i_n m)), some (.int (i_n k))] [] h1 0 0 Q := by
    refine l_up ?_ ?_
    · intro hj h1 g1 f1
      refine d14_2 g1.l ⟨t, g1.tw, g1.T, ?_⟩
      rw [g1.np]
      try simp (disch := omega) only [n_lit, n_m, n_add, n_mul, n_div, n_mod, n_cl, n_lt, n_le, n_eq, n_in, n_eqm, n_meq, n_mlt, n_ltm, n_mle, n_lem, not_true_eq_false, not_false_eq_true, true_implies, false_implies, true_and, and_true, Nat.not_lt_zero, Nat.zero_le, Nat.le_refl]
      have := H h1 g1 f1
      unfold o_fw at this
      rw [o_lst_n (a 5) 0 (fun i q1 q2 => hj i q1 (by omega))] at this
      exact this
    · intro k hk ih hj h1 g1 f1
      have hw := o_wt_le g.w (p := k) (q := p) (m := m) hp hm
      have nx : (o_wat a k p && decide (0 < o_wt a k p m)) = false → ∀ h2, i_CO a t h2 → i_Fr [99, 100, 106, 107] [] h h2 → i_P i_MT i_AT L xs 14 48 [some (.ref 95), some (.int (i_n p)), some (.int (i_n m)), some (.int (i_n k))] [] h2 0 0 Q := by
        intro e h2 g2 f2
        refine d14_48 g2.l ?_
        try simp (disch := omega) only [n_lit, n_m, n_add, n_mul, n_div, n_mod, n_cl, n_lt, n_le, n_eq, n_in, n_eqm, n_meq, n_mlt, n_ltm, n_mle, n_lem, not_true_eq_false, not_false_eq_true, true_implies, false_implies, true_and, and_true, Nat.not_lt_zero, Nat.zero_le]
        refine ih (fun i q1 q2 => ?_) h2 g2 f2
        by_cases ei : i = k
        · subst ei; exact e
        · exact hj i q1 (by omega)
      refine d14_2 g1.l ⟨t, g1.tw, g1.T, ?_⟩
      rw [g1.np]
      try simp (disch := omega) only [n_lit, n_m, n_add, n_mul, n_div, n_mod, n_cl, n_lt, n_le, n_eq, n_in, n_eqm, n_meq, n_mlt, n_ltm, n_mle, n_lem, not_true_eq_false, not_false_eq_true, true_implies, false_implies, true_and, and_true, Nat.not_lt_zero, Nat.zero_le]
      refine ⟨fun q => by omega, fun _ => ⟨t, g1.tw, g1.T, by omega, ?_⟩⟩
      rw [g1.wa hp]
      refine c193 (by omega) ⟨_, rfl, d14_33 g1.l ?_⟩
      rw [i_bo_0, Classical.not_not, j_i2l (by omega) (by omega)]
      refine ⟨fun e => nx (by unfold o_wat; simp [e]) h1 g1 f1, fun e => c12 g1 hk hp hm (fun h2 g2 f2 => ⟨_, rfl, d14_43 g2.l ?_⟩)⟩
      try simp (disch := omega) only [n_lit, n_m, n_add, n_mul, n_div, n_mod, n_cl, n_lt, n_le, n_eq, n_in, n_eqm, n_meq, n_mlt, n_ltm, n_mle, n_lem, not_true_eq_false, not_false_eq_true, true_implies, false_implies, true_and, and_true, Nat.not_lt_zero, Nat.zero_le]
      refine ⟨fun e2 => nx (by simp; omega) h2 g2 (f1.trans f2), fun e2 => ?_⟩
      have := H h2 g2 (f1.trans f2)
      unfold o_fw at this
      rw [o_lst_s (j := k) (by unfold o_wat; simp [e]; omega) (a 5) 0 (by omega) (by omega) hj] at this
      exact this
  refine e14 (d14_0 g.l ?_)
  try simp (disch := omega) only [n_lit, n_m, n_add, n_mul, n_div, n_mod, n_cl, n_lt, n_le, n_eq, n_in, n_eqm, n_meq, n_mlt, n_ltm, n_mle, n_lem, not_true_eq_false, not_false_eq_true, true_implies, false_implies, true_and, and_true, Nat.not_lt_zero, Nat.zero_le]
  exact key 0 (Nat.zero_le _) (fun i q1 q2 => by omega) h g i_Fr.refl
theorem c154 (g : i_ST a t h) {x : Int32} (H : i_K0 a t h Q (o_judA a x)) : i_C i_MT i_AT L xs 154 [.ref 0, .int x] h Q := by
  have h5 := g.w.2.2.2.2.1
  unfold o_judA at H
  refine e154 (d154_0 g.l (c192 ⟨_, rfl, d154_6 g.l ?_⟩))
  rw [i_bo_0, Classical.not_not]
  refine ⟨fun z => ?_, fun z => m179 g (fun h2 g2 f2 s2 => ⟨_, rfl, d154_14 g2.l (by rw [o_A6_f z] at H; exact H h2 g2 f2 s2)⟩)⟩
  obtain ⟨w, hw, rfl⟩ := n_gle (k := 2) z (by omega)
  rw [n_cl (by omega)] at H
  have key : ∀ k, k ≤ 61 → 1 ≤ k → (∀ i, 1 ≤ i → i < k → (o_jp a i).isSome = false) → ∀ (u v : Option Value) h1, i_ST a t h1 → i_F0 h h1 → i_P i_MT i_AT L xs 154 17 [some (.ref 0), some (.int (i_n w)), some (.int (i_n k)), u, v] [] h1 0 0 Q := by
    refine l_up ?_ ?_
    · intro _ hj u v h1 g1 f1
      refine d154_17 g1.l ?_
      try simp (disch := omega) only [n_lit, n_m, n_add, n_mul, n_div, n_mod, n_cl, n_lt, n_le, n_eq, n_in, n_eqm, n_meq, n_mlt, n_ltm, n_mle, n_lem, not_true_eq_false, not_false_eq_true, true_implies, false_implies, true_and, and_true, Nat.not_lt_zero, Nat.zero_le]
      have e0 : o_jud a w = none := by
        unfold o_jud o_jm
        rw [o_lst_n 60 1 (fun i q1 q2 => hj i q1 (by omega))]
        rfl
      rw [o_A6_n z e0] at H
      exact ⟨fun _ => m179 g1 (fun h2 g2 f2 s2 => ⟨_, rfl, d154_98 g2.l (H h2 g2 (f1.trans f2) s2)⟩), fun z => absurd (by omega) z⟩
    · intro k hk ih hk1 hj u v h1 g1 f1
      have row : ∀ p, p ≤ a 5 → (∀ i, 0 ≤ i → i < p → (o_fw a k i).isSome = false) → ∀ (v : Option Value) h2, i_ST a t h2 → i_F0 h h2 → i_P i_MT i_AT L xs 154 25 [some (.ref 0), some (.int (i_n w)), some (.int (i_n k)), some (.int (i_n p)), v] [] h2 0 0 Q := by
        refine l_up ?_ ?_
        · intro hq v h2 g2 f2
          refine d154_25 g2.l ⟨t, g2.tw, g2.T, ?_⟩
          rw [g2.1.np]
          try simp (disch := omega) only [n_lit, n_m, n_add, n_mul, n_div, n_mod, n_cl, n_lt, n_le, n_eq, n_in, n_eqm, n_meq, n_mlt, n_ltm, n_mle, n_lem, not_true_eq_false, not_false_eq_true, true_implies, false_implies, true_and, and_true, Nat.not_lt_zero, Nat.zero_le, Nat.le_refl]
          refine ih (by omega) (fun i q1 q2 => ?_) _ _ h2 g2 f2
          by_cases ei : i = k
          · subst ei
            unfold o_jp
            rw [o_lst_n (a 5) 0 (fun i q1 q2 => hq i q1 (by omega))]
            rfl
          · exact hj i q1 (by omega)
        · intro p hp ih2 hq v h2 g2 f2
          refine d154_25 g2.l ⟨t, g2.tw, g2.T, ?_⟩
          rw [g2.1.np]
          try simp (disch := omega) only [n_lit, n_m, n_add, n_mul, n_div, n_mod, n_cl, n_lt, n_le, n_eq, n_in, n_eqm, n_meq, n_mlt, n_ltm, n_mle, n_lem, not_true_eq_false, not_false_eq_true, true_implies, false_implies, true_and, and_true, Nat.not_lt_zero, Nat.zero_le]
          refine ⟨fun q => by omega, fun _ => c14 g2.1 hp (by omega) (fun h3 g3 f3 => ?_)⟩
          have G3 := g2.co g3 f3
          refine ⟨_, rfl, d154_48 G3.l ?_⟩
          cases hfw : o_fw a k p with
          | none =>
            refine ⟨fun _ => ?_, fun q => absurd rfl q⟩
            try simp (disch := omega) only [n_lit, n_m, n_add, n_mul, n_div, n_mod, n_cl, n_lt, n_le, n_eq, n_in, n_eqm, n_meq, n_mlt, n_ltm, n_mle, n_lem, not_true_eq_false, not_false_eq_true, true_implies, false_implies, true_and, and_true, Nat.not_lt_zero, Nat.zero_le]
            refine ih2 (fun i q1 q2 => ?_) _ h3 G3 (f2.trans f3.z)
            by_cases ei : i = p
            · subst ei; rw [hfw]; rfl
            · exact hq i q1 (by omega)
          | some b =>
            have hb := (o_lst_g _ _ _ hfw).2.1
            have e1 : o_jp a k = some p := o_lst_s (by rw [hfw]; rfl) (a 5) 0 (by omega) (by omega) hq
            have e2 : o_jm a = some k := o_lst_s (by rw [e1]; rfl) 60 1 (by omega) (by omega) hj
            have e3 : o_jud a w = some (if w = 0 then k else if w = 1 then p else b) := by
              unfold o_jud
              rw [e2, Option.bind_some, e1, Option.bind_some, hfw, Option.map_some]
            rw [o_A6_t z e3] at H
            have fin : ∀ s : Int32, s = i_n (if w = 0 then k else if w = 1 then p else b) → i_P i_MT i_AT L xs 154 76 [some (.ref 0), some (.int (i_n w)), some (.int (i_n k)), some (.int (i_n p)), some (.int (i_n b))] [.int s, .ref 0] h3 0 0 Q := by
              intro s hs
              subst hs
              exact d154_76 G3.l (m181 G3 (fun h4 g4 f4 s4 => ⟨_, rfl, d154_79 g4.l (H h4 g4 ((f2.trans f3.z).trans f4) s4)⟩))
            dsimp only [o_op]
            try simp (disch := omega) only [n_lit, n_m, n_add, n_mul, n_div, n_mod, n_cl, n_lt, n_le, n_eq, n_in, n_eqm, n_meq, n_mlt, n_ltm, n_mle, n_lem, not_true_eq_false, not_false_eq_true, true_implies, false_implies, true_and, and_true, Nat.not_lt_zero, Nat.zero_le]
            refine ⟨fun q1 => ⟨fun q2 => fin _ (by rw [if_neg q1, if_neg q2]), fun q2 => fin _ (by rw [if_neg q1, if_pos (Classical.not_not.mp q2)])⟩, fun q1 => fin _ (by rw [if_pos (Classical.not_not.mp q1)])⟩
      refine d154_17 g1.l ?_
      try simp (disch := omega) only [n_lit, n_m, n_add, n_mul, n_div, n_mod, n_cl, n_lt, n_le, n_eq, n_in, n_eqm, n_meq, n_mlt, n_ltm, n_mle, n_lem, not_true_eq_false, not_false_eq_true, true_implies, false_implies, true_and, and_true, Nat.not_lt_zero, Nat.zero_le]
      exact ⟨fun q => by omega, fun _ => row 0 (Nat.zero_le _) (fun i q1 q2 => by omega) _ h1 g1 f1⟩
  try simp (disch := omega) only [n_lit, n_m, n_add, n_mul, n_div, n_mod, n_cl, n_lt, n_le, n_eq, n_in, n_eqm, n_meq, n_mlt, n_ltm, n_mle, n_lem, not_true_eq_false, not_false_eq_true, true_implies, false_implies, true_and, and_true, Nat.not_lt_zero, Nat.zero_le]
  exact key 1 (by omega) (Nat.le_refl 1) (fun i q1 q2 => by omega) _ _ h g i_Fr.refl
theorem c165 (g : i_ST a t h) {x : Int32} (H : i_K0 a t h Q (o_movA a x)) : i_C i_MT i_AT L xs 165 [.ref 0, .int x] h Q := by
  have h5 := g.w.2.2.2.2.1
  have h3 := g.w.2.2.1
  unfold o_movA at H
  refine e165 (d165_0 g.l (c191 ⟨_, rfl, d165_4 g.l ?_⟩))
  rw [i_bo_0, Classical.not_not]
  refine ⟨fun z => ?_, fun z => m179 g (fun h2 g2 f2 s2 => ⟨_, rfl, d165_12 g2.l (by rw [o_A_f z] at H; exact H h2 g2 f2 s2)⟩)⟩
  rw [o_A_t z] at H
  obtain ⟨m, hm1, hm, rfl⟩ := n_g1 (j := 1) (k := 60) z (by omega) (by omega)
  rw [n_cl (by omega)] at H
  have l1 := o_cn0_le (P := fun p => o_did a p m != 0) (a 5)
  generalize hc1 : o_cn0 (fun p => o_did a p m != 0) (a 5) = N1 at H l1
  have cart : ∀ k, k ≤ a 3 → i_P i_MT i_AT L xs 165 59 [some (.ref 0), some (.int (i_n m)), some (.int (i_n (N1 + o_cn0 (fun k => o_cart a k m != o_cart a k (m - 1)) k))), some (.int (i_n k))] [] h 0 0 Q := by
    refine l_up ?_ ?_
    · refine d165_59 g.l ⟨t, g.tw, g.T, ?_⟩
      rw [g.1.nc]
      try simp (disch := omega) only [n_lit, n_m, n_add, n_mul, n_div, n_mod, n_cl, n_lt, n_le, n_eq, n_in, n_eqm, n_meq, n_mlt, n_ltm, n_mle, n_lem, not_true_eq_false, not_false_eq_true, true_implies, false_implies, true_and, and_true, Nat.not_lt_zero, Nat.zero_le, Nat.le_refl]
      exact m181 g (fun h2 g2 f2 s2 => ⟨_, rfl, d165_101 g2.l (H h2 g2 f2 s2)⟩)
    · intro k hk ih
      have l2 := o_cn0_le (P := fun k => o_cart a k m != o_cart a k (m - 1)) k
      rw [o_cn0] at ih
      refine d165_59 g.l ⟨t, g.tw, g.T, ?_⟩
      rw [g.1.nc]
      try simp (disch := omega) only [n_lit, n_m, n_add, n_mul, n_div, n_mod, n_cl, n_lt, n_le, n_eq, n_in, n_eqm, n_meq, n_mlt, n_ltm, n_mle, n_lem, not_true_eq_false, not_false_eq_true, true_implies, false_implies, true_and, and_true, Nat.not_lt_zero, Nat.zero_le]
      refine ⟨fun q => by omega, fun _ => c8 g.1 hk ⟨hm1, hm⟩ ⟨_, rfl, d165_80 g.l ?_⟩⟩
      rw [i_bo_0]
      refine ⟨fun e => d165_88 g.l ?_, fun e => d165_88 g.l ?_⟩
      · try simp (disch := omega) only [n_lit, n_m, n_add, n_mul, n_div, n_mod, n_cl, n_lt, n_le, n_eq, n_in, n_eqm, n_meq, n_mlt, n_ltm, n_mle, n_lem, not_true_eq_false, not_false_eq_true, true_implies, false_implies, true_and, and_true, Nat.not_lt_zero, Nat.zero_le]
        rw [if_neg (by simpa using e)] at ih
        rw [Nat.add_zero] at ih ⊢
        exact ih
      · try simp (disch := omega) only [n_lit, n_m, n_add, n_mul, n_div, n_mod, n_cl, n_lt, n_le, n_eq, n_in, n_eqm, n_meq, n_mlt, n_ltm, n_mle, n_lem, not_true_eq_false, not_false_eq_true, true_implies, false_implies, true_and, and_true, Nat.not_lt_zero, Nat.zero_le]
        rw [if_pos (by simpa using e), ← Nat.add_assoc] at ih
        exact ih
  have pers : ∀ p, p ≤ a 5 → i_P i_MT i_AT L xs 165 17 [some (.ref 0), some (.int (i_n m)), some (.int (i_n (o_cn0 (fun p => o_did a p m != 0) p))), some (.int (i_n p))] [] h 0 0 Q := by
    refine l_up ?_ ?_
    · refine d165_17 g.l ⟨t, g.tw, g.T, ?_⟩
      rw [g.1.np]
      try simp (disch := omega) only [n_lit, n_m, n_add, n_mul, n_div, n_mod, n_cl, n_lt, n_le, n_eq, n_in, n_eqm, n_meq, n_mlt, n_ltm, n_mle, n_lem, not_true_eq_false, not_false_eq_true, true_implies, false_implies, true_and, and_true, Nat.not_lt_zero, Nat.zero_le, Nat.le_refl]
      rw [hc1]
      exact cart 0 (Nat.zero_le _)
    · intro p hp ih
      have l2 := o_cn0_le (P := fun p => o_did a p m != 0) p
      have hd := (o_pp g.w hp hm).2.2.2
      rw [o_cn0] at ih
      refine d165_17 g.l ⟨t, g.tw, g.T, ?_⟩
      rw [g.1.np]
      try simp (disch := omega) only [n_lit, n_m, n_add, n_mul, n_div, n_mod, n_cl, n_lt, n_le, n_eq, n_in, n_eqm, n_meq, n_mlt, n_ltm, n_mle, n_lem, not_true_eq_false, not_false_eq_true, true_implies, false_implies, true_and, and_true, Nat.not_lt_zero, Nat.zero_le]
      refine ⟨fun q => by omega, fun _ => c6 g.1 hp hm ⟨_, rfl, d165_41 g.l ?_⟩⟩
      try simp (disch := omega) only [n_lit, n_m, n_add, n_mul, n_div, n_mod, n_cl, n_lt, n_le, n_eq, n_in, n_eqm, n_meq, n_mlt, n_ltm, n_mle, n_lem, not_true_eq_false, not_false_eq_true, true_implies, false_implies, true_and, and_true, Nat.not_lt_zero, Nat.zero_le]
      refine ⟨fun e => d165_49 g.l ?_, fun e => d165_49 g.l ?_⟩
      · try simp (disch := omega) only [n_lit, n_m, n_add, n_mul, n_div, n_mod, n_cl, n_lt, n_le, n_eq, n_in, n_eqm, n_meq, n_mlt, n_ltm, n_mle, n_lem, not_true_eq_false, not_false_eq_true, true_implies, false_implies, true_and, and_true, Nat.not_lt_zero, Nat.zero_le]
        rw [if_neg (by simp [e])] at ih
        exact ih
      · try simp (disch := omega) only [n_lit, n_m, n_add, n_mul, n_div, n_mod, n_cl, n_lt, n_le, n_eq, n_in, n_eqm, n_meq, n_mlt, n_ltm, n_mle, n_lem, not_true_eq_false, not_false_eq_true, true_implies, false_implies, true_and, and_true, Nat.not_lt_zero, Nat.zero_le]
        rw [if_pos (by simpa using e)] at ih
        exact ih
  try simp (disch := omega) only [n_lit, n_m, n_add, n_mul, n_div, n_mod, n_cl, n_lt, n_le, n_eq, n_in, n_eqm, n_meq, n_mlt, n_ltm, n_mle, n_lem, not_true_eq_false, not_false_eq_true, true_implies, false_implies, true_and, and_true, Nat.not_lt_zero, Nat.zero_le]
  exact pers 0 (Nat.zero_le _)
theorem o_any_t {p m : Nat} : o_any a p m = true ↔ (∃ q, q < a 5 ∧ q ≠ p ∧ 0 < o_wt a p q m) ∨ ∃ k, k < a 3 ∧ o_cart a k m ≠ o_cart a k (m - 1) ∧ o_sees a p (o_cart a k m) m = true := by
  unfold o_any
  simp [List.any_eq_true, List.mem_range]
theorem c15 (g : i_CO a t h) {p m : Nat} (hp : p < a 5) (hm : 1 ≤ m ∧ m ≤ 60) (H : ∀ h2 : iH, i_CO a t h2 → i_Fr [99, 100, 106, 107] [] h h2 → Q (some (.int (i_bo (o_any a p m = true)))) h2) : i_C i_MT i_AT L xs 15 [.ref 95, .int (i_n p), .int (i_n m)] h Q := by
  have h5 := g.w.2.2.2.2.1
  have h3 := g.w.2.2.1
  have h48 := g.w.c48
  have yes : o_any a p m = true → ∀ h2 : iH, i_CO a t h2 → i_Fr [99, 100, 106, 107] [] h h2 → Q (some (.int 1)) h2 := by
    intro e h2 g2 f2
    have := H h2 g2 f2
    rw [i_bo_t e] at this
    exact this
  have cart : ∀ k, k ≤ a 3 → (∀ i, i < k → ¬ (o_cart a i m ≠ o_cart a i (m - 1) ∧ o_sees a p (o_cart a i m) m = true)) → (∀ q, q < a 5 → q ≠ p → o_wt a p q m = 0) → ∀ h1, i_CO a t h1 → i_Fr [99, 100, 106, 107] [] h h1 → i_P i_MT i_AT L xs 15 41 [some (.ref 95), some (.int (i_n p)), some (.int (i_n m)), some (.int (i_n k))] [] h1 0 0 Q := by
    refine l_up ?_ ?_
    · intro hj hq h1 g1 f1
      refine d15_41 g1.l ⟨t, g1.tw, g1.T, ?_⟩
      rw [g1.nc]
      try simp (disch := omega) only [n_lit, n_m, n_add, n_mul, n_div, n_mod, n_cl, n_lt, n_le, n_eq, n_in, n_eqm, n_meq, n_mlt, n_ltm, n_mle, n_lem, not_true_eq_false, not_false_eq_true, true_implies, false_implies, true_and, and_true, Nat.not_lt_zero, Nat.zero_le, Nat.le_refl]
      have := H h1 g1 f1
      rw [i_bo_f (by
        rw [o_any_t]
        rintro (⟨q, z1, z2, z3⟩ | ⟨k, z1, z2, z3⟩)
        · have := hq q z1 z2; omega
        · exact hj k z1 ⟨z2, z3⟩)] at this
      exact this
    · intro k hk ih hj hq h1 g1 f1
      have hcl := o_cart_ok g.w hk m
      have nx : ¬ (o_cart a k m ≠ o_cart a k (m - 1) ∧ o_sees a p (o_cart a k m) m = true) → ∀ h2, i_CO a t h2 → i_Fr [99, 100, 106, 107] [] h h2 → i_P i_MT i_AT L xs 15 81 [some (.ref 95), some (.int (i_n p)), some (.int (i_n m)), some (.int (i_n k))] [] h2 0 0 Q := by
        intro e h2 g2 f2
        refine d15_81 g2.l ?_
        try simp (disch := omega) only [n_lit, n_m, n_add, n_mul, n_div, n_mod, n_cl, n_lt, n_le, n_eq, n_in, n_eqm, n_meq, n_mlt, n_ltm, n_mle, n_lem, not_true_eq_false, not_false_eq_true, true_implies, false_implies, true_and, and_true, Nat.not_lt_zero, Nat.zero_le]
        refine ih (fun i q2 => ?_) hq h2 g2 f2
        by_cases ei : i = k
        · subst ei; exact e
        · exact hj i (by omega)
      refine d15_41 g1.l ⟨t, g1.tw, g1.T, ?_⟩
      rw [g1.nc]
      try simp (disch := omega) only [n_lit, n_m, n_add, n_mul, n_div, n_mod, n_cl, n_lt, n_le, n_eq, n_in, n_eqm, n_meq, n_mlt, n_ltm, n_mle, n_lem, not_true_eq_false, not_false_eq_true, true_implies, false_implies, true_and, and_true, Nat.not_lt_zero, Nat.zero_le]
      refine ⟨fun q => by omega, fun _ => c8 g1 hk hm ⟨_, rfl, d15_58 g1.l ?_⟩⟩
      rw [i_bo_0, Classical.not_not]
      refine ⟨fun e => nx (fun z => z.1 e) h1 g1 f1, fun e => c10 g1 hp hm.2 (fun s h2 hs g2 f2 => ⟨_, rfl, d15_67 g2.l (c7 g2 hk hm.2 ⟨_, rfl, d15_73 g2.l (c193 (by omega) ⟨_, rfl, d15_76 g2.l ?_⟩)⟩)⟩)⟩
      rw [i_bo_0, Classical.not_not, hs.b hcl (by omega)]
      exact ⟨fun e2 => nx (fun z => e2 z.2) h2 g2 (f1.trans f2), fun e2 => yes (o_any_t.mpr (Or.inr ⟨k, hk, e, e2⟩)) h2 g2 (f1.trans f2)⟩
  have pers : ∀ q, q ≤ a 5 → (∀ i, i < q → i ≠ p → o_wt a p i m = 0) → ∀ h1, i_CO a t h1 → i_Fr [99, 100, 106, 107] [] h h1 → i_P i_MT i_AT L xs 15 2 [some (.ref 95), some (.int (i_n p)), some (.int (i_n m)), some (.int (i_n q))] [] h1 0 0 Q := by
    refine l_up ?_ ?_
    · intro hj h1 g1 f1
      refine d15_2 g1.l ⟨t, g1.tw, g1.T, ?_⟩
      rw [g1.np]
      try simp (disch := omega) only [n_lit, n_m, n_add, n_mul, n_div, n_mod, n_cl, n_lt, n_le, n_eq, n_in, n_eqm, n_meq, n_mlt, n_ltm, n_mle, n_lem, not_true_eq_false, not_false_eq_true, true_implies, false_implies, true_and, and_true, Nat.not_lt_zero, Nat.zero_le, Nat.le_refl]
      exact cart 0 (Nat.zero_le _) (fun i q => by omega) hj h1 g1 f1
    · intro q hq ih hj h1 g1 f1
      have hw := o_wt_le g.w (p := p) (q := q) (m := m) hq hm.2
      have nx : (q ≠ p → o_wt a p q m = 0) → ∀ h2, i_CO a t h2 → i_Fr [99, 100, 106, 107] [] h h2 → i_P i_MT i_AT L xs 15 33 [some (.ref 95), some (.int (i_n p)), some (.int (i_n m)), some (.int (i_n q))] [] h2 0 0 Q := by
        intro e h2 g2 f2
        refine d15_33 g2.l ?_
        try simp (disch := omega) only [n_lit, n_m, n_add, n_mul, n_div, n_mod, n_cl, n_lt, n_le, n_eq, n_in, n_eqm, n_meq, n_mlt, n_ltm, n_mle, n_lem, not_true_eq_false, not_false_eq_true, true_implies, false_implies, true_and, and_true, Nat.not_lt_zero, Nat.zero_le]
        refine ih (fun i q2 => ?_) h2 g2 f2
        by_cases ei : i = q
        · subst ei; exact e
        · exact hj i (by omega)
      refine d15_2 g1.l ⟨t, g1.tw, g1.T, ?_⟩
      rw [g1.np]
      try simp (disch := omega) only [n_lit, n_m, n_add, n_mul, n_div, n_mod, n_cl, n_lt, n_le, n_eq, n_in, n_eqm, n_meq, n_mlt, n_ltm, n_mle, n_lem, not_true_eq_false, not_false_eq_true, true_implies, false_implies, true_and, and_true, Nat.not_lt_zero, Nat.zero_le]
      refine ⟨fun z => by omega, fun _ => ⟨fun e => nx (fun z => absurd e z) h1 g1 f1, fun e => c12 g1 hp hq hm.2 (fun h2 g2 f2 => ⟨_, rfl, d15_28 g2.l ?_⟩)⟩⟩
      try simp (disch := omega) only [n_lit, n_m, n_add, n_mul, n_div, n_mod, n_cl, n_lt, n_le, n_eq, n_in, n_eqm, n_meq, n_mlt, n_ltm, n_mle, n_lem, not_true_eq_false, not_false_eq_true, true_implies, false_implies, true_and, and_true, Nat.not_lt_zero, Nat.zero_le]
      exact ⟨fun e2 => nx (fun _ => by omega) h2 g2 (f1.trans f2), fun e2 => yes (o_any_t.mpr (Or.inl ⟨q, hq, e, by omega⟩)) h2 g2 (f1.trans f2)⟩
  refine e15 (d15_0 g.l ?_)
  try simp (disch := omega) only [n_lit, n_m, n_add, n_mul, n_div, n_mod, n_cl, n_lt, n_le, n_eq, n_in, n_eqm, n_meq, n_mlt, n_ltm, n_mle, n_lem, not_true_eq_false, not_false_eq_true, true_implies, false_implies, true_and, and_true, Nat.not_lt_zero, Nat.zero_le]
  exact pers 0 (Nat.zero_le _) (fun i q => by omega) h g i_Fr.refl
theorem c166 (g : i_ST a t h) {x : Int32} (H : i_K0 a t h Q (o_goneA a x)) : i_C i_MT i_AT L xs 166 [.ref 0, .int x] h Q := by
  have h5 := g.w.2.2.2.2.1
  unfold o_goneA at H
  refine e166 (d166_0 g.l (c186 g ⟨_, rfl, d166_5 g.l ?_⟩))
  rw [i_bo_0, Classical.not_not]
  refine ⟨fun z => ?_, fun z => m179 g (fun h2 g2 f2 s2 => ⟨_, rfl, d166_13 g2.l (by rw [o_A_f z] at H; exact H h2 g2 f2 s2)⟩)⟩
  rw [o_A_t z] at H
  obtain ⟨p, hp, rfl⟩ := n_get z (by omega)
  rw [n_cl (by omega)] at H
  have key : ∀ k, k ≤ 61 → 1 ≤ k → ∀ h1, i_ST a t h1 → i_F0 h h1 → i_P i_MT i_AT L xs 166 18 [some (.ref 0), some (.int (i_n p)), some (.int (i_n (o_cnt (fun m => !o_any a p m) (k - 1)))), some (.int (i_n k))] [] h1 0 0 Q := by
    refine l_up ?_ ?_
    · intro _ h1 g1 f1
      refine d166_18 g1.l ?_
      try simp (disch := omega) only [n_lit, n_m, n_add, n_mul, n_div, n_mod, n_cl, n_lt, n_le, n_eq, n_in, n_eqm, n_meq, n_mlt, n_ltm, n_mle, n_lem, not_true_eq_false, not_false_eq_true, true_implies, false_implies, true_and, and_true, Nat.not_lt_zero, Nat.zero_le]
      exact ⟨fun _ => m181 g1 (fun h2 g2 f2 s2 => ⟨_, rfl, d166_55 g2.l (H h2 g2 (f1.trans f2) s2)⟩), fun z => absurd (by omega) z⟩
    · intro k hk ih hk1 h1 g1 f1
      have hl := o_cnt_le (P := fun m => !o_any a p m) (k - 1)
      refine d166_18 g1.l ?_
      try simp (disch := omega) only [n_lit, n_m, n_add, n_mul, n_div, n_mod, n_cl, n_lt, n_le, n_eq, n_in, n_eqm, n_meq, n_mlt, n_ltm, n_mle, n_lem, not_true_eq_false, not_false_eq_true, true_implies, false_implies, true_and, and_true, Nat.not_lt_zero, Nat.zero_le]
      refine ⟨fun q => by omega, fun _ => c15 g1.1 hp ⟨hk1, by omega⟩ (fun h2 g2 f2 => ?_)⟩
      have G2 := g1.co g2 f2
      have nx := ih (by omega) h2 G2 (f1.trans f2.z)
      rw [show k + 1 - 1 = (k - 1) + 1 by omega, o_cnt, show k - 1 + 1 = k by omega] at nx
      refine ⟨_, rfl, d166_34 G2.l ?_⟩
      try simp (disch := omega) only [n_lit, n_m, i_bo01, j_cmpn, Classical.not_not, n_add, n_mul, n_div, n_mod, n_cl, n_lt, n_le, n_eq, n_in, n_eqm, n_meq, n_mlt, n_ltm, n_mle, n_lem, not_true_eq_false, not_false_eq_true, true_implies, false_implies, true_and, and_true, Nat.not_lt_zero, Nat.zero_le]
      refine ⟨fun e => d166_42 G2.l ?_, fun e => d166_42 G2.l ?_⟩
      · try simp (disch := omega) only [n_lit, n_m, i_bo01, j_cmpn, Classical.not_not, n_add, n_mul, n_div, n_mod, n_cl, n_lt, n_le, n_eq, n_in, n_eqm, n_meq, n_mlt, n_ltm, n_mle, n_lem, not_true_eq_false, not_false_eq_true, true_implies, false_implies, true_and, and_true, Nat.not_lt_zero, Nat.zero_le]
        rw [if_pos (by simpa using e)] at nx
        exact nx
      · try simp (disch := omega) only [n_lit, n_m, i_bo01, j_cmpn, Classical.not_not, n_add, n_mul, n_div, n_mod, n_cl, n_lt, n_le, n_eq, n_in, n_eqm, n_meq, n_mlt, n_ltm, n_mle, n_lem, not_true_eq_false, not_false_eq_true, true_implies, false_implies, true_and, and_true, Nat.not_lt_zero, Nat.zero_le]
        rw [if_neg (by simp [e])] at nx
        exact nx
  try simp (disch := omega) only [n_lit, n_m, n_add, n_mul, n_div, n_mod, n_cl, n_lt, n_le, n_eq, n_in, n_eqm, n_meq, n_mlt, n_ltm, n_mle, n_lem, not_true_eq_false, not_false_eq_true, true_implies, false_implies, true_and, and_true, Nat.not_lt_zero, Nat.zero_le]
  exact key 1 (by omega) (Nat.le_refl 1) h g i_Fr.refl
theorem c167 (g : i_ST a t h) {x y : Int32} (H : i_K0 a t h Q (o_stdsA a x y)) : i_C i_MT i_AT L xs 167 [.ref 0, .int x, .int y] h Q := by
  have h5 := g.w.2.2.2.2.1
  have h48 := g.w.c48
  unfold o_stdsA at H
  have bad : ¬ (v_p a x ∧ v_t y) → ∀ u v : Option Value, i_P i_MT i_AT L xs 167 15 [some (.ref 0), some (.int x), some (.int y), u, v] [] h 0 0 Q := by
    intro z u v
    rw [o_A_f z] at H
    exact d167_15 g.l (m179 g (fun h2 g2 f2 s2 => ⟨_, rfl, d167_20 g2.l (H h2 g2 f2 s2)⟩))
  refine e167 (d167_0 g.l (c186 g ⟨_, rfl, d167_5 g.l ?_⟩))
  rw [i_bo_0, Classical.not_not]
  refine ⟨fun z => bad (fun q => z q.1) _ _, fun z => c190 ⟨_, rfl, d167_12 g.l ?_⟩⟩
  rw [i_bo_0, Classical.not_not]
  refine ⟨fun z2 => ?_, fun z2 => bad (fun q => z2 q.2) _ _⟩
  rw [o_A_t ⟨z, z2⟩] at H
  obtain ⟨p, hp, rfl⟩ := n_get z (by omega)
  obtain ⟨m, hm, rfl⟩ := n_gle (k := 60) z2 (by omega)
  rw [n_cl (by omega), n_cl (by omega)] at H
  have key : ∀ k, k ≤ a 5 → ∀ h1, i_ST a t h1 → i_F0 h h1 → i_P i_MT i_AT L xs 167 26 [some (.ref 0), some (.int (i_n p)), some (.int (i_n m)), some (.int (i_n (o_st (fun q => o_sees a p (o_cell a q m) m) k))), some (.int (i_n k))] [] h1 0 0 Q := by
    refine l_up ?_ ?_
    · intro h1 g1 f1
      refine d167_26 g1.l ⟨t, g1.tw, g1.T, ?_⟩
      rw [g1.1.np]
      try simp (disch := omega) only [n_lit, n_m, n_add, n_mul, n_div, n_mod, n_cl, n_lt, n_le, n_eq, n_in, n_eqm, n_meq, n_mlt, n_ltm, n_mle, n_lem, not_true_eq_false, not_false_eq_true, true_implies, false_implies, true_and, and_true, Nat.not_lt_zero, Nat.zero_le, Nat.le_refl]
      exact m181 g1 (fun h2 g2 f2 s2 => ⟨_, rfl, d167_84 g2.l (H h2 g2 (f1.trans f2) s2)⟩)
    · intro k hk ih h1 g1 f1
      have hk2 := o_pp g.w hk hm
      refine d167_26 g1.l ⟨t, g1.tw, g1.T, ?_⟩
      rw [g1.1.np]
      try simp (disch := omega) only [n_lit, n_m, n_add, n_mul, n_div, n_mod, n_cl, n_lt, n_le, n_eq, n_in, n_eqm, n_meq, n_mlt, n_ltm, n_mle, n_lem, not_true_eq_false, not_false_eq_true, true_implies, false_implies, true_and, and_true, Nat.not_lt_zero, Nat.zero_le]
      refine ⟨fun q => by omega, fun _ => c10 g1.1 hp hm (fun s h2 hs g2 f2 => ?_)⟩
      have G2 := g1.co g2 f2
      have nx := ih h2 G2 (f1.trans f2.z)
      rw [o_st] at nx
      refine ⟨_, rfl, d167_50 G2.l (c4 g2 hk hm ⟨_, rfl, d167_60 G2.l (c193 (by omega) ⟨_, rfl, d167_63 G2.l ?_⟩)⟩)⟩
      rw [i_bo_0, Classical.not_not, hs.b hk2.1 (by omega)]
      refine ⟨fun e => d167_73 G2.l ?_, fun e => d167_73 G2.l ?_⟩
      · try simp (disch := omega) only [n_lit, n_m, n_add, n_mul, n_div, n_mod, n_cl, n_lt, n_le, n_eq, n_in, n_eqm, n_meq, n_mlt, n_ltm, n_mle, n_lem, not_true_eq_false, not_false_eq_true, true_implies, false_implies, true_and, and_true, Nat.not_lt_zero, Nat.zero_le]
        rw [if_neg e] at nx
        exact nx
      · try simp (disch := omega) only [n_lit, n_m, n_add, n_mul, n_div, n_mod, n_cl, n_lt, n_le, n_eq, n_in, n_eqm, n_meq, n_mlt, n_ltm, n_mle, n_lem, not_true_eq_false, not_false_eq_true, true_implies, false_implies, true_and, and_true, Nat.not_lt_zero, Nat.zero_le, n_and, n_shl2, n_or]
        rw [if_pos e] at nx
        exact nx
  try simp (disch := omega) only [n_lit, n_m, n_add, n_mul, n_div, n_mod, n_cl, n_lt, n_le, n_eq, n_in, n_eqm, n_meq, n_mlt, n_ltm, n_mle, n_lem, not_true_eq_false, not_false_eq_true, true_implies, false_implies, true_and, and_true, Nat.not_lt_zero, Nat.zero_le]
  exact key 0 (Nat.zero_le _) h g i_Fr.refl
theorem c168 (g : i_ST a t h) {x y : Int32} (H : i_K0 a t h Q (o_stodA a x y)) : i_C i_MT i_AT L xs 168 [.ref 0, .int x, .int y] h Q := by
  have h5 := g.w.2.2.2.2.1
  unfold o_stodA at H
  refine e168 (d168_0 g.l (c187 g ⟨_, rfl, d168_6 g.l ?_⟩))
  rw [i_bo_0, Classical.not_not]
  refine ⟨fun z => ?_, fun z => m179 g (fun h2 g2 f2 s2 => ⟨_, rfl, d168_14 g2.l (by rw [o_A_f z] at H; exact H h2 g2 f2 s2)⟩)⟩
  rw [o_A_t z] at H
  obtain ⟨p, hp, rfl⟩ := n_get z.1 (by omega)
  obtain ⟨q, hq, rfl⟩ := n_get z.2.1 (by omega)
  rw [n_cl (by omega), n_cl (by omega)] at H
  have key : ∀ k, k ≤ 61 → 1 ≤ k → ∀ h1, i_ST a t h1 → i_F0 h h1 → i_P i_MT i_AT L xs 168 23 [some (.ref 0), some (.int (i_n p)), some (.int (i_n q)), some (.int (i_n (o_run (fun m => o_near a p q m) (k - 1)).1)), some (.int (i_n (o_run (fun m => o_near a p q m) (k - 1)).2)), some (.int (i_n k))] [] h1 0 0 Q := by
    refine l_up ?_ ?_
    · intro _ h1 g1 f1
      refine d168_23 g1.l ?_
      try simp (disch := omega) only [n_lit, n_m, n_add, n_mul, n_div, n_mod, n_cl, n_lt, n_le, n_eq, n_in, n_eqm, n_meq, n_mlt, n_ltm, n_mle, n_lem, not_true_eq_false, not_false_eq_true, true_implies, false_implies, true_and, and_true, Nat.not_lt_zero, Nat.zero_le]
      exact ⟨fun _ => m181 g1 (fun h2 g2 f2 s2 => ⟨_, rfl, d168_72 g2.l (H h2 g2 (f1.trans f2) s2)⟩), fun z => absurd (by omega) z⟩
    · intro k hk ih hk1 h1 g1 f1
      have hl := o_run_le (P := fun m => o_near a p q m) (k - 1)
      refine d168_23 g1.l ?_
      try simp (disch := omega) only [n_lit, n_m, n_add, n_mul, n_div, n_mod, n_cl, n_lt, n_le, n_eq, n_in, n_eqm, n_meq, n_mlt, n_ltm, n_mle, n_lem, not_true_eq_false, not_false_eq_true, true_implies, false_implies, true_and, and_true, Nat.not_lt_zero, Nat.zero_le]
      refine ⟨fun q => by omega, fun _ => c13 g1.1 hp hq (by omega) (fun h2 g2 f2 => ?_)⟩
      have G2 := g1.co g2 f2
      have nx := ih (by omega) h2 G2 (f1.trans f2.z)
      rw [show k + 1 - 1 = (k - 1) + 1 by omega, o_run, show k - 1 + 1 = k by omega] at nx
      refine ⟨_, rfl, d168_41 G2.l ?_⟩
      try simp (disch := omega) only [n_lit, n_m, i_bo01, j_cmpn, Classical.not_not, n_add, n_mul, n_div, n_mod, n_cl, n_lt, n_le, n_eq, n_in, n_eqm, n_meq, n_mlt, n_ltm, n_mle, n_lem, not_true_eq_false, not_false_eq_true, true_implies, false_implies, true_and, and_true, Nat.not_lt_zero, Nat.zero_le]
      refine ⟨fun e => d168_52 G2.l ?_, fun e => d168_52 G2.l ?_⟩
      · try simp (disch := omega) only [n_lit, n_m, i_bo01, j_cmpn, Classical.not_not, n_add, n_mul, n_div, n_mod, n_cl, n_lt, n_le, n_eq, n_in, n_eqm, n_meq, n_mlt, n_ltm, n_mle, n_lem, not_true_eq_false, not_false_eq_true, true_implies, false_implies, true_and, and_true, Nat.not_lt_zero, Nat.zero_le]
        rw [if_neg (by unfold o_near; simp; omega)] at nx
        refine c336n (by omega) (by omega) ⟨_, rfl, d168_60 G2.l ?_⟩
        try simp (disch := omega) only [n_lit, n_m, i_bo01, j_cmpn, Classical.not_not, n_add, n_mul, n_div, n_mod, n_cl, n_lt, n_le, n_eq, n_in, n_eqm, n_meq, n_mlt, n_ltm, n_mle, n_lem, not_true_eq_false, not_false_eq_true, true_implies, false_implies, true_and, and_true, Nat.not_lt_zero, Nat.zero_le]
        exact nx
      · try simp (disch := omega) only [n_lit, n_m, i_bo01, j_cmpn, Classical.not_not, n_add, n_mul, n_div, n_mod, n_cl, n_lt, n_le, n_eq, n_in, n_eqm, n_meq, n_mlt, n_ltm, n_mle, n_lem, not_true_eq_false, not_false_eq_true, true_implies, false_implies, true_and, and_true, Nat.not_lt_zero, Nat.zero_le]
        rw [if_pos (by unfold o_near; simp; omega)] at nx
        refine c336n (by omega) (by omega) ⟨_, rfl, d168_60 G2.l ?_⟩
        try simp (disch := omega) only [n_lit, n_m, i_bo01, j_cmpn, Classical.not_not, n_add, n_mul, n_div, n_mod, n_cl, n_lt, n_le, n_eq, n_in, n_eqm, n_meq, n_mlt, n_ltm, n_mle, n_lem, not_true_eq_false, not_false_eq_true, true_implies, false_implies, true_and, and_true, Nat.not_lt_zero, Nat.zero_le]
        exact nx
  try simp (disch := omega) only [n_lit, n_m, n_add, n_mul, n_div, n_mod, n_cl, n_lt, n_le, n_eq, n_in, n_eqm, n_meq, n_mlt, n_ltm, n_mle, n_lem, not_true_eq_false, not_false_eq_true, true_implies, false_implies, true_and, and_true, Nat.not_lt_zero, Nat.zero_le]
  exact key 1 (by omega) (Nat.le_refl 1) h g i_Fr.refl
theorem c170 (g : i_ST a t h) {x y z : Int32} (H : i_K0 a t h Q (o_sgnA a x y z)) : i_C i_MT i_AT L xs 170 [.ref 0, .int x, .int y, .int z] h Q := by
  have h5 := g.w.2.2.2.2.1
  unfold o_sgnA at H
  have bad : ¬ (v_2 a x y ∧ 0 ≤ z ∧ z ≤ 999999) → ∀ u v w : Option Value, i_P i_MT i_AT L xs 170 20 [some (.ref 0), some (.int x), some (.int y), some (.int z), u, v, w] [] h 0 0 Q := by
    intro z u v w
    rw [o_A6_f z] at H
    exact d170_20 g.l (m179 g (fun h2 g2 f2 s2 => ⟨_, rfl, d170_25 g2.l (H h2 g2 f2 s2)⟩))
  refine e170 (d170_0 g.l (c187 g ⟨_, rfl, d170_6 g.l ?_⟩))
  rw [i_bo_0, Classical.not_not]
  refine ⟨fun zz => bad (fun q => zz q.1) _ _ _, fun zz => c192 ⟨_, rfl, d170_17 g.l ?_⟩⟩
  rw [i_bo_0, Classical.not_not]
  refine ⟨fun z2 => ⟨t, g.tw, g.T, ?_⟩, fun z2 => bad (fun q => z2 q.2) _ _ _⟩
  have hV : v_2 a x y ∧ 0 ≤ z ∧ z ≤ 999999 := ⟨zz, z2⟩
  obtain ⟨p, hp, rfl⟩ := n_get zz.1 (by omega)
  obtain ⟨q, hq, rfl⟩ := n_get zz.2.1 (by omega)
  obtain ⟨f, hf, rfl⟩ := n_gle (k := 999999) z2 (by omega)
  rw [n_cl (by omega), n_cl (by omega), n_cl (by omega)] at H
  have hcell := (g.w.2.2.2.2.2.2.2.2.2.2.1 p hp).1
  have h48 := g.w.c48
  have hC := (g.ct.2.2.2.2.2.2.2.1.2 p hp).1
  generalize a (154 + 5 * p) = c at H hcell hC
  have key : ∀ k, k ≤ 61 → 1 ≤ k → (∀ i, 1 ≤ i → i < k → decide (o_lft (fun m => o_wgh a q c 4 m) i ≤ f) = false) → ∀ h1, i_ST a t h1 → i_F0 h h1 → i_P i_MT i_AT L xs 170 48 [some (.ref 0), some (.int (i_n p)), some (.int (i_n q)), some (.int (i_n f)), some (.int (i_n c)), some (.int (i_n (o_lft (fun m => o_wgh a q c 4 m) (k - 1)))), some (.int (i_n k))] [] h1 0 0 Q := by
    refine l_up ?_ ?_
    · intro _ hj h1 g1 f1
      refine d170_48 g1.l ?_
      try simp (disch := omega) only [n_lit, n_m, n_add, n_mul, n_div, n_mod, n_cl, n_lt, n_le, n_eq, n_in, n_eqm, n_meq, n_mlt, n_ltm, n_mle, n_lem, not_true_eq_false, not_false_eq_true, true_implies, false_implies, true_and, and_true, Nat.not_lt_zero, Nat.zero_le]
      rw [o_A6_n hV (o_lst_n 60 1 (fun i q1 q2 => hj i q1 (by omega)))] at H
      exact ⟨fun _ => m179 g1 (fun h2 g2 f2 s2 => ⟨_, rfl, d170_100 g2.l (H h2 g2 (f1.trans f2) s2)⟩), fun z => absurd (by omega) z⟩
    · intro k hk ih hk1 hj h1 g1 f1
      have hw := o_wgh_le g.w (p := q) (c := c) (d := 4) (m := k) (by omega) (by omega)
      have hl := o_lft_le (w := fun m => o_wgh a q c 4 m) (k - 1)
      have hml : o_lft (fun m => o_wgh a q c 4 m) (k - 1) * (16 - o_wgh a q c 4 k) ≤ 1000000 * 16 := Nat.mul_le_mul hl (by omega)
      refine d170_48 g1.l ?_
      try simp (disch := omega) only [n_lit, n_m, n_add, n_mul, n_div, n_mod, n_cl, n_lt, n_le, n_eq, n_in, n_eqm, n_meq, n_mlt, n_ltm, n_mle, n_lem, not_true_eq_false, not_false_eq_true, true_implies, false_implies, true_and, and_true, Nat.not_lt_zero, Nat.zero_le]
      refine ⟨fun q => by omega, fun _ => c11 g1.1 hq hcell (by omega) (by omega) (fun h2 g2 f2 => ?_)⟩
      have G2 := g1.co g2 f2
      have e : o_lft (fun m => o_wgh a q c 4 m) k = o_lft (fun m => o_wgh a q c 4 m) (k - 1) * (16 - o_wgh a q c 4 k) / 16 := by
        obtain ⟨d, rfl⟩ : ∃ d, k = d + 1 := ⟨k - 1, by omega⟩
        rfl
      refine ⟨_, rfl, d170_70 G2.l (c194 ⟨_, rfl, d170_73 G2.l ?_⟩)⟩
      try simp (disch := omega) only [n_lit, n_m, n_add, n_mul, n_div, n_mod, n_cl, n_lt, n_le, n_eq, n_in, n_eqm, n_meq, n_mlt, n_ltm, n_mle, n_lem, not_true_eq_false, not_false_eq_true, true_implies, false_implies, true_and, and_true, Nat.not_lt_zero, Nat.zero_le, n_sub]
      rw [← e]
      have hl2 := o_lft_le (w := fun m => o_wgh a q c 4 m) k
      try simp (disch := omega) only [n_lit, n_m, n_add, n_mul, n_div, n_mod, n_cl, n_lt, n_le, n_eq, n_in, n_eqm, n_meq, n_mlt, n_ltm, n_mle, n_lem, not_true_eq_false, not_false_eq_true, true_implies, false_implies, true_and, and_true, Nat.not_lt_zero, Nat.zero_le]
      refine ⟨fun e2 => ?_, fun e2 => m181 G2 (fun h3 g3 f3 s3 => ⟨_, rfl, d170_87 g3.l ?_⟩)⟩
      · have nx := ih (by omega) (fun i q1 q2 => ?_) h2 G2 (f1.trans f2.z)
        · rw [show k + 1 - 1 = k by omega] at nx
          exact nx
        · by_cases ei : i = k
          · subst ei; simp; omega
          · exact hj i q1 (by omega)
      · rw [o_A6_t hV (o_lst_s (j := k) (by simp; omega) 60 1 (by omega) (by omega) hj)] at H
        exact H h3 g3 ((f1.trans f2.z).trans f3) s3
  rw [n_cl (by omega), n_in (by omega), hC]
  try simp (disch := omega) only [n_lit, n_m, n_add, n_mul, n_div, n_mod, n_cl, n_lt, n_le, n_eq, n_in, n_eqm, n_meq, n_mlt, n_ltm, n_mle, n_lem, not_true_eq_false, not_false_eq_true, true_implies, false_implies, true_and, and_true, Nat.not_lt_zero, Nat.zero_le]
  exact ⟨by omega, key 1 (by omega) (Nat.le_refl 1) (fun i q1 q2 => by omega) h g i_Fr.refl⟩
end
