/-! THE CLASS: questions over the minutes -/
section
variable {L : Nat} {xs : Nat → Int32} {h : iH} {Q : Option Value → iH → Prop} {a : Nat → Nat} {t : Nat}
set_option maxRecDepth 20000
theorem j_i2l {v k : Nat} (hv : v < 2147483648) (hk : k < 64) : i_b ((i_n v).toInt64) k = v.testBit k := by
  unfold i_b
  have hm : (BitVec.ofNat 32 v).msb = false := by
    rw [BitVec.msb_eq_decide, BitVec.toNat_ofNat]
    simp
    omega
  rw [Int32.toBitVec_toInt64, n_bv, BitVec.getLsbD_signExtend, hm, BitVec.getLsbD_ofNat]
  by_cases h1 : k < 32
  · simp [h1, hk]
  · have : v.testBit k = false := Nat.testBit_lt_two_pow (Nat.lt_of_lt_of_le hv (Nat.pow_le_pow_right (n := 2) (i := 31) (j := k) (by omega) (by omega)))
    simp [h1, this]
theorem i_Fr.t4 {h2 h3 : iH} (f : i_Fr [99, 100, 106, 107] [] h h2) (f2 : i_Fr [99, 100, 106, 107] [] h2 h3) : i_Fr [99, 100, 106, 107] [] h h3 := f.trans f2
theorem c151 (g : i_ST a t h) {x y z : Int32} (H : i_K0 a t h Q (o_unsA a x y z)) : i_C i_MT i_AT L xs 151 [.ref 0, .int x, .int y, .int z] h Q := by
  have h5 := g.w.2.2.2.2.1
  unfold o_unsA at H
  have bad : ¬ (v_2 a x y ∧ v_t z) → ∀ u v : Option Value, i_P i_MT i_AT L xs 151 16 [some (.ref 0), some (.int x), some (.int y), some (.int z), u, v] [] h 0 0 Q := by
    intro z u v
    rw [o_A_f z] at H
    exact d151_16 g.l (m179 g (fun h2 g2 f2 s2 => ⟨_, rfl, d151_21 g2.l (H h2 g2 f2 s2)⟩))
  refine e151 (d151_0 g.l (c187 g ⟨_, rfl, d151_6 g.l ?_⟩))
  rw [i_bo_0, Classical.not_not]
  refine ⟨fun z => bad (fun q => z q.1) _ _, fun z => c190 ⟨_, rfl, d151_13 g.l ?_⟩⟩
  rw [i_bo_0, Classical.not_not]
  refine ⟨fun z2 => ?_, fun z2 => bad (fun q => z2 q.2) _ _⟩
  rw [o_A_t ⟨z, z2⟩] at H
  obtain ⟨p, hp, rfl⟩ := n_get z.1 (by omega)
  obtain ⟨q, hq, rfl⟩ := n_get z.2.1 (by omega)
  obtain ⟨m, hm, rfl⟩ := n_gle (k := 60) z2 (by omega)
  rw [n_cl (by omega), n_cl (by omega), n_cl (by omega)] at H
  have key : ∀ k, k ≤ m + 1 → 1 ≤ k → ∀ h1, i_ST a t h1 → i_F0 h h1 → i_P i_MT i_AT L xs 151 30 [some (.ref 0), some (.int (i_n p)), some (.int (i_n q)), some (.int (i_n m)), some (.int (i_n (o_lft (fun m => o_wt a q p m) (k - 1)))), some (.int (i_n k))] [] h1 0 0 Q := by
    refine l_up ?_ ?_
    · intro _ h1 g1 f1
      refine d151_30 g1.l ?_
      try simp (disch := omega) only [n_lit, n_m, n_add, n_mul, n_div, n_mod, n_cl, n_lt, n_le, n_eq, n_in, n_eqm, n_meq, n_mlt, n_ltm, n_mle, n_lem, not_true_eq_false, not_false_eq_true, true_implies, false_implies, true_and, and_true, Nat.not_lt_zero, Nat.zero_le, Nat.lt_succ_self]
      exact m181 g1 (fun h2 g2 f2 s2 => ⟨_, rfl, d151_66 g2.l (H h2 g2 (f1.trans f2) s2)⟩)
    · intro k hk ih hk1 h1 g1 f1
      have hw := o_wt_le g.w (p := q) (q := p) (m := k) hp (by omega)
      have hl := o_lft_le (w := fun m => o_wt a q p m) (k - 1)
      refine d151_30 g1.l ?_
      try simp (disch := omega) only [n_lit, n_m, n_add, n_mul, n_div, n_mod, n_cl, n_lt, n_le, n_eq, n_in, n_eqm, n_meq, n_mlt, n_ltm, n_mle, n_lem, not_true_eq_false, not_false_eq_true, true_implies, false_implies, true_and, and_true, Nat.not_lt_zero, Nat.zero_le]
      refine ⟨fun q => by omega, fun _ => c12 g1.1 hq hp (by omega) (fun h2 g2 f2 => ?_)⟩
      have G2 := g1.co g2 f2
      refine ⟨_, rfl, d151_49 G2.l (c194 ⟨_, rfl, d151_52 G2.l ?_⟩)⟩
      have hml : o_lft (fun m => o_wt a q p m) (k - 1) * (16 - o_wt a q p k) ≤ 1000000 * 16 := Nat.mul_le_mul hl (by omega)
      try simp (disch := omega) only [n_lit, n_m, n_add, n_mul, n_div, n_mod, n_cl, n_lt, n_le, n_eq, n_in, n_eqm, n_meq, n_mlt, n_ltm, n_mle, n_lem, not_true_eq_false, not_false_eq_true, true_implies, false_implies, true_and, and_true, Nat.not_lt_zero, Nat.zero_le, n_sub]
      have := ih (by omega) h2 G2 (f1.trans f2.z)
      rw [show k + 1 - 1 = (k - 1) + 1 by omega, o_lft, show k - 1 + 1 = k by omega] at this
      exact this
  try simp (disch := omega) only [n_lit, n_m, n_add, n_mul, n_div, n_mod, n_cl, n_lt, n_le, n_eq, n_in, n_eqm, n_meq, n_mlt, n_ltm, n_mle, n_lem, not_true_eq_false, not_false_eq_true, true_implies, false_implies, true_and, and_true, Nat.not_lt_zero, Nat.zero_le]
  exact key 1 (by omega) (Nat.le_refl 1) h g i_Fr.refl
theorem c152 (g : i_ST a t h) {x y z : Int32} (H : i_K0 a t h Q (o_nearA a x y z)) : i_C i_MT i_AT L xs 152 [.ref 0, .int x, .int y, .int z] h Q := by
  have h5 := g.w.2.2.2.2.1
  unfold o_nearA at H
  have bad : ¬ (v_2 a x y ∧ v_t z) → ∀ u v : Option Value, i_P i_MT i_AT L xs 152 16 [some (.ref 0), some (.int x), some (.int y), some (.int z), u, v] [] h 0 0 Q := by
    intro z u v
    rw [o_A_f z] at H
    exact d152_16 g.l (m179 g (fun h2 g2 f2 s2 => ⟨_, rfl, d152_21 g2.l (H h2 g2 f2 s2)⟩))
  refine e152 (d152_0 g.l (c187 g ⟨_, rfl, d152_6 g.l ?_⟩))
  rw [i_bo_0, Classical.not_not]
  refine ⟨fun z => bad (fun q => z q.1) _ _, fun z => c190 ⟨_, rfl, d152_13 g.l ?_⟩⟩
  rw [i_bo_0, Classical.not_not]
  refine ⟨fun z2 => ?_, fun z2 => bad (fun q => z2 q.2) _ _⟩
  rw [o_A_t ⟨z, z2⟩] at H
  obtain ⟨p, hp, rfl⟩ := n_get z.1 (by omega)
  obtain ⟨q, hq, rfl⟩ := n_get z.2.1 (by omega)
  obtain ⟨m, hm, rfl⟩ := n_gle (k := 60) z2 (by omega)
  rw [n_cl (by omega), n_cl (by omega), n_cl (by omega)] at H
  have key : ∀ k, k ≤ m + 1 → 1 ≤ k → ∀ h1, i_ST a t h1 → i_F0 h h1 → i_P i_MT i_AT L xs 152 28 [some (.ref 0), some (.int (i_n p)), some (.int (i_n q)), some (.int (i_n m)), some (.int (i_n (o_cnt (fun m => o_near a p q m) (k - 1)))), some (.int (i_n k))] [] h1 0 0 Q := by
    refine l_up ?_ ?_
    · intro _ h1 g1 f1
      refine d152_28 g1.l ?_
      try simp (disch := omega) only [n_lit, n_m, n_add, n_mul, n_div, n_mod, n_cl, n_lt, n_le, n_eq, n_in, n_eqm, n_meq, n_mlt, n_ltm, n_mle, n_lem, not_true_eq_false, not_false_eq_true, true_implies, false_implies, true_and, and_true, Nat.not_lt_zero, Nat.zero_le, Nat.lt_succ_self]
      exact m181 g1 (fun h2 g2 f2 s2 => ⟨_, rfl, d152_70 g2.l (H h2 g2 (f1.trans f2) s2)⟩)
    · intro k hk ih hk1 h1 g1 f1
      have hl := o_cnt_le (P := fun m => o_near a p q m) (k - 1)
      refine d152_28 g1.l ?_
      try simp (disch := omega) only [n_lit, n_m, n_add, n_mul, n_div, n_mod, n_cl, n_lt, n_le, n_eq, n_in, n_eqm, n_meq, n_mlt, n_ltm, n_mle, n_lem, not_true_eq_false, not_false_eq_true, true_implies, false_implies, true_and, and_true, Nat.not_lt_zero, Nat.zero_le]
      refine ⟨fun q => by omega, fun _ => c13 g1.1 hp hq (by omega) (fun h2 g2 f2 => ?_)⟩
      have G2 := g1.co g2 f2
      have nx := ih (by omega) h2 G2 (f1.trans f2.z)
      rw [show k + 1 - 1 = (k - 1) + 1 by omega, o_cnt, show k - 1 + 1 = k by omega] at nx
      refine ⟨_, rfl, d152_47 G2.l ?_⟩
      try simp (disch := omega) only [n_lit, n_m, i_bo01, j_cmpn, Classical.not_not, n_add, n_mul, n_div, n_mod, n_cl, n_lt, n_le, n_eq, n_in, n_eqm, n_meq, n_mlt, n_ltm, n_mle, n_lem, not_true_eq_false, not_false_eq_true, true_implies, false_implies, true_and, and_true, Nat.not_lt_zero, Nat.zero_le]
      refine ⟨fun e => d152_55 G2.l ?_, fun e => d152_55 G2.l ?_⟩
      · try simp (disch := omega) only [n_lit, n_m, i_bo01, j_cmpn, Classical.not_not, n_add, n_mul, n_div, n_mod, n_cl, n_lt, n_le, n_eq, n_in, n_eqm, n_meq, n_mlt, n_ltm, n_mle, n_lem, not_true_eq_false, not_false_eq_true, true_implies, false_implies, true_and, and_true, Nat.not_lt_zero, Nat.zero_le]
        rw [if_neg (by unfold o_near; simp; omega)] at nx
        exact nx
      · try simp (disch := omega) only [n_lit, n_m, i_bo01, j_cmpn, Classical.not_not, n_add, n_mul, n_div, n_mod, n_cl, n_lt, n_le, n_eq, n_in, n_eqm, n_meq, n_mlt, n_ltm, n_mle, n_lem, not_true_eq_false, not_false_eq_true, true_implies, false_implies, true_and, and_true, Nat.not_lt_zero, Nat.zero_le]
        rw [if_pos (by unfold o_near; simp; omega)] at nx
        exact nx
  try simp (disch := omega) only [n_lit, n_m, n_add, n_mul, n_div, n_mod, n_cl, n_lt, n_le, n_eq, n_in, n_eqm, n_meq, n_mlt, n_ltm, n_mle, n_lem, not_true_eq_false, not_false_eq_true, true_implies, false_implies, true_and, and_true, Nat.not_lt_zero, Nat.zero_le]
  exact key 1 (by omega) (Nat.le_refl 1) h g i_Fr.refl
theorem c153 (g : i_ST a t h) {x y z : Int32} (H : i_K0 a t h Q (o_fstA a x y z)) : i_C i_MT i_AT L xs 153 [.ref 0, .int x, .int y, .int z] h Q := by
  have h5 := g.w.2.2.2.2.1
  unfold o_fstA at H
  have bad : ¬ (v_2 a x y ∧ 1 ≤ z ∧ z ≤ 16) → ∀ u : Option Value, i_P i_MT i_AT L xs 153 19 [some (.ref 0), some (.int x), some (.int y), some (.int z), u] [] h 0 0 Q := by
    intro z u
    rw [o_A6_f z] at H
    exact d153_19 g.l (m179 g (fun h2 g2 f2 s2 => ⟨_, rfl, d153_24 g2.l (H h2 g2 f2 s2)⟩))
  refine e153 (d153_0 g.l (c187 g ⟨_, rfl, d153_6 g.l ?_⟩))
  rw [i_bo_0, Classical.not_not]
  refine ⟨fun zz => bad (fun q => zz q.1) _, fun zz => c192 ⟨_, rfl, d153_16 g.l ?_⟩⟩
  rw [i_bo_0, Classical.not_not]
  refine ⟨fun z2 => ?_, fun z2 => bad (fun q => z2 q.2) _⟩
  have hV : v_2 a x y ∧ 1 ≤ z ∧ z ≤ 16 := ⟨zz, z2⟩
  obtain ⟨p, hp, rfl⟩ := n_get zz.1 (by omega)
  obtain ⟨q, hq, rfl⟩ := n_get zz.2.1 (by omega)
  obtain ⟨f, hf1, hf, rfl⟩ := n_g1 (j := 1) (k := 16) z2 (by omega) (by omega)
  rw [n_cl (by omega), n_cl (by omega), n_cl (by omega)] at H
  have key : ∀ k, k ≤ 61 → 1 ≤ k → (∀ i, 1 ≤ i → i < k → decide (f ≤ o_wt a p q i) = false) → ∀ h1, i_ST a t h1 → i_F0 h h1 → i_P i_MT i_AT L xs 153 28 [some (.ref 0), some (.int (i_n p)), some (.int (i_n q)), some (.int (i_n f)), some (.int (i_n k))] [] h1 0 0 Q := by
    refine l_up ?_ ?_
    · intro _ hj h1 g1 f1
      refine d153_28 g1.l ?_
      try simp (disch := omega) only [n_lit, n_m, n_add, n_mul, n_div, n_mod, n_cl, n_lt, n_le, n_eq, n_in, n_eqm, n_meq, n_mlt, n_ltm, n_mle, n_lem, not_true_eq_false, not_false_eq_true, true_implies, false_implies, true_and, and_true, Nat.not_lt_zero, Nat.zero_le]
      rw [o_A6_n hV (o_lst_n 60 1 (fun i q1 q2 => hj i q1 (by omega)))] at H
      exact ⟨fun _ => m179 g1 (fun h2 g2 f2 s2 => ⟨_, rfl, d153_69 g2.l (H h2 g2 (f1.trans f2) s2)⟩), fun z => absurd (by omega) z⟩
    · intro k hk ih hk1 hj h1 g1 f1
      have hw := o_wt_le g.w (p := p) (q := q) (m := k) hq (by omega)
      refine d153_28 g1.l ?_
      try simp (disch := omega) only [n_lit, n_m, n_add, n_mul, n_div, n_mod, n_cl, n_lt, n_le, n_eq, n_in, n_eqm, n_meq, n_mlt, n_ltm, n_mle, n_lem, not_true_eq_false, not_false_eq_true, true_implies, false_implies, true_and, and_true, Nat.not_lt_zero, Nat.zero_le]
      refine ⟨fun q => by omega, fun _ => c12 g1.1 hp hq (by omega) (fun h2 g2 f2 => ?_)⟩
      have G2 := g1.co g2 f2
      refine ⟨_, rfl, d153_46 G2.l ?_⟩
      try simp (disch := omega) only [n_lit, n_m, n_add, n_mul, n_div, n_mod, n_cl, n_lt, n_le, n_eq, n_in, n_eqm, n_meq, n_mlt, n_ltm, n_mle, n_lem, not_true_eq_false, not_false_eq_true, true_implies, false_implies, true_and, and_true, Nat.not_lt_zero, Nat.zero_le]
      refine ⟨fun e => ih (by omega) (fun i q1 q2 => ?_) h2 G2 (f1.trans f2.z), fun e => m181 G2 (fun h3 g3 f3 s3 => ⟨_, rfl, d153_56 g3.l ?_⟩)⟩
      · by_cases ei : i = k
        · subst ei; simp; omega
        · exact hj i q1 (by omega)
      · rw [o_A6_t hV (o_lst_s (j := k) (by simp; omega) 60 1 (by omega) (by omega) hj)] at H
        exact H h3 g3 ((f1.trans f2.z).trans f3) s3
  try simp (disch := omega) only [n_lit, n_m, n_add, n_mul, n_div, n_mod, n_cl, n_lt, n_le, n_eq, n_in, n_eqm, n_meq, n_mlt, n_ltm, n_mle, n_lem, not_true_eq_false, not_false_eq_true, true_implies, false_implies, true_and, and_true, Nat.not_lt_zero, Nat.zero_le]
  exact key 1 (by omega) (Nat.le_refl 1) (fun i q1 q2 => by omega) h g i_Fr.refl
end
