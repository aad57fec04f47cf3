/-! THE REFERENCE: questions over the minutes -/
section
variable {L : Nat} {xs : Nat → Int32} {h : iH} {Q : Option Value → iH → Prop} {a : Nat → Nat}
set_option maxRecDepth 20000
theorem i_RA.n5 (r : i_RA a h) : aI h 139 (5 : Int32).toNatClampNeg = i_n (a 5) := r.2.2.1 5 (by omega)
theorem i_RA.n3 (r : i_RA a h) : aI h 139 (3 : Int32).toNatClampNeg = i_n (a 3) := r.2.2.1 3 (by omega)
theorem i_RA.hC (r : i_RA a h) : ∀ p m, p < a 5 → m ≤ 60 → aI h 151 (61 * p + m) = i_n (o_cell a p m) := fun p m x y => (r.2.2.2.2.1 p m x y).1
theorem i_RA.hD (r : i_RA a h) : ∀ p m, p < a 5 → m ≤ 60 → aI h 153 (61 * p + m) = i_n (o_did a p m) := fun p m x y => (r.2.2.2.2.1 p m x y).2.2
theorem c212 (hL : i_Lay h) {x y z : Int64} (H : Q (some (.int (i_bo (y ≤ x ∧ x ≤ z)))) h) : i_C i_MT i_AT L xs 212 [.long x, .long y, .long z] h Q := by
  refine e212 (d212_0 hL ⟨fun z1 => d212_17 hL (d212_18 hL ⟨rfl, ?_⟩), fun z1 => ⟨fun z2 => d212_17 hL (d212_18 hL ⟨rfl, ?_⟩), fun z2 => d212_18 hL ⟨rfl, ?_⟩⟩⟩)
  · rw [j_lt] at z1
    rw [i_bo_f (fun q => absurd q.1 (Int64.not_le.mpr z1))] at H; exact H
  · rw [j_gt0] at z2
    rw [i_bo_f (fun q => absurd q.2 (Int64.not_le.mpr z2))] at H; exact H
  · rw [j_lt] at z1
    rw [j_gt0] at z2
    rw [i_bo_t ⟨Int64.not_lt.mp z1, Int64.not_lt.mp z2⟩] at H; exact H
theorem c212i (hL : i_Lay h) {x y z : Int32} {y2 z2 : Int64} (ey : y2 = y.toInt64) (ez : z2 = z.toInt64) (H : Q (some (.int (i_bo (y ≤ x ∧ x ≤ z)))) h) : i_C i_MT i_AT L xs 212 [.long x.toInt64, .long y2, .long z2] h Q := by
  subst ey; subst ez
  refine c212 hL ?_
  rw [i_bo_iff (show (y.toInt64 ≤ x.toInt64 ∧ x.toInt64 ≤ z.toInt64) ↔ (y ≤ x ∧ x ≤ z) by rw [j32le, j32le])]
  exact H
theorem c279 (r : i_RA a h) {x y z : Int32} (H : i_R0 a h Q (o_unsA a x y z)) : i_C i_MT i_AT L xs 279 [.ref 138, .int x, .int y, .int z] h Q := by
  have h5 := r.2.1.2.2.2.2.1
  unfold o_unsA at H
  have bad : ¬ (v_2 a x y ∧ v_t z) → ∀ u v : Option Value, i_P i_MT i_AT L xs 279 16 [some (.ref 138), some (.int x), some (.int y), some (.int z), u, v] [] h 0 0 Q := by
    intro z u v
    rw [o_A_f z] at H
    exact d279_16 r.1 (m201 r (fun h2 g2 f2 s2 => ⟨_, rfl, d279_21 g2.1 (H h2 g2 f2 s2)⟩))
  refine e279 (d279_0 r.1 (c277 r ⟨_, rfl, d279_6 r.1 ?_⟩))
  rw [i_bo_0, Classical.not_not]
  refine ⟨fun z => bad (fun q => z q.1) _ _, fun z => c255 r.1 ⟨_, rfl, d279_13 r.1 ?_⟩⟩
  rw [i_bo_0, Classical.not_not]
  refine ⟨fun z2 => ?_, fun z2 => bad (fun q => z2 q.2) _ _⟩
  rw [o_A_t ⟨z, z2⟩] at H
  obtain ⟨p, hp, rfl⟩ := n_get z.1 (by omega)
  obtain ⟨q, hq, rfl⟩ := n_get z.2.1 (by omega)
  obtain ⟨m, hm, rfl⟩ := n_gle (k := 60) z2 (by omega)
  rw [n_cl (by omega), n_cl (by omega), n_cl (by omega)] at H
  have key : ∀ k, k ≤ m + 1 → 1 ≤ k → i_P i_MT i_AT L xs 279 30 [some (.ref 138), some (.int (i_n p)), some (.int (i_n q)), some (.int (i_n m)), some (.int (i_n (o_lft (fun m => o_wt a q p m) (k - 1)))), some (.int (i_n k))] [] h 0 0 Q := by
    refine l_up ?_ ?_
    · intro _
      refine d279_30 r.1 ?_
      try simp (disch := omega) only [n_lit, n_m, n_add, n_mul, n_div, n_mod, n_cl, n_lt, n_le, n_eq, n_in, n_eqm, n_meq, n_mlt, n_ltm, n_mle, n_lem, not_true_eq_false, not_false_eq_true, true_implies, false_implies, true_and, and_true, Nat.not_lt_zero, Nat.zero_le, Nat.lt_succ_self]
      exact m202 r (fun h2 g2 f2 s2 => ⟨_, rfl, d279_67 g2.1 (H h2 g2 f2 s2)⟩)
    · intro k hk ih hk1
      have hw := o_wt_le r.2.1 (p := q) (q := p) (m := k) hp (by omega)
      have hl := o_lft_le (w := fun m => o_wt a q p m) (k - 1)
      have hml : o_lft (fun m => o_wt a q p m) (k - 1) * (16 - o_wt a q p k) ≤ 1000000 * 16 := Nat.mul_le_mul hl (by omega)
      refine d279_30 r.1 ?_
      try simp (disch := omega) only [n_lit, n_m, n_add, n_mul, n_div, n_mod, n_cl, n_lt, n_le, n_eq, n_in, n_eqm, n_meq, n_mlt, n_ltm, n_mle, n_lem, not_true_eq_false, not_false_eq_true, true_implies, false_implies, true_and, and_true, Nat.not_lt_zero, Nat.zero_le]
      refine ⟨fun q => by omega, fun _ => c276 r hq hp (by omega) ⟨_, rfl, d279_48 r.1 ?_⟩⟩
      try simp (disch := omega) only [n_lit, n_m, n_add, n_mul, n_div, n_mod, n_cl, n_lt, n_le, n_eq, n_in, n_eqm, n_meq, n_mlt, n_ltm, n_mle, n_lem, not_true_eq_false, not_false_eq_true, true_implies, false_implies, true_and, and_true, Nat.not_lt_zero, Nat.zero_le, n_sub]
      have := ih (by omega)
      rw [show k + 1 - 1 = (k - 1) + 1 by omega, o_lft, show k - 1 + 1 = k by omega] at this
      exact this
  try simp (disch := omega) only [n_lit, n_m, n_add, n_mul, n_div, n_mod, n_cl, n_lt, n_le, n_eq, n_in, n_eqm, n_meq, n_mlt, n_ltm, n_mle, n_lem, not_true_eq_false, not_false_eq_true, true_implies, false_implies, true_and, and_true, Nat.not_lt_zero, Nat.zero_le]
  exact key 1 (by omega) (Nat.le_refl 1)
/-- near and unseen, as the reference asks it -/
theorem o_near_t {p b m : Nat} : o_near a p b m = true ↔ o_far (a 0) (o_cell a p m) (o_cell a b m) ≤ a (156 + 5 * b) ∧ o_wt a b p m = 0 := by
  unfold o_near
  simp
theorem c280 (r : i_RA a h) {x y z : Int32} (H : i_R0 a h Q (o_nearA a x y z)) : i_C i_MT i_AT L xs 280 [.ref 138, .int x, .int y, .int z] h Q := by
  have h5 := r.2.1.2.2.2.2.1
  have hC := r.hC
  unfold o_nearA at H
  have bad : ¬ (v_2 a x y ∧ v_t z) → ∀ u v : Option Value, i_P i_MT i_AT L xs 280 16 [some (.ref 138), some (.int x), some (.int y), some (.int z), u, v] [] h 0 0 Q := by
    intro z u v
    rw [o_A_f z] at H
    exact d280_16 r.1 (m201 r (fun h2 g2 f2 s2 => ⟨_, rfl, d280_21 g2.1 (H h2 g2 f2 s2)⟩))
  refine e280 (d280_0 r.1 (c277 r ⟨_, rfl, d280_6 r.1 ?_⟩))
  rw [i_bo_0, Classical.not_not]
  refine ⟨fun z => bad (fun q => z q.1) _ _, fun z => c255 r.1 ⟨_, rfl, d280_13 r.1 ?_⟩⟩
  rw [i_bo_0, Classical.not_not]
  refine ⟨fun z2 => ?_, fun z2 => bad (fun q => z2 q.2) _ _⟩
  rw [o_A_t ⟨z, z2⟩] at H
  obtain ⟨p, hp, rfl⟩ := n_get z.1 (by omega)
  obtain ⟨q, hq, rfl⟩ := n_get z.2.1 (by omega)
  obtain ⟨m, hm, rfl⟩ := n_gle (k := 60) z2 (by omega)
  rw [n_cl (by omega), n_cl (by omega), n_cl (by omega)] at H
  have hfar := (r.2.1.2.2.2.2.2.2.2.2.2.2.1 q hq).2.2.2.2.1
  have key : ∀ k, k ≤ m + 1 → 1 ≤ k → i_P i_MT i_AT L xs 280 28 [some (.ref 138), some (.int (i_n p)), some (.int (i_n q)), some (.int (i_n m)), some (.int (i_n (o_cnt (fun m => o_near a p q m) (k - 1)))), some (.int (i_n k))] [] h 0 0 Q := by
    refine l_up ?_ ?_
    · intro _
      refine d280_28 r.1 ?_
      try simp (disch := omega) only [n_lit, n_m, n_add, n_mul, n_div, n_mod, n_cl, n_lt, n_le, n_eq, n_in, n_eqm, n_meq, n_mlt, n_ltm, n_mle, n_lem, not_true_eq_false, not_false_eq_true, true_implies, false_implies, true_and, and_true, Nat.not_lt_zero, Nat.zero_le, Nat.lt_succ_self]
      exact m202 r (fun h2 g2 f2 s2 => ⟨_, rfl, d280_104 g2.1 (H h2 g2 f2 s2)⟩)
    · intro k hk ih hk1
      have hw := o_wt_le r.2.1 (p := q) (q := p) (m := k) hp (by omega)
      have hl := o_cnt_le (P := fun m => o_near a p q m) (k - 1)
      have hpp := r.p hp (show k ≤ 60 by omega)
      have hqq := r.p hq (show k ≤ 60 by omega)
      have hW := r.2.1.pos hpp.1
      have h48 := r.2.1.c48
      have hn := o_far_lt (show 0 < a 0 by omega) hpp.1 hqq.1
      have nx := ih (by omega)
      rw [show k + 1 - 1 = (k - 1) + 1 by omega, o_cnt, show k - 1 + 1 = k by omega] at nx
      have no : ¬ o_near a p q k = true → i_P i_MT i_AT L xs 280 88 [some (.ref 138), some (.int (i_n p)), some (.int (i_n q)), some (.int (i_n m)), some (.int (i_n (o_cnt (fun m => o_near a p q m) (k - 1)))), some (.int (i_n k))] [.int (i_n (o_cnt (fun m => o_near a p q m) (k - 1)))] h 0 0 Q := by
        intro e
        rw [if_neg e] at nx
        refine d280_88 r.1 (d280_89 r.1 ?_)
        try simp (disch := omega) only [n_lit, n_m, n_add, n_mul, n_div, n_mod, n_cl, n_lt, n_le, n_eq, n_in, n_eqm, n_meq, n_mlt, n_ltm, n_mle, n_lem, not_true_eq_false, not_false_eq_true, true_implies, false_implies, true_and, and_true, Nat.not_lt_zero, Nat.zero_le]
        exact nx
      refine d280_28 r.1 ?_
      try simp (disch := omega) only [n_lit, n_m, n_add, n_mul, n_div, n_mod, n_cl, n_lt, n_le, n_eq, n_in, n_eqm, n_meq, n_mlt, n_ltm, n_mle, n_lem, not_true_eq_false, not_false_eq_true, true_implies, false_implies, true_and, and_true, Nat.not_lt_zero, Nat.zero_le, hC]
      refine ⟨fun q => by omega, fun _ => ⟨by omega, by omega, c268 r hpp.1 hqq.1 ⟨_, rfl, d280_64 r.1 (c256 (w := 2) r (by omega) (by omega) ⟨_, rfl, d280_70 r.1 ?_⟩)⟩⟩⟩
      rw [show 154 + 5 * q + 2 = 156 + 5 * q by omega]
      try simp (disch := omega) only [n_lit, n_m, n_add, n_mul, n_div, n_mod, n_cl, n_lt, n_le, n_eq, n_in, n_eqm, n_meq, n_mlt, n_ltm, n_mle, n_lem, not_true_eq_false, not_false_eq_true, true_implies, false_implies, true_and, and_true, Nat.not_lt_zero, Nat.zero_le]
      refine ⟨fun e => no (fun z => by have := (o_near_t.mp z).1; omega), fun e => c276 r hq hp (by omega) ⟨_, rfl, d280_81 r.1 ?_⟩⟩
      try simp (disch := omega) only [n_lit, n_m, i_bo01, j_cmpn, Classical.not_not, n_add, n_mul, n_div, n_mod, n_cl, n_lt, n_le, n_eq, n_in, n_eqm, n_meq, n_mlt, n_ltm, n_mle, n_lem, not_true_eq_false, not_false_eq_true, true_implies, false_implies, true_and, and_true, Nat.not_lt_zero, Nat.zero_le]
      refine ⟨fun e2 => no (fun z => by have := (o_near_t.mp z).2; omega), fun e2 => d280_89 r.1 ?_⟩
      rw [if_pos (o_near_t.mpr ⟨by omega, e2⟩)] at nx
      try simp (disch := omega) only [n_lit, n_m, n_add, n_mul, n_div, n_mod, n_cl, n_lt, n_le, n_eq, n_in, n_eqm, n_meq, n_mlt, n_ltm, n_mle, n_lem, not_true_eq_false, not_false_eq_true, true_implies, false_implies, true_and, and_true, Nat.not_lt_zero, Nat.zero_le]
      exact nx
  try simp (disch := omega) only [n_lit, n_m, n_add, n_mul, n_div, n_mod, n_cl, n_lt, n_le, n_eq, n_in, n_eqm, n_meq, n_mlt, n_ltm, n_mle, n_lem, not_true_eq_false, not_false_eq_true, true_implies, false_implies, true_and, and_true, Nat.not_lt_zero, Nat.zero_le]
  exact key 1 (by omega) (Nat.le_refl 1)
theorem c281 (r : i_RA a h) {x y z : Int32} (H : i_R0 a h Q (o_fstA a x y z)) : i_C i_MT i_AT L xs 281 [.ref 138, .int x, .int y, .int z] h Q := by
  have h5 := r.2.1.2.2.2.2.1
  unfold o_fstA at H
  have bad : ¬ (v_2 a x y ∧ 1 ≤ z ∧ z ≤ 16) → ∀ u : Option Value, i_P i_MT i_AT L xs 281 21 [some (.ref 138), some (.int x), some (.int y), some (.int z), u] [] h 0 0 Q := by
    intro z u
    rw [o_A6_f z] at H
    exact d281_21 r.1 (m201 r (fun h2 g2 f2 s2 => ⟨_, rfl, d281_26 g2.1 (H h2 g2 f2 s2)⟩))
  refine e281 (d281_0 r.1 (c277 r ⟨_, rfl, d281_6 r.1 ?_⟩))
  rw [i_bo_0, Classical.not_not]
  refine ⟨fun zz => bad (fun q => zz q.1) _, fun zz => c212i (y := 1) (z := 16) r.1 rfl rfl ⟨_, rfl, d281_18 r.1 ?_⟩⟩
  rw [i_bo_0, Classical.not_not]
  refine ⟨fun z2 => ?_, fun z2 => bad (fun q => z2 q.2) _⟩
  have hV : v_2 a x y ∧ 1 ≤ z ∧ z ≤ 16 := ⟨zz, z2⟩
  obtain ⟨p, hp, rfl⟩ := n_get zz.1 (by omega)
  obtain ⟨q, hq, rfl⟩ := n_get zz.2.1 (by omega)
  obtain ⟨f, hf1, hf, rfl⟩ := n_g1 (j := 1) (k := 16) z2 (by omega) (by omega)
  rw [n_cl (by omega), n_cl (by omega), n_cl (by omega)] at H
  have key : ∀ k, k ≤ 61 → 1 ≤ k → (∀ i, 1 ≤ i → i < k → decide (f ≤ o_wt a p q i) = false) → i_P i_MT i_AT L xs 281 30 [some (.ref 138), some (.int (i_n p)), some (.int (i_n q)), some (.int (i_n f)), some (.int (i_n k))] [] h 0 0 Q := by
    refine l_up ?_ ?_
    · intro _ hj
      refine d281_30 r.1 ?_
      try simp (disch := omega) only [n_lit, n_m, n_add, n_mul, n_div, n_mod, n_cl, n_lt, n_le, n_eq, n_in, n_eqm, n_meq, n_mlt, n_ltm, n_mle, n_lem, not_true_eq_false, not_false_eq_true, true_implies, false_implies, true_and, and_true, Nat.not_lt_zero, Nat.zero_le]
      rw [o_A6_n hV (o_lst_n 60 1 (fun i q1 q2 => hj i q1 (by omega)))] at H
      exact ⟨fun _ => m201 r (fun h2 g2 f2 s2 => ⟨_, rfl, d281_68 g2.1 (H h2 g2 f2 s2)⟩), fun z => absurd (by omega) z⟩
    · intro k hk ih hk1 hj
      have hw := o_wt_le r.2.1 (p := p) (q := q) (m := k) hq (by omega)
      refine d281_30 r.1 ?_
      try simp (disch := omega) only [n_lit, n_m, n_add, n_mul, n_div, n_mod, n_cl, n_lt, n_le, n_eq, n_in, n_eqm, n_meq, n_mlt, n_ltm, n_mle, n_lem, not_true_eq_false, not_false_eq_true, true_implies, false_implies, true_and, and_true, Nat.not_lt_zero, Nat.zero_le]
      refine ⟨fun q => by omega, fun _ => c276 r hp hq (by omega) ⟨_, rfl, d281_45 r.1 ?_⟩⟩
      try simp (disch := omega) only [n_lit, n_m, n_add, n_mul, n_div, n_mod, n_cl, n_lt, n_le, n_eq, n_in, n_eqm, n_meq, n_mlt, n_ltm, n_mle, n_lem, not_true_eq_false, not_false_eq_true, true_implies, false_implies, true_and, and_true, Nat.not_lt_zero, Nat.zero_le]
      refine ⟨fun e => ih (by omega) (fun i q1 q2 => ?_), fun e => m202 r (fun h3 g3 f3 s3 => ⟨_, rfl, d281_55 g3.1 ?_⟩)⟩
      · by_cases ei : i = k
        · subst ei; simp; omega
        · exact hj i q1 (by omega)
      · rw [o_A6_t hV (o_lst_s (j := k) (by simp; omega) 60 1 (by omega) (by omega) hj)] at H
        exact H h3 g3 f3 s3
  try simp (disch := omega) only [n_lit, n_m, n_add, n_mul, n_div, n_mod, n_cl, n_lt, n_le, n_eq, n_in, n_eqm, n_meq, n_mlt, n_ltm, n_mle, n_lem, not_true_eq_false, not_false_eq_true, true_implies, false_implies, true_and, and_true, Nat.not_lt_zero, Nat.zero_le]
  exact key 1 (by omega) (Nat.le_refl 1) (fun i q1 q2 => by omega)
theorem c283 (r : i_RA a h) {x : Int32} (H : i_R0 a h Q (o_judA a x)) : i_C i_MT i_AT L xs 283 [.ref 138, .int x] h Q := by
  have h5 := r.2.1.2.2.2.2.1
  unfold o_judA at H
  have bad : ¬ (0 ≤ x ∧ x ≤ 2) → ∀ u v w : Option Value, i_P i_MT i_AT L xs 283 9 [some (.ref 138), some (.int x), u, v, w] [] h 0 0 Q := by
    intro z u v w
    rw [o_A6_f z] at H
    exact d283_9 r.1 (m201 r (fun h2 g2 f2 s2 => ⟨_, rfl, d283_14 g2.1 (H h2 g2 f2 s2)⟩))
  refine e283 (d283_0 r.1 ⟨fun z => bad (fun q => absurd q.1 (Int32.not_le.mpr z)) _ _ _, fun z1 => ⟨fun z2 => ?_, fun z2 => bad (fun q => z2 q.2) _ _ _⟩⟩)
  have z : 0 ≤ x ∧ x ≤ 2 := ⟨Int32.not_lt.mp z1, z2⟩
  obtain ⟨w, hw, rfl⟩ := n_gle (k := 2) z (by omega)
  rw [n_cl (by omega)] at H
  have key : ∀ k, k ≤ 61 → 1 ≤ k → (∀ i, 1 ≤ i → i < k → (o_jp a i).isSome = false) → ∀ (u v : Option Value), i_P i_MT i_AT L xs 283 17 [some (.ref 138), some (.int (i_n w)), some (.int (i_n k)), u, v] [] h 0 0 Q := by
    refine l_up ?_ ?_
    · intro _ hj u v
      refine d283_17 r.1 ?_
      try simp (disch := omega) only [n_lit, n_m, n_add, n_mul, n_div, n_mod, n_cl, n_lt, n_le, n_eq, n_in, n_eqm, n_meq, n_mlt, n_ltm, n_mle, n_lem, not_true_eq_false, not_false_eq_true, true_implies, false_implies, true_and, and_true, Nat.not_lt_zero, Nat.zero_le]
      have e0 : o_jud a w = none := by
        unfold o_jud o_jm
        rw [o_lst_n 60 1 (fun i q1 q2 => hj i q1 (by omega))]
        rfl
      rw [o_A6_n z e0] at H
      exact ⟨fun _ => m201 r (fun h2 g2 f2 s2 => ⟨_, rfl, d283_118 g2.1 (H h2 g2 f2 s2)⟩), fun z => absurd (by omega) z⟩
    · intro k hk ih hk1 hj u v
      have row : ∀ p, p ≤ a 5 → (∀ i, 0 ≤ i → i < p → (o_fw a k i).isSome = false) → ∀ (v : Option Value), i_P i_MT i_AT L xs 283 25 [some (.ref 138), some (.int (i_n w)), some (.int (i_n k)), some (.int (i_n p)), v] [] h 0 0 Q := by
        refine l_up ?_ ?_
        · intro hq v
          refine d283_25 r.1 ?_
          rw [r.n5]
          try simp (disch := omega) only [n_lit, n_m, n_add, n_mul, n_div, n_mod, n_cl, n_lt, n_le, n_eq, n_in, n_eqm, n_meq, n_mlt, n_ltm, n_mle, n_lem, not_true_eq_false, not_false_eq_true, true_implies, false_implies, true_and, and_true, Nat.not_lt_zero, Nat.zero_le, Nat.le_refl]
          refine ih (by omega) (fun i q1 q2 => ?_) _ _
          by_cases ei : i = k
          · subst ei
            unfold o_jp
            rw [o_lst_n (a 5) 0 (fun i q1 q2 => hq i q1 (by omega))]
            rfl
          · exact hj i q1 (by omega)
        · intro p hp ih2 hq v
          have col : ∀ b, b ≤ a 5 → (∀ i, 0 ≤ i → i < b → (o_wat a i p && decide (0 < o_wt a i p k)) = false) → i_P i_MT i_AT L xs 283 38 [some (.ref 138), some (.int (i_n w)), some (.int (i_n k)), some (.int (i_n p)), some (.int (i_n b))] [] h 0 0 Q := by
            refine l_up ?_ ?_
            · intro hb
              refine d283_38 r.1 ?_
              rw [r.n5]
              try simp (disch := omega) only [n_lit, n_m, n_add, n_mul, n_div, n_mod, n_cl, n_lt, n_le, n_eq, n_in, n_eqm, n_meq, n_mlt, n_ltm, n_mle, n_lem, not_true_eq_false, not_false_eq_true, true_implies, false_implies, true_and, and_true, Nat.not_lt_zero, Nat.zero_le, Nat.le_refl]
              refine ih2 (fun i q1 q2 => ?_) _
              by_cases ei : i = p
              · subst ei
                unfold o_fw
                rw [o_lst_n (a 5) 0 (fun i q1 q2 => hb i q1 (by omega))]
                rfl
              · exact hq i q1 (by omega)
            · intro b hb ih3 hc
              have hwt := o_wt_le r.2.1 (p := b) (q := p) (m := k) hp (by omega)
              have nx : (o_wat a b p && decide (0 < o_wt a b p k)) = false → i_P i_MT i_AT L xs 283 94 [some (.ref 138), some (.int (i_n w)), some (.int (i_n k)), some (.int (i_n p)), some (.int (i_n b))] [] h 0 0 Q := by
                intro e
                refine d283_94 r.1 ?_
                try simp (disch := omega) only [n_lit, n_m, n_add, n_mul, n_div, n_mod, n_cl, n_lt, n_le, n_eq, n_in, n_eqm, n_meq, n_mlt, n_ltm, n_mle, n_lem, not_true_eq_false, not_false_eq_true, true_implies, false_implies, true_and, and_true, Nat.not_lt_zero, Nat.zero_le]
                refine ih3 (fun i q1 q2 => ?_)
                by_cases ei : i = b
                · subst ei; exact e
                · exact hc i q1 (by omega)
              refine d283_38 r.1 ?_
              rw [r.n5]
              try simp (disch := omega) only [n_lit, n_m, n_add, n_mul, n_div, n_mod, n_cl, n_lt, n_le, n_eq, n_in, n_eqm, n_meq, n_mlt, n_ltm, n_mle, n_lem, not_true_eq_false, not_false_eq_true, true_implies, false_implies, true_and, and_true, Nat.not_lt_zero, Nat.zero_le]
              refine ⟨fun q => by omega, fun _ => c282 r (by omega) hp ⟨_, rfl, d283_56 r.1 ?_⟩⟩
              try simp (disch := omega) only [n_lit, n_m, i_bo01, j_cmpn, Classical.not_not, n_add, n_mul, n_div, n_mod, n_cl, n_lt, n_le, n_eq, n_in, n_eqm, n_meq, n_mlt, n_ltm, n_mle, n_lem, not_true_eq_false, not_false_eq_true, true_implies, false_implies, true_and, and_true, Nat.not_lt_zero, Nat.zero_le]
              refine ⟨fun e => nx (by simp [e]), fun e => c276 r hb hp (by omega) ⟨_, rfl, d283_67 r.1 ?_⟩⟩
              try simp (disch := omega) only [n_lit, n_m, n_add, n_mul, n_div, n_mod, n_cl, n_lt, n_le, n_eq, n_in, n_eqm, n_meq, n_mlt, n_ltm, n_mle, n_lem, not_true_eq_false, not_false_eq_true, true_implies, false_implies, true_and, and_true, Nat.not_lt_zero, Nat.zero_le]
              refine ⟨fun e2 => nx (by simp; omega), fun e2 => ?_⟩
              have hfw : o_fw a k p = some b := o_lst_s (by simp [e]; omega) (a 5) 0 (by omega) (by omega) hc
              have e1 : o_jp a k = some p := o_lst_s (by rw [hfw]; rfl) (a 5) 0 (by omega) (by omega) hq
              have e2 : o_jm a = some k := o_lst_s (by rw [e1]; rfl) 60 1 (by omega) (by omega) hj
              have e3 : o_jud a w = some (if w = 0 then k else if w = 1 then p else b) := by
                unfold o_jud
                rw [e2, Option.bind_some, e1, Option.bind_some, hfw, Option.map_some]
              rw [o_A6_t z e3] at H
              have fin : ∀ s : Int32, s = i_n (if w = 0 then k else if w = 1 then p else b) → i_P i_MT i_AT L xs 283 90 [some (.ref 138), some (.int (i_n w)), some (.int (i_n k)), some (.int (i_n p)), some (.int (i_n b))] [.int s, .ref 138] h 0 0 Q := by
                intro s hs
                subst hs
                exact d283_90 r.1 (m202 r (fun h4 g4 f4 s4 => ⟨_, rfl, d283_93 g4.1 (H h4 g4 f4 s4)⟩))
              refine ⟨fun q1 => ⟨fun q2 => fin _ (by rw [if_neg q1, if_neg q2]), fun q2 => fin _ (by rw [if_neg q1, if_pos (Classical.not_not.mp q2)])⟩, fun q1 => fin _ (by rw [if_pos (Classical.not_not.mp q1)])⟩
          refine d283_25 r.1 ?_
          rw [r.n5]
          try simp (disch := omega) only [n_lit, n_m, n_add, n_mul, n_div, n_mod, n_cl, n_lt, n_le, n_eq, n_in, n_eqm, n_meq, n_mlt, n_ltm, n_mle, n_lem, not_true_eq_false, not_false_eq_true, true_implies, false_implies, true_and, and_true, Nat.not_lt_zero, Nat.zero_le]
          exact ⟨fun q => by omega, fun _ => col 0 (Nat.zero_le _) (fun i q1 q2 => by omega)⟩
      refine d283_17 r.1 ?_
      try simp (disch := omega) only [n_lit, n_m, n_add, n_mul, n_div, n_mod, n_cl, n_lt, n_le, n_eq, n_in, n_eqm, n_meq, n_mlt, n_ltm, n_mle, n_lem, not_true_eq_false, not_false_eq_true, true_implies, false_implies, true_and, and_true, Nat.not_lt_zero, Nat.zero_le]
      exact ⟨fun q => by omega, fun _ => row 0 (Nat.zero_le _) (fun i q1 q2 => by omega) _⟩
  try simp (disch := omega) only [n_lit, n_m, n_add, n_mul, n_div, n_mod, n_cl, n_lt, n_le, n_eq, n_in, n_eqm, n_meq, n_mlt, n_ltm, n_mle, n_lem, not_true_eq_false, not_false_eq_true, true_implies, false_implies, true_and, and_true, Nat.not_lt_zero, Nat.zero_le]
  exact key 1 (by omega) (Nat.le_refl 1) (fun i q1 q2 => by omega) _ _
theorem c311 (r : i_RA a h) {x : Int32} (H : i_R0 a h Q (o_movA a x)) : i_C i_MT i_AT L xs 311 [.ref 138, .int x] h Q := by
  have h5 := r.2.1.2.2.2.2.1
  have h3 := r.2.1.2.2.1
  have h48 := r.2.1.c48
  have hD := r.hD
  have hK := r.2.2.2.2.2
  unfold o_movA at H
  have bad : ¬ v_mi x → ∀ u v : Option Value, i_P i_MT i_AT L xs 311 11 [some (.ref 138), some (.int x), u, v] [] h 0 0 Q := by
    intro z u v
    rw [o_A_f z] at H
    exact d311_11 r.1 (m201 r (fun h2 g2 f2 s2 => ⟨_, rfl, d311_16 g2.1 (H h2 g2 f2 s2)⟩))
  refine e311 (d311_0 r.1 (c255 r.1 ⟨_, rfl, d311_4 r.1 ?_⟩))
  rw [i_bo_0, Classical.not_not]
  refine ⟨fun z => bad (fun q => z (v_mi_t q).1) _ _, fun z => ?_⟩
  obtain ⟨m, hm, rfl⟩ := n_gle z (by omega)
  try simp (disch := omega) only [n_lit, n_m, n_add, n_mul, n_div, n_mod, n_cl, n_lt, n_le, n_eq, n_in, n_eqm, n_meq, n_mlt, n_ltm, n_mle, n_lem, not_true_eq_false, not_false_eq_true, true_implies, false_implies, true_and, and_true, Nat.not_lt_zero, Nat.zero_le]
  refine ⟨fun z2 => ?_, fun z2 => bad (fun q => (v_mi_t q).2 (by rw [Classical.not_not.mp z2]; decide)) _ _⟩
  have z3 : v_mi (i_n m) := v_mi_of z (by rw [n_pos (by omega)]; omega)
  rw [o_A_t z3] at H
  rw [n_cl (by omega)] at H
  have l1 := o_cn0_le (P := fun p => o_did a p m != 0) (a 5)
  generalize hc1 : o_cn0 (fun p => o_did a p m != 0) (a 5) = N1 at H l1
  have cart : ∀ k, k ≤ a 3 → i_P i_MT i_AT L xs 311 61 [some (.ref 138), some (.int (i_n m)), some (.int (i_n (N1 + o_cn0 (fun k => o_cart a k m != o_cart a k (m - 1)) k))), some (.int (i_n k))] [] h 0 0 Q := by
    refine l_up ?_ ?_
    · refine d311_61 r.1 ?_
      rw [r.n3]
      try simp (disch := omega) only [n_lit, n_m, n_add, n_mul, n_div, n_mod, n_cl, n_lt, n_le, n_eq, n_in, n_eqm, n_meq, n_mlt, n_ltm, n_mle, n_lem, not_true_eq_false, not_false_eq_true, true_implies, false_implies, true_and, and_true, Nat.not_lt_zero, Nat.zero_le, Nat.le_refl]
      exact m202 r (fun h2 g2 f2 s2 => ⟨_, rfl, d311_117 g2.1 (H h2 g2 f2 s2)⟩)
    · intro k hk ih
      have l2 := o_cn0_le (P := fun k => o_cart a k m != o_cart a k (m - 1)) k
      have hk2 : aI h 154 (61 * k + m - 1) = i_n (o_cart a k (m - 1)) := by
        rw [show 61 * k + m - 1 = 61 * k + (m - 1) by omega]
        exact hK k (m - 1) hk (by omega)
      have b1 := o_cart_ok r.2.1 hk m
      have b2 := o_cart_ok r.2.1 hk (m - 1)
      rw [o_cn0] at ih
      refine d311_61 r.1 ?_
      rw [r.n3]
      try simp (disch := omega) only [n_lit, n_m, n_add, n_mul, n_div, n_mod, n_cl, n_lt, n_le, n_eq, n_in, n_eqm, n_meq, n_mlt, n_ltm, n_mle, n_lem, not_true_eq_false, not_false_eq_true, true_implies, false_implies, true_and, and_true, Nat.not_lt_zero, Nat.zero_le, n_sub, hk2, hK]
      refine ⟨fun q => by omega, fun _ => ⟨by omega, by omega, fun e => d311_104 r.1 ?_, fun e => d311_104 r.1 ?_⟩⟩
      · try simp (disch := omega) only [n_lit, n_m, n_add, n_mul, n_div, n_mod, n_cl, n_lt, n_le, n_eq, n_in, n_eqm, n_meq, n_mlt, n_ltm, n_mle, n_lem, not_true_eq_false, not_false_eq_true, true_implies, false_implies, true_and, and_true, Nat.not_lt_zero, Nat.zero_le]
        rw [if_pos (by simpa using e), ← Nat.add_assoc] at ih
        exact ih
      · try simp (disch := omega) only [n_lit, n_m, n_add, n_mul, n_div, n_mod, n_cl, n_lt, n_le, n_eq, n_in, n_eqm, n_meq, n_mlt, n_ltm, n_mle, n_lem, not_true_eq_false, not_false_eq_true, true_implies, false_implies, true_and, and_true, Nat.not_lt_zero, Nat.zero_le]
        rw [if_neg (by simpa using e)] at ih
        rw [Nat.add_zero] at ih ⊢
        exact ih
  have pers : ∀ p, p ≤ a 5 → i_P i_MT i_AT L xs 311 21 [some (.ref 138), some (.int (i_n m)), some (.int (i_n (o_cn0 (fun p => o_did a p m != 0) p))), some (.int (i_n p))] [] h 0 0 Q := by
    refine l_up ?_ ?_
    · refine d311_21 r.1 ?_
      rw [r.n5]
      try simp (disch := omega) only [n_lit, n_m, n_add, n_mul, n_div, n_mod, n_cl, n_lt, n_le, n_eq, n_in, n_eqm, n_meq, n_mlt, n_ltm, n_mle, n_lem, not_true_eq_false, not_false_eq_true, true_implies, false_implies, true_and, and_true, Nat.not_lt_zero, Nat.zero_le, Nat.le_refl]
      rw [hc1]
      exact cart 0 (Nat.zero_le _)
    · intro p hp ih
      have l2 := o_cn0_le (P := fun p => o_did a p m != 0) p
      have hd := (r.p hp hm).2.2.2
      rw [o_cn0] at ih
      refine d311_21 r.1 ?_
      rw [r.n5]
      try simp (disch := omega) only [n_lit, n_m, n_add, n_mul, n_div, n_mod, n_cl, n_lt, n_le, n_eq, n_in, n_eqm, n_meq, n_mlt, n_ltm, n_mle, n_lem, not_true_eq_false, not_false_eq_true, true_implies, false_implies, true_and, and_true, Nat.not_lt_zero, Nat.zero_le, hD]
      refine ⟨fun q => by omega, fun _ => ⟨by omega, fun e => d311_51 r.1 ?_, fun e => d311_51 r.1 ?_⟩⟩
      · try simp (disch := omega) only [n_lit, n_m, n_add, n_mul, n_div, n_mod, n_cl, n_lt, n_le, n_eq, n_in, n_eqm, n_meq, n_mlt, n_ltm, n_mle, n_lem, not_true_eq_false, not_false_eq_true, true_implies, false_implies, true_and, and_true, Nat.not_lt_zero, Nat.zero_le]
        rw [if_pos (by simpa using e)] at ih
        exact ih
      · try simp (disch := omega) only [n_lit, n_m, n_add, n_mul, n_div, n_mod, n_cl, n_lt, n_le, n_eq, n_in, n_eqm, n_meq, n_mlt, n_ltm, n_mle, n_lem, not_true_eq_false, not_false_eq_true, true_implies, false_implies, true_and, and_true, Nat.not_lt_zero, Nat.zero_le]
        rw [if_neg (by simpa using e)] at ih
        exact ih
  try simp (disch := omega) only [n_lit, n_m, n_add, n_mul, n_div, n_mod, n_cl, n_lt, n_le, n_eq, n_in, n_eqm, n_meq, n_mlt, n_ltm, n_mle, n_lem, not_true_eq_false, not_false_eq_true, true_implies, false_implies, true_and, and_true, Nat.not_lt_zero, Nat.zero_le]
  exact pers 0 (Nat.zero_le _)
theorem c312 (r : i_RA a h) {p m : Nat} (hp : p < a 5) (hm : 1 ≤ m ∧ m ≤ 60) (H : Q (some (.int (i_bo (o_any a p m = true)))) h) : i_C i_MT i_AT L xs 312 [.ref 138, .int (i_n p), .int (i_n m)] h Q := by
  have h5 := r.2.1.2.2.2.2.1
  have h3 := r.2.1.2.2.1
  have h48 := r.2.1.c48
  have hK := r.2.2.2.2.2
  have yes : o_any a p m = true → Q (some (.int 1)) h := by
    intro e
    rw [i_bo_t e] at H
    exact H
  have cart : ∀ k, k ≤ a 3 → (∀ i, i < k → ¬ (o_cart a i m ≠ o_cart a i (m - 1) ∧ o_sees a p (o_cart a i m) m = true)) → (∀ q, q < a 5 → q ≠ p → o_wt a p q m = 0) → i_P i_MT i_AT L xs 312 37 [some (.ref 138), some (.int (i_n p)), some (.int (i_n m)), some (.int (i_n k))] [] h 0 0 Q := by
    refine l_up ?_ ?_
    · intro hj hq
      refine d312_37 r.1 ?_
      rw [r.n3]
      try simp (disch := omega) only [n_lit, n_m, n_add, n_mul, n_div, n_mod, n_cl, n_lt, n_le, n_eq, n_in, n_eqm, n_meq, n_mlt, n_ltm, n_mle, n_lem, not_true_eq_false, not_false_eq_true, true_implies, false_implies, true_and, and_true, Nat.not_lt_zero, Nat.zero_le, Nat.le_refl]
      rw [i_bo_f (by
        rw [o_any_t]
        rintro (⟨q, z1, z2, z3⟩ | ⟨k, z1, z2, z3⟩)
        · have := hq q z1 z2; omega
        · exact hj k z1 ⟨z2, z3⟩)] at H
      exact H
    · intro k hk ih hj hq
      have hcl := o_cart_ok r.2.1 hk m
      have hcl2 := o_cart_ok r.2.1 hk (m - 1)
      have hk2 : aI h 154 (61 * k + m - 1) = i_n (o_cart a k (m - 1)) := by
        rw [show 61 * k + m - 1 = 61 * k + (m - 1) by omega]
        exact hK k (m - 1) hk (by omega)
      have nx : ¬ (o_cart a k m ≠ o_cart a k (m - 1) ∧ o_sees a p (o_cart a k m) m = true) → i_P i_MT i_AT L xs 312 96 [some (.ref 138), some (.int (i_n p)), some (.int (i_n m)), some (.int (i_n k))] [] h 0 0 Q := by
        intro e
        refine d312_96 r.1 ?_
        try simp (disch := omega) only [n_lit, n_m, n_add, n_mul, n_div, n_mod, n_cl, n_lt, n_le, n_eq, n_in, n_eqm, n_meq, n_mlt, n_ltm, n_mle, n_lem, not_true_eq_false, not_false_eq_true, true_implies, false_implies, true_and, and_true, Nat.not_lt_zero, Nat.zero_le]
        refine ih (fun i q2 => ?_) hq
        by_cases ei : i = k
        · subst ei; exact e
        · exact hj i (by omega)
      refine d312_37 r.1 ?_
      rw [r.n3]
      try simp (disch := omega) only [n_lit, n_m, n_add, n_mul, n_div, n_mod, n_cl, n_lt, n_le, n_eq, n_in, n_eqm, n_meq, n_mlt, n_ltm, n_mle, n_lem, not_true_eq_false, not_false_eq_true, true_implies, false_implies, true_and, and_true, Nat.not_lt_zero, Nat.zero_le, n_sub, hk2, hK]
      refine ⟨fun q => by omega, fun _ => ⟨by omega, by omega, fun e => nx (fun z => z.1 e), fun e => ⟨by omega, c272 r hp hcl hm.2 ⟨_, rfl, d312_91 r.1 ?_⟩⟩⟩⟩
      rw [i_bo_0, Classical.not_not]
      exact ⟨fun e2 => nx (fun z => e2 z.2), fun e2 => yes (o_any_t.mpr (Or.inr ⟨k, hk, e, e2⟩))⟩
  have pers : ∀ q, q ≤ a 5 → (∀ i, i < q → i ≠ p → o_wt a p i m = 0) → i_P i_MT i_AT L xs 312 2 [some (.ref 138), some (.int (i_n p)), some (.int (i_n m)), some (.int (i_n q))] [] h 0 0 Q := by
    refine l_up ?_ ?_
    · intro hj
      refine d312_2 r.1 ?_
      rw [r.n5]
      try simp (disch := omega) only [n_lit, n_m, n_add, n_mul, n_div, n_mod, n_cl, n_lt, n_le, n_eq, n_in, n_eqm, n_meq, n_mlt, n_ltm, n_mle, n_lem, not_true_eq_false, not_false_eq_true, true_implies, false_implies, true_and, and_true, Nat.not_lt_zero, Nat.zero_le, Nat.le_refl]
      exact cart 0 (Nat.zero_le _) (fun i q => by omega) hj
    · intro q hq ih hj
      have hw := o_wt_le r.2.1 (p := p) (q := q) (m := m) hq hm.2
      have nx : (q ≠ p → o_wt a p q m = 0) → i_P i_MT i_AT L xs 312 29 [some (.ref 138), some (.int (i_n p)), some (.int (i_n m)), some (.int (i_n q))] [] h 0 0 Q := by
        intro e
        refine d312_29 r.1 ?_
        try simp (disch := omega) only [n_lit, n_m, n_add, n_mul, n_div, n_mod, n_cl, n_lt, n_le, n_eq, n_in, n_eqm, n_meq, n_mlt, n_ltm, n_mle, n_lem, not_true_eq_false, not_false_eq_true, true_implies, false_implies, true_and, and_true, Nat.not_lt_zero, Nat.zero_le]
        refine ih (fun i q2 => ?_)
        by_cases ei : i = q
        · subst ei; exact e
        · exact hj i (by omega)
      refine d312_2 r.1 ?_
      rw [r.n5]
      try simp (disch := omega) only [n_lit, n_m, n_add, n_mul, n_div, n_mod, n_cl, n_lt, n_le, n_eq, n_in, n_eqm, n_meq, n_mlt, n_ltm, n_mle, n_lem, not_true_eq_false, not_false_eq_true, true_implies, false_implies, true_and, and_true, Nat.not_lt_zero, Nat.zero_le]
      refine ⟨fun z => by omega, fun _ => ⟨fun e => nx (fun z => absurd e z), fun e => c276 r hp hq hm.2 ⟨_, rfl, d312_24 r.1 ?_⟩⟩⟩
      try simp (disch := omega) only [n_lit, n_m, n_add, n_mul, n_div, n_mod, n_cl, n_lt, n_le, n_eq, n_in, n_eqm, n_meq, n_mlt, n_ltm, n_mle, n_lem, not_true_eq_false, not_false_eq_true, true_implies, false_implies, true_and, and_true, Nat.not_lt_zero, Nat.zero_le]
      exact ⟨fun e2 => nx (fun _ => by omega), fun e2 => yes (o_any_t.mpr (Or.inl ⟨q, hq, e, by omega⟩))⟩
  refine e312 (d312_0 r.1 ?_)
  try simp (disch := omega) only [n_lit, n_m, n_add, n_mul, n_div, n_mod, n_cl, n_lt, n_le, n_eq, n_in, n_eqm, n_meq, n_mlt, n_ltm, n_mle, n_lem, not_true_eq_false, not_false_eq_true, true_implies, false_implies, true_and, and_true, Nat.not_lt_zero, Nat.zero_le]
  exact pers 0 (Nat.zero_le _) (fun i q => by omega)
theorem c313 (r : i_RA a h) {x : Int32} (H : i_R0 a h Q (o_goneA a x)) : i_C i_MT i_AT L xs 313 [.ref 138, .int x] h Q := by
  have h5 := r.2.1.2.2.2.2.1
  unfold o_goneA at H
  refine e313 (d313_0 r.1 (c254 r ⟨_, rfl, d313_5 r.1 ?_⟩))
  rw [i_bo_0, Classical.not_not]
  refine ⟨fun z => ?_, fun z => m201 r (fun h2 g2 f2 s2 => ⟨_, rfl, d313_13 g2.1 (by rw [o_A_f z] at H; exact H h2 g2 f2 s2)⟩)⟩
  rw [o_A_t z] at H
  obtain ⟨p, hp, rfl⟩ := n_get z (by omega)
  rw [n_cl (by omega)] at H
  have key : ∀ k, k ≤ 61 → 1 ≤ k → i_P i_MT i_AT L xs 313 18 [some (.ref 138), some (.int (i_n p)), some (.int (i_n (o_cnt (fun m => !o_any a p m) (k - 1)))), some (.int (i_n k))] [] h 0 0 Q := by
    refine l_up ?_ ?_
    · intro _
      refine d313_18 r.1 ?_
      try simp (disch := omega) only [n_lit, n_m, n_add, n_mul, n_div, n_mod, n_cl, n_lt, n_le, n_eq, n_in, n_eqm, n_meq, n_mlt, n_ltm, n_mle, n_lem, not_true_eq_false, not_false_eq_true, true_implies, false_implies, true_and, and_true, Nat.not_lt_zero, Nat.zero_le]
      exact ⟨fun _ => m202 r (fun h2 g2 f2 s2 => ⟨_, rfl, d313_52 g2.1 (H h2 g2 f2 s2)⟩), fun z => absurd (by omega) z⟩
    · intro k hk ih hk1
      have hl := o_cnt_le (P := fun m => !o_any a p m) (k - 1)
      have nx := ih (by omega)
      rw [show k + 1 - 1 = (k - 1) + 1 by omega, o_cnt, show k - 1 + 1 = k by omega] at nx
      refine d313_18 r.1 ?_
      try simp (disch := omega) only [n_lit, n_m, n_add, n_mul, n_div, n_mod, n_cl, n_lt, n_le, n_eq, n_in, n_eqm, n_meq, n_mlt, n_ltm, n_mle, n_lem, not_true_eq_false, not_false_eq_true, true_implies, false_implies, true_and, and_true, Nat.not_lt_zero, Nat.zero_le]
      refine ⟨fun q => by omega, fun _ => c312 r hp ⟨hk1, by omega⟩ ⟨_, rfl, d313_31 r.1 ?_⟩⟩
      try simp (disch := omega) only [n_lit, n_m, i_bo01, j_cmpn, Classical.not_not, n_add, n_mul, n_div, n_mod, n_cl, n_lt, n_le, n_eq, n_in, n_eqm, n_meq, n_mlt, n_ltm, n_mle, n_lem, not_true_eq_false, not_false_eq_true, true_implies, false_implies, true_and, and_true, Nat.not_lt_zero, Nat.zero_le]
      refine ⟨fun e => d313_39 r.1 ?_, fun e => d313_39 r.1 ?_⟩
      · try simp (disch := omega) only [n_lit, n_m, i_bo01, j_cmpn, Classical.not_not, n_add, n_mul, n_div, n_mod, n_cl, n_lt, n_le, n_eq, n_in, n_eqm, n_meq, n_mlt, n_ltm, n_mle, n_lem, not_true_eq_false, not_false_eq_true, true_implies, false_implies, true_and, and_true, Nat.not_lt_zero, Nat.zero_le]
        rw [if_pos (by simpa using e)] at nx
        exact nx
      · try simp (disch := omega) only [n_lit, n_m, i_bo01, j_cmpn, Classical.not_not, n_add, n_mul, n_div, n_mod, n_cl, n_lt, n_le, n_eq, n_in, n_eqm, n_meq, n_mlt, n_ltm, n_mle, n_lem, not_true_eq_false, not_false_eq_true, true_implies, false_implies, true_and, and_true, Nat.not_lt_zero, Nat.zero_le]
        rw [if_neg (by simp [e])] at nx
        exact nx
  try simp (disch := omega) only [n_lit, n_m, n_add, n_mul, n_div, n_mod, n_cl, n_lt, n_le, n_eq, n_in, n_eqm, n_meq, n_mlt, n_ltm, n_mle, n_lem, not_true_eq_false, not_false_eq_true, true_implies, false_implies, true_and, and_true, Nat.not_lt_zero, Nat.zero_le]
  exact key 1 (by omega) (Nat.le_refl 1)
theorem o_seen_self {W b w f : Nat} {bl : Nat → Bool} : o_seen W bl b w f b = false := by
  have : o_fx W b w b = 0 := by unfold o_fx; simp
  unfold o_seen o_cone
  rw [this]
  rfl
theorem c314 (r : i_RA a h) {x y : Int32} (H : i_R0 a h Q (o_stdsA a x y)) : i_C i_MT i_AT L xs 314 [.ref 138, .int x, .int y] h Q := by
  have h5 := r.2.1.2.2.2.2.1
  have h48 := r.2.1.c48
  have hC := r.hC
  unfold o_stdsA at H
  have bad : ¬ (v_p a x ∧ v_t y) → ∀ u v : Option Value, i_P i_MT i_AT L xs 314 15 [some (.ref 138), some (.int x), some (.int y), u, v] [] h 0 0 Q := by
    intro z u v
    rw [o_A_f z] at H
    exact d314_15 r.1 (m201 r (fun h2 g2 f2 s2 => ⟨_, rfl, d314_20 g2.1 (H h2 g2 f2 s2)⟩))
  refine e314 (d314_0 r.1 (c254 r ⟨_, rfl, d314_5 r.1 ?_⟩))
  rw [i_bo_0, Classical.not_not]
  refine ⟨fun z => bad (fun q => z q.1) _ _, fun z => c255 r.1 ⟨_, rfl, d314_12 r.1 ?_⟩⟩
  rw [i_bo_0, Classical.not_not]
  refine ⟨fun z2 => ?_, fun z2 => bad (fun q => z2 q.2) _ _⟩
  rw [o_A_t ⟨z, z2⟩] at H
  obtain ⟨p, hp, rfl⟩ := n_get z (by omega)
  obtain ⟨m, hm, rfl⟩ := n_gle (k := 60) z2 (by omega)
  rw [n_cl (by omega), n_cl (by omega)] at H
  have key : ∀ k, k ≤ a 5 → i_P i_MT i_AT L xs 314 26 [some (.ref 138), some (.int (i_n p)), some (.int (i_n m)), some (.int (i_n (o_st (fun q => o_sees a p (o_cell a q m) m) k))), some (.int (i_n k))] [] h 0 0 Q := by
    refine l_up ?_ ?_
    · refine d314_26 r.1 ?_
      rw [r.n5]
      try simp (disch := omega) only [n_lit, n_m, n_add, n_mul, n_div, n_mod, n_cl, n_lt, n_le, n_eq, n_in, n_eqm, n_meq, n_mlt, n_ltm, n_mle, n_lem, not_true_eq_false, not_false_eq_true, true_implies, false_implies, true_and, and_true, Nat.not_lt_zero, Nat.zero_le, Nat.le_refl]
      exact m202 r (fun h2 g2 f2 s2 => ⟨_, rfl, d314_86 g2.1 (H h2 g2 f2 s2)⟩)
    · intro k hk ih
      have hk2 := r.p hk hm
      rw [o_st] at ih
      have no : ¬ o_sees a p (o_cell a k m) m = true → i_P i_MT i_AT L xs 314 72 [some (.ref 138), some (.int (i_n p)), some (.int (i_n m)), some (.int (i_n (o_st (fun q => o_sees a p (o_cell a q m) m) k))), some (.int (i_n k))] [.int (i_n (o_st (fun q => o_sees a p (o_cell a q m) m) k))] h 0 0 Q := by
        intro e
        rw [if_neg e] at ih
        refine d314_72 r.1 (d314_73 r.1 ?_)
        try simp (disch := omega) only [n_lit, n_m, n_add, n_mul, n_div, n_mod, n_cl, n_lt, n_le, n_eq, n_in, n_eqm, n_meq, n_mlt, n_ltm, n_mle, n_lem, not_true_eq_false, not_false_eq_true, true_implies, false_implies, true_and, and_true, Nat.not_lt_zero, Nat.zero_le, n_or, Nat.or_zero]
        exact ih
      refine d314_26 r.1 ?_
      rw [r.n5]
      try simp (disch := omega) only [n_lit, n_m, n_add, n_mul, n_div, n_mod, n_cl, n_lt, n_le, n_eq, n_in, n_eqm, n_meq, n_mlt, n_ltm, n_mle, n_lem, not_true_eq_false, not_false_eq_true, true_implies, false_implies, true_and, and_true, Nat.not_lt_zero, Nat.zero_le, hC]
      refine ⟨fun q => by omega, fun _ => ⟨fun e => no ?_, fun e => ⟨by omega, c272 r hp hk2.1 hm ⟨_, rfl, d314_62 r.1 ?_⟩⟩⟩⟩
      · subst e
        unfold o_sees
        rw [o_seen_self]
        exact fun z => by cases z
      try simp (disch := omega) only [n_lit, n_m, i_bo01, j_cmpn, Classical.not_not, n_add, n_mul, n_div, n_mod, n_cl, n_lt, n_le, n_eq, n_in, n_eqm, n_meq, n_mlt, n_ltm, n_mle, n_lem, not_true_eq_false, not_false_eq_true, true_implies, false_implies, true_and, and_true, Nat.not_lt_zero, Nat.zero_le]
      refine ⟨fun e2 => no e2, fun e2 => d314_73 r.1 ?_⟩
      rw [if_pos e2] at ih
      try simp (disch := omega) only [n_lit, n_m, n_add, n_mul, n_div, n_mod, n_cl, n_lt, n_le, n_eq, n_in, n_eqm, n_meq, n_mlt, n_ltm, n_mle, n_lem, not_true_eq_false, not_false_eq_true, true_implies, false_implies, true_and, and_true, Nat.not_lt_zero, Nat.zero_le, n_and, n_shl2, n_or]
      exact ih
  try simp (disch := omega) only [n_lit, n_m, n_add, n_mul, n_div, n_mod, n_cl, n_lt, n_le, n_eq, n_in, n_eqm, n_meq, n_mlt, n_ltm, n_mle, n_lem, not_true_eq_false, not_false_eq_true, true_implies, false_implies, true_and, and_true, Nat.not_lt_zero, Nat.zero_le]
  exact key 0 (Nat.zero_le _)
theorem c315 (r : i_RA a h) {x y : Int32} (H : i_R0 a h Q (o_stodA a x y)) : i_C i_MT i_AT L xs 315 [.ref 138, .int x, .int y] h Q := by
  have h5 := r.2.1.2.2.2.2.1
  have hC := r.hC
  unfold o_stodA at H
  refine e315 (d315_0 r.1 (c277 r ⟨_, rfl, d315_6 r.1 ?_⟩))
  rw [i_bo_0, Classical.not_not]
  refine ⟨fun z => ?_, fun z => m201 r (fun h2 g2 f2 s2 => ⟨_, rfl, d315_14 g2.1 (by rw [o_A_f z] at H; exact H h2 g2 f2 s2)⟩)⟩
  rw [o_A_t z] at H
  obtain ⟨p, hp, rfl⟩ := n_get z.1 (by omega)
  obtain ⟨q, hq, rfl⟩ := n_get z.2.1 (by omega)
  rw [n_cl (by omega), n_cl (by omega)] at H
  have hfar := (r.2.1.2.2.2.2.2.2.2.2.2.2.1 q hq).2.2.2.2.1
  have key : ∀ k, k ≤ 61 → 1 ≤ k → ∀ u : Option Value, i_P i_MT i_AT L xs 315 23 [some (.ref 138), some (.int (i_n p)), some (.int (i_n q)), some (.int (i_n (o_run (fun m => o_near a p q m) (k - 1)).1)), some (.int (i_n (o_run (fun m => o_near a p q m) (k - 1)).2)), some (.int (i_n k)), u] [] h 0 0 Q := by
    refine l_up ?_ ?_
    · intro _ u
      refine d315_23 r.1 ?_
      try simp (disch := omega) only [n_lit, n_m, n_add, n_mul, n_div, n_mod, n_cl, n_lt, n_le, n_eq, n_in, n_eqm, n_meq, n_mlt, n_ltm, n_mle, n_lem, not_true_eq_false, not_false_eq_true, true_implies, false_implies, true_and, and_true, Nat.not_lt_zero, Nat.zero_le]
      exact ⟨fun _ => m202 r (fun h2 g2 f2 s2 => ⟨_, rfl, d315_118 g2.1 (H h2 g2 f2 s2)⟩), fun z => absurd (by omega) z⟩
    · intro k hk ih hk1 u
      have hl := o_run_le (P := fun m => o_near a p q m) (k - 1)
      have hw := o_wt_le r.2.1 (p := q) (q := p) (m := k) hp (by omega)
      have hpp := r.p hp (show k ≤ 60 by omega)
      have hqq := r.p hq (show k ≤ 60 by omega)
      have hW := r.2.1.pos hpp.1
      have h48 := r.2.1.c48
      have hn := o_far_lt (show 0 < a 0 by omega) hpp.1 hqq.1
      have nx := ih (by omega)
      rw [show k + 1 - 1 = (k - 1) + 1 by omega, o_run, show k - 1 + 1 = k by omega] at nx
      have no : ¬ o_near a p q k = true → ∀ u : Option Value, i_P i_MT i_AT L xs 315 82 [some (.ref 138), some (.int (i_n p)), some (.int (i_n q)), some (.int (i_n (o_run (fun m => o_near a p q m) (k - 1)).1)), some (.int (i_n (o_run (fun m => o_near a p q m) (k - 1)).2)), some (.int (i_n k)), u] [] h 0 0 Q := by
        intro e u
        rw [if_neg e] at nx
        refine d315_82 r.1 (d315_83 r.1 ⟨fun _ => d315_98 r.1 ?_, fun z => absurd rfl z⟩)
        try simp (disch := omega) only [n_lit, n_m, n_add, n_mul, n_div, n_mod, n_cl, n_lt, n_le, n_eq, n_in, n_eqm, n_meq, n_mlt, n_ltm, n_mle, n_lem, not_true_eq_false, not_false_eq_true, true_implies, false_implies, true_and, and_true, Nat.not_lt_zero, Nat.zero_le]
        refine c336n (by omega) (by omega) ⟨_, rfl, d315_106 r.1 ?_⟩
        try simp (disch := omega) only [n_lit, n_m, n_add, n_mul, n_div, n_mod, n_cl, n_lt, n_le, n_eq, n_in, n_eqm, n_meq, n_mlt, n_ltm, n_mle, n_lem, not_true_eq_false, not_false_eq_true, true_implies, false_implies, true_and, and_true, Nat.not_lt_zero, Nat.zero_le]
        exact nx _
      refine d315_23 r.1 ?_
      try simp (disch := omega) only [n_lit, n_m, n_add, n_mul, n_div, n_mod, n_cl, n_lt, n_le, n_eq, n_in, n_eqm, n_meq, n_mlt, n_ltm, n_mle, n_lem, not_true_eq_false, not_false_eq_true, true_implies, false_implies, true_and, and_true, Nat.not_lt_zero, Nat.zero_le, hC]
      refine ⟨fun q => by omega, fun _ => ⟨by omega, by omega, c268 r hpp.1 hqq.1 ⟨_, rfl, d315_58 r.1 (c256 (w := 2) r (by omega) (by omega) ⟨_, rfl, d315_64 r.1 ?_⟩)⟩⟩⟩
      rw [show 154 + 5 * q + 2 = 156 + 5 * q by omega]
      try simp (disch := omega) only [n_lit, n_m, n_add, n_mul, n_div, n_mod, n_cl, n_lt, n_le, n_eq, n_in, n_eqm, n_meq, n_mlt, n_ltm, n_mle, n_lem, not_true_eq_false, not_false_eq_true, true_implies, false_implies, true_and, and_true, Nat.not_lt_zero, Nat.zero_le]
      refine ⟨fun e => no (fun z => by have := (o_near_t.mp z).1; omega) _, fun e => c276 r hq hp (by omega) ⟨_, rfl, d315_75 r.1 ?_⟩⟩
      try simp (disch := omega) only [n_lit, n_m, i_bo01, j_cmpn, Classical.not_not, n_add, n_mul, n_div, n_mod, n_cl, n_lt, n_le, n_eq, n_in, n_eqm, n_meq, n_mlt, n_ltm, n_mle, n_lem, not_true_eq_false, not_false_eq_true, true_implies, false_implies, true_and, and_true, Nat.not_lt_zero, Nat.zero_le]
      refine ⟨fun e2 => no (fun z => by have := (o_near_t.mp z).2; omega) _, fun e2 => d315_83 r.1 ⟨fun z => absurd z (by decide), fun _ => d315_98 r.1 ?_⟩⟩
      rw [if_pos (o_near_t.mpr ⟨by omega, e2⟩)] at nx
      try simp (disch := omega) only [n_lit, n_m, n_add, n_mul, n_div, n_mod, n_cl, n_lt, n_le, n_eq, n_in, n_eqm, n_meq, n_mlt, n_ltm, n_mle, n_lem, not_true_eq_false, not_false_eq_true, true_implies, false_implies, true_and, and_true, Nat.not_lt_zero, Nat.zero_le]
      refine c336n (by omega) (by omega) ⟨_, rfl, d315_106 r.1 ?_⟩
      try simp (disch := omega) only [n_lit, n_m, n_add, n_mul, n_div, n_mod, n_cl, n_lt, n_le, n_eq, n_in, n_eqm, n_meq, n_mlt, n_ltm, n_mle, n_lem, not_true_eq_false, not_false_eq_true, true_implies, false_implies, true_and, and_true, Nat.not_lt_zero, Nat.zero_le]
      exact nx _
  try simp (disch := omega) only [n_lit, n_m, n_add, n_mul, n_div, n_mod, n_cl, n_lt, n_le, n_eq, n_in, n_eqm, n_meq, n_mlt, n_ltm, n_mle, n_lem, not_true_eq_false, not_false_eq_true, true_implies, false_implies, true_and, and_true, Nat.not_lt_zero, Nat.zero_le]
  exact key 1 (by omega) (Nat.le_refl 1) _
theorem c318 (r : i_RA a h) {x y z : Int32} (H : i_R0 a h Q (o_sgnA a x y z)) : i_C i_MT i_AT L xs 318 [.ref 138, .int x, .int y, .int z] h Q := by
  have h5 := r.2.1.2.2.2.2.1
  have hA := r.2.2.1
  unfold o_sgnA at H
  have bad : ¬ (v_2 a x y ∧ 0 ≤ z ∧ z ≤ 999999) → ∀ u v : Option Value, i_P i_MT i_AT L xs 318 21 [some (.ref 138), some (.int x), some (.int y), some (.int z), u, v] [] h 0 0 Q := by
    intro z u v
    rw [o_A6_f z] at H
    exact d318_21 r.1 (m201 r (fun h2 g2 f2 s2 => ⟨_, rfl, d318_26 g2.1 (H h2 g2 f2 s2)⟩))
  refine e318 (d318_0 r.1 (c277 r ⟨_, rfl, d318_6 r.1 ?_⟩))
  rw [i_bo_0, Classical.not_not]
  refine ⟨fun zz => bad (fun q => zz q.1) _ _, fun zz => c212i (y := 0) (z := 999999) r.1 rfl rfl ⟨_, rfl, d318_18 r.1 ?_⟩⟩
  rw [i_bo_0, Classical.not_not]
  refine ⟨fun z2 => ?_, fun z2 => bad (fun q => z2 q.2) _ _⟩
  have hV : v_2 a x y ∧ 0 ≤ z ∧ z ≤ 999999 := ⟨zz, z2⟩
  obtain ⟨p, hp, rfl⟩ := n_get zz.1 (by omega)
  obtain ⟨q, hq, rfl⟩ := n_get zz.2.1 (by omega)
  obtain ⟨f, hf, rfl⟩ := n_gle (k := 999999) z2 (by omega)
  rw [n_cl (by omega), n_cl (by omega), n_cl (by omega)] at H
  have hcell := (r.2.1.2.2.2.2.2.2.2.2.2.2.1 p hp).1
  have h48 := r.2.1.c48
  have hAc := hA (154 + 5 * p) (by omega)
  generalize hcc : a (154 + 5 * p) = c at H hcell hAc
  have key : ∀ k, k ≤ 61 → 1 ≤ k → (∀ i, 1 ≤ i → i < k → decide (o_lft (fun m => o_wgh a q c 4 m) i ≤ f) = false) → i_P i_MT i_AT L xs 318 35 [some (.ref 138), some (.int (i_n p)), some (.int (i_n q)), some (.int (i_n f)), some (.int (i_n (o_lft (fun m => o_wgh a q c 4 m) (k - 1)))), some (.int (i_n k))] [] h 0 0 Q := by
    refine l_up ?_ ?_
    · intro _ hj
      refine d318_35 r.1 ?_
      try simp (disch := omega) only [n_lit, n_m, n_add, n_mul, n_div, n_mod, n_cl, n_lt, n_le, n_eq, n_in, n_eqm, n_meq, n_mlt, n_ltm, n_mle, n_lem, not_true_eq_false, not_false_eq_true, true_implies, false_implies, true_and, and_true, Nat.not_lt_zero, Nat.zero_le]
      rw [o_A6_n hV (o_lst_n 60 1 (fun i q1 q2 => hj i q1 (by omega)))] at H
      exact ⟨fun _ => m201 r (fun h2 g2 f2 s2 => ⟨_, rfl, d318_98 g2.1 (H h2 g2 f2 s2)⟩), fun z => absurd (by omega) z⟩
    · intro k hk ih hk1 hj
      have hw := o_wgh_le r.2.1 (p := q) (c := c) (d := 4) (m := k) (by omega) (by omega)
      have hl := o_lft_le (w := fun m => o_wgh a q c 4 m) (k - 1)
      have hml : o_lft (fun m => o_wgh a q c 4 m) (k - 1) * (16 - o_wgh a q c 4 k) ≤ 1000000 * 16 := Nat.mul_le_mul hl (by omega)
      have e : o_lft (fun m => o_wgh a q c 4 m) k = o_lft (fun m => o_wgh a q c 4 m) (k - 1) * (16 - o_wgh a q c 4 k) / 16 := by
        obtain ⟨d, rfl⟩ : ∃ d, k = d + 1 := ⟨k - 1, by omega⟩
        rfl
      have hl2 := o_lft_le (w := fun m => o_wgh a q c 4 m) k
      refine d318_35 r.1 ?_
      try simp (disch := omega) only [n_lit, n_m, n_add, n_mul, n_div, n_mod, n_cl, n_lt, n_le, n_eq, n_in, n_eqm, n_meq, n_mlt, n_ltm, n_mle, n_lem, not_true_eq_false, not_false_eq_true, true_implies, false_implies, true_and, and_true, Nat.not_lt_zero, Nat.zero_le]
      rw [hAc]
      refine ⟨fun q => by omega, fun _ => ⟨by omega, c275 r hq hcell (by omega) (by omega) ⟨_, rfl, d318_66 r.1 ?_⟩⟩⟩
      try simp (disch := omega) only [n_lit, n_m, n_add, n_mul, n_div, n_mod, n_cl, n_lt, n_le, n_eq, n_in, n_eqm, n_meq, n_mlt, n_ltm, n_mle, n_lem, not_true_eq_false, not_false_eq_true, true_implies, false_implies, true_and, and_true, Nat.not_lt_zero, Nat.zero_le, n_sub]
      rw [← e]
      try simp (disch := omega) only [n_lit, n_m, n_add, n_mul, n_div, n_mod, n_cl, n_lt, n_le, n_eq, n_in, n_eqm, n_meq, n_mlt, n_ltm, n_mle, n_lem, not_true_eq_false, not_false_eq_true, true_implies, false_implies, true_and, and_true, Nat.not_lt_zero, Nat.zero_le]
      refine ⟨fun e2 => ?_, fun e2 => m202 r (fun h3 g3 f3 s3 => ⟨_, rfl, d318_85 g3.1 ?_⟩)⟩
      · have nx := ih (by omega) (fun i q1 q2 => ?_)
        · rw [show k + 1 - 1 = k by omega] at nx
          exact nx
        · by_cases ei : i = k
          · subst ei; simp; omega
          · exact hj i q1 (by omega)
      · rw [o_A6_t hV (o_lst_s (j := k) (by simp; omega) 60 1 (by omega) (by omega) hj)] at H
        exact H h3 g3 f3 s3
  try simp (disch := omega) only [n_lit, n_m, n_add, n_mul, n_div, n_mod, n_cl, n_lt, n_le, n_eq, n_in, n_eqm, n_meq, n_mlt, n_ltm, n_mle, n_lem, not_true_eq_false, not_false_eq_true, true_implies, false_implies, true_and, and_true, Nat.not_lt_zero, Nat.zero_le]
  exact key 1 (by omega) (Nat.le_refl 1) (fun i q1 q2 => by omega)
end
