/-! THE REFERENCE READS WALLS, TREES, LAMPS -/
section
variable {L : Nat} {xs : Nat → Int32} {h : iH} {Q : Option Value → iH → Prop} {a : Nat → Nat} {t : Nat} {n k k0 : Nat} {T : Nat → Nat}
set_option maxRecDepth 20000
theorem i_PR.v (g : i_PR a n k T h) (e : o_tkk T n k = 1) : fI h 138 17 = i_n (o_tkv T n k) := g.2.2.1.2.2.2.1 e
theorem dm_x {W x y : Nat} (hx : x < W) : (W * y + x) % W = x := by rw [Nat.mul_add_mod, Nat.mod_eq_of_lt hx]
theorem dm_y {W x y : Nat} (hx : x < W) : (W * y + x) / W = y := by rw [Nat.mul_add_div (by omega), Nat.div_eq_of_lt hx, Nat.add_zero]
/-- the same but for what nobody asks -/
theorem i_PR.ext {b : Nat → Nat} (g : i_PR a n k T h) (e : ∀ i, i < 680 → b i = a i) (e7 : b 799 = a 799) (e8 : ∀ p, p < a 5 → b (800 + p) = a (800 + p)) : i_PR b n k T h := by
  refine ⟨g.1, g.2.1, g.2.2.1, g.2.2.2.1, ?_, ?_, g.2.2.2.2.2.2.ch (e 5 (by omega)) e8⟩
  · rw [e7]; exact g.2.2.2.2.1
  · intro i hi; rw [e i hi]; exact g.2.2.2.2.2.1 i hi
set_option maxHeartbeats 2000000 in
theorem c233 (g : i_PR a n k0 T h) (w : o_PW a) (hk : k0 ≤ n) (K : i_RR n T h Q (p_wall T n k0 a)) : i_C i_MT i_AT L xs 233 [.ref 138] h Q := by
  have c48 := w.c48
  have w1 := w.2.1
  have l1 := o_ke_le (T := T) hk 1
  have l2 := o_ke_le (T := T) hk 2
  have l3 := o_ke_le (T := T) hk 3
  have l4 := o_ke_le (T := T) hk 4
  have l5 := o_ke_le (T := T) hk 5
  unfold p_wall at K
  refine e233 (d233_0 g.1 (r218 (k2 := o_ke T n 1 k0) rfl g hk (fun h1 g1 f1 => ⟨rfl, d233_4 g1.1 ?_⟩)))
  refine r231 (k2 := o_ke T n 2 k0) rfl g1 w l1.2 (fun e1 e2 h2 g2 f2 x22 => ⟨_, rfl, d233_8 g2.1 ⟨fun _ => ?_, fun z => absurd (by decide) z⟩⟩) (fun e1 h2 L2 f2 b2 => ⟨_, rfl, d233_8 L2 ⟨fun z => absurd rfl z, fun _ => ?_⟩⟩) (fun e1 e2 h2 L2 f2 b2 => ⟨_, rfl, d233_8 L2 ⟨fun z => absurd rfl z, fun _ => ?_⟩⟩)
  rotate_left
  · rw [o_nu_f e1] at K
    exact K h2 L2 (f1.trans f2) b2
  · rw [o_nu_t e1, o_nu_f e2] at K
    exact K h2 L2 (f1.trans f2) b2
  rw [o_nu_t e1, o_nu_t e2] at K
  have q1 := o_nf_0 e1
  have q2 := o_nf_0 e2
  have f2 := f1.trans f2
  rw [x22]
  refine r218 (k2 := o_ke T n 3 k0) rfl g2 l2.2 (fun h3 g3 f3 => ⟨rfl, d233_22 g3.1 ?_⟩)
  have f3 := f2.trans f3
  refine r224 (r := 17) (w := 10) (k2 := o_ke T n 4 k0) rfl g3 l3.2 (by omega) rfl (fun e3 h4 g4 f4 => ⟨_, rfl, d233_30 g4.1 ⟨fun _ => ?_, fun z => absurd (by decide) z⟩⟩) (fun e3 h4 L4 f4 b4 => ⟨_, rfl, d233_30 L4 ⟨fun z => absurd rfl z, fun _ => ?_⟩⟩)
  rotate_left
  · rw [o_wo_f e3] at K
    exact K h4 L4 (f3.trans f4) b4
  rw [o_wo_t e3] at K
  have f4 := f3.trans f4
  have eW : aI h4 139 2720 = i_n (a 0) := g4.A (i := 0) (by omega)
  generalize o_tkv T n (o_ke T n 1 k0) = X0 at *
  generalize o_tkv T n (o_ke T n 2 k0) = Y0 at *
  have cX : (a 0 * Y0 + X0) % a 0 = X0 := dm_x (by omega)
  have cY : (a 0 * Y0 + X0) / a 0 = Y0 := dm_y (by omega)
  have c0l : a 0 * Y0 + X0 < 48 := by
    have : a 0 * Y0 + a 0 ≤ a 0 * a 1 := by
      rw [← Nat.mul_succ]
      exact Nat.mul_le_mul_left _ (by omega)
    omega
  generalize hc0 : a 0 * Y0 + X0 = c0 at *
  have vl := o_tkv_lt (T := T) (n := n) (k := o_ke T n 4 k0)
  have vl5 := o_tkv_lt (T := T) (n := n) (k := o_ke T n 5 k0)
  have zd := z_dv c0 (a 0)
  try simp (disch := omega) only [n_lit, n_m, n_add, n_mul, n_div, n_mod, n_cl, n_lt, n_le, n_eq, n_in, n_eqm, n_meq, n_mlt, n_ltm, n_mle, n_lem, not_true_eq_false, not_false_eq_true, true_implies, false_implies, true_and, and_true, Nat.not_lt_zero, Nat.zero_le, eW, g4.kn]
  have p76 : ∀ {x3 x4 x5 : Option Value}, o_nf T n (o_ke T n 4 k0) X0 (a 0 - 1) = 4 → o_tkk T n (o_ke T n 4 k0) = 1 → i_P i_MT i_AT L xs 233 76 [some (.ref 138), some (.int (i_n c0)), some (.int (i_n (a 0))), x3, x4, x5] [] h4 0 0 Q := fun nf kk => by
    rw [o_nu_f (by omega), nf] at K
    exact d233_76 g4.1 (r221g g4 (x := 4) (by omega) (fun h5 L5 f5 b5 => ⟨_, rfl, d233_81 L5 ⟨rfl, K h5 L5 (f4.trans f5) b5⟩⟩))
  refine ⟨fun kk => ?_, fun kk => r221b g4 (fun h5 L5 f5 b5 => ⟨_, rfl, d233_57 L5 ⟨rfl, ?_⟩⟩)⟩
  rotate_left
  · rw [o_nu_f (o_nf_b0 kk), o_nf_b kk] at K
    exact K h5 L5 (f4.trans f5) b5
  rw [g4.v kk]
  try simp (disch := omega) only [n_lit, n_m, n_add, n_mul, n_div, n_mod, n_cl, n_lt, n_le, n_eq, n_in, n_eqm, n_meq, n_mlt, n_ltm, n_mle, n_lem, not_true_eq_false, not_false_eq_true, true_implies, false_implies, true_and, and_true, Nat.not_lt_zero, Nat.zero_le]
  refine ⟨by omega, fun y => p76 (o_nf_4 kk (by omega)) kk, fun y => ⟨fun y2 => ?_, fun y2 => p76 (o_nf_4 kk (by omega)) kk⟩⟩
  have nf4 : o_nf T n (o_ke T n 4 k0) X0 (a 0 - 1) = 0 := o_nf_t kk (by omega)
  rw [o_nu_t nf4] at K
  clear p76
  refine r218 (k2 := o_ke T n 5 k0) rfl g4 l4.2 (fun h5 g5 f5 => ⟨rfl, d233_91 g5.1 ?_⟩)
  have f5 := f4.trans f5
  have eH : aI h5 139 2721 = i_n (a 1) := g5.A (i := 1) (by omega)
  generalize o_tkv T n (o_ke T n 4 k0) = X1 at *
  try simp (disch := omega) only [n_lit, n_m, n_add, n_mul, n_div, n_mod, n_cl, n_lt, n_le, n_eq, n_in, n_eqm, n_meq, n_mlt, n_ltm, n_mle, n_lem, not_true_eq_false, not_false_eq_true, true_implies, false_implies, true_and, and_true, Nat.not_lt_zero, Nat.zero_le, eH, g5.kn]
  have p130 : ∀ {x4 x5 : Option Value}, o_nf T n (o_ke T n 5 k0) Y0 (a 1 - 1) = 4 → o_tkk T n (o_ke T n 5 k0) = 1 → i_P i_MT i_AT L xs 233 130 [some (.ref 138), some (.int (i_n c0)), some (.int (i_n (a 0))), some (.int (i_n X1)), x4, x5] [] h5 0 0 Q := fun nf kk => by
    rw [o_nu_f (by omega), nf] at K
    exact d233_130 g5.1 (r221g g5 (x := 4) (by omega) (fun h6 L6 f6 b6 => ⟨_, rfl, d233_135 L6 ⟨rfl, K h6 L6 (f5.trans f6) b6⟩⟩))
  refine ⟨fun k5 => ?_, fun k5 => r221b g5 (fun h6 L6 f6 b6 => ⟨_, rfl, d233_104 L6 ⟨rfl, ?_⟩⟩)⟩
  rotate_left
  · rw [o_nu_f (o_nf_b0 k5), o_nf_b k5] at K
    exact K h6 L6 (f5.trans f6) b6
  rw [g5.v k5, cY]
  try simp (disch := omega) only [n_lit, n_m, n_add, n_mul, n_div, n_mod, n_cl, n_lt, n_le, n_eq, n_in, n_eqm, n_meq, n_mlt, n_ltm, n_mle, n_lem, not_true_eq_false, not_false_eq_true, true_implies, false_implies, true_and, and_true, Nat.not_lt_zero, Nat.zero_le]
  refine ⟨by omega, fun z => p130 (o_nf_4 k5 (by omega)) k5, fun z => ⟨fun z2 => ?_, fun z2 => p130 (o_nf_4 k5 (by omega)) k5⟩⟩
  have nf5 : o_nf T n (o_ke T n 5 k0) Y0 (a 1 - 1) = 0 := o_nf_t k5 (by omega)
  rw [o_nu_t nf5] at K
  clear p130
  generalize o_tkv T n (o_ke T n 5 k0) = Y1 at *
  have dX : (a 0 * Y1 + X1) % a 0 = X1 := dm_x (by omega)
  have dY : (a 0 * Y1 + X1) / a 0 = Y1 := dm_y (by omega)
  have c1l : a 0 * Y1 + X1 < 48 := by
    have : a 0 * Y1 + a 0 ≤ a 0 * a 1 := by
      rw [← Nat.mul_succ]
      exact Nat.mul_le_mul_left _ (by omega)
    omega
  try simp (disch := omega) only [n_lit, n_m, n_add, n_mul, n_div, n_mod, n_cl, n_lt, n_le, n_eq, n_in, n_eqm, n_meq, n_mlt, n_ltm, n_mle, n_lem, not_true_eq_false, not_false_eq_true, true_implies, false_implies, true_and, and_true, Nat.not_lt_zero, Nat.zero_le]
  generalize a 0 * Y1 + X1 = c1 at *
  have btw : ∀ {c : Nat} {h6 : iH} {R : Option Value → iH → Prop}, i_Lay h6 → c < 48 → R (some (.int (i_bo (o_btw (a 0) X0 Y0 X1 Y1 c = true)))) h6 → i_C i_MT i_AT L xs 234 [.int (i_n c), .int (i_n c0), .int (i_n c1), .int (i_n (a 0))] h6 R := fun L6 hc H => by
    refine c234 L6 (by omega) (by omega) (by omega) (by omega) ?_
    rw [cX, cY, dX, dY]
    exact H
  -- the walls are laid
  have lay : ¬ o_hit a X0 Y0 X1 Y1 = true → ∀ c, c ≤ a 0 * a 1 → ∀ h6, i_Lay h6 → i_Fr [139] [] h5 h6 → (∀ i, aI h6 139 i = if 2730 ≤ i ∧ i < 2730 + c ∧ o_btw (a 0) X0 Y0 X1 Y1 (i - 2730) = true then i_n 1 else aI h5 139 i) → i_P i_MT i_AT L xs 233 200 [some (.ref 138), some (.int (i_n c0)), some (.int (i_n (a 0))), some (.int (i_n X1)), some (.int (i_n c1)), some (.int (i_n c))] [] h6 0 0 Q := by
    intro nh
    rw [if_neg nh] at K
    refine l_up ?_ ?_
    · intro h6 L6 F6 E6
      refine d233_200 L6 ?_
      have e1 : aI h6 139 2721 = i_n (a 1) := by rw [E6, if_neg (by omega)]; exact eH
      try simp (disch := omega) only [n_lit, n_m, n_add, n_mul, n_div, n_mod, n_cl, n_lt, n_le, n_eq, n_in, n_eqm, n_meq, n_mlt, n_ltm, n_mle, n_lem, not_true_eq_false, not_false_eq_true, true_implies, false_implies, true_and, and_true, Nat.not_lt_zero, Nat.zero_le, e1, Nat.le_refl]
      have g6 : i_PR (o_wld a X0 Y0 X1 Y1) n (o_ke T n 5 k0) T h6 := by
        refine ⟨L6, g5.2.1.fr F6 (by simp) (by simp), g5.2.2.1.fr F6 (fun _ _ => by simp), ?_, ?_, ?_, (g5.2.2.2.2.2.2.fr F6 (by simp)).ch (o_wld_o w (by omega)) (fun p hp => o_wld_o w (by omega))⟩
        · rw [F6.vI (by simp), F6.vI (by simp)]; exact g5.2.2.2.1
        · rw [F6.vI (by simp), o_wld_o w (by omega)]; exact g5.2.2.2.2.1
        · intro i hi
          rw [E6]
          unfold o_wld
          by_cases q : 10 ≤ i ∧ i < 10 + a 0 * a 1 ∧ o_btw (a 0) X0 Y0 X1 Y1 (i - 10) = true
          · rw [if_pos q, if_pos ⟨by omega, by omega, by rw [show 2720 + i - 2730 = i - 10 by omega]; exact q.2.2⟩]
          · rw [if_neg q, if_neg (fun y => q ⟨by omega, by omega, by rw [show 2720 + i - 2730 = i - 10 by omega] at y; exact y.2.2⟩)]
            exact g5.A hi
      have f6 : i_GN h5 h6 := ⟨F6.mono (by simp) (fun _ z => absurd z (by simp)), fun i hi => by rw [E6, if_neg (by omega)], fun i hi => by rw [F6.rJ (by simp)]⟩
      exact r218 (k2 := o_ke T n 6 k0) rfl g6 l5.2 (fun h7 g7 f7 => ⟨rfl, d233_249 g7.1 (K h7 (f5.trans (f6.trans f7)) g7)⟩)
    · intro c hc ih h6 L6 F6 E6
      refine d233_200 L6 ?_
      have e1 : aI h6 139 2721 = i_n (a 1) := by rw [E6, if_neg (by omega)]; exact eH
      try simp (disch := omega) only [n_lit, n_m, n_add, n_mul, n_div, n_mod, n_cl, n_lt, n_le, n_eq, n_in, n_eqm, n_meq, n_mlt, n_ltm, n_mle, n_lem, not_true_eq_false, not_false_eq_true, true_implies, false_implies, true_and, and_true, Nat.not_lt_zero, Nat.zero_le, e1]
      refine ⟨fun q => by omega, fun _ => btw L6 (by omega) ⟨_, rfl, d233_224 L6 ?_⟩⟩
      rw [i_bo_0]
      try simp (disch := omega) only [n_lit, n_m, n_add, n_mul, n_div, n_mod, n_cl, n_lt, n_le, n_eq, n_in, n_eqm, n_meq, n_mlt, n_ltm, n_mle, n_lem, not_true_eq_false, not_false_eq_true, true_implies, false_implies, true_and, and_true, Nat.not_lt_zero, Nat.zero_le]
      refine ⟨fun q => d233_239 L6 ?_, fun q => ⟨by omega, ?_⟩⟩
      · try simp (disch := omega) only [n_lit, n_m, n_add, n_mul, n_div, n_mod, n_cl, n_lt, n_le, n_eq, n_in, n_eqm, n_meq, n_mlt, n_ltm, n_mle, n_lem, not_true_eq_false, not_false_eq_true, true_implies, false_implies, true_and, and_true, Nat.not_lt_zero, Nat.zero_le]
        refine ih h6 L6 F6 (fun i => ?_)
        rw [E6]
        by_cases y : 2730 ≤ i ∧ i < 2730 + c ∧ o_btw (a 0) X0 Y0 X1 Y1 (i - 2730) = true
        · rw [if_pos y, if_pos ⟨y.1, by omega, y.2.2⟩]
        · rw [if_neg y, if_neg]
          rintro ⟨y1, y2, y3⟩
          by_cases y4 : i = 2730 + c
          · subst y4
            rw [show 2730 + c - 2730 = c by omega] at y3
            exact q y3
          · exact y ⟨y1, by omega, y3⟩
      · have q := Classical.not_not.mp q
        refine w_siI (R := fun z => i_P i_MT i_AT L xs 233 239 [some (.ref 138), some (.int (i_n c0)), some (.int (i_n (a 0))), some (.int (i_n X1)), some (.int (i_n c1)), some (.int (i_n c))] [] z 0 0 Q) L6 L6.a139 (fun h7 L7 F7 E7 => d233_239 L7 ?_)
        try simp (disch := omega) only [n_lit, n_m, n_add, n_mul, n_div, n_mod, n_cl, n_lt, n_le, n_eq, n_in, n_eqm, n_meq, n_mlt, n_ltm, n_mle, n_lem, not_true_eq_false, not_false_eq_true, true_implies, false_implies, true_and, and_true, Nat.not_lt_zero, Nat.zero_le]
        refine ih h7 L7 (F6.trans F7) (fun i => ?_)
        rw [E7]
        by_cases y4 : i = 2730 + c
        · subst y4
          rw [if_pos rfl, if_pos ⟨by omega, by omega, by rw [show 2730 + c - 2730 = c by omega]; exact q⟩]
        · rw [if_neg y4, E6]
          by_cases y : 2730 ≤ i ∧ i < 2730 + c ∧ o_btw (a 0) X0 Y0 X1 Y1 (i - 2730) = true
          · rw [if_pos y, if_pos ⟨y.1, by omega, y.2.2⟩]
          · rw [if_neg y, if_neg (fun z => y ⟨z.1, by omega, z.2.2⟩)]
  have find : ∀ c, c ≤ a 0 * a 1 → (∀ d, d < c → ¬ (o_btw (a 0) X0 Y0 X1 Y1 d && o_held a d) = true) → i_P i_MT i_AT L xs 233 149 [some (.ref 138), some (.int (i_n c0)), some (.int (i_n (a 0))), some (.int (i_n X1)), some (.int (i_n c1)), some (.int (i_n c))] [] h5 0 0 Q := by
    refine l_up ?_ ?_
    · intro nh
      refine d233_149 g5.1 ?_
      try simp (disch := omega) only [n_lit, n_m, n_add, n_mul, n_div, n_mod, n_cl, n_lt, n_le, n_eq, n_in, n_eqm, n_meq, n_mlt, n_ltm, n_mle, n_lem, not_true_eq_false, not_false_eq_true, true_implies, false_implies, true_and, and_true, Nat.not_lt_zero, Nat.zero_le, eH, Nat.le_refl]
      refine lay ?_ 0 (Nat.zero_le _) h5 g5.1 i_Fr.refl (fun i => by rw [if_neg (by omega)])
      unfold o_hit
      rw [Bool.not_eq_true, List.any_eq_false]
      intro c hc
      exact nh c (List.mem_range.mp hc)
    · intro c hc ih nh
      have nx : ¬ (o_btw (a 0) X0 Y0 X1 Y1 c && o_held a c) = true → i_P i_MT i_AT L xs 233 191 [some (.ref 138), some (.int (i_n c0)), some (.int (i_n (a 0))), some (.int (i_n X1)), some (.int (i_n c1)), some (.int (i_n c))] [] h5 0 0 Q := fun q => by
        refine d233_191 g5.1 ?_
        try simp (disch := omega) only [n_lit, n_m, n_add, n_mul, n_div, n_mod, n_cl, n_lt, n_le, n_eq, n_in, n_eqm, n_meq, n_mlt, n_ltm, n_mle, n_lem, not_true_eq_false, not_false_eq_true, true_implies, false_implies, true_and, and_true, Nat.not_lt_zero, Nat.zero_le]
        refine ih (fun d hd => ?_)
        by_cases y : d = c
        · subst y; exact q
        · exact nh d (by omega)
      refine d233_149 g5.1 ?_
      try simp (disch := omega) only [n_lit, n_m, n_add, n_mul, n_div, n_mod, n_cl, n_lt, n_le, n_eq, n_in, n_eqm, n_meq, n_mlt, n_ltm, n_mle, n_lem, not_true_eq_false, not_false_eq_true, true_implies, false_implies, true_and, and_true, Nat.not_lt_zero, Nat.zero_le, eH]
      refine ⟨fun q => by omega, fun _ => btw g5.1 (by omega) ⟨_, rfl, d233_173 g5.1 ?_⟩⟩
      rw [i_bo_0]
      refine ⟨fun q => nx (fun y => ?_), fun q => c232 g5 w (by omega) ⟨_, rfl, d233_182 g5.1 ?_⟩⟩
      · rw [Bool.and_eq_true] at y
        exact q y.1
      · rw [i_bo_0]
        refine ⟨fun q2 => nx (fun y => ?_), fun q2 => r221g g5 (x := 5) (by omega) (fun h6 L6 f6 b6 => ⟨_, rfl, d233_190 L6 ⟨rfl, ?_⟩⟩)⟩
        · rw [Bool.and_eq_true] at y
          exact q2 y.2
        · have hit : o_hit a X0 Y0 X1 Y1 = true := by
            unfold o_hit
            refine List.any_eq_true.mpr ⟨c, List.mem_range.mpr hc, ?_⟩
            rw [Bool.and_eq_true]
            exact ⟨Classical.not_not.mp q, Classical.not_not.mp q2⟩
          rw [if_pos hit] at K
          exact K h6 L6 (f5.trans f6) b6
  exact find 0 (Nat.zero_le _) (fun d hd => absurd hd (by omega))
end
