/-! THE REFERENCE READS who hides, who shows, what is seen; a part -/
section
variable {L : Nat} {xs : Nat → Int32} {h : iH} {Q : Option Value → iH → Prop} {a : Nat → Nat} {t : Nat} {n k k0 : Nat} {T : Nat → Nat}
set_option maxRecDepth 20000
set_option maxHeartbeats 1000000 in
theorem c240 {hd w0 off : Nat} (ho : (hd = 1 ∧ w0 = 21 ∧ off = 157) ∨ (hd = 0 ∧ w0 = 10 ∧ off = 158)) (g : i_PR a n k0 T h) (w : o_PW a) (hk : k0 ≤ n) (K : i_RR n T h Q (p_pair T n w0 off k0 a)) : i_C i_MT i_AT L xs 240 [.ref 138, .int (i_n hd)] h Q := by
  have h5 := w.1.2.2.2.2.1
  have l1 := o_ke_le (T := T) hk 1
  have l2 := o_ke_le (T := T) hk 2
  have l3 := o_ke_le (T := T) hk 3
  unfold p_pair at K
  refine e240 (d240_0 g.1 (r218 (k2 := o_ke T n 1 k0) rfl g hk (fun h1 g1 f1 => ⟨rfl, d240_4 g1.1 ?_⟩)))
  have e5 : aI h1 139 2725 = i_n (a 5) := g1.A (i := 5) (by omega)
  try simp (disch := omega) only [n_lit, n_m, n_add, n_mul, n_div, n_mod, n_cl, n_lt, n_le, n_eq, n_in, n_eqm, n_meq, n_mlt, n_ltm, n_mle, n_lem, not_true_eq_false, not_false_eq_true, true_implies, false_implies, true_and, and_true, Nat.not_lt_zero, Nat.zero_le, e5]
  refine r239 g1 l1.2 w (fun e1 p ep => ⟨_, rfl, d240_18 g1.1 ⟨fun _ => ?_, fun y => ?_⟩⟩) (fun e1 h2 L2 f2 b2 => ⟨_, rfl, d240_18 L2 ⟨fun y => absurd rfl y, fun _ => ?_⟩⟩) (fun e1 ep h2 L2 f2 b2 => ⟨_, rfl, d240_18 L2 ⟨fun y => absurd rfl y, fun _ => ?_⟩⟩)
  rotate_left
  · have hp := o_fd_lt ep
    have y : i_n p = i_m := Classical.not_not.mp y
    rw [n_eqm (by omega)] at y
    exact y.elim
  · rw [if_neg e1] at K
    exact K h2 L2 (f1.trans f2) b2
  · rw [if_pos e1, ep] at K
    exact K h2 L2 (f1.trans f2) b2
  have hp := o_fd_lt ep
  rw [if_pos e1, ep] at K
  refine r218 (k2 := o_ke T n 2 k0) rfl g1 l1.2 (fun h2 g2 f2 => ⟨rfl, d240_30 g2.1 ?_⟩)
  have f2 := f1.trans f2
  have K : i_RR n T h Q (o_wo T n (o_ke T n 2 k0) w0 (if o_nm T n (o_ke T n 3 k0) then (match o_fnd a (o_tkc T n (o_ke T n 3 k0)) with
    | none => .inl (3, o_tks T n (o_ke T n 3 k0))
    | some q => if q = p then .inl (5, o_tks T n (o_ke T n 3 k0)) else .inr (o_ke T n 4 k0, o_su a (off + 5 * p) (a (off + 5 * p) ||| (1 <<< q))))
    else o_no T n (o_ke T n 3 k0))) := K
  have word : ∀ r, r < 33 → o_cw r = w0 → ∀ (y3 : Option Value), i_P i_MT i_AT L xs 240 44 [some (.ref 138), some (.int (i_n hd)), some (.int (i_n p)), y3] [.int (i_n r), .retAddr 7, .ref 138] h2 0 0 Q := by
    intro r hr hrw y3
    refine d240_44 g2.1 (r224 (r := r) (w := w0) (k2 := o_ke T n 3 k0) rfl g2 l2.2 hr hrw (fun e2 h3 g3 f3 => ⟨_, rfl, d240_47 g3.1 ⟨fun _ => ?_, fun z => absurd (by decide) z⟩⟩) (fun e2 h3 L3 f3 b3 => ⟨_, rfl, d240_47 L3 ⟨fun z => absurd rfl z, fun _ => ?_⟩⟩))
    rotate_left
    · rw [o_wo_f e2] at K
      exact K h3 L3 (f2.trans f3) b3
    rw [o_wo_t e2] at K
    have f3 := f2.trans f3
    have e5 : aI h3 139 2725 = i_n (a 5) := g3.A (i := 5) (by omega)
    try simp (disch := omega) only [n_lit, n_m, n_add, n_mul, n_div, n_mod, n_cl, n_lt, n_le, n_eq, n_in, n_eqm, n_meq, n_mlt, n_ltm, n_mle, n_lem, not_true_eq_false, not_false_eq_true, true_implies, false_implies, true_and, and_true, Nat.not_lt_zero, Nat.zero_le, e5]
    refine r239 g3 l3.2 w (fun e3 q eq => ⟨_, rfl, d240_66 g3.1 ⟨fun _ => ?_, fun y => ?_⟩⟩) (fun e3 h4 L4 f4 b4 => ⟨_, rfl, d240_66 L4 ⟨fun y => absurd rfl y, fun _ => ?_⟩⟩) (fun e3 eq h4 L4 f4 b4 => ⟨_, rfl, d240_66 L4 ⟨fun y => absurd rfl y, fun _ => ?_⟩⟩)
    rotate_left
    · have hq := o_fd_lt eq
      have y : i_n q = i_m := Classical.not_not.mp y
      rw [n_eqm (by omega)] at y
      exact y.elim
    · rw [if_neg e3] at K
      exact K h4 L4 (f3.trans f4) b4
    · rw [if_pos e3, eq] at K
      exact K h4 L4 (f3.trans f4) b4
    have hq := o_fd_lt eq
    rw [if_pos e3, eq] at K
    have K : i_RR n T h Q (if q = p then .inl (5, o_tks T n (o_ke T n 3 k0)) else .inr (o_ke T n 4 k0, o_su a (off + 5 * p) (a (off + 5 * p) ||| (1 <<< q)))) := K
    have w11 := w.1.2.2.2.2.2.2.2.2.2.2.1 p hp
    rw [show (5 : Int32) = i_n 5 from rfl, show (2874 : Int32) = i_n 2874 from rfl, n_mul, n_add, n_eq (by omega) (by omega)]
    refine ⟨fun y => ?_, fun y => r221g g3 (x := 5) (by have := e3.1; omega) (fun h4 L4 f4 b4 => ⟨_, rfl, d240_84 L4 ⟨rfl, ?_⟩⟩)⟩
    rotate_left
    · rw [if_pos (Classical.not_not.mp y)] at K
      exact K h4 L4 (f3.trans f4) b4
    rw [if_neg y] at K
    have put : ∀ s, 2874 + 5 * p + s = 2720 + (off + 5 * p) → s < 5 → i_P i_MT i_AT L xs 240 105 [some (.ref 138), some (.int (i_n hd)), some (.int (i_n p)), some (.int (i_n q))] [.int (i_n s), .int (i_n (2874 + 5 * p)), .ref 139] h3 0 0 Q := by
      intro s hs hs5
      have ea : aI h3 139 (2720 + (off + 5 * p)) = i_n (a (off + 5 * p)) := g3.A (by omega)
      refine d240_105 g3.1 ⟨3400, aI h3 139, g3.1.a139, ?_⟩
      rw [n_add, hs, n_cl (by omega), n_in (by omega)]
      refine ⟨by omega, 3400, aI h3 139, g3.1.a139, (n_in (by omega)).mpr (by omega), ?_⟩
      rw [ea, show (1 : Int32) = i_n 1 from rfl, show (31 : Int32) = i_n 31 from rfl, n_shl 1 (by omega), n_or]
      refine w_139 (j := off + 5 * p) (R := fun z => i_P i_MT i_AT L xs 240 113 [some (.ref 138), some (.int (i_n hd)), some (.int (i_n p)), some (.int (i_n q))] [] z 0 0 Q) g3 (by omega) (by omega) (fun h4 g4 f4 => d240_113 g4.1 ?_)
      exact r218 (k2 := o_ke T n 4 k0) rfl g4 l3.2 (fun h5 g5 f5 => ⟨rfl, d240_117 g5.1 (K h5 (f3.trans (f4.trans f5)) g5)⟩)
    rcases ho with ⟨rfl, rfl, rfl⟩ | ⟨rfl, rfl, rfl⟩
    · exact ⟨fun z => absurd z (by decide), fun _ => put 3 (by omega) (by omega)⟩
    · exact ⟨fun _ => put 4 (by omega) (by omega), fun z => absurd rfl z⟩
  rcases ho with ⟨rfl, rfl, rfl⟩ | ⟨rfl, rfl, rfl⟩
  · exact ⟨fun z => absurd z (by decide), fun _ => word 23 (by omega) rfl _⟩
  · exact ⟨fun _ => word 17 (by omega) rfl _, fun z => absurd rfl z⟩
set_option maxHeartbeats 1000000 in
theorem c241 (g : i_PR a n k0 T h) (kw : o_tkk T n k0 ≠ 4) (w : o_PW a) (hk : k0 ≤ n) (K : i_RR n T h Q (p_seen T n k0 a)) : i_C i_MT i_AT L xs 241 [.ref 138] h Q := by
  have l1 := o_ke_le (T := T) hk 1
  have v7 := w.2.2.2.2.1
  have loop : ∀ f i k (b : Nat → Nat), f + i = 4 → k ≤ n → ∀ h1, i_PR b n k T h1 → i_GN h h1 → i_RR n T h Q (p_sn T n f i k b) → i_P i_MT i_AT L xs 241 25 [some (.ref 138), some (.int (i_n i))] [] h1 0 0 Q := by
    intro f
    induction f with
    | zero =>
      intro i k b hf hk h1 g1 f1 K
      rw [p_sn_0] at K
      refine d241_25 g1.1 ?_
      try simp (disch := omega) only [n_lit, n_m, n_add, n_mul, n_div, n_mod, n_cl, n_lt, n_le, n_eq, n_in, n_eqm, n_meq, n_mlt, n_ltm, n_mle, n_lem, not_true_eq_false, not_false_eq_true, true_implies, false_implies, true_and, and_true, Nat.not_lt_zero, Nat.zero_le]
      exact ⟨fun _ => K h1 f1 g1, fun q => by omega⟩
    | succ f ih =>
      intro i k b hf hk h1 g1 f1 K
      rw [p_sn_s] at K
      have l1 := o_tk_le (T := T) hk
      have l2 := o_tk_le (T := T) l1.2.2
      have cw : o_cw (24 + i) = 24 + i := by
        have : ∀ j : Fin 4, o_cw (24 + j.val) = 24 + j.val := by decide
        exact this ⟨i, by omega⟩
      refine d241_25 g1.1 ?_
      try simp (disch := omega) only [n_lit, n_m, n_add, n_mul, n_div, n_mod, n_cl, n_lt, n_le, n_eq, n_in, n_eqm, n_meq, n_mlt, n_ltm, n_mle, n_lem, not_true_eq_false, not_false_eq_true, true_implies, false_implies, true_and, and_true, Nat.not_lt_zero, Nat.zero_le]
      refine ⟨fun q => by omega, fun _ => r224 (r := 24 + i) (w := 24 + i) rfl g1 hk (by omega) cw (fun e2 h2 g2 f2 => ⟨_, rfl, d241_40 g2.1 ⟨fun z => absurd z (by decide), fun _ => ?_⟩⟩) (fun e2 h2 L2 f2 b2 => ⟨_, rfl, d241_40 L2 ⟨fun _ => d241_58 L2 ?_, fun z => absurd rfl z⟩⟩)⟩
      rotate_left
      · rw [o_wo_f e2] at K
        exact K h2 L2 (f1.trans f2) b2
      rw [o_wo_t e2] at K
      have f2 := f1.trans f2
      try simp (disch := omega) only [n_lit, n_m, n_add, n_mul, n_div, n_mod, n_cl, n_lt, n_le, n_eq, n_in, n_eqm, n_meq, n_mlt, n_ltm, n_mle, n_lem, not_true_eq_false, not_false_eq_true, true_implies, false_implies, true_and, and_true, Nat.not_lt_zero, Nat.zero_le]
      rw [show 2726 + i = 2720 + (6 + i) by omega]
      refine r225 (lo := 0) (hi := 16) rfl g2 l1.2.2 (by omega) (by omega) (by omega) (by omega) (fun e3 h3 g3 f3 => ⟨_, rfl, d241_55 g3.1 ⟨fun _ => ?_, fun z => absurd (by decide) z⟩⟩) (fun e3 h3 L3 f3 b3 => ⟨_, rfl, d241_55 L3 ⟨fun z => absurd rfl z, fun _ => d241_58 L3 ?_⟩⟩)
      rotate_left
      · rw [o_nu_f e3] at K
        exact K h3 L3 (f2.trans f3) b3
      rw [o_nu_t e3] at K
      try simp (disch := omega) only [n_lit, n_m, n_add, n_mul, n_div, n_mod, n_cl, n_lt, n_le, n_eq, n_in, n_eqm, n_meq, n_mlt, n_ltm, n_mle, n_lem, not_true_eq_false, not_false_eq_true, true_implies, false_implies, true_and, and_true, Nat.not_lt_zero, Nat.zero_le]
      exact ih (i + 1) _ _ (by omega) l2.2.2 h3 g3 (f2.trans f3) K
  unfold p_seen at K
  refine e241 (d241_0 g.1 ?_)
  rw [g.2.2.2.2.1]
  try simp (disch := omega) only [n_lit, n_m, n_add, n_mul, n_div, n_mod, n_cl, n_lt, n_le, n_eq, n_in, n_eqm, n_meq, n_mlt, n_ltm, n_mle, n_lem, not_true_eq_false, not_false_eq_true, true_implies, false_implies, true_and, and_true, Nat.not_lt_zero, Nat.zero_le]
  refine ⟨fun q => ?_, fun q => r221g g (x := 5) kw (fun h2 L2 f2 b2 => ⟨_, rfl, d241_13 L2 ⟨rfl, ?_⟩⟩)⟩
  rotate_left
  · rw [if_pos (Classical.not_not.mp q)] at K
    exact K h2 L2 f2 b2
  rw [if_neg q] at K
  refine w_sfI (R := fun z => ∀ (y1 : Option Value), i_P i_MT i_AT L xs 241 19 [some (.ref 138), y1] [] z 0 0 Q) g.1 g.1.q138_21 (fun h1 L1 F1 E1 => fun y1 => d241_19 L1 ?_) _
  have g1 : i_PR (o_su a 799 1) n k0 T h1 := by
    refine ⟨L1, g.2.1.fr F1 (by simp) (by simp), g.2.2.1.fr F1 (by decide), ?_, ?_, ?_, (g.2.2.2.2.2.2.fr F1 (by simp)).ch (o_su_f (by omega)) (fun p hp => o_su_f (by have := w.1.2.2.2.2.1; omega))⟩
    · rw [F1.vI (by simp), F1.vI (by simp)]; exact g.2.2.2.1
    · rw [E1, o_su_t]
    · intro i hi
      rw [F1.rI (by simp), o_su_f (by omega)]; exact g.2.2.2.2.2.1 i hi
  exact r218 (k2 := o_ke T n 1 k0) rfl g1 hk (fun h2 g2 f2 => ⟨rfl, d241_23 g2.1 (loop 4 0 (o_ke T n 1 k0) _ rfl l1.2 h2 g2 ((i_GN.of F1 (by decide)).trans f2) K)⟩)
theorem o_ri_int {r w : Nat} (hr : r < 33) (hw : o_cw r = w) : (o_rix (o_wy T n k)).toInt = (r : Int) ↔ o_wy T n k = w := by
  rw [← hw, ← o_ri_is hr]
  constructor
  · intro e
    refine Int32.toInt_inj.mp ?_
    rw [e, n_int (by omega)]
  · intro e
    rw [e, n_int (by omega)]
theorem o_rc_9 : ∀ u : Fin 33, (u.val = 9 ∨ u.val = 11 ∨ u.val = 13 ∨ u.val = 15 ∨ u.val = 16 ∨ u.val = 20 ∨ u.val = 22 ∨ u.val = 23) → (9 ≤ o_rc u.val ∧ o_rc u.val ≤ 16) := by decide +kernel
theorem o_ri_no (e : (o_rix (o_wy T n k)).toInt < 9 ∨ 16 < (o_rix (o_wy T n k)).toInt) : o_wy T n k ≠ 9 ∧ o_wy T n k ≠ 11 ∧ o_wy T n k ≠ 13 ∧ o_wy T n k ≠ 15 ∧ o_wy T n k ≠ 16 ∧ o_wy T n k ≠ 20 ∧ o_wy T n k ≠ 22 ∧ o_wy T n k ≠ 23 := by
  rcases o_wy_cases (T := T) (n := n) (k := k) with ⟨-, q⟩ | ⟨u, hu, -, q⟩
  · omega
  · have h9 := o_rc_9 ⟨u, hu⟩
    have h2 := o_rc_1 ⟨u, hu⟩
    dsimp only at h9 h2
    unfold o_rix at e
    rw [q, if_neg (by omega), n_int (by omega)] at e
    omega
set_option maxHeartbeats 1000000 in
theorem c242 (g : i_PR a n k0 T h) (w : o_PW a) (hk : k0 ≤ n) (K : i_RR n T h Q (p_stop T n (p_part T n k0 a))) : i_C i_MT i_AT L xs 242 [.ref 138] h Q := by
  have kw : o_wy T n k0 ≠ 99 → o_tkk T n k0 ≠ 4 := fun e => by have := o_wy_kind e; omega
  have run : ∀ {Q2 : Option Value → iH → Prop} (r : o_R), o_good n k0 r → i_RR n T h Q (p_stop T n r) → (∀ x h2, i_Lay h2 → i_P i_MT i_AT L xs 242 124 [some (.ref 138), some (.int x)] [] h2 0 0 Q → Q2 (some (.int x)) h2) → i_RR n T h Q2 r := by
    intro Q2 r gd K nx
    match r, gd, K with
    | .inl (f, p), gd, K => exact fun h2 L2 f2 b2 => nx 0 h2 L2 (d242_124 L2 ⟨fun _ => d242_141 L2 (d242_142 L2 ⟨rfl, K h2 L2 f2 b2⟩), fun z => absurd rfl z⟩)
    | .inr (k2, a2), gd, K =>
      intro h2 f2 g2
      have gd : k0 ≤ k2 ∧ k2 ≤ n ∧ o_PW a2 := gd
      refine nx 1 h2 g2.1 (d242_124 g2.1 ⟨fun z => absurd z (by decide), fun _ => ?_⟩)
      rw [p_stop_i] at K
      refine c223 g2.1 g2.2.1 gd.2.1 g2.2.2.1 g2.2.2.2.1.1 (fun e h3 L3 f3 z3 => ⟨_, rfl, d242_134 L3 ⟨fun z => absurd z (by decide), fun _ => d242_142 L3 ⟨rfl, ?_⟩⟩⟩) (fun e h3 L3 f3 z3 => ⟨_, rfl, d242_134 L3 ⟨fun _ => d242_141 L3 (d242_142 L3 ⟨rfl, ?_⟩), fun z => absurd rfl z⟩⟩)
      · rw [if_pos e] at K
        exact K h3 (f2.trans (i_GN.of f3 (by decide))) (g2.fr L3 f3 (by decide) z3)
      · rw [if_neg e] at K
        exact K h3 L3 (f2.trans (i_GN.of f3 (by decide))) z3
  have tk : ∀ r w : Nat, r < 33 → o_cw r = w → (o_rix (o_wy T n k0)).toInt = (r : Int) → o_wy T n k0 = w := fun r w hr hw e => (o_ri_int hr hw).mp e
  refine e242 (d242_0 g.1 (r220 g hk ⟨_, rfl, d242_6 g.1 ⟨fun e => ?_, fun e => ?_, fun e => ?_, fun e => ?_, fun e => ?_, fun e => ?_, fun e => ?_, fun e => ?_, fun e => ?_⟩⟩))
  · rw [p_part_n (o_ri_no e)] at K
    exact r221b g (fun h1 L1 f1 b1 => ⟨_, rfl, d242_123 L1 ⟨rfl, K h1 L1 f1 b1⟩⟩)
  · have e := tk 9 9 (by omega) rfl e
    unfold p_part at K
    rw [if_pos e] at K
    exact c233 g w hk (run _ (p_wall_g w hk) K (fun x h2 L2 q => ⟨x, rfl, d242_56 L2 q⟩))
  · have e := tk 10 11 (by omega) rfl e
    unfold p_part at K
    rw [if_neg (by omega), if_pos e] at K
    exact c235 g (kw (by omega)) w hk (run _ (p_tree_g w hk) K (fun x h2 L2 q => ⟨x, rfl, d242_64 L2 q⟩))
  · have e := tk 11 13 (by omega) rfl e
    unfold p_part at K
    rw [if_neg (by omega), if_neg (by omega), if_pos e] at K
    exact c236 g (kw (by omega)) w hk (run _ (p_cart_g w hk) K (fun x h2 L2 q => ⟨x, rfl, d242_72 L2 q⟩))
  · have e := tk 12 15 (by omega) rfl e
    unfold p_part at K
    rw [if_neg (by omega), if_neg (by omega), if_neg (by omega), if_pos e] at K
    exact c237 g (kw (by omega)) w hk (run _ (p_lamp_g w hk) K (fun x h2 L2 q => ⟨x, rfl, d242_80 L2 q⟩))
  · have e := tk 13 16 (by omega) rfl e
    unfold p_part at K
    rw [if_neg (by omega), if_neg (by omega), if_neg (by omega), if_neg (by omega), if_pos e] at K
    exact c238 g (kw (by omega)) w hk (run _ (p_person_g w hk) K (fun x h2 L2 q => ⟨x, rfl, d242_88 L2 q⟩))
  · have e := tk 14 20 (by omega) rfl e
    unfold p_part at K
    rw [if_neg (by omega), if_neg (by omega), if_neg (by omega), if_neg (by omega), if_neg (by omega), if_pos e] at K
    exact c240 (hd := 1) (Or.inl ⟨rfl, rfl, rfl⟩) g w hk (run _ (p_pair_g (Or.inl rfl) w hk) K (fun x h2 L2 q => ⟨x, rfl, d242_97 L2 q⟩))
  · have e := tk 15 22 (by omega) rfl e
    unfold p_part at K
    rw [if_neg (by omega), if_neg (by omega), if_neg (by omega), if_neg (by omega), if_neg (by omega), if_neg (by omega), if_pos e] at K
    exact c240 (hd := 0) (Or.inr ⟨rfl, rfl, rfl⟩) g w hk (run _ (p_pair_g (Or.inr rfl) w hk) K (fun x h2 L2 q => ⟨x, rfl, d242_106 L2 q⟩))
  · have e := tk 16 23 (by omega) rfl e
    unfold p_part at K
    rw [if_neg (by omega), if_neg (by omega), if_neg (by omega), if_neg (by omega), if_neg (by omega), if_neg (by omega), if_neg (by omega), if_pos e] at K
    exact c241 g (kw (by omega)) w hk (run _ (p_seen_g w hk) K (fun x h2 L2 q => ⟨x, rfl, d242_114 L2 q⟩))
end
