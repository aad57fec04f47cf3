/-! THE REFERENCE READS TREES, LAMPS, CARTS -/
section
variable {L : Nat} {xs : Nat → Int32} {h : iH} {Q : Option Value → iH → Prop} {a : Nat → Nat} {t : Nat} {n k k0 : Nat} {T : Nat → Nat}
set_option maxRecDepth 20000
set_option maxHeartbeats 1000000 in
theorem c235 (g : i_PR a n k0 T h) (kw : o_tkk T n k0 ≠ 4) (w : o_PW a) (hk : k0 ≤ n) (K : i_RR n T h Q (p_tree T n k0 a)) : i_C i_MT i_AT L xs 235 [.ref 138] h Q := by
  have c48 := w.c48
  have w1 := w.2.1
  have h2 := w.1.2.1
  have l1 := o_ke_le (T := T) hk 1
  have l2 := o_ke_le (T := T) hk 2
  have l3 := o_ke_le (T := T) hk 3
  have l4 := o_ke_le (T := T) hk 4
  unfold p_tree at K
  have e2 : aI h 139 2722 = i_n (a 2) := g.A (i := 2) (by omega)
  refine e235 (d235_0 g.1 ?_)
  try simp (disch := omega) only [n_lit, n_m, n_add, n_mul, n_div, n_mod, n_cl, n_lt, n_le, n_eq, n_in, n_eqm, n_meq, n_mlt, n_ltm, n_mle, n_lem, not_true_eq_false, not_false_eq_true, true_implies, false_implies, true_and, and_true, Nat.not_lt_zero, Nat.zero_le, e2]
  refine ⟨fun q => ?_, fun q => r221g g (x := 6) kw (fun h1 L1 f1 b1 => ⟨_, rfl, d235_19 L1 ⟨rfl, ?_⟩⟩)⟩
  rotate_left
  · rw [if_pos (Classical.not_not.mp q)] at K
    exact K h1 L1 f1 b1
  rw [if_neg q] at K
  refine r218 (k2 := o_ke T n 1 k0) rfl g hk (fun h1 g1 f1 => ⟨rfl, d235_24 g1.1 ?_⟩)
  refine r231 (k2 := o_ke T n 2 k0) rfl g1 w l1.2 (fun e1 e2 h2 g2 f2 x22 => ⟨_, rfl, d235_28 g2.1 ⟨fun _ => ?_, fun z => absurd (by decide) z⟩⟩) (fun e1 h2 L2 f2 b2 => ⟨_, rfl, d235_28 L2 ⟨fun z => absurd rfl z, fun _ => ?_⟩⟩) (fun e1 e2 h2 L2 f2 b2 => ⟨_, rfl, d235_28 L2 ⟨fun z => absurd rfl z, fun _ => ?_⟩⟩)
  rotate_left
  · rw [o_nu_f e1] at K
    exact K h2 L2 (f1.trans f2) b2
  · rw [o_nu_t e1, o_nu_f e2] at K
    exact K h2 L2 (f1.trans f2) b2
  rw [o_nu_t e1, o_nu_t e2] at K
  have q2 := o_nf_0 e2
  have hc := o_cel_lt w e1 e2
  have f2 := f1.trans f2
  change fI h2 138 22 = i_n (o_cel T n a (o_ke T n 1 k0)) at x22
  generalize o_cel T n a (o_ke T n 1 k0) = c at *
  have ew : aI h2 139 (2730 + c) = i_n (a (10 + c)) := by
    have := g2.A (i := 10 + c) (by omega)
    rwa [show 2720 + (10 + c) = 2730 + c by omega] at this
  have es : aI h2 139 (2778 + c) = i_n (a (58 + c)) := by
    have := g2.A (i := 58 + c) (by omega)
    rwa [show 2720 + (58 + c) = 2778 + c by omega] at this
  have w7 := w.1.2.2.2.2.2.2.1 c (by omega)
  have w8 := w.1.2.2.2.2.2.2.2.1 c (by omega)
  have bad : (a (10 + c) = 1 ∨ a (58 + c) ≠ 4294967295) → i_P i_MT i_AT L xs 235 66 [some (.ref 138), some (.int (i_n c))] [] h2 0 0 Q := fun q => by
    rw [if_pos q] at K
    exact d235_66 g2.1 (r221g g2 (x := 5) (by omega) (fun h3 L3 f3 b3 => ⟨_, rfl, d235_71 L3 ⟨rfl, K h3 L3 (f2.trans f3) b3⟩⟩))
  rw [x22]
  try simp (disch := omega) only [n_lit, n_m, n_add, n_mul, n_div, n_mod, n_cl, n_lt, n_le, n_eq, n_in, n_eqm, n_meq, n_mlt, n_ltm, n_mle, n_lem, not_true_eq_false, not_false_eq_true, true_implies, false_implies, true_and, and_true, Nat.not_lt_zero, Nat.zero_le, ew, es]
  rw [n_swm w8]
  refine ⟨by omega, fun y => bad (Or.inl y), fun y => ⟨by omega, fun y2 => ?_, fun y2 => bad (Or.inr y2)⟩⟩
  rw [if_neg (by omega)] at K
  refine r218 (k2 := o_ke T n 3 k0) rfl g2 l2.2 (fun h3 g3 f3 => ⟨rfl, d235_76 g3.1 ?_⟩)
  have f3 := f2.trans f3
  refine r224 (r := 18) (w := 12) (k2 := o_ke T n 4 k0) rfl g3 l3.2 (by omega) rfl (fun e3 h4 g4 f4 => ⟨_, rfl, d235_84 g4.1 ⟨fun z => absurd z (by decide), fun _ => ?_⟩⟩) (fun e3 h4 L4 f4 b4 => ⟨_, rfl, d235_84 L4 ⟨fun _ => d235_102 L4 ?_, fun z => absurd rfl z⟩⟩)
  rotate_left
  · rw [o_wo_f e3] at K
    exact K h4 L4 (f3.trans f4) b4
  rw [o_wo_t e3] at K
  have f4 := f3.trans f4
  try simp (disch := omega) only [n_lit, n_m, n_add, n_mul, n_div, n_mod, n_cl, n_lt, n_le, n_eq, n_in, n_eqm, n_meq, n_mlt, n_ltm, n_mle, n_lem, not_true_eq_false, not_false_eq_true, true_implies, false_implies, true_and, and_true, Nat.not_lt_zero, Nat.zero_le]
  rw [show 2778 + c = 2720 + (58 + c) by omega]
  refine r225 (k2 := o_ke T n 5 k0) (lo := 0) (hi := 16) rfl g4 l4.2 (by omega) (by omega) (by omega) (by omega) (fun e4 h5 g5 f5 => ⟨_, rfl, d235_99 g5.1 ⟨fun _ => ?_, fun z => absurd (by decide) z⟩⟩) (fun e4 h5 L5 f5 b5 => ⟨_, rfl, d235_99 L5 ⟨fun z => absurd rfl z, fun _ => d235_102 L5 ?_⟩⟩)
  rotate_left
  · rw [o_nu_f e4] at K
    exact K h5 L5 (f4.trans f5) b5
  rw [o_nu_t e4] at K
  have f5 := f4.trans f5
  have e2' : aI h5 139 2722 = i_n (a 2) := by
    have := g5.A (i := 2) (by omega)
    rwa [o_su_f (by omega)] at this
  try simp (disch := omega) only [n_lit, n_m, n_add, n_mul, n_div, n_mod, n_cl, n_lt, n_le, n_eq, n_in, n_eqm, n_meq, n_mlt, n_ltm, n_mle, n_lem, not_true_eq_false, not_false_eq_true, true_implies, false_implies, true_and, and_true, Nat.not_lt_zero, Nat.zero_le, e2']
  refine ⟨by omega, ?_⟩
  refine w_139 (j := 2) (R := fun z => i_P i_MT i_AT L xs 235 116 [some (.ref 138), some (.int (i_n c))] [] z 0 0 Q) g5 (by omega) (by omega) (fun h6 g6 f6 => d235_116 g6.1 ?_)
  exact K h6 (f5.trans f6) g6
set_option maxHeartbeats 1000000 in
theorem c237 (g : i_PR a n k0 T h) (kw : o_tkk T n k0 ≠ 4) (w : o_PW a) (hk : k0 ≤ n) (K : i_RR n T h Q (p_lamp T n k0 a)) : i_C i_MT i_AT L xs 237 [.ref 138] h Q := by
  have c48 := w.c48
  have w1 := w.2.1
  have h4 := w.1.2.2.2.1
  have l1 := o_ke_le (T := T) hk 1
  have l2 := o_ke_le (T := T) hk 2
  unfold p_lamp at K
  have e2 : aI h 139 2724 = i_n (a 4) := g.A (i := 4) (by omega)
  refine e237 (d237_0 g.1 ?_)
  try simp (disch := omega) only [n_lit, n_m, n_add, n_mul, n_div, n_mod, n_cl, n_lt, n_le, n_eq, n_in, n_eqm, n_meq, n_mlt, n_ltm, n_mle, n_lem, not_true_eq_false, not_false_eq_true, true_implies, false_implies, true_and, and_true, Nat.not_lt_zero, Nat.zero_le, e2]
  refine ⟨fun q => ?_, fun q => r221g g (x := 6) kw (fun h1 L1 f1 b1 => ⟨_, rfl, d237_21 L1 ⟨rfl, ?_⟩⟩)⟩
  rotate_left
  · rw [if_pos (Classical.not_not.mp q)] at K
    exact K h1 L1 f1 b1
  rw [if_neg q] at K
  refine r218 (k2 := o_ke T n 1 k0) rfl g hk (fun h1 g1 f1 => ⟨rfl, d237_26 g1.1 ?_⟩)
  refine r231 (k2 := o_ke T n 2 k0) rfl g1 w l1.2 (fun e1 e2 h2 g2 f2 x22 => ⟨_, rfl, d237_30 g2.1 ⟨fun _ => ?_, fun z => absurd (by decide) z⟩⟩) (fun e1 h2 L2 f2 b2 => ⟨_, rfl, d237_30 L2 ⟨fun z => absurd rfl z, fun _ => ?_⟩⟩) (fun e1 e2 h2 L2 f2 b2 => ⟨_, rfl, d237_30 L2 ⟨fun z => absurd rfl z, fun _ => ?_⟩⟩)
  rotate_left
  · rw [o_nu_f e1] at K
    exact K h2 L2 (f1.trans f2) b2
  · rw [o_nu_t e1, o_nu_f e2] at K
    exact K h2 L2 (f1.trans f2) b2
  rw [o_nu_t e1, o_nu_t e2] at K
  have q2 := o_nf_0 e2
  have hc := o_cel_lt w e1 e2
  have f2 := f1.trans f2
  change fI h2 138 22 = i_n (o_cel T n a (o_ke T n 1 k0)) at x22
  generalize o_cel T n a (o_ke T n 1 k0) = c at *
  have ew : aI h2 139 (2730 + c) = i_n (a (10 + c)) := by
    have := g2.A (i := 10 + c) (by omega)
    rwa [show 2720 + (10 + c) = 2730 + c by omega] at this
  have w7 := w.1.2.2.2.2.2.2.1 c (by omega)
  have any : ∀ b, (b = 1 ↔ (a (10 + c) = 1 ∨ (∃ k, k < a 4 ∧ a (106 + k) = c))) → (b = 1 ↔ (a (10 + c) = 1 ∨ (List.range (a 4)).any (fun k => a (106 + k) == c) = true)) := fun b hb => by
    rw [hb, List.any_eq_true]
    constructor
    · rintro (y | ⟨k, hk, y⟩)
      · exact Or.inl y
      · exact Or.inr ⟨k, List.mem_range.mpr hk, by simpa using y⟩
    · rintro (y | ⟨k, hk, y⟩)
      · exact Or.inl y
      · exact Or.inr ⟨k, List.mem_range.mp hk, by simpa using y⟩
  have lamps : ∀ p, p ≤ a 4 → ∀ b, b ≤ 1 → (b = 1 ↔ (a (10 + c) = 1 ∨ (∃ k, k < p ∧ a (106 + k) = c))) → i_P i_MT i_AT L xs 237 60 [some (.ref 138), some (.int (i_n (a 4))), some (.int (i_n b)), some (.int (i_n p))] [] h2 0 0 Q := by
    refine l_up ?_ ?_
    · intro b hb hb2
      have hb2 := any b hb2
      refine d237_60 g2.1 ?_
      rw [x22]
      try simp (disch := omega) only [n_lit, n_m, n_add, n_mul, n_div, n_mod, n_cl, n_lt, n_le, n_eq, n_in, n_eqm, n_meq, n_mlt, n_ltm, n_mle, n_lem, not_true_eq_false, not_false_eq_true, true_implies, false_implies, true_and, and_true, Nat.not_lt_zero, Nat.zero_le, Nat.le_refl]
      refine ⟨fun q => ⟨by omega, ?_⟩, fun q => r221g g2 (x := 5) (by omega) (fun h3 L3 f3 b3 => ⟨_, rfl, d237_107 L3 ⟨rfl, ?_⟩⟩)⟩
      · rw [if_neg (fun y => by have := hb2.mpr y; omega)] at K
        rw [show 2826 + a 4 = 2720 + (106 + a 4) by omega]
        refine w_139 (j := 106 + a 4) (R := fun z => i_P i_MT i_AT L xs 237 122 [some (.ref 138), some (.int (i_n (a 4))), some (.int (i_n b)), some (.int (i_n (a 4)))] [] z 0 0 Q) g2 (by omega) (by omega) (fun h3 g3 f3 => d237_122 g3.1 ?_)
        have e4 : aI h3 139 2724 = i_n (a 4) := by
          have := g3.A (i := 4) (by omega)
          rwa [o_su_f (by omega)] at this
        try simp (disch := omega) only [n_lit, n_m, n_add, n_mul, n_div, n_mod, n_cl, n_lt, n_le, n_eq, n_in, n_eqm, n_meq, n_mlt, n_ltm, n_mle, n_lem, not_true_eq_false, not_false_eq_true, true_implies, false_implies, true_and, and_true, Nat.not_lt_zero, Nat.zero_le, e4]
        refine ⟨by omega, ?_⟩
        refine w_139 (j := 4) (R := fun z => i_P i_MT i_AT L xs 237 134 [some (.ref 138), some (.int (i_n (a 4))), some (.int (i_n b)), some (.int (i_n (a 4)))] [] z 0 0 Q) g3 (by omega) (by omega) (fun h4 g4 f4 => d237_134 g4.1 ?_)
        exact r218 (k2 := o_ke T n 3 k0) rfl g4 l2.2 (fun h5 g5 f5 => ⟨rfl, d237_138 g5.1 (K h5 (f2.trans (f3.trans (f4.trans f5))) g5)⟩)
      · rw [if_pos (hb2.mp (by omega))] at K
        exact K h3 L3 (f2.trans f3) b3
    · intro p hp ih b hb hb2
      have cp := w.1.2.2.2.2.2.2.2.2.1 p hp
      have e : aI h2 139 (2826 + p) = i_n (a (106 + p)) := by
        have := g2.A (i := 106 + p) (by omega)
        rwa [show 2720 + (106 + p) = 2826 + p by omega] at this
      have nx : ∀ b2, b2 ≤ 1 → (b2 = 1 ↔ (b = 1 ∨ a (106 + p) = c)) → i_P i_MT i_AT L xs 237 91 [some (.ref 138), some (.int (i_n (a 4))), some (.int (i_n b)), some (.int (i_n p))] [.int (i_n b2)] h2 0 0 Q := fun b2 h1 h2 => by
        refine d237_91 g2.1 ?_
        try simp (disch := omega) only [n_lit, n_m, n_add, n_mul, n_div, n_mod, n_cl, n_lt, n_le, n_eq, n_in, n_eqm, n_meq, n_mlt, n_ltm, n_mle, n_lem, not_true_eq_false, not_false_eq_true, true_implies, false_implies, true_and, and_true, Nat.not_lt_zero, Nat.zero_le]
        refine ih b2 h1 ?_
        rw [h2, hb2]
        constructor
        · rintro ((y | ⟨q, hq, y⟩) | y)
          · exact Or.inl y
          · exact Or.inr ⟨q, by omega, y⟩
          · exact Or.inr ⟨p, by omega, y⟩
        · rintro (y | ⟨q, hq, y⟩)
          · exact Or.inl (Or.inl y)
          · by_cases z : q = p
            · subst z; exact Or.inr y
            · exact Or.inl (Or.inr ⟨q, by omega, y⟩)
      have yes : (b = 1 ∨ a (106 + p) = c) → i_P i_MT i_AT L xs 237 86 [some (.ref 138), some (.int (i_n (a 4))), some (.int (i_n b)), some (.int (i_n p))] [] h2 0 0 Q := fun y => d237_86 g2.1 (nx 1 (by omega) ⟨fun _ => y, fun _ => rfl⟩)
      refine d237_60 g2.1 ?_
      rw [x22]
      try simp (disch := omega) only [n_lit, n_m, n_add, n_mul, n_div, n_mod, n_cl, n_lt, n_le, n_eq, n_in, n_eqm, n_meq, n_mlt, n_ltm, n_mle, n_lem, not_true_eq_false, not_false_eq_true, true_implies, false_implies, true_and, and_true, Nat.not_lt_zero, Nat.zero_le, e]
      refine ⟨fun q => by omega, fun _ => ⟨fun q => yes (Or.inl (by omega)), fun q => ⟨by omega, fun q2 => nx 0 (by omega) ⟨fun y => by omega, fun y => ?_⟩, fun q2 => yes (Or.inr (Classical.not_not.mp q2))⟩⟩⟩
      rcases y with y | y
      · omega
      · exact absurd y q2
  rw [x22]
  try simp (disch := omega) only [n_lit, n_m, n_add, n_mul, n_div, n_mod, n_cl, n_lt, n_le, n_eq, n_in, n_eqm, n_meq, n_mlt, n_ltm, n_mle, n_lem, not_true_eq_false, not_false_eq_true, true_implies, false_implies, true_and, and_true, Nat.not_lt_zero, Nat.zero_le, ew]
  have go : ∀ b, b ≤ 1 → (b = 1 ↔ a (10 + c) = 1) → ∀ (y2 y3 : Option Value), i_P i_MT i_AT L xs 237 57 [some (.ref 138), some (.int (i_n (a 4))), y2, y3] [.int (i_n b)] h2 0 0 Q := fun b hb hb2 y2 y3 => by
    refine d237_57 g2.1 (lamps 0 (Nat.zero_le _) b hb ?_)
    rw [hb2]
    exact ⟨fun y => Or.inl y, fun y => by
      rcases y with y | ⟨q, hq, _⟩
      · exact y
      · omega⟩
  exact ⟨by omega, fun q => go 0 (by omega) ⟨fun y => by omega, fun y => absurd y q⟩ _ _, fun q => go 1 (by omega) ⟨fun _ => Classical.not_not.mp q, fun _ => rfl⟩ _ _⟩
set_option maxHeartbeats 2000000 in
theorem c236w {nn : Nat} (hN : nn < 4) : ∀ f j kw (b : Nat → Nat), f + j = 8 → b 3 = nn → kw ≤ n → ∀ h1, i_PR (o_su b (115 + 10 * nn) j) n kw T h1 → i_GN h h1 → i_RR n T h Q (p_ways T n f j kw b) → i_P i_MT i_AT L xs 236 93 [some (.ref 138), some (.int (i_n nn)), some (.int (i_n (2834 + 10 * nn))), some (.int (o_rix (o_wy T n kw)))] [] h1 0 0 Q := by
  intro f
  induction f with
  | zero =>
    intro j kw b hf hb3 hk h1 g1 f1 K
    have ej : aI h1 139 (2835 + 10 * nn) = i_n j := by
      have := g1.A (i := 115 + 10 * nn) (by omega)
      rwa [o_su_t, show 2720 + (115 + 10 * nn) = 2835 + 10 * nn by omega] at this
    have out : ¬ o_wy T n kw < 8 → i_P i_MT i_AT L xs 236 167 [some (.ref 138), some (.int (i_n nn)), some (.int (i_n (2834 + 10 * nn))), some (.int (o_rix (o_wy T n kw)))] [] h1 0 0 Q := fun nw => by
      rw [p_ways_n nw, hb3] at K
      have e3 : aI h1 139 2723 = i_n nn := by
        have := g1.A (i := 3) (by omega)
        rwa [o_su_f (by omega), hb3] at this
      refine d236_167 g1.1 ?_
      try simp (disch := omega) only [n_lit, n_m, n_add, n_mul, n_div, n_mod, n_cl, n_lt, n_le, n_eq, n_in, n_eqm, n_meq, n_mlt, n_ltm, n_mle, n_lem, not_true_eq_false, not_false_eq_true, true_implies, false_implies, true_and, and_true, Nat.not_lt_zero, Nat.zero_le, e3]
      refine ⟨by omega, ?_⟩
      refine w_139 (j := 3) (R := fun z => i_P i_MT i_AT L xs 236 179 [some (.ref 138), some (.int (i_n nn)), some (.int (i_n (2834 + 10 * nn))), some (.int (o_rix (o_wy T n kw)))] [] z 0 0 Q) g1 (by omega) (by omega) (fun h2 g2 f2 => d236_179 g2.1 ?_)
      exact K h2 (f1.trans f2) g2
    refine d236_93 g1.1 ⟨fun q => out (fun y => ?_), fun q => ⟨fun q2 => out (fun y => ?_), fun q2 => ?_⟩⟩
    · rw [o_ri_w8 y, show (0 : Int32) = i_n 0 from rfl, n_lt (by omega) (by omega)] at q
      omega
    · rw [o_ri_w8 y, show (8 : Int32) = i_n 8 from rfl, n_le (by omega) (by omega)] at q2
      omega
    · have hw : o_wy T n kw < 8 := o_ri_way.mp ⟨q, by
        rw [← Int32.not_lt]
        intro y
        apply q2
        rw [Int32.lt_iff_toInt_lt, n_int (by omega)] at y
        rw [show (8 : Int32) = i_n 8 from rfl, Int32.le_iff_toInt_le, n_int (by omega)]
        omega⟩
      rw [p_ways_0 hw] at K
      have k2 := o_wy_kind (T := T) (n := n) (k := kw) (by omega)
      try simp (disch := omega) only [n_lit, n_m, n_add, n_mul, n_div, n_mod, n_cl, n_lt, n_le, n_eq, n_in, n_eqm, n_meq, n_mlt, n_ltm, n_mle, n_lem, not_true_eq_false, not_false_eq_true, true_implies, false_implies, true_and, and_true, Nat.not_lt_zero, Nat.zero_le]
      rw [show 2834 + 10 * nn + 1 = 2835 + 10 * nn by omega, ej]
      try simp (disch := omega) only [n_lit, n_m, n_add, n_mul, n_div, n_mod, n_cl, n_lt, n_le, n_eq, n_in, n_eqm, n_meq, n_mlt, n_ltm, n_mle, n_lem, not_true_eq_false, not_false_eq_true, true_implies, false_implies, true_and, and_true, Nat.not_lt_zero, Nat.zero_le]
      refine ⟨by omega, fun y => absurd (show j = 8 by omega) y, fun _ => r221g g1 (x := 6) (by omega) (fun h2 L2 f2 b2 => ⟨_, rfl, d236_122 L2 ⟨rfl, K h2 L2 (f1.trans f2) b2⟩⟩)⟩
  | succ f ih =>
    intro j kw b hf hb3 hk h1 g1 f1 K
    have l1 := o_tk_le (T := T) hk
    have ej : aI h1 139 (2835 + 10 * nn) = i_n j := by
      have := g1.A (i := 115 + 10 * nn) (by omega)
      rwa [o_su_t, show 2720 + (115 + 10 * nn) = 2835 + 10 * nn by omega] at this
    have out : ¬ o_wy T n kw < 8 → i_P i_MT i_AT L xs 236 167 [some (.ref 138), some (.int (i_n nn)), some (.int (i_n (2834 + 10 * nn))), some (.int (o_rix (o_wy T n kw)))] [] h1 0 0 Q := fun nw => by
      rw [p_ways_n nw, hb3] at K
      have e3 : aI h1 139 2723 = i_n nn := by
        have := g1.A (i := 3) (by omega)
        rwa [o_su_f (by omega), hb3] at this
      refine d236_167 g1.1 ?_
      try simp (disch := omega) only [n_lit, n_m, n_add, n_mul, n_div, n_mod, n_cl, n_lt, n_le, n_eq, n_in, n_eqm, n_meq, n_mlt, n_ltm, n_mle, n_lem, not_true_eq_false, not_false_eq_true, true_implies, false_implies, true_and, and_true, Nat.not_lt_zero, Nat.zero_le, e3]
      refine ⟨by omega, ?_⟩
      refine w_139 (j := 3) (R := fun z => i_P i_MT i_AT L xs 236 179 [some (.ref 138), some (.int (i_n nn)), some (.int (i_n (2834 + 10 * nn))), some (.int (o_rix (o_wy T n kw)))] [] z 0 0 Q) g1 (by omega) (by omega) (fun h2 g2 f2 => d236_179 g2.1 ?_)
      exact K h2 (f1.trans f2) g2
    refine d236_93 g1.1 ⟨fun q => out (fun y => ?_), fun q => ⟨fun q2 => out (fun y => ?_), fun q2 => ?_⟩⟩
    · rw [o_ri_w8 y, show (0 : Int32) = i_n 0 from rfl, n_lt (by omega) (by omega)] at q
      omega
    · rw [o_ri_w8 y, show (8 : Int32) = i_n 8 from rfl, n_le (by omega) (by omega)] at q2
      omega
    · have hw : o_wy T n kw < 8 := o_ri_way.mp ⟨q, by
        rw [← Int32.not_lt]
        intro y
        apply q2
        rw [Int32.lt_iff_toInt_lt, n_int (by omega)] at y
        rw [show (8 : Int32) = i_n 8 from rfl, Int32.le_iff_toInt_le, n_int (by omega)]
        omega⟩
      rw [p_ways_s hw, hb3] at K
      rw [o_ri_w8 hw]
      try simp (disch := omega) only [n_lit, n_m, n_add, n_mul, n_div, n_mod, n_cl, n_lt, n_le, n_eq, n_in, n_eqm, n_meq, n_mlt, n_ltm, n_mle, n_lem, not_true_eq_false, not_false_eq_true, true_implies, false_implies, true_and, and_true, Nat.not_lt_zero, Nat.zero_le]
      rw [show 2834 + 10 * nn + 1 = 2835 + 10 * nn by omega, ej]
      try simp (disch := omega) only [n_lit, n_m, n_add, n_mul, n_div, n_mod, n_cl, n_lt, n_le, n_eq, n_in, n_eqm, n_meq, n_mlt, n_ltm, n_mle, n_lem, not_true_eq_false, not_false_eq_true, true_implies, false_implies, true_and, and_true, Nat.not_lt_zero, Nat.zero_le]
      refine ⟨by omega, fun _ => ⟨by omega, by omega, ?_⟩, fun y => absurd (Classical.not_not.mp y) (by omega)⟩
      rw [show 2834 + 10 * nn + 2 + j = 2720 + (116 + 10 * nn + j) by omega]
      refine w_139 (j := 116 + 10 * nn + j) (R := fun z => i_P i_MT i_AT L xs 236 141 [some (.ref 138), some (.int (i_n nn)), some (.int (i_n (2834 + 10 * nn))), some (.int (i_n (o_wy T n kw)))] [] z 0 0 Q) g1 (by omega) (by omega) (fun h2 g2 f2 => d236_141 g2.1 ?_)
      have ej2 : aI h2 139 (2835 + 10 * nn) = i_n j := by
        have := g2.A (i := 115 + 10 * nn) (by omega)
        rwa [o_su_f (by omega), o_su_t, show 2720 + (115 + 10 * nn) = 2835 + 10 * nn by omega] at this
      try simp (disch := omega) only [n_lit, n_m, n_add, n_mul, n_div, n_mod, n_cl, n_lt, n_le, n_eq, n_in, n_eqm, n_meq, n_mlt, n_ltm, n_mle, n_lem, not_true_eq_false, not_false_eq_true, true_implies, false_implies, true_and, and_true, Nat.not_lt_zero, Nat.zero_le]
      rw [show 2834 + 10 * nn + 1 = 2835 + 10 * nn by omega, ej2]
      try simp (disch := omega) only [n_lit, n_m, n_add, n_mul, n_div, n_mod, n_cl, n_lt, n_le, n_eq, n_in, n_eqm, n_meq, n_mlt, n_ltm, n_mle, n_lem, not_true_eq_false, not_false_eq_true, true_implies, false_implies, true_and, and_true, Nat.not_lt_zero, Nat.zero_le]
      refine ⟨by omega, by omega, ?_⟩
      rw [show 2835 + 10 * nn = 2720 + (115 + 10 * nn) by omega]
      refine w_139 (j := 115 + 10 * nn) (R := fun z => i_P i_MT i_AT L xs 236 153 [some (.ref 138), some (.int (i_n nn)), some (.int (i_n (2834 + 10 * nn))), some (.int (i_n (o_wy T n kw)))] [] z 0 0 Q) g2 (by omega) (by omega) (fun h3 g3 f3 => d236_153 g3.1 ?_)
      refine r218 rfl g3 hk (fun h4 g4 f4 => ⟨rfl, d236_157 g4.1 (r220 g4 l1.2.2 ⟨_, rfl, d236_163 g4.1 ?_⟩)⟩)
      refine ih (j + 1) (o_tke T n kw) (o_su b (116 + 10 * nn + j) (o_wy T n kw)) (by omega) (by rw [o_su_f (by omega)]; exact hb3) l1.2.2 h4 ?_ (f1.trans (f2.trans (f3.trans f4))) K
      refine g4.ext (fun i hi => ?_) (by rw [o_su_f (by omega), o_su_f (by omega), o_su_f (by omega), o_su_f (by omega), o_su_f (by omega)]) (fun p hp => by
        rw [o_su_f (by omega), o_su_f (by omega), o_su_f (by omega)] at hp
        by_cases z : p < 0
        · omega
        · rw [o_su_f (by omega), o_su_f (by omega), o_su_f (by omega), o_su_f (by omega), o_su_f (by omega)])
      by_cases y1 : i = 115 + 10 * nn
      · subst y1; rw [o_su_t, o_su_t]
      · rw [o_su_f y1, o_su_f y1]
        by_cases y2 : i = 116 + 10 * nn + j
        · subst y2; rw [o_su_t, o_su_t]
        · rw [o_su_f y2, o_su_f y2, o_su_f y1]
set_option maxHeartbeats 1000000 in
theorem c236 (g : i_PR a n k0 T h) (kw : o_tkk T n k0 ≠ 4) (w : o_PW a) (hk : k0 ≤ n) (K : i_RR n T h Q (p_cart T n k0 a)) : i_C i_MT i_AT L xs 236 [.ref 138] h Q := by
  have c48 := w.c48
  have w1 := w.2.1
  have h4 := w.1.2.2.1
  have l1 := o_ke_le (T := T) hk 1
  have l2 := o_ke_le (T := T) hk 2
  have l3 := o_ke_le (T := T) hk 3
  have l4 := o_ke_le (T := T) hk 4
  unfold p_cart at K
  have e2 : aI h 139 2723 = i_n (a 3) := g.A (i := 3) (by omega)
  refine e236 (d236_0 g.1 ?_)
  try simp (disch := omega) only [n_lit, n_m, n_add, n_mul, n_div, n_mod, n_cl, n_lt, n_le, n_eq, n_in, n_eqm, n_meq, n_mlt, n_ltm, n_mle, n_lem, not_true_eq_false, not_false_eq_true, true_implies, false_implies, true_and, and_true, Nat.not_lt_zero, Nat.zero_le, e2]
  refine ⟨fun q => ?_, fun q => r221g g (x := 6) kw (fun h1 L1 f1 b1 => ⟨_, rfl, d236_29 L1 ⟨rfl, ?_⟩⟩)⟩
  rotate_left
  · rw [if_pos (Classical.not_not.mp q)] at K
    exact K h1 L1 f1 b1
  rw [if_neg q] at K
  refine r218 (k2 := o_ke T n 1 k0) rfl g hk (fun h1 g1 f1 => ⟨rfl, d236_34 g1.1 ?_⟩)
  refine r231 (k2 := o_ke T n 2 k0) rfl g1 w l1.2 (fun e1 e2 h2 g2 f2 x22 => ⟨_, rfl, d236_38 g2.1 ⟨fun _ => ?_, fun z => absurd (by decide) z⟩⟩) (fun e1 h2 L2 f2 b2 => ⟨_, rfl, d236_38 L2 ⟨fun z => absurd rfl z, fun _ => ?_⟩⟩) (fun e1 e2 h2 L2 f2 b2 => ⟨_, rfl, d236_38 L2 ⟨fun z => absurd rfl z, fun _ => ?_⟩⟩)
  rotate_left
  · rw [o_nu_f e1] at K
    exact K h2 L2 (f1.trans f2) b2
  · rw [o_nu_t e1, o_nu_f e2] at K
    exact K h2 L2 (f1.trans f2) b2
  rw [o_nu_t e1, o_nu_t e2] at K
  have hc := o_cel_lt w e1 e2
  have f2 := f1.trans f2
  change fI h2 138 22 = i_n (o_cel T n a (o_ke T n 1 k0)) at x22
  rw [x22]
  try simp (disch := omega) only [n_lit, n_m, n_add, n_mul, n_div, n_mod, n_cl, n_lt, n_le, n_eq, n_in, n_eqm, n_meq, n_mlt, n_ltm, n_mle, n_lem, not_true_eq_false, not_false_eq_true, true_implies, false_implies, true_and, and_true, Nat.not_lt_zero, Nat.zero_le]
  refine ⟨by omega, ?_⟩
  rw [show 2834 + 10 * a 3 = 2720 + (114 + 10 * a 3) by omega]
  refine w_139 (j := 114 + 10 * a 3) (R := fun z => ∀ (y3 : Option Value), i_P i_MT i_AT L xs 236 53 [some (.ref 138), some (.int (i_n (a 3))), some (.int (i_n (2720 + (114 + 10 * a 3)))), y3] [] z 0 0 Q) g2 (by omega) (by omega) (fun h3 g3 f3 => fun y3 => d236_53 g3.1 ?_) _
  have f3 := f2.trans f3
  refine r218 (k2 := o_ke T n 3 k0) rfl g3 l2.2 (fun h4 g4 f4 => ⟨rfl, d236_57 g4.1 ?_⟩)
  have f4 := f3.trans f4
  refine r224 (r := 19) (w := 14) (k2 := o_ke T n 4 k0) rfl g4 l3.2 (by omega) rfl (fun e3 h5 g5 f5 => ⟨_, rfl, d236_65 g5.1 ⟨fun _ => ?_, fun z => absurd (by decide) z⟩⟩) (fun e3 h5 L5 f5 b5 => ⟨_, rfl, d236_65 L5 ⟨fun z => absurd rfl z, fun _ => ?_⟩⟩)
  rotate_left
  · rw [o_wo_f e3] at K
    exact K h5 L5 (f4.trans f5) b5
  rw [o_wo_t e3] at K
  have f5 := f4.trans f5
  refine r220 g5 l4.2 ⟨_, rfl, d236_76 g5.1 ?_⟩
  have bad : ¬ o_wy T n (o_ke T n 4 k0) < 8 → i_P i_MT i_AT L xs 236 87 [some (.ref 138), some (.int (i_n (a 3))), some (.int (i_n (2720 + (114 + 10 * a 3)))), some (.int (o_rix (o_wy T n (o_ke T n 4 k0))))] [] h5 0 0 Q := fun nw => by
    rw [if_neg nw] at K
    exact d236_87 g5.1 (r221b g5 (fun h6 L6 f6 b6 => ⟨_, rfl, d236_92 L6 ⟨rfl, K h6 L6 (f5.trans f6) b6⟩⟩))
  refine ⟨fun q => bad (fun y => o_ri_way.mpr y |>.1 q), fun q => ⟨fun q2 => ?_, fun q2 => bad (fun y => q2 (o_ri_way.mpr y).2)⟩⟩
  have hw := o_ri_way.mp ⟨q, q2⟩
  rw [if_pos hw] at K
  have z0 := w.2.2.2.2.2.1 (a 3) (Nat.le_refl _) (by omega)
  have := c236w (L := L) (xs := xs) (nn := a 3) (by omega) 8 0 (o_ke T n 4 k0) (o_su a (114 + 10 * a 3) (o_cel T n a (o_ke T n 1 k0))) rfl (by rw [o_su_f (by omega)]) l4.2 h5 (g5.ext (fun i hi => ?_) (by rw [o_su_f (by omega)]) (fun p hp => by rw [o_su_f (by omega)])) f5 K
  · rw [show 2720 + (114 + 10 * a 3) = 2834 + 10 * a 3 by omega]
    exact this
  · by_cases y : i = 115 + 10 * a 3
    · subst y; rw [o_su_t, o_su_f (by omega)]; exact z0.symm
    · rw [o_su_f y]
end
