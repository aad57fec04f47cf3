/-! THE REFERENCE READS PEOPLE, who hides, who shows, what is seen -/
section
variable {L : Nat} {xs : Nat → Int32} {h : iH} {Q : Option Value → iH → Prop} {a : Nat → Nat} {t : Nat} {n k k0 : Nat} {T : Nat → Nat}
set_option maxRecDepth 20000
theorem c239 (hL : i_Lay h) (x : i_TXr h n T) (z : i_RK h T n k) (hk : k ≤ n) (e : fI h 138 20 = 0) (h5 : a 5 ≤ 8) {b : Nat} (hb : b ≤ 32) (nr : i_NR a b h) (nw : o_NW a)
    (H1 : o_nm T n k → ∀ p, o_fnd a (o_tkc T n k) = some p → Q (some (.int (i_n p))) h)
    (H0 : ¬ o_nm T n k → ∀ h2, i_Lay h2 → i_Fr [] flF h h2 → i_RBL h2 (o_bad T n k) (o_tks T n k) → Q (some (.int i_m)) h2)
    (H2 : o_nm T n k → o_fnd a (o_tkc T n k) = none → ∀ h2, i_Lay h2 → i_Fr [] flF h h2 → i_RBL h2 3 (o_tks T n k) → Q (some (.int i_m)) h2) : i_C i_MT i_AT L xs 239 [.ref 138, .int (i_n b), .int (i_n (a 5))] h Q := by
  refine e239 (d239_0 hL (c226 hL x z hk ⟨_, rfl, d239_6 hL ?_⟩))
  rw [i_bo_0, Classical.not_not]
  refine ⟨fun q => c228 hL x z hk q.1 q.2.1 h5 hb nr nw ⟨_, rfl, d239_23 hL ?_⟩, fun q => c221b hL z e (fun h2 L2 f2 z2 => ⟨_, rfl, d239_14 L2 (H0 q h2 L2 f2 z2)⟩)⟩
  cases ef : o_fnd a (o_tkc T n k) with
  | some p =>
    have hp := o_fd_lt ef
    refine ⟨fun _ => d239_35 hL (H1 q p ef), fun y => ?_⟩
    have y : i_n p = i_m := Classical.not_not.mp y
    rw [n_eqm (by omega)] at y
    exact y.elim
  | none => exact ⟨fun y => absurd rfl y, fun _ => c221g hL z e (x := 3) (by have := q.1; omega) (fun h2 L2 f2 z2 => ⟨_, rfl, d239_34 L2 (d239_35 L2 (H2 q ef h2 L2 f2 z2))⟩)⟩
theorem r239 (g : i_PR a n k T h) (hk : k ≤ n) (w : o_PW a)
    (H1 : o_nm T n k → ∀ p, o_fnd a (o_tkc T n k) = some p → Q (some (.int (i_n p))) h)
    (H0 : ¬ o_nm T n k → ∀ h2, i_Lay h2 → i_GN h h2 → i_RBL h2 (o_bad T n k) (o_tks T n k) → Q (some (.int i_m)) h2)
    (H2 : o_nm T n k → o_fnd a (o_tkc T n k) = none → ∀ h2, i_Lay h2 → i_GN h h2 → i_RBL h2 3 (o_tks T n k) → Q (some (.int i_m)) h2) : i_C i_MT i_AT L xs 239 [.ref 138, .int (i_n 32), .int (i_n (a 5))] h Q :=
  c239 g.1 g.2.1 g.2.2.1 hk g.2.2.2.1.1 w.1.2.2.2.2.1 (Nat.le_refl _) g.2.2.2.2.2.2 w.2.2.2.1 H1 (fun e h2 L2 f2 z2 => H0 e h2 L2 (i_GN.of f2 (by decide)) z2) (fun e e2 h2 L2 f2 z2 => H2 e e2 h2 L2 (i_GN.of f2 (by decide)) z2)
/-! the names stay too -/
theorem q218 {k2 : Nat} (hk2 : k2 = o_tke T n k) (g : i_PR a n k T h) (hk : k ≤ n) (H : ∀ h2, i_PR a n k2 T h2 → i_GN h h2 → aJ h2 140 = aJ h 140 → Q none h2) : i_C i_MT i_AT L xs 218 [.ref 138] h Q := by
  subst hk2
  exact c218n g.1 g.2.1 hk g.2.2.1 (fun h2 L2 f2 z2 => H h2 (g.fr L2 f2 (by decide) z2) (i_GN.of f2 (by decide)) (f2.rJ (by simp)))
theorem q224 {k2 : Nat} (hk2 : k2 = o_tke T n k) (g : i_PR a n k T h) (hk : k ≤ n) {r w : Nat} (hr : r < 33) (hw : o_cw r = w) (H1 : o_wy T n k = w → ∀ h2, i_PR a n k2 T h2 → i_GN h h2 → aJ h2 140 = aJ h 140 → Q (some (.int 1)) h2) (H0 : o_wy T n k ≠ w → ∀ h2, i_Lay h2 → i_GN h h2 → i_RBL h2 (o_bad T n k) (o_tks T n k) → Q (some (.int 0)) h2) : i_C i_MT i_AT L xs 224 [.ref 138, .retAddr 7, .int (i_n r)] h Q := by
  subst hk2
  exact c224 g.1 g.2.1 hk g.2.2.1 g.2.2.2.1.1 hr hw (fun e h2 L2 f2 z2 => H1 e h2 (g.fr L2 f2 (by decide) z2) (i_GN.of f2 (by decide)) (f2.rJ (by simp))) (fun e h2 L2 f2 z2 => H0 e h2 L2 (i_GN.of f2 (by decide)) z2)
theorem q231 {k2 : Nat} (hk2 : k2 = o_tke T n k) (g : i_PR a n k T h) (w : o_PW a) (hk : k ≤ n)
    (H1 : o_nf T n k 0 (a 0 - 1) = 0 → o_nf T n k2 0 (a 1 - 1) = 0 → ∀ h2, i_PR a n k2 T h2 → i_GN h h2 → aJ h2 140 = aJ h 140 → fI h2 138 22 = i_n (a 0 * o_tkv T n k2 + o_tkv T n k) → Q (some (.int 1)) h2)
    (H0 : o_nf T n k 0 (a 0 - 1) ≠ 0 → ∀ h2, i_Lay h2 → i_GN h h2 → i_RBL h2 (o_nf T n k 0 (a 0 - 1)) (o_tks T n k) → Q (some (.int 0)) h2)
    (H2 : o_nf T n k 0 (a 0 - 1) = 0 → o_nf T n k2 0 (a 1 - 1) ≠ 0 → ∀ h2, i_Lay h2 → i_GN h h2 → i_RBL h2 (o_nf T n k2 0 (a 1 - 1)) (o_tks T n k2) → Q (some (.int 0)) h2) : i_C i_MT i_AT L xs 231 [.ref 138] h Q := by
  subst hk2
  have w1 := w.2.1
  refine c231 g.1 g.2.1 hk g.2.2.1 g.2.2.2.1.1 (g.2.2.2.2.2.1 0 (by omega)) (g.2.2.2.2.2.1 1 (by omega)) ⟨w1.1, w1.2.1⟩ ⟨w1.2.2.1, w1.2.2.2⟩ (fun e1 e2 h2 L2 f2 q2 z2 => H1 e1 e2 h2 (g.fr L2 f2 (by decide) z2) (i_GN.of f2 (by decide)) (f2.rJ (by simp)) q2) (fun e1 h2 L2 f2 z2 => H0 e1 h2 L2 (i_GN.of f2 (by decide)) z2) (fun e1 e2 h2 L2 f2 z2 => H2 e1 e2 h2 L2 (i_GN.of f2 (by decide)) z2)
theorem w_139q {R : iH → Prop} {j x : Nat} (g : i_PR a n k T h) (hj : j < 680) (h5 : j ≠ 5) (K : ∀ h2, i_PR (o_su a j x) n k T h2 → i_GN h h2 → aJ h2 140 = aJ h 140 → R h2) : R (i_siI h 139 (2720 + j) (i_n x)) := by
  refine w_siI (R := R) g.1 g.1.a139 (fun h1 L1 F1 E1 => ?_)
  have z := g.wr hj h5 L1 F1 E1
  exact K h1 z.1 z.2 (F1.rJ (by simp))
theorem q225 {k2 : Nat} (hk2 : k2 = o_tke T n k) (g : i_PR a n k T h) (hk : k ≤ n) {j lo hi : Nat} (hj : j < 680) (h5 : j ≠ 5) (hl : lo < 1000) (hh : hi < 1000) (H1 : o_nf T n k lo hi = 0 → ∀ h2, i_PR (o_su a j (o_tkv T n k)) n k2 T h2 → i_GN h h2 → aJ h2 140 = aJ h 140 → Q (some (.int 1)) h2) (H0 : o_nf T n k lo hi ≠ 0 → ∀ h2, i_Lay h2 → i_GN h h2 → i_RBL h2 (o_nf T n k lo hi) (o_tks T n k) → Q (some (.int 0)) h2) : i_C i_MT i_AT L xs 225 [.ref 138, .int (i_n (2720 + j)), .int (i_n lo), .int (i_n hi)] h Q := by
  subst hk2
  refine c225 g.1 g.2.1 hk g.2.2.1 g.2.2.2.1.1 (by omega) hl hh (fun e h2 L2 f2 ea z2 => H1 e h2 ?_ ?_ (f2.rJ (by simp))) (fun e h2 L2 f2 z2 => H0 e h2 L2 (i_GN.of f2 (by decide)) z2)
  · refine ⟨L2, g.2.1.fr f2 (by simp) (by decide), z2, ?_, ?_, ?_, (g.2.2.2.2.2.2.fr f2 (by simp)).ch (o_su_f (by omega)) (fun p hp => o_su_f (by omega))⟩
    · rw [f2.vI (by decide), f2.vI (by decide)]; exact g.2.2.2.1
    · rw [f2.vI (by decide), o_su_f (by omega)]; exact g.2.2.2.2.1
    · intro i hi
      rw [ea]
      by_cases q : i = j
      · subst q; rw [if_pos rfl, o_su_t]
      · rw [if_neg (by omega), o_su_f q]; exact g.2.2.2.2.2.1 i hi
  · exact ⟨f2.mono (by simp) (by decide), fun i hi => by rw [ea, if_neg (by omega)], fun i hi => by rw [f2.rJ (by simp)]⟩
set_option maxHeartbeats 2000000 in
theorem c238 (g : i_PR a n k0 T h) (kw : o_tkk T n k0 ≠ 4) (w : o_PW a) (hk : k0 ≤ n) (K : i_RR n T h Q (p_person T n k0 a)) : i_C i_MT i_AT L xs 238 [.ref 138] h Q := by
  have c48 := w.c48
  have w1 := w.2.1
  have h5 := w.1.2.2.2.2.1
  have l1 := o_ke_le (T := T) hk 1
  have l2 := o_ke_le (T := T) hk 2
  have l3 := o_ke_le (T := T) hk 3
  have l4 := o_ke_le (T := T) hk 4
  have l5 := o_ke_le (T := T) hk 5
  have l6 := o_ke_le (T := T) hk 6
  have l7 := o_ke_le (T := T) hk 7
  have l8 := o_ke_le (T := T) hk 8
  unfold p_person at K
  have e5 : aI h 139 2725 = i_n (a 5) := g.A (i := 5) (by omega)
  refine e238 (d238_0 g.1 ?_)
  try simp (disch := omega) only [n_lit, n_m, n_add, n_mul, n_div, n_mod, n_cl, n_lt, n_le, n_eq, n_in, n_eqm, n_meq, n_mlt, n_ltm, n_mle, n_lem, not_true_eq_false, not_false_eq_true, true_implies, false_implies, true_and, and_true, Nat.not_lt_zero, Nat.zero_le, e5]
  refine ⟨fun q => ?_, fun q => r221g g (x := 6) kw (fun h1 L1 f1 b1 => ⟨_, rfl, d238_29 L1 ⟨rfl, ?_⟩⟩)⟩
  rotate_left
  · rw [if_pos (Classical.not_not.mp q)] at K
    exact K h1 L1 f1 b1
  rw [if_neg q] at K
  refine r218 (k2 := o_ke T n 1 k0) rfl g hk (fun h1 g1 f1 => ⟨rfl, d238_34 g1.1 ?_⟩)
  refine c226 g1.1 g1.2.1 g1.2.2.1 l1.2 ⟨_, rfl, d238_40 g1.1 ?_⟩
  rw [i_bo_0, Classical.not_not]
  refine ⟨fun e1 => ?_, fun e1 => r221b g1 (fun h2 L2 f2 b2 => ⟨_, rfl, d238_48 L2 ⟨rfl, ?_⟩⟩)⟩
  rotate_left
  · rw [if_neg e1] at K
    exact K h2 L2 (f1.trans f2) b2
  rw [if_pos e1] at K
  have cl := o_tkc_lt (T := T) (n := n) (k := o_ke T n 1 k0)
  refine c228 (b := 32) g1.1 g1.2.1 g1.2.2.1 l1.2 e1.1 e1.2.1 h5 (Nat.le_refl _) g1.2.2.2.2.2.2 w.2.2.2.1 ⟨_, rfl, d238_56 g1.1 ?_⟩
  cases ef : o_fnd a (o_tkc T n (o_ke T n 1 k0)) with
  | some p =>
    have hp := o_fd_lt ef
    rw [ef] at K
    refine ⟨fun y => ?_, fun _ => r221g g1 (x := 3) (by have := e1.1; omega) (fun h2 L2 f2 b2 => ⟨_, rfl, d238_65 L2 ⟨rfl, K h2 L2 (f1.trans f2) b2⟩⟩)⟩
    have y : i_n p = i_m := y
    rw [n_eqm (by omega)] at y
    exact y.elim
  | none =>
    rw [ef] at K
    refine ⟨fun _ => c227 g1.1 g1.2.1 g1.2.2.1 l1.2 e1.1 e1.2.1 ⟨_, rfl, d238_78 g1.1 ⟨40, aJ h1 140, g1.1.a140, ?_⟩⟩, fun y => absurd rfl y⟩
    try simp (disch := omega) only [n_lit, n_m, n_add, n_mul, n_div, n_mod, n_cl, n_lt, n_le, n_eq, n_in, n_eqm, n_meq, n_mlt, n_ltm, n_mle, n_lem, not_true_eq_false, not_false_eq_true, true_implies, false_implies, true_and, and_true, Nat.not_lt_zero, Nat.zero_le]
    refine ⟨by omega, ?_⟩
    generalize o_tkc T n (o_ke T n 1 k0) = v at *
    refine w_siJ (R := fun z => ∀ (y3 : Option Value), i_P i_MT i_AT L xs 238 79 [some (.ref 138), some (.int (i_n (a 5))), some (.int (i_n (2874 + 5 * a 5))), y3] [] z 0 0 Q) g1.1 g1.1.a140 (fun h2 L2 F2 E2 => fun y3 => d238_79 L2 ?_) _
    have g2 : i_PR a n (o_ke T n 1 k0) T h2 := by
      refine ⟨L2, g1.2.1.fr F2 (by simp) (by simp), g1.2.2.1.fr F2 (fun _ _ => by simp), ?_, ?_, ?_, ?_⟩
      · rw [F2.vI (by simp), F2.vI (by simp)]; exact g1.2.2.2.1
      · rw [F2.vI (by simp)]; exact g1.2.2.2.2.1
      · rw [F2.rI (by simp)]; exact g1.2.2.2.2.2.1
      · intro p hp
        rw [E2, if_neg (by omega)]; exact g1.2.2.2.2.2.2 p hp
    have f2 : i_GN h1 h2 := ⟨F2.mono (by simp) (fun _ z => absurd z (by simp)), fun i hi => by rw [F2.rI (by simp)], fun i hi => by rw [E2, if_neg (by omega)]⟩
    have f2 := f1.trans f2
    have n2 : aJ h2 140 (32 + a 5) = i_j (o_58 8 v) := by rw [E2, if_pos rfl]
    refine q218 (k2 := o_ke T n 2 k0) rfl g2 l1.2 (fun h3 g3 f3 n3 => ⟨rfl, d238_83 g3.1 ?_⟩)
    have f3 := f2.trans f3
    refine q224 (r := 20) (w := 17) (k2 := o_ke T n 3 k0) rfl g3 l2.2 (by omega) rfl (fun e3 h4 g4 f4 n4 => ⟨_, rfl, d238_91 g4.1 ⟨fun z => absurd z (by decide), fun _ => ?_⟩⟩) (fun e3 h4 L4 f4 b4 => ⟨_, rfl, d238_91 L4 ⟨fun _ => d238_101 L4 ?_, fun z => absurd rfl z⟩⟩)
    rotate_left
    · rw [o_wo_f e3] at K
      exact K h4 L4 (f3.trans f4) b4
    rw [o_wo_t e3] at K
    have f4 := f3.trans f4
    refine q231 (k2 := o_ke T n 4 k0) rfl g4 w l3.2 (fun e4 e5 h5 g5 f5 n5 x22 => ⟨_, rfl, d238_98 g5.1 ⟨fun _ => ?_, fun z => absurd (by decide) z⟩⟩) (fun e4 h5 L5 f5 b5 => ⟨_, rfl, d238_98 L5 ⟨fun z => absurd rfl z, fun _ => d238_101 L5 ?_⟩⟩) (fun e4 e5 h5 L5 f5 b5 => ⟨_, rfl, d238_98 L5 ⟨fun z => absurd rfl z, fun _ => d238_101 L5 ?_⟩⟩)
    rotate_left
    · rw [o_nu_f e4] at K
      exact K h5 L5 (f4.trans f5) b5
    · rw [o_nu_t e4, o_nu_f e5] at K
      exact K h5 L5 (f4.trans f5) b5
    rw [o_nu_t e4, o_nu_t e5] at K
    have q5 := o_nf_0 e5
    have hc := o_cel_lt w e4 e5
    have f5 := f4.trans f5
    change fI h5 138 22 = i_n (o_cel T n a (o_ke T n 3 k0)) at x22
    generalize o_cel T n a (o_ke T n 3 k0) = c at *
    have ew : aI h5 139 (2730 + c) = i_n (a (10 + c)) := by
      have := g5.A (i := 10 + c) (by omega)
      rwa [show 2720 + (10 + c) = 2730 + c by omega] at this
    have w7 := w.1.2.2.2.2.2.2.1 c (by omega)
    rw [x22]
    try simp (disch := omega) only [n_lit, n_m, n_add, n_mul, n_div, n_mod, n_cl, n_lt, n_le, n_eq, n_in, n_eqm, n_meq, n_mlt, n_ltm, n_mle, n_lem, not_true_eq_false, not_false_eq_true, true_implies, false_implies, true_and, and_true, Nat.not_lt_zero, Nat.zero_le, ew]
    refine ⟨by omega, fun y => ⟨by omega, ?_⟩, fun y => r221g g5 (x := 5) (by omega) (fun h6 L6 f6 b6 => ⟨_, rfl, d238_125 L6 ⟨rfl, ?_⟩⟩)⟩
    rotate_left
    · rw [if_pos (Classical.not_not.mp y)] at K
      exact K h6 L6 (f5.trans f6) b6
    rw [if_neg y] at K
    rw [show 2874 + 5 * a 5 = 2720 + (154 + 5 * a 5) by omega]
    refine w_139q (j := 154 + 5 * a 5) (R := fun z => i_P i_MT i_AT L xs 238 136 [some (.ref 138), some (.int (i_n (a 5))), some (.int (i_n (2720 + (154 + 5 * a 5)))), y3] [] z 0 0 Q) g5 (by omega) (by omega) (fun h6 g6 f6 n6 => d238_136 g6.1 ?_)
    have f6 := f5.trans f6
    refine q218 (k2 := o_ke T n 5 k0) rfl g6 l4.2 (fun h7 g7 f7 n7 => ⟨rfl, d238_140 g7.1 ?_⟩)
    have f7 := f6.trans f7
    refine q224 (r := 21) (w := 18) (k2 := o_ke T n 6 k0) rfl g7 l5.2 (by omega) rfl (fun e6 h8 g8 f8 n8 => ⟨_, rfl, d238_148 g8.1 ⟨fun _ => ?_, fun z => absurd (by decide) z⟩⟩) (fun e6 h8 L8 f8 b8 => ⟨_, rfl, d238_148 L8 ⟨fun z => absurd rfl z, fun _ => ?_⟩⟩)
    rotate_left
    · rw [o_wo_f e6] at K
      exact K h8 L8 (f7.trans f8) b8
    rw [o_wo_t e6] at K
    have f8 := f7.trans f8
    refine r220 g8 l6.2 ⟨_, rfl, d238_159 g8.1 ?_⟩
    have bad : ¬ o_wy T n (o_ke T n 6 k0) < 8 → i_P i_MT i_AT L xs 238 170 [some (.ref 138), some (.int (i_n (a 5))), some (.int (i_n (2720 + (154 + 5 * a 5)))), some (.int (o_rix (o_wy T n (o_ke T n 6 k0))))] [] h8 0 0 Q := fun nw => by
      rw [if_neg nw] at K
      exact d238_170 g8.1 (r221b g8 (fun h9 L9 f9 b9 => ⟨_, rfl, d238_175 L9 ⟨rfl, K h9 L9 (f8.trans f9) b9⟩⟩))
    refine ⟨fun q => bad (fun y => (o_ri_way.mpr y).1 q), fun q => ⟨fun q2 => ?_, fun q2 => bad (fun y => q2 (o_ri_way.mpr y).2)⟩⟩
    have hw := o_ri_way.mp ⟨q, q2⟩
    clear bad
    rw [if_pos hw] at K
    rw [o_ri_w8 hw]
    generalize o_wy T n (o_ke T n 6 k0) = l at *
    try simp (disch := omega) only [n_lit, n_m, n_add, n_mul, n_div, n_mod, n_cl, n_lt, n_le, n_eq, n_in, n_eqm, n_meq, n_mlt, n_ltm, n_mle, n_lem, not_true_eq_false, not_false_eq_true, true_implies, false_implies, true_and, and_true, Nat.not_lt_zero, Nat.zero_le]
    rw [show 2720 + (154 + 5 * a 5) + 1 = 2720 + (155 + 5 * a 5) by omega]
    refine ⟨by omega, ?_⟩
    refine w_139q (j := 155 + 5 * a 5) (R := fun z => i_P i_MT i_AT L xs 238 185 [some (.ref 138), some (.int (i_n (a 5))), some (.int (i_n (2720 + (154 + 5 * a 5)))), some (.int (i_n l))] [] z 0 0 Q) g8 (by omega) (by omega) (fun h9 g9 f9 n9 => d238_185 g9.1 ?_)
    have f9 := f8.trans f9
    refine q218 (k2 := o_ke T n 7 k0) rfl g9 l6.2 (fun h10 g10 f10 n10 => ⟨rfl, d238_189 g10.1 ?_⟩)
    have f10 := f9.trans f10
    refine q224 (r := 22) (w := 19) (k2 := o_ke T n 8 k0) rfl g10 l7.2 (by omega) rfl (fun e7 h11 g11 f11 n11 => ⟨_, rfl, d238_197 g11.1 ⟨fun z => absurd z (by decide), fun _ => ?_⟩⟩) (fun e7 h11 L11 f11 b11 => ⟨_, rfl, d238_197 L11 ⟨fun _ => d238_213 L11 ?_, fun z => absurd rfl z⟩⟩)
    rotate_left
    · rw [o_wo_f e7] at K
      exact K h11 L11 (f10.trans f11) b11
    rw [o_wo_t e7] at K
    have f11 := f10.trans f11
    try simp (disch := omega) only [n_lit, n_m, n_add, n_mul, n_div, n_mod, n_cl, n_lt, n_le, n_eq, n_in, n_eqm, n_meq, n_mlt, n_ltm, n_mle, n_lem, not_true_eq_false, not_false_eq_true, true_implies, false_implies, true_and, and_true, Nat.not_lt_zero, Nat.zero_le]
    rw [show 2720 + (154 + 5 * a 5) + 2 = 2720 + (156 + 5 * a 5) by omega]
    refine q225 (k2 := o_ke T n 9 k0) (lo := 1) (hi := 9) rfl g11 l8.2 (by omega) (by omega) (by omega) (by omega) (fun e8 h12 g12 f12 n12 => ⟨_, rfl, d238_210 g12.1 ⟨fun _ => ?_, fun z => absurd (by decide) z⟩⟩) (fun e8 h12 L12 f12 b12 => ⟨_, rfl, d238_210 L12 ⟨fun z => absurd rfl z, fun _ => d238_213 L12 ?_⟩⟩)
    rotate_left
    · rw [o_nu_f e8] at K
      exact K h12 L12 (f11.trans f12) b12
    rw [o_nu_t e8] at K
    have f12 := f11.trans f12
    have n13 : aJ h12 140 (32 + a 5) = i_j (o_58 8 v) := by rw [n12, n11, n10, n9, n8, n7, n6, n5, n4, n3]; exact n2
    generalize o_tkv T n (o_ke T n 8 k0) = far at *
    have e5' : aI h12 139 2725 = i_n (a 5) := by
      have := g12.A (i := 5) (by omega)
      rwa [o_su_f (by omega), o_su_f (by omega), o_su_f (by omega)] at this
    try simp (disch := omega) only [n_lit, n_m, n_add, n_mul, n_div, n_mod, n_cl, n_lt, n_le, n_eq, n_in, n_eqm, n_meq, n_mlt, n_ltm, n_mle, n_lem, not_true_eq_false, not_false_eq_true, true_implies, false_implies, true_and, and_true, Nat.not_lt_zero, Nat.zero_le, e5']
    refine ⟨by omega, ?_⟩
    refine w_siI (R := fun z => i_P i_MT i_AT L xs 238 227 [some (.ref 138), some (.int (i_n (a 5))), some (.int (i_n (2720 + (154 + 5 * a 5)))), some (.int (i_n l))] [] z 0 0 Q) g12.1 g12.1.a139 (fun h13 L13 F13 E13 => d238_227 L13 ?_)
    refine K h13 (f12.trans ⟨F13.mono (by simp) (fun _ z => absurd z (by simp)), fun i hi => by rw [E13, if_neg (by omega)], fun i hi => by rw [F13.rJ (by simp)]⟩) ?_
    refine ⟨L13, g12.2.1.fr F13 (by simp) (by simp), g12.2.2.1.fr F13 (fun _ _ => by simp), ?_, ?_, ?_, ?_⟩
    · rw [F13.vI (by simp), F13.vI (by simp)]; exact g12.2.2.2.1
    · rw [F13.vI (by simp)]
      have := g12.2.2.2.2.1
      unfold o_psn
      rw [o_su_f (by omega), o_su_f (by omega), o_su_f (by omega)] at this
      rw [o_su_f (by omega), o_su_f (by omega), o_su_f (by omega), o_su_f (by omega), o_su_f (by omega)]
      exact this
    · intro i hi
      unfold o_psn
      rw [E13]
      by_cases y5 : i = 5
      · subst y5; rw [if_pos rfl, o_su_t]
      · rw [if_neg (by omega), o_su_f y5]
        have := g12.2.2.2.2.2.1 i hi
        rw [this]
        by_cases y6 : i = 156 + 5 * a 5
        · subst y6; rw [o_su_t, o_su_t]
        · rw [o_su_f y6, o_su_f y6]
          by_cases y7 : i = 155 + 5 * a 5
          · subst y7; rw [o_su_t, o_su_t]
          · rw [o_su_f y7, o_su_f y7]
            by_cases y8 : i = 154 + 5 * a 5
            · subst y8; rw [o_su_t, o_su_t]
            · rw [o_su_f y8, o_su_f y8, o_su_f (by omega)]
    · intro p hp
      unfold o_psn at hp ⊢
      rw [o_su_t] at hp
      rw [F13.rJ (by simp), o_su_f (by omega), o_su_f (by omega), o_su_f (by omega), o_su_f (by omega)]
      by_cases y : p = a 5
      · subst y; rw [o_su_t]; exact n13
      · rw [o_su_f (by omega)]
        have := g12.2.2.2.2.2.2 p (by rw [o_su_f (by omega), o_su_f (by omega), o_su_f (by omega)]; omega)
        rw [o_su_f (by omega), o_su_f (by omega), o_su_f (by omega)] at this
        exact this
end
