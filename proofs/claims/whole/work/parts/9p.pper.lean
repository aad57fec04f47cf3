/-! THE CLASS READS PEOPLE, who hides, who shows, what is seen -/
section
variable {L : Nat} {xs : Nat → Int32} {h : iH} {Q : Option Value → iH → Prop} {a : Nat → Nat} {t : Nat} {n k0 : Nat} {T : Nat → Nat}
set_option maxRecDepth 20000
abbrev psA (t : Nat) : List Nat := [t + 8, t + 9, t + 10, t + 11, t + 12, t + 13]
def o_ps7 (t N v c l f : Nat) (h h2 : iH) : Prop := fI h2 (t + 7) 0 = i_n (N + 1) ∧ (∀ j, aJ h2 (t + 8) j = if j = N then i_j v else aJ h (t + 8) j) ∧ (∀ j, aI h2 (t + 9) j = if j = N then i_n c else aI h (t + 9) j) ∧ (∀ j, aI h2 (t + 10) j = if j = N then i_n l else aI h (t + 10) j) ∧ (∀ j, aI h2 (t + 11) j = if j = N then i_n f else aI h (t + 11) j) ∧ (∀ j, aI h2 (t + 12) j = if j = N then 0 else aI h (t + 12) j) ∧ (∀ j, aI h2 (t + 13) j = if j = N then 0 else aI h (t + 13) j)
set_option maxHeartbeats 1000000 in
theorem c35 (hL : i_Lay h) (ht : i_T t) {N v c l f : Nat} (hN : N < 8) (e : fI h (t + 7) 0 = i_n N) (K : ∀ h2, i_Lay h2 → i_Fr (psA t) [(t + 7, 0)] h h2 → o_ps7 t N v c l f h h2 → Q none h2) : i_C i_MT i_AT L xs 35 [.ref (t + 7), .long (i_j v), .int (i_n c), .int (i_n l), .int (i_n f)] h Q := by
  have up : ∀ {q : Nat} {h1 h2 : iH}, q ∈ psA t → i_Fr [q] [] h1 h2 → i_Fr (psA t) [(t + 7, 0)] h1 h2 := fun hq f => f.mono (fun z hz => by
    simp only [List.mem_cons, List.not_mem_nil, or_false] at hz
    subst hz
    exact hq) (fun _ z => absurd z (by simp))
  have inN : i_in (i_n N) 8 := (n_in (by omega)).mpr hN
  refine e35 (d35_0 hL ht ?_)
  rw [e, n_cl (by omega)]
  refine ⟨inN, w_siJ (R := fun z => i_P i_MT i_AT L xs 35 10 [some (.ref (t + 7)), some (.long (i_j v)), none, some (.int (i_n c)), some (.int (i_n l)), some (.int (i_n f))] [] z 0 0 Q) hL (hL.ta_8 ht) (fun h1 L1 F1 E1 => d35_10 L1 ht ?_)⟩
  have e1 : fI h1 (t + 7) 0 = i_n N := by rw [F1.vI (by simp)]; exact e
  rw [e1, n_cl (by omega)]
  refine ⟨inN, w_siI (R := fun z => i_P i_MT i_AT L xs 35 20 [some (.ref (t + 7)), some (.long (i_j v)), none, some (.int (i_n c)), some (.int (i_n l)), some (.int (i_n f))] [] z 0 0 Q) L1 (L1.ta_9 ht) (fun h2 L2 F2 E2 => d35_20 L2 ht ?_)⟩
  have e2 : fI h2 (t + 7) 0 = i_n N := by rw [F2.vI (by simp)]; exact e1
  rw [e2, n_cl (by omega)]
  refine ⟨inN, w_siI (R := fun z => i_P i_MT i_AT L xs 35 31 [some (.ref (t + 7)), some (.long (i_j v)), none, some (.int (i_n c)), some (.int (i_n l)), some (.int (i_n f))] [] z 0 0 Q) L2 (L2.ta_10 ht) (fun h3 L3 F3 E3 => d35_31 L3 ht ?_)⟩
  have e3 : fI h3 (t + 7) 0 = i_n N := by rw [F3.vI (by simp)]; exact e2
  rw [e3, n_cl (by omega)]
  refine ⟨inN, w_siI (R := fun z => i_P i_MT i_AT L xs 35 42 [some (.ref (t + 7)), some (.long (i_j v)), none, some (.int (i_n c)), some (.int (i_n l)), some (.int (i_n f))] [] z 0 0 Q) L3 (L3.ta_11 ht) (fun h4 L4 F4 E4 => d35_42 L4 ht ?_)⟩
  have e4 : fI h4 (t + 7) 0 = i_n N := by rw [F4.vI (by simp)]; exact e3
  rw [e4, n_cl (by omega)]
  refine ⟨inN, w_siI (R := fun z => i_P i_MT i_AT L xs 35 52 [some (.ref (t + 7)), some (.long (i_j v)), none, some (.int (i_n c)), some (.int (i_n l)), some (.int (i_n f))] [] z 0 0 Q) L4 (L4.ta_12 ht) (fun h5 L5 F5 E5 => d35_52 L5 ht ?_)⟩
  have e5 : fI h5 (t + 7) 0 = i_n N := by rw [F5.vI (by simp)]; exact e4
  rw [e5, n_cl (by omega)]
  refine ⟨inN, w_siI (R := fun z => i_P i_MT i_AT L xs 35 62 [some (.ref (t + 7)), some (.long (i_j v)), none, some (.int (i_n c)), some (.int (i_n l)), some (.int (i_n f))] [] z 0 0 Q) L5 (L5.ta_13 ht) (fun h6 L6 F6 E6 => d35_62 L6 ht ?_)⟩
  have e6 : fI h6 (t + 7) 0 = i_n N := by rw [F6.vI (by simp)]; exact e5
  rw [e6, show i_n N + 1 = i_n (N + 1) from n_add N 1]
  refine w_sfI (R := fun z => i_P i_MT i_AT L xs 35 72 [some (.ref (t + 7)), some (.long (i_j v)), none, some (.int (i_n c)), some (.int (i_n l)), some (.int (i_n f))] [] z 0 0 Q) L6 (L6.p_0 ht) (fun h7 L7 F7 E7 => d35_72 L7 ht ?_)
  refine K h7 L7 ((up (by simp) F1).trans ((up (by simp) F2).trans ((up (by simp) F3).trans ((up (by simp) F4).trans ((up (by simp) F5).trans ((up (by simp) F6).trans (F7.mono (fun _ z => absurd z (by simp)) (fun _ z => z)))))))) ⟨E7, ?_, ?_, ?_, ?_, ?_, ?_⟩
  · intro j; rw [F7.rJ (by simp), F6.rJ (by simp), F5.rJ (by simp), F4.rJ (by simp), F3.rJ (by simp), F2.rJ (by simp), E1]
  · intro j; rw [F7.rI (by simp), F6.rI (by simp), F5.rI (by simp), F4.rI (by simp), F3.rI (by simp), E2, F1.rI (by simp)]
  · intro j; rw [F7.rI (by simp), F6.rI (by simp), F5.rI (by simp), F4.rI (by simp), E3, F2.rI (by simp), F1.rI (by simp)]
  · intro j; rw [F7.rI (by simp), F6.rI (by simp), F5.rI (by simp), E4, F3.rI (by simp), F2.rI (by simp), F1.rI (by simp)]
  · intro j; rw [F7.rI (by simp), F6.rI (by simp), E5, F4.rI (by simp), F3.rI (by simp), F2.rI (by simp), F1.rI (by simp)]
  · intro j; rw [F7.rI (by simp), E6, F5.rI (by simp), F4.rI (by simp), F3.rI (by simp), F2.rI (by simp), F1.rI (by simp)]
theorem i_CT.psn {v c l f : Nat} {h2 : iH} (w : o_PW a) (hT : i_T2 t) (h5 : a 5 ≠ 8) (g : i_CT a t h) (F : i_Fr (psA t) [(t + 7, 0)] h h2) (z : o_ps7 t (a 5) v c l f h h2) : i_CT (o_psn a v c l f) t h2 := by
  have ht : t = 14 ∨ t = 29 := hT
  have c48 := w.c48
  have w3 := w.1.2.2.1
  have w4 := w.1.2.2.2.1
  have w5 := w.1.2.2.2.2.1
  have v6 := w.2.2.2.2.2.2 (a 5) (Nat.le_refl _) (by omega)
  generalize hb : o_psn a v c l f = b
  unfold o_psn at hb
  have out : ∀ u, u ≠ 5 → u ≠ 156 + 5 * a 5 → u ≠ 155 + 5 * a 5 → u ≠ 154 + 5 * a 5 → u ≠ 800 + a 5 → b u = a u := fun u h0 h1 h2 h3 h4 => by rw [← hb, o_su_f h0, o_su_f h1, o_su_f h2, o_su_f h3, o_su_f h4]
  have b5 : b 5 = a 5 + 1 := by rw [← hb, o_su_t]
  have bf : b (156 + 5 * a 5) = f := by rw [← hb, o_su_f (by omega), o_su_t]
  have bl : b (155 + 5 * a 5) = l := by rw [← hb, o_su_f (by omega), o_su_f (by omega), o_su_t]
  have bc : b (154 + 5 * a 5) = c := by rw [← hb, o_su_f (by omega), o_su_f (by omega), o_su_f (by omega), o_su_t]
  obtain ⟨g1, g2, g3, g4, g5, g6, g7, g8, g9⟩ := g
  obtain ⟨z1, -, z3, z4, z5, z6, z7⟩ := z
  unfold i_CT
  rw [F.vI (p := t) (c := 0) (by simp), F.vI (p := t) (c := 1) (by simp), F.vI (p := t) (c := 5) (by simp), F.vI (p := t) (c := 9) (by simp), z1, F.vJ (p := t) (c := 2) (by simp), F.vJ (p := t) (c := 3) (by simp), F.rI (p := t + 1) (by simp), F.rI (p := t + 2) (by simp), F.rI (p := t + 3) (by simp), F.rI (p := t + 4) (by simp), F.rI (p := t + 5) (by simp), F.rI (p := t + 6) (by simp), F.rI (p := t + 14) (by simp)]
  rw [out 0 (by omega) (by omega) (by omega) (by omega) (by omega), out 1 (by omega) (by omega) (by omega) (by omega) (by omega), out 3 (by omega) (by omega) (by omega) (by omega) (by omega), out 4 (by omega) (by omega) (by omega) (by omega) (by omega), b5]
  have o4 : ∀ u, u < 154 → u ≠ 5 → b u = a u := fun u h1 h2 => out u h2 (by omega) (by omega) (by omega) (by omega)
  refine ⟨g1, ?_, ?_, ?_, ⟨g5.1, fun k hk => ?_⟩, ⟨g6.1, fun k hk => ?_⟩, fun k hk => ?_, ⟨rfl, fun p hp => ?_⟩, fun j hj => ?_⟩
  · exact g2.congr (fun d hd => by unfold o_wall; rw [o4 _ (by omega) (by omega)])
  · exact g3.congr (fun d hd => by rw [o4 _ (by omega) (by omega)])
  · intro d hd
    unfold o_sway
    rw [o4 _ (by omega) (by omega)]; exact g4 d hd
  · have w10 := w.1.2.2.2.2.2.2.2.2.2.1 k hk
    rw [o4 _ (by omega) (by omega), o4 (115 + 10 * k) (by omega) (by omega)]
    refine ⟨(g5.2 k hk).1, (g5.2 k hk).2.1, fun j hj => ?_⟩
    rw [o4 _ (by omega) (by omega)]; exact (g5.2 k hk).2.2 j hj
  · rw [o4 _ (by omega) (by omega)]; exact g6.2 k hk
  · rw [o4 _ (by omega) (by omega)]; exact g7 k hk
  · rw [z3, z4, z5, z6, z7]
    by_cases q : p = a 5
    · subst q
      rw [if_pos rfl, if_pos rfl, if_pos rfl, if_pos rfl, if_pos rfl, bc, bl, bf, out (157 + 5 * a 5) (by omega) (by omega) (by omega) (by omega) (by omega), out (158 + 5 * a 5) (by omega) (by omega) (by omega) (by omega) (by omega), v6.1, v6.2]
      exact ⟨rfl, rfl, rfl, rfl, rfl⟩
    · rw [if_neg q, if_neg q, if_neg q, if_neg q, if_neg q, out (154 + 5 * p) (by omega) (by omega) (by omega) (by omega) (by omega), out (155 + 5 * p) (by omega) (by omega) (by omega) (by omega) (by omega), out (156 + 5 * p) (by omega) (by omega) (by omega) (by omega) (by omega), out (157 + 5 * p) (by omega) (by omega) (by omega) (by omega) (by omega), out (158 + 5 * p) (by omega) (by omega) (by omega) (by omega) (by omega)]
      exact g8.2 p (by omega)
  · rw [out _ (by omega) (by omega) (by omega) (by omega) (by omega)]; exact g9 j hj
theorem m34 {k : Nat} (g : i_PC a t n k T h) (hT : i_T2 t) (w : o_PW a) {v : Nat} (hv : v < 1099511627776) (H : Q (some (.int (o_op (o_fnd a v)))) h) : i_C i_MT i_AT L xs 34 [.ref (t + 7), .long (i_j v)] h Q := c34 g.1 hT.T w.1.2.2.2.2.1 g.n5 g.2.2.2.2.2.1 w.2.2.2.1 hv H
set_option maxHeartbeats 1000000 in
theorem c112 (g : i_PC a t n (o_ke T n 1 k0) T h) (z0 : i_TK h T n k0) (hT : i_T2 t) (w : o_PW a) (hk : k0 ≤ n) (K : i_CR t n T h Q (p_stop T n (p_person T n k0 a))) : i_C i_MT i_AT L xs 112 [.ref 44] h Q := by
  have ht : t = 14 ∨ t = 29 := hT
  have c48 := w.c48
  have w1 := w.2.1
  have h5 := w.1.2.2.2.2.1
  have l1 := o_ke_le (T := T) hk 1
  have l2 := o_ke_le (T := T) hk 2
  have l3 := o_ke_le (T := T) hk 3
  have l5 := o_ke_le (T := T) hk 5
  have l6 := o_ke_le (T := T) hk 6
  have l7 := o_ke_le (T := T) hk 7
  have l8 := o_ke_le (T := T) hk 8
  have l9 := o_ke_le (T := T) hk 9
  unfold p_person at K
  refine e112 (d112_0 g.1 ⟨t, g.tw, hT.T, ?_⟩)
  rw [g.n5]
  try simp (disch := omega) only [n_lit, n_m, n_add, n_mul, n_div, n_mod, n_cl, n_lt, n_le, n_eq, n_in, n_eqm, n_meq, n_mlt, n_ltm, n_mle, n_lem, not_true_eq_false, not_false_eq_true, true_implies, false_implies, true_and, and_true, Nat.not_lt_zero, Nat.zero_le]
  refine ⟨fun q => ?_, fun q => c86 g.1 z0 (x := 6) (fun h1 L1 f1 b1 => ⟨_, rfl, d112_24 L1 ⟨rfl, ?_⟩⟩)⟩
  rotate_left
  · rw [if_pos (by omega)] at K
    exact K h1 L1 f1.tl.tb b1
  rw [if_neg (by omega)] at K
  refine m93 (k2 := o_ke T n 2 k0) rfl g hT l1.2 (fun e1 h1 g1 f1 z1 => ⟨_, rfl, d112_32 g1.1 ⟨fun _ => ⟨t, g1.tw, hT.T, ?_⟩, fun z => absurd (by decide) z⟩⟩) (fun e1 h1 L1 f1 b1 => ⟨_, rfl, d112_32 L1 ⟨fun z => absurd rfl z, fun _ => ?_⟩⟩)
  rotate_left
  · rw [if_neg e1] at K
    exact K h1 L1 f1.tb b1
  rw [if_pos e1] at K
  have f1 := f1.tb (t := t)
  have cl := o_tkc_lt (T := T) (n := n) (k := o_ke T n 1 k0)
  rw [z1.2.2.2.2.1]
  refine m34 g1 hT w cl ⟨_, rfl, d112_56 g1.1 ?_⟩
  cases ef : o_fnd a (o_tkc T n (o_ke T n 1 k0)) with
  | some p =>
    have hp := o_fd_lt ef
    rw [ef] at K
    refine ⟨fun y => ?_, fun _ => c86 g1.1 z1 (x := 3) (fun h2 L2 f2 b2 => ⟨_, rfl, d112_68 L2 ⟨rfl, K h2 L2 (f1.trans f2.tl.tb) b2⟩⟩)⟩
    have y : i_n p = i_m := y
    rw [n_eqm (by omega)] at y
    exact y.elim
  | none =>
    rw [ef] at K
    refine ⟨fun _ => ?_, fun y => absurd rfl y⟩
    refine m91 (k2 := o_ke T n 3 k0) (w := 17) rfl g1 hT l2.2 (by omega) (fun e2 h2 g2 f2 z2 => ⟨_, rfl, d112_78 g2.1 ⟨fun z => absurd z (by decide), fun _ => ?_⟩⟩) (fun e2 h2 L2 f2 b2 => ⟨_, rfl, d112_78 L2 ⟨fun _ => d112_90 L2 ?_, fun z => absurd rfl z⟩⟩)
    rotate_left
    · rw [o_wo_f e2] at K
      exact K h2 L2 (f1.trans f2.tb) b2
    rw [o_wo_t e2] at K
    have f2 := f1.trans f2.tb
    refine c106 (k2 := o_ke T n 4 k0) (k3 := o_ke T n 5 k0) (lx := 0) (ly := 0) rfl rfl g2 hT w l3.2 (by omega) (by omega) (fun e3 e4 h3 g3 f3 z3 x3 y3 => ⟨_, rfl, d112_87 g3.1 ⟨fun _ => ⟨t, g3.tw, hT.T, c107 g3 hT x3 y3 ⟨_, rfl, d112_103 g3.1 ?_⟩⟩, fun z => absurd (by decide) z⟩⟩) (fun e3 h3 L3 f3 b3 => ⟨_, rfl, d112_87 L3 ⟨fun z => absurd rfl z, fun _ => d112_90 L3 ?_⟩⟩) (fun e3 e4 h3 L3 f3 b3 => ⟨_, rfl, d112_87 L3 ⟨fun z => absurd rfl z, fun _ => d112_90 L3 ?_⟩⟩)
    rotate_left
    · rw [o_nu_f e3] at K
      exact K h3 L3 (f2.trans f3.ce) b3
    · rw [o_nu_t e3, o_nu_f e4] at K
      exact K h3 L3 (f2.trans f3.ce) b3
    rw [o_nu_t e3, o_nu_t e4] at K
    have hc := o_cel_lt w e3 e4
    have eC : a 0 * o_tkv T n (o_ke T n 4 k0) + o_tkv T n (o_ke T n 3 k0) = o_cel T n a (o_ke T n 3 k0) := rfl
    rw [eC]
    have f3 := f2.trans (f3.ce (t := t))
    generalize o_cel T n a (o_ke T n 3 k0) = c at *
    have b2 := g3.2.2.2.2.1.2.1 c (by omega)
    rw [decide_eq_true hc, Bool.true_and] at b2
    have wl : (o_wall a c = true) ↔ a (10 + c) = 1 := by unfold o_wall; exact beq_iff_eq
    refine c193 (by omega) ⟨_, rfl, d112_106 g3.1 ?_⟩
    rw [b2, i_bo_0, wl]
    refine ⟨fun q5 => ?_, fun q5 => c86 g3.1 z3 (x := 5) (fun h4 L4 f4 b4 => ⟨_, rfl, d112_117 L4 ⟨rfl, ?_⟩⟩)⟩
    rotate_left
    · rw [if_pos (Classical.not_not.mp q5)] at K
      exact K h4 L4 (f3.trans f4.tl.tb) b4
    rw [if_neg q5] at K
    refine m91 (k2 := o_ke T n 6 k0) (w := 18) rfl g3 hT l5.2 (by omega) (fun e5 h4 g4 f4 z4 => ⟨_, rfl, d112_127 g4.1 ⟨fun z => absurd z (by decide), fun _ => ?_⟩⟩) (fun e5 h4 L4 f4 b4 => ⟨_, rfl, d112_127 L4 ⟨fun _ => d112_140 L4 ?_, fun z => absurd rfl z⟩⟩)
    rotate_left
    · rw [o_wo_f e5] at K
      exact K h4 L4 (f3.trans f4.tb) b4
    rw [o_wo_t e5] at K
    have x4 : fI h4 44 2 = i_n (o_tkv T n (o_ke T n 3 k0)) := by rw [f4.vI (by decide)]; exact x3
    have y4 : fI h4 44 3 = i_n (o_tkv T n (o_ke T n 4 k0)) := by rw [f4.vI (by decide)]; exact y3
    have f4 := f3.trans f4.tb
    refine m92 (k2 := o_ke T n 7 k0) rfl g4 hT l6.2 (fun e6 h5 g5 f5 z5 => ⟨_, rfl, d112_137 g5.1 ⟨fun _ => ?_, fun z => absurd (by decide) z⟩⟩) (fun e6 h5 L5 f5 b5 => ⟨_, rfl, d112_137 L5 ⟨fun z => absurd rfl z, fun _ => d112_140 L5 ?_⟩⟩)
    rotate_left
    · rw [if_neg e6] at K
      exact K h5 L5 (f4.trans f5.tb) b5
    rw [if_pos e6] at K
    rw [z5.way e6]
    have x5 : fI h5 44 2 = i_n (o_tkv T n (o_ke T n 3 k0)) := by rw [f5.vI (by decide)]; exact x4
    have y5 : fI h5 44 3 = i_n (o_tkv T n (o_ke T n 4 k0)) := by rw [f5.vI (by decide)]; exact y4
    have f5 := f4.trans f5.tb
    generalize o_wy T n (o_ke T n 6 k0) = l at *
    refine m91 (k2 := o_ke T n 8 k0) (w := 19) rfl g5 hT l7.2 (by omega) (fun e7 h6 g6 f6 z6 => ⟨_, rfl, d112_159 g6.1 ⟨fun z => absurd z (by decide), fun _ => ?_⟩⟩) (fun e7 h6 L6 f6 b6 => ⟨_, rfl, d112_159 L6 ⟨fun _ => d112_175 L6 ?_, fun z => absurd rfl z⟩⟩)
    rotate_left
    · rw [o_wo_f e7] at K
      exact K h6 L6 (f5.trans f6.tb) b6
    rw [o_wo_t e7] at K
    have x6 : fI h6 44 2 = i_n (o_tkv T n (o_ke T n 3 k0)) := by rw [f6.vI (by decide)]; exact x5
    have y6 : fI h6 44 3 = i_n (o_tkv T n (o_ke T n 4 k0)) := by rw [f6.vI (by decide)]; exact y5
    have f6 := f5.trans f6.tb
    refine m95 (k2 := o_ke T n 9 k0) (lo := 1) (hi := 9) rfl g6 hT l8.2 (by omega) (by omega) (fun e8 h7 g7 f7 z7 => ⟨_, rfl, d112_172 g7.1 ⟨fun _ => ⟨t, g7.tw, hT.T, c107 (x := o_tkv T n (o_ke T n 3 k0)) (y := o_tkv T n (o_ke T n 4 k0)) g7 hT (by rw [f7.vI (by decide)]; exact x6) (by rw [f7.vI (by decide)]; exact y6) ⟨_, rfl, d112_189 g7.1 hT.T ?_⟩⟩, fun z => absurd (by decide) z⟩⟩) (fun e8 h7 L7 f7 b7 => ⟨_, rfl, d112_172 L7 ⟨fun z => absurd rfl z, fun _ => d112_175 L7 ?_⟩⟩)
    rotate_left
    · rw [o_nu_f e8] at K
      exact K h7 L7 (f6.trans f7.tb) b7
    rw [o_nu_t e8] at K
    have f7 := f6.trans f7.tb
    rw [eC, z7.2.2.2.1]
    refine c35 g7.1 hT.T (N := a 5) (by omega) g7.n5 (fun h8 L8 F8 z8 => ⟨rfl, d112_200 L8 ?_⟩)
    have hA : ∀ p, p ∈ psA t → p ∈ tA t := fun q hq => by
      unfold psA at hq
      unfold tA
      simp only [List.mem_cons, List.not_mem_nil, or_false] at hq ⊢
      omega
    have hF : ∀ q, q ∈ [(t + 7, 0)] → q ∈ tF t := fun q hq => by
      simp only [List.mem_cons, List.not_mem_nil, or_false] at hq
      subst hq
      simp [tF]
    have ct := i_CT.psn w hT (by omega) g7.2.2.2.2.1 F8 z8
    have nc : i_NC (o_psn a (o_tkc T n (o_ke T n 1 k0)) c l (o_tkv T n (o_ke T n 8 k0))) t h8 := by
      intro p hp
      unfold o_psn at hp ⊢
      rw [o_su_t] at hp
      rw [z8.2.1, o_su_f (by omega), o_su_f (by omega), o_su_f (by omega), o_su_f (by omega)]
      by_cases y : p = a 5
      · subst y; rw [if_pos rfl, o_su_t]
      · rw [if_neg y, o_su_f (by omega)]; exact g7.2.2.2.2.2.1 p (by omega)
    have e799 : o_psn a (o_tkc T n (o_ke T n 1 k0)) c l (o_tkv T n (o_ke T n 8 k0)) 799 = a 799 := by
      unfold o_psn
      rw [o_su_f (by omega), o_su_f (by omega), o_su_f (by omega), o_su_f (by omega), o_su_f (by omega)]
    exact m94 (g7.wr hT L8 F8 hA hF ct nc e799) hT l9.2 (f7.trans (F8.tw hA hF)) K (fun r h9 L9 hr q => ⟨_, rfl, d112_207 L9 ⟨hr, q⟩⟩)
end
