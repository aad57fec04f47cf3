/-! THE CLASS READS CARTS -/
section
variable {L : Nat} {xs : Nat → Int32} {h : iH} {Q : Option Value → iH → Prop} {a : Nat → Nat} {t : Nat} {n k0 : Nat} {T : Nat → Nat}
set_option maxRecDepth 20000
theorem w_siI {R : iH → Prop} {q n i : Nat} {f : Nat → Int32} {x : Int32} (hL : i_Lay h) (e : i_arI h 0 q = some (n, f)) (k : ∀ h1, i_Lay h1 → i_Fr [q] [] h h1 → (∀ j, aI h1 q j = if j = i then x else aI h q j) → R h1) : R (i_siI h q i x) := k _ hL.siI (i_Fr.refl.siI (by simp)) (fun j => by rw [x_aI_siI e, x_upd])
theorem w_siJ {R : iH → Prop} {q n i : Nat} {f : Nat → Int64} {x : Int64} (hL : i_Lay h) (e : i_arJ h q = some (n, f)) (k : ∀ h1, i_Lay h1 → i_Fr [q] [] h h1 → (∀ j, aJ h1 q j = if j = i then x else aJ h q j) → R h1) : R (i_siJ h q i x) := k _ hL.siJ (i_Fr.refl.siJ (by simp)) (fun j => by rw [x_aJ_siJ e, x_updJ])
/-- what is laid of a cart that isn't counted yet is no one's -/
theorem i_CT.in3 {b : Nat → Nat} {h2 : iH} (w : o_PW a) (hT : i_T2 t) (g : i_CT a t h) (f : i_Fr [t + 2, t + 4] [] h h2) (e2 : ∀ k, k < a 3 → aI h2 (t + 2) k = aI h (t + 2) k) (e4 : ∀ k j, k < a 3 → j < 8 → aI h2 (t + 4) (k * 8 + j) = aI h (t + 4) (k * 8 + j)) (h3 : a 3 < 4) (out : ∀ i, i < 114 + 10 * a 3 ∨ 124 + 10 * a 3 ≤ i → b i = a i) : i_CT b t h2 := by
  have ht : t = 14 ∨ t = 29 := hT
  have c48 := w.c48
  obtain ⟨g1, g2, g3, g4, g5, g6, g7, g8, g9⟩ := g
  have w4 := w.1.2.2.2.1
  have w5 := w.1.2.2.2.2.1
  unfold i_CT
  rw [f.vI (p := t) (c := 0) (by simp), f.vI (p := t) (c := 1) (by simp), f.vI (p := t) (c := 5) (by simp), f.vI (p := t) (c := 9) (by simp), f.vI (p := t + 7) (c := 0) (by simp), f.vJ (p := t) (c := 2) (by simp), f.vJ (p := t) (c := 3) (by simp), f.rI (p := t + 1) (by simp), f.rI (p := t + 3) (by simp), f.rI (p := t + 5) (by simp), f.rI (p := t + 6) (by simp), f.rI (p := t + 9) (by simp), f.rI (p := t + 10) (by simp), f.rI (p := t + 11) (by simp), f.rI (p := t + 12) (by simp), f.rI (p := t + 13) (by simp), f.rI (p := t + 14) (by simp)]
  rw [out 0 (by omega), out 1 (by omega), out 3 (by omega), out 4 (by omega), out 5 (by omega)]
  refine ⟨g1, ?_, ?_, ?_, ⟨g5.1, fun k hk => ?_⟩, ⟨g6.1, fun k hk => ?_⟩, fun k hk => ?_, ⟨g8.1, fun p hp => ?_⟩, fun j hj => ?_⟩
  · exact g2.congr (fun d hd => by unfold o_wall; rw [out _ (by omega)])
  · exact g3.congr (fun d hd => by rw [out _ (by omega)])
  · intro d hd
    unfold o_sway
    rw [out _ (by omega)]; exact g4 d hd
  · have w10 := w.1.2.2.2.2.2.2.2.2.2.1 k hk
    rw [out _ (by omega), out (115 + 10 * k) (by omega), e2 k hk]
    refine ⟨(g5.2 k hk).1, (g5.2 k hk).2.1, fun j hj => ?_⟩
    rw [out _ (by omega), e4 k j hk (by omega)]; exact (g5.2 k hk).2.2 j hj
  · rw [out _ (by omega)]; exact g6.2 k hk
  · rw [out _ (by omega)]; exact g7 k hk
  · rw [out _ (by omega), out (155 + 5 * p) (by omega), out (156 + 5 * p) (by omega), out (157 + 5 * p) (by omega), out (158 + 5 * p) (by omega)]; exact g8.2 p hp
  · rw [out _ (by omega)]; exact g9 j hj
theorem i_CT.cend {j : Nat} {h2 : iH} (w : o_PW a) (hT : i_T2 t) (g : i_CT a t h) (h3 : a 3 < 4) (f : i_Fr [t + 3] [(t, 5)] h h2) (e : fI h2 t 5 = i_n (a 3 + 1)) (e1 : ∀ i, aI h2 (t + 3) i = if i = a 3 then i_n j else aI h (t + 3) i) (z2 : aI h (t + 2) (a 3) = i_n (a (114 + 10 * a 3))) (zw : ∀ i, i < j → aI h (t + 4) (a 3 * 8 + i) = i_n (a (116 + 10 * a 3 + i))) : i_CT (o_su (o_su a (115 + 10 * a 3) j) 3 (a 3 + 1)) t h2 := by
  have ht : t = 14 ∨ t = 29 := hT
  have c48 := w.c48
  have w4 := w.1.2.2.2.1
  have w5 := w.1.2.2.2.2.1
  generalize hb : o_su (o_su a (115 + 10 * a 3) j) 3 (a 3 + 1) = b
  have out : ∀ i, i ≠ 3 → i ≠ 115 + 10 * a 3 → b i = a i := fun i h1 h2 => by rw [← hb, o_su_f h1, o_su_f h2]
  have b3 : b 3 = a 3 + 1 := by rw [← hb, o_su_t]
  have bj : b (115 + 10 * a 3) = j := by rw [← hb, o_su_f (by omega), o_su_t]
  obtain ⟨g1, g2, g3, g4, g5, g6, g7, g8, g9⟩ := g
  unfold i_CT
  rw [f.vI (p := t) (c := 0) (by simp), f.vI (p := t) (c := 1) (by simp), e, f.vI (p := t) (c := 9) (by simp), f.vI (p := t + 7) (c := 0) (by simp), f.vJ (p := t) (c := 2) (by simp), f.vJ (p := t) (c := 3) (by simp), f.rI (p := t + 1) (by simp), f.rI (p := t + 2) (by simp), f.rI (p := t + 4) (by simp), f.rI (p := t + 5) (by simp), f.rI (p := t + 6) (by simp), f.rI (p := t + 9) (by simp), f.rI (p := t + 10) (by simp), f.rI (p := t + 11) (by simp), f.rI (p := t + 12) (by simp), f.rI (p := t + 13) (by simp), f.rI (p := t + 14) (by simp)]
  rw [out 0 (by omega) (by omega), out 1 (by omega) (by omega), b3, out 4 (by omega) (by omega), out 5 (by omega) (by omega)]
  refine ⟨g1, ?_, ?_, ?_, ⟨rfl, fun k hk => ?_⟩, ⟨g6.1, fun k hk => ?_⟩, fun k hk => ?_, ⟨g8.1, fun p hp => ?_⟩, fun j hj => ?_⟩
  · exact g2.congr (fun d hd => by unfold o_wall; rw [out _ (by omega) (by omega)])
  · exact g3.congr (fun d hd => by rw [out _ (by omega) (by omega)])
  · intro d hd
    unfold o_sway
    rw [out _ (by omega) (by omega)]; exact g4 d hd
  · by_cases q : k = a 3
    · subst q
      rw [e1, if_pos rfl, bj, out _ (by omega) (by omega)]
      refine ⟨z2, rfl, fun i hi => ?_⟩
      by_cases q2 : i < 9
      · by_cases q3 : 116 + 10 * a 3 + i = 115 + 10 * a 3
        · omega
        · rw [out _ (by omega) q3]; exact zw i hi
      · rw [out _ (by omega) (by omega)]; exact zw i hi
    · have w10 := w.1.2.2.2.2.2.2.2.2.2.1 k (by omega)
      have g5k := g5.2 k (by omega)
      rw [out _ (by omega) (by omega), out (115 + 10 * k) (by omega) (by omega), e1, if_neg q]
      refine ⟨g5k.1, g5k.2.1, fun j hj => ?_⟩
      rw [out _ (by omega) (by omega)]; exact g5k.2.2 j hj
  · rw [out _ (by omega) (by omega)]; exact g6.2 k hk
  · rw [out _ (by omega) (by omega)]; exact g7 k hk
  · rw [out _ (by omega) (by omega), out (155 + 5 * p) (by omega) (by omega), out (156 + 5 * p) (by omega) (by omega), out (157 + 5 * p) (by omega) (by omega), out (158 + 5 * p) (by omega) (by omega)]; exact g8.2 p hp
  · rw [out _ (by omega) (by omega)]; exact g9 j hj
theorem p_ways_n {k : Nat} (e : ¬ o_wy T n k < 8) : ∀ f j, p_ways T n f j k a = .inr (k, o_su (o_su a (115 + 10 * a 3) j) 3 (a 3 + 1))
  | 0, j => by rw [p_ways, if_neg e]
  | f + 1, j => by rw [p_ways, if_neg e]
theorem p_ways_0 {k : Nat} (e : o_wy T n k < 8) {j : Nat} : p_ways T n 0 j k a = .inl (6, o_tks T n k) := by rw [p_ways, if_pos e]
theorem p_ways_s {k : Nat} (e : o_wy T n k < 8) {f j : Nat} : p_ways T n (f + 1) j k a = p_ways T n f (j + 1) (o_tke T n k) (o_su a (116 + 10 * a 3 + j) (o_wy T n k)) := by rw [p_ways, if_pos e]
theorem p_stop_i {k : Nat} : p_stop T n (.inr (k, a)) = if o_tkk T n k = 3 then .inr (o_tke T n k, a) else o_no T n k := rfl
set_option maxHeartbeats 2000000 in
theorem c110w (hT : i_T2 t) : ∀ f j kw (b : Nat → Nat), f + j = 8 → o_wy T n kw < 8 → kw ≤ n → ∀ h1, i_PC b t n (o_tke T n kw) T h1 → i_TK h1 T n kw → i_Fr (tA t) (pcF t) h h1 → o_PW b → b 3 < 4 → aI h1 (t + 2) (b 3) = i_n (b (114 + 10 * b 3)) → (∀ i, i < j → aI h1 (t + 4) (b 3 * 8 + i) = i_n (b (116 + 10 * b 3 + i))) → i_CR t n T h Q (p_stop T n (p_ways T n f j kw b)) → i_P i_MT i_AT L xs 110 71 [some (.ref 44), some (.int (i_n (b 3))), some (.int (i_n j))] [] h1 0 0 Q := by
  have ht : t = 14 ∨ t = 29 := hT
  intro f
  induction f with
  | zero =>
    intro j kw b hf hw hk h1 g1 z1 f1 w h3 y2 yw K
    rw [p_ways_0 hw] at K
    refine d110_71 g1.1 ?_
    try simp (disch := omega) only [n_lit, n_m, n_add, n_mul, n_div, n_mod, n_cl, n_lt, n_le, n_eq, n_in, n_eqm, n_meq, n_mlt, n_ltm, n_mle, n_lem, not_true_eq_false, not_false_eq_true, true_implies, false_implies, true_and, and_true, Nat.not_lt_zero, Nat.zero_le]
    exact ⟨fun _ => c86 g1.1 z1 (x := 6) (fun h2 L2 f2 b2 => ⟨_, rfl, d110_176 L2 ⟨rfl, K h2 L2 (f1.trans f2.tl.tb) b2⟩⟩), fun q => by omega⟩
  | succ f ih =>
    intro j kw b hf hw hk h1 g1 z1 f1 w h3 y2 yw K
    rw [p_ways_s hw] at K
    have l1 := o_tk_le (T := T) hk
    have l2 := o_tk_le (T := T) l1.2.2
    refine d110_71 g1.1 ?_
    try simp (disch := omega) only [n_lit, n_m, n_add, n_mul, n_div, n_mod, n_cl, n_lt, n_le, n_eq, n_in, n_eqm, n_meq, n_mlt, n_ltm, n_mle, n_lem, not_true_eq_false, not_false_eq_true, true_implies, false_implies, true_and, and_true, Nat.not_lt_zero, Nat.zero_le]
    refine ⟨fun q => by omega, fun _ => ⟨t, g1.tw, hT.T, by omega, ?_⟩⟩
    rw [z1.way hw]
    have w2 : o_PW (o_su b (116 + 10 * b 3 + j) (o_wy T n kw)) := w.cway h3 (Or.inr ⟨by omega, by omega⟩)
    generalize hb : o_su b (116 + 10 * b 3 + j) (o_wy T n kw) = b2 at *
    have out : ∀ i, i ≠ 116 + 10 * b 3 + j → b2 i = b i := fun i hi => by rw [← hb, o_su_f hi]
    have bj : b2 (116 + 10 * b 3 + j) = o_wy T n kw := by rw [← hb, o_su_t]
    have b3 : b2 3 = b 3 := out 3 (by omega)
    refine w_siI (R := fun z => i_P i_MT i_AT L xs 110 98 [some (.ref 44), some (.int (i_n (b 3))), some (.int (i_n j))] [] z 0 0 Q) g1.1 (g1.1.ta_4 hT.T) (fun h2 L2 F2 E2 => d110_98 L2 ?_)
    have hA : ∀ p, p ∈ [t + 4] → p ∈ tA t := fun q hq => by
      simp only [List.mem_cons, List.not_mem_nil, or_false] at hq
      subst hq
      simp [tA]
    have g2 : i_PC b2 t n (o_tke T n kw) T h2 := g1.wr hT L2 F2 hA (fun _ z => absurd z (by simp)) (i_CT.in3 w hT g1.2.2.2.2.1 (F2.mono (by simp) (fun _ z => z)) (fun k hk => by rw [F2.rI (by simp)]) (fun k i hk hi => by rw [E2, if_neg (by omega)]) h3 (fun i hi => out i (by omega))) ((g1.2.2.2.2.2.1.fr F2 (by simp)).ch (out 5 (by omega)) (fun p hp => out _ (by omega)) w.1.2.2.2.2.1) (out _ (by omega))
    have F12 := f1.trans (F2.tw (t := t) hA (fun _ z => absurd z (by simp)))
    refine m88 rfl g2 hT l1.2.2 (fun h3 g3 f3 z3 => ⟨rfl, d110_105 g3.1 ?_⟩)
    have F13 := F12.trans f3.tb
    have y2' : aI h3 (t + 2) (b2 3) = i_n (b2 (114 + 10 * b2 3)) := by
      rw [b3, out _ (by omega), f3.rI (by simp), F2.rI (by simp)]; exact y2
    have yw' : ∀ i, i < j + 1 → aI h3 (t + 4) (b2 3 * 8 + i) = i_n (b2 (116 + 10 * b2 3 + i)) := by
      intro i hi
      rw [b3, f3.rI (by simp), E2]
      by_cases q : i = j
      · subst q; rw [if_pos rfl, bj]
      · rw [if_neg (by omega), out _ (by omega)]; exact yw i (by omega)
    have k5 := o_tkk_le (T := T) (n := n) (k := o_tke T n kw)
    rw [z3.2.1]
    try simp (disch := omega) only [n_lit, n_m, n_add, n_mul, n_div, n_mod, n_cl, n_lt, n_le, n_eq, n_in, n_eqm, n_meq, n_mlt, n_ltm, n_mle, n_lem, not_true_eq_false, not_false_eq_true, true_implies, false_implies, true_and, and_true, Nat.not_lt_zero, Nat.zero_le]
    refine ⟨fun q => c89 g3.1 z3 ⟨_, rfl, d110_150 g3.1 ?_⟩, fun q => ⟨t, g3.tw, hT.T, by omega, ?_⟩⟩
    · rw [i_bo_0, Classical.not_not]
      try simp (disch := omega) only [n_lit, n_m, n_add, n_mul, n_div, n_mod, n_cl, n_lt, n_le, n_eq, n_in, n_eqm, n_meq, n_mlt, n_ltm, n_mle, n_lem, not_true_eq_false, not_false_eq_true, true_implies, false_implies, true_and, and_true, Nat.not_lt_zero, Nat.zero_le]
      refine ⟨fun q2 => ?_, fun q2 => c87 g3.1 z3 (fun h4 L4 f4 b4 => ⟨_, rfl, d110_160 L4 ⟨rfl, ?_⟩⟩)⟩
      · have := ih (j + 1) (o_tke T n kw) b2 (by omega) q2 l1.2.2 h3 g3 z3 F13 w2 (by omega) y2' yw' K
        rw [b3] at this
        exact this
      · rw [p_ways_n q2, p_stop_i, if_neg q] at K
        exact K h4 L4 (F13.trans f4.tl.tb) b4
    · have q := Classical.not_not.mp q
      have nw : ¬ o_wy T n (o_tke T n kw) < 8 := fun y => by
        have := o_wy_kind (T := T) (n := n) (k := o_tke T n kw) (by omega)
        omega
      rw [p_ways_n nw, p_stop_i, if_pos q] at K
      refine w_siI (R := fun z => i_P i_MT i_AT L xs 110 128 [some (.ref 44), some (.int (i_n (b 3))), some (.int (i_n j))] [] z 0 0 Q) g3.1 (g3.1.ta_3 hT.T) (fun h4 L4 F4 E4 => d110_128 L4 ?_)
      have tw4 : i_fld h4 44 9 1 = some (.ref t) := by
        have := L4.fw (q := 44) (ci := 9) (b := 1) rfl rfl rfl
        rw [F4.vR (by simp), g3.2.2.2.1] at this
        exact this
      refine ⟨t, tw4, hT.T, ?_⟩
      rw [F4.vI (by simp), g3.n3, b3, show i_n (b 3) + 1 = i_n (b 3 + 1) from n_add (b 3) 1]
      refine w_sfI (R := fun z => i_P i_MT i_AT L xs 110 141 [some (.ref 44), some (.int (i_n (b 3))), some (.int (i_n j))] [] z 0 0 Q) L4 (L4.t_5 hT.T) (fun h5 L5 F5 E5 => d110_141 L5 ?_)
      have F35 : i_Fr [t + 3] [(t, 5)] h3 h5 := (F4.mono (fun _ z => z) (fun _ z => absurd z (by simp))).trans (F5.mono (fun _ z => absurd z (by simp)) (fun _ z => z))
      have hA3 : ∀ p, p ∈ [t + 3] → p ∈ tA t := fun q hq => by
        simp only [List.mem_cons, List.not_mem_nil, or_false] at hq
        subst hq
        simp [tA]
      have hF3 : ∀ q, q ∈ [(t, 5)] → q ∈ tF t := fun q hq => by
        simp only [List.mem_cons, List.not_mem_nil, or_false] at hq
        subst hq
        simp [tF]
      have ct : i_CT (o_su (o_su b2 (115 + 10 * b2 3) (j + 1)) 3 (b2 3 + 1)) t h5 := i_CT.cend w2 hT g3.2.2.2.2.1 (by omega) F35 (by rw [E5, b3]) (fun i => by rw [F5.rI (by simp), E4, b3]) y2' yw'
      exact K h5 (F13.trans (F35.tw hA3 hF3)) (g3.wr hT L5 F35 hA3 hF3 ct ((g3.2.2.2.2.2.1.fr F35 (by simp)).ch (by rw [o_su_f (by omega), o_su_f (by omega)]) (fun p hp => by rw [o_su_f (by omega), o_su_f (by omega)]) w2.1.2.2.2.2.1) (by rw [o_su_f (by omega), o_su_f (by omega)]))
set_option maxHeartbeats 1000000 in
theorem c110 (g : i_PC a t n (o_ke T n 1 k0) T h) (z0 : i_TK h T n k0) (hT : i_T2 t) (w : o_PW a) (hk : k0 ≤ n) (K : i_CR t n T h Q (p_stop T n (p_cart T n k0 a))) : i_C i_MT i_AT L xs 110 [.ref 44] h Q := by
  have ht : t = 14 ∨ t = 29 := hT
  have c48 := w.c48
  have w1 := w.2.1
  have h4 := w.1.2.2.1
  have l1 := o_ke_le (T := T) hk 1
  have l3 := o_ke_le (T := T) hk 3
  have l4 := o_ke_le (T := T) hk 4
  unfold p_cart at K
  refine e110 (d110_0 g.1 ⟨t, g.tw, hT.T, ?_⟩)
  rw [g.n3]
  try simp (disch := omega) only [n_lit, n_m, n_add, n_mul, n_div, n_mod, n_cl, n_lt, n_le, n_eq, n_in, n_eqm, n_meq, n_mlt, n_ltm, n_mle, n_lem, not_true_eq_false, not_false_eq_true, true_implies, false_implies, true_and, and_true, Nat.not_lt_zero, Nat.zero_le]
  refine ⟨fun q => ?_, fun q => c86 g.1 z0 (x := 6) (fun h1 L1 f1 b1 => ⟨_, rfl, d110_22 L1 ⟨rfl, ?_⟩⟩)⟩
  rotate_left
  · rw [if_pos (by omega)] at K
    exact K h1 L1 f1.tl.tb b1
  rw [if_neg (by omega)] at K
  refine c106 (k2 := o_ke T n 2 k0) (k3 := o_ke T n 3 k0) (lx := 0) (ly := 0) rfl rfl g hT w l1.2 (by omega) (by omega) (fun e1 e2 h1 g1 f1 z1 x1 y1 => ⟨_, rfl, d110_29 g1.1 ⟨fun z => absurd z (by decide), fun _ => ?_⟩⟩) (fun e1 h1 L1 f1 b1 => ⟨_, rfl, d110_29 L1 ⟨fun _ => d110_54 L1 ?_, fun z => absurd rfl z⟩⟩) (fun e1 e2 h1 L1 f1 b1 => ⟨_, rfl, d110_29 L1 ⟨fun _ => d110_54 L1 ?_, fun z => absurd rfl z⟩⟩)
  rotate_left
  · rw [o_nu_f e1] at K
    exact K h1 L1 f1.ce b1
  · rw [o_nu_t e1, o_nu_f e2] at K
    exact K h1 L1 f1.ce b1
  rw [o_nu_t e1, o_nu_t e2] at K
  have f1 := f1.ce (t := t)
  refine m91 (k2 := o_ke T n 4 k0) (w := 14) rfl g1 hT l3.2 (by omega) (fun e3 h2 g2 f2 z2 => ⟨_, rfl, d110_41 g2.1 ⟨fun z => absurd z (by decide), fun _ => ?_⟩⟩) (fun e3 h2 L2 f2 b2 => ⟨_, rfl, d110_41 L2 ⟨fun _ => d110_54 L2 ?_, fun z => absurd rfl z⟩⟩)
  rotate_left
  · rw [o_wo_f e3] at K
    exact K h2 L2 (f1.trans f2.tb) b2
  rw [o_wo_t e3] at K
  have x2 : fI h2 44 2 = i_n (o_tkv T n (o_ke T n 1 k0)) := by rw [f2.vI (by decide)]; exact x1
  have y2 : fI h2 44 3 = i_n (o_tkv T n (o_ke T n 2 k0)) := by rw [f2.vI (by decide)]; exact y1
  have f2 := f1.trans f2.tb
  refine m92 (k2 := o_ke T n 5 k0) rfl g2 hT l4.2 (fun e4 h3 g3 f3 z3 => ⟨_, rfl, d110_51 g3.1 ⟨fun _ => ⟨t, g3.tw, hT.T, c107 (x := o_tkv T n (o_ke T n 1 k0)) (y := o_tkv T n (o_ke T n 2 k0)) g3 hT (by rw [f3.vI (by decide)]; exact x2) (by rw [f3.vI (by decide)]; exact y2) ⟨_, rfl, d110_68 g3.1 ?_⟩⟩, fun z => absurd (by decide) z⟩⟩) (fun e4 h3 L3 f3 b3 => ⟨_, rfl, d110_51 L3 ⟨fun z => absurd rfl z, fun _ => d110_54 L3 ?_⟩⟩)
  rotate_left
  · rw [if_neg e4] at K
    exact K h3 L3 (f2.trans f3.tb) b3
  rw [if_pos e4] at K
  have f3 := f2.trans f3.tb
  refine ⟨4, aI h3 (t + 2), g3.1.ta_2 hT.T, (n_in (by omega)).mpr (by omega), ?_⟩
  rw [n_cl (by omega)]
  have eC : a 0 * o_tkv T n (o_ke T n 2 k0) + o_tkv T n (o_ke T n 1 k0) = o_cel T n a (o_ke T n 1 k0) := rfl
  rw [eC]
  have w2 : o_PW (o_su a (114 + 10 * a 3) (o_cel T n a (o_ke T n 1 k0))) := w.cway (by omega) (Or.inl rfl)
  generalize hb : o_su a (114 + 10 * a 3) (o_cel T n a (o_ke T n 1 k0)) = b2 at *
  have out : ∀ i, i ≠ 114 + 10 * a 3 → b2 i = a i := fun i hi => by rw [← hb, o_su_f hi]
  have bj : b2 (114 + 10 * a 3) = o_cel T n a (o_ke T n 1 k0) := by rw [← hb, o_su_t]
  have b3 : b2 3 = a 3 := out 3 (by omega)
  generalize o_cel T n a (o_ke T n 1 k0) = c at *
  refine w_siI (R := fun z => ∀ (y2 : Option Value), i_P i_MT i_AT L xs 110 69 [some (.ref 44), some (.int (i_n (a 3))), y2] [] z 0 0 Q) g3.1 (g3.1.ta_2 hT.T) (fun h4 L4 F4 E4 => fun y2 => d110_69 L4 ?_) _
  have hA : ∀ p, p ∈ [t + 2] → p ∈ tA t := fun q hq => by
    simp only [List.mem_cons, List.not_mem_nil, or_false] at hq
    subst hq
    simp [tA]
  have g4 : i_PC b2 t n (o_ke T n 5 k0) T h4 := g3.wr hT L4 F4 hA (fun _ z => absurd z (by simp)) (i_CT.in3 w hT g3.2.2.2.2.1 (F4.mono (by simp) (fun _ z => z)) (fun k hk => by rw [E4, if_neg (by omega)]) (fun k i hk hi => by rw [F4.rI (by simp)]) (by omega) (fun i hi => out i (by omega))) ((g3.2.2.2.2.2.1.fr F4 (by simp)).ch (out 5 (by omega)) (fun p hp => out _ (by omega)) w.1.2.2.2.2.1) (out _ (by omega))
  have := c110w (L := L) (xs := xs) (f := 8) (j := 0) hT (o_ke T n 4 k0) b2 rfl e4 l4.2 h4 g4 (z3.wr hT F4 (fun _ z => absurd z (by simp))) (f3.trans (F4.tw hA (fun _ z => absurd z (by simp)))) w2 (by omega) (by rw [b3, bj, E4, if_pos rfl]) (fun i hi => absurd hi (by omega)) K
  rw [b3] at this
  exact this
end
