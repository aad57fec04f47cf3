/-! THE CLASS READS TREES, LAMPS -/
section
variable {L : Nat} {xs : Nat → Int32} {h : iH} {Q : Option Value → iH → Prop} {a : Nat → Nat} {t : Nat} {n k0 : Nat} {T : Nat → Nat}
set_option maxRecDepth 20000
/-- the numbers of a town that a Town holds, but for some -/
theorem i_CT.tree {c v : Nat} {h2 : iH} (w : o_PW a) (hT : i_T2 t) (hc : c < a 0 * a 1) (hv : v ≤ 16) (g : i_CT a t h) (f : i_Fr [t + 1] [(t, 3)] h h2) (e : fJ h2 t 3 = fJ h t 3 ||| ((1 : Int64) <<< ((i_n c).toInt64 &&& (63 : Int64)))) (e1 : ∀ i, aI h2 (t + 1) i = if i = c then i_n v else aI h (t + 1) i) : i_CT (o_su (o_su a (58 + c) v) 2 (a 2 + 1)) t h2 := by
  have ht : t = 14 ∨ t = 29 := hT
  have c48 := w.c48
  generalize hb : o_su (o_su a (58 + c) v) 2 (a 2 + 1) = b
  have out : ∀ i, i ≠ 2 → i ≠ 58 + c → b i = a i := fun i h1 h2 => by rw [← hb, o_su_f h1, o_su_f h2]
  have bc : b (58 + c) = v := by rw [← hb, o_su_f (by omega), o_su_t]
  have v7 : ∀ b, fI h2 (t + 7) b = fI h (t + 7) b := fun b => f.vI (by simp)
  obtain ⟨g1, g2, g3, g4, g5, g6, g7, g8, g9⟩ := g
  unfold i_CT
  rw [f.vI (p := t) (c := 0) (by simp), f.vI (p := t) (c := 1) (by simp), f.vI (p := t) (c := 5) (by simp), f.vI (p := t) (c := 9) (by simp), v7, e, f.vJ (p := t) (c := 2) (by simp), f.rI (p := t + 2) (by simp), f.rI (p := t + 3) (by simp), f.rI (p := t + 4) (by simp), f.rI (p := t + 5) (by simp), f.rI (p := t + 6) (by simp), f.rI (p := t + 9) (by simp), f.rI (p := t + 10) (by simp), f.rI (p := t + 11) (by simp), f.rI (p := t + 12) (by simp), f.rI (p := t + 13) (by simp), f.rI (p := t + 14) (by simp)]
  rw [out 0 (by omega) (by omega), out 1 (by omega) (by omega), out 3 (by omega) (by omega), out 4 (by omega) (by omega), out 5 (by omega) (by omega)]
  refine ⟨g1, ?_, ?_, ?_, ⟨g5.1, fun k hk => ?_⟩, ⟨g6.1, fun k hk => ?_⟩, fun k hk => ?_, ⟨g8.1, fun p hp => ?_⟩, fun j hj => ?_⟩
  · exact g2.congr (fun d hd => by unfold o_wall; rw [out _ (by omega) (by omega)])
  · intro d hd
    rw [j_or, j_one (by omega), g3 d hd]
    dsimp only
    by_cases q : d = c
    · subst q
      rw [bc]
      have : (v != 4294967295) = true := by rw [bne_iff_ne]; omega
      simp [this, show d < 48 by omega]
    · by_cases q2 : d < 48
      · rw [out _ (by omega) (by omega)]; simp [q]
      · simp [q, q2]
  · intro d hd
    rw [e1]
    unfold o_sway
    by_cases q : d = c
    · subst q; rw [if_pos rfl, bc, if_neg (by omega)]
    · rw [if_neg q, out _ (by omega) (by omega)]; exact g4 d hd
  · have := w.1.2.2.1
    rw [out _ (by omega) (by omega), out (115 + 10 * k) (by omega) (by omega)]
    refine ⟨(g5.2 k hk).1, (g5.2 k hk).2.1, fun j hj => ?_⟩
    rw [out _ (by omega) (by omega)]; exact (g5.2 k hk).2.2 j hj
  · rw [out _ (by omega) (by omega)]; exact g6.2 k hk
  · rw [out _ (by omega) (by omega)]; exact g7 k hk
  · rw [out _ (by omega) (by omega), out (155 + 5 * p) (by omega) (by omega), out (156 + 5 * p) (by omega) (by omega), out (157 + 5 * p) (by omega) (by omega), out (158 + 5 * p) (by omega) (by omega)]; exact g8.2 p hp
  · rw [out _ (by omega) (by omega)]; exact g9 j hj
set_option maxHeartbeats 1000000 in
theorem c109 (g : i_PC a t n (o_ke T n 1 k0) T h) (z0 : i_TK h T n k0) (hT : i_T2 t) (w : o_PW a) (hk : k0 ≤ n) (K : i_CR t n T h Q (p_stop T n (p_tree T n k0 a))) : i_C i_MT i_AT L xs 109 [.ref 44] h Q := by
  have ht : t = 14 ∨ t = 29 := hT
  have c48 := w.c48
  have w1 := w.2.1
  have h2 := w.1.2.1
  have l1 := o_ke_le (T := T) hk 1
  have l3 := o_ke_le (T := T) hk 3
  have l4 := o_ke_le (T := T) hk 4
  have l5 := o_ke_le (T := T) hk 5
  unfold p_tree at K
  have cnt : o_pj (fJ h t 3) = a 2 := by
    have hs := g.2.2.2.2.1.2.2.1
    rw [o_pj_cn, o_cn0_cut (m := 48) 64 (by omega) (fun c h1 h2 => by rw [hs c h2, decide_eq_false (by omega), Bool.false_and]), w.2.2.1]
    exact o_cn0_ext 48 (fun c hc => by rw [hs c (by omega), decide_eq_true hc, Bool.true_and])
  refine e109 (d109_0 g.1 ⟨t, g.tw, hT.T, c334s ⟨_, rfl, d109_10 g.1 ?_⟩⟩)
  rw [cnt]
  try simp (disch := omega) only [n_lit, n_m, n_add, n_mul, n_div, n_mod, n_cl, n_lt, n_le, n_eq, n_in, n_eqm, n_meq, n_mlt, n_ltm, n_mle, n_lem, not_true_eq_false, not_false_eq_true, true_implies, false_implies, true_and, and_true, Nat.not_lt_zero, Nat.zero_le]
  refine ⟨fun q => ?_, fun q => c86 g.1 z0 (x := 6) (fun h1 L1 f1 b1 => ⟨_, rfl, d109_24 L1 ⟨rfl, ?_⟩⟩)⟩
  rotate_left
  · rw [if_pos (by omega)] at K
    exact K h1 L1 f1.tl.tb b1
  rw [if_neg (by omega)] at K
  refine c106 (k2 := o_ke T n 2 k0) (k3 := o_ke T n 3 k0) (lx := 0) (ly := 0) rfl rfl g hT w l1.2 (by omega) (by omega) (fun e1 e2 h1 g1 f1 z1 x1 y1 => ⟨_, rfl, d109_31 g1.1 ⟨fun _ => ⟨t, g1.tw, hT.T, t, g1.tw, hT.T, c107 g1 hT x1 y1 ⟨_, rfl, d109_55 g1.1 ?_⟩⟩, fun z => absurd (by decide) z⟩⟩) (fun e1 h1 L1 f1 b1 => ⟨_, rfl, d109_31 L1 ⟨fun z => absurd rfl z, fun _ => ?_⟩⟩) (fun e1 e2 h1 L1 f1 b1 => ⟨_, rfl, d109_31 L1 ⟨fun z => absurd rfl z, fun _ => ?_⟩⟩)
  rotate_left
  · rw [o_nu_f e1] at K
    exact K h1 L1 f1.ce b1
  · rw [o_nu_t e1, o_nu_f e2] at K
    exact K h1 L1 f1.ce b1
  rw [o_nu_t e1, o_nu_t e2] at K
  have hc := o_cel_lt w e1 e2
  change i_C i_MT i_AT L xs 193 [_, .int (i_n (o_cel T n a (o_ke T n 1 k0)))] h1 _
  have f1 := f1.ce (t := t)
  generalize hC : o_cel T n a (o_ke T n 1 k0) = c at *
  have eC : a 0 * o_tkv T n (o_ke T n 2 k0) + o_tkv T n (o_ke T n 1 k0) = c := hC
  have b2 := g1.2.2.2.2.1.2.1 c (by omega)
  have b3 := g1.2.2.2.2.1.2.2.1 c (by omega)
  refine c193 (by omega) ⟨_, rfl, d109_58 g1.1 ?_⟩
  rw [j_or, b2, b3, i_bo_0, decide_eq_true hc, decide_eq_true (show c < 48 by omega), Bool.true_and, Bool.true_and]
  have cond : ((o_wall a c || a (58 + c) != 4294967295) = true) ↔ (a (10 + c) = 1 ∨ a (58 + c) ≠ 4294967295) := by
    unfold o_wall
    rw [Bool.or_eq_true, beq_iff_eq, bne_iff_ne]
  rw [cond]
  refine ⟨fun q2 => ?_, fun q2 => c86 g1.1 z1 (x := 5) (fun h3 L3 f3 b3 => ⟨_, rfl, d109_69 L3 ⟨rfl, ?_⟩⟩)⟩
  rotate_left
  · rw [if_pos (Classical.not_not.mp q2)] at K
    exact K h3 L3 (f1.trans f3.tl.tb) b3
  rw [if_neg q2] at K
  refine m91 (k2 := o_ke T n 4 k0) (w := 12) rfl g1 hT l3.2 (by omega) (fun e3 h2 g2 f2 z2 => ⟨_, rfl, d109_79 g2.1 ⟨fun z => absurd z (by decide), fun _ => ?_⟩⟩) (fun e3 h2 L2 f2 b2 => ⟨_, rfl, d109_79 L2 ⟨fun _ => d109_95 L2 ?_, fun z => absurd rfl z⟩⟩)
  rotate_left
  · rw [o_wo_f e3] at K
    exact K h2 L2 (f1.trans f2.tb) b2
  rw [o_wo_t e3] at K
  have x2 : fI h2 44 2 = i_n (o_tkv T n (o_ke T n 1 k0)) := by rw [f2.vI (by decide)]; exact x1
  have y2 : fI h2 44 3 = i_n (o_tkv T n (o_ke T n 2 k0)) := by rw [f2.vI (by decide)]; exact y1
  have f2 := f1.trans f2.tb
  refine m95 (k2 := o_ke T n 5 k0) (lo := 0) (hi := 16) rfl g2 hT l4.2 (by omega) (by omega) (fun e4 h3 g3 f3 z3 => ⟨_, rfl, d109_92 g3.1 ⟨fun _ => ⟨t, g3.tw, hT.T, c107 (x := o_tkv T n (o_ke T n 1 k0)) (y := o_tkv T n (o_ke T n 2 k0)) g3 hT (by rw [f3.vI (by decide)]; exact x2) (by rw [f3.vI (by decide)]; exact y2) ⟨_, rfl, ?_⟩⟩, fun z => absurd (by decide) z⟩⟩) (fun e4 h3 L3 f3 b3 => ⟨_, rfl, d109_92 L3 ⟨fun z => absurd rfl z, fun _ => d109_95 L3 ?_⟩⟩)
  rotate_left
  · rw [o_nu_f e4] at K
    exact K h3 L3 (f2.trans f3.tb) b3
  rw [o_nu_t e4] at K
  have x3 : fI h3 44 2 = i_n (o_tkv T n (o_ke T n 1 k0)) := by rw [f3.vI (by decide)]; exact x2
  have y3 : fI h3 44 3 = i_n (o_tkv T n (o_ke T n 2 k0)) := by rw [f3.vI (by decide)]; exact y2
  have f3 := f2.trans f3.tb
  rw [eC]
  refine d109_110 g3.1 hT.T ?_
  refine w_sfJ (R := fun z => i_P i_MT i_AT L xs 109 115 [some (.ref 44)] [] z 0 0 Q) g3.1 (g3.1.t_3 hT.T) (fun h4 L4 F4 E4 => d109_115 L4 ?_)
  have F4t : i_Fr (tA t) (pcF t) h3 h4 := F4.tw (fun _ z => absurd z (by simp)) (fun q hq => by
    simp only [List.mem_cons, List.not_mem_nil, or_false] at hq
    subst hq
    simp [tF])
  have tw4 : i_fld h4 44 9 1 = some (.ref t) := by
    have := L4.fw (q := 44) (ci := 9) (b := 1) rfl rfl rfl
    rw [F4.vR (by simp), g3.2.2.2.1] at this
    exact this
  refine ⟨t, tw4, hT.T, ?_⟩
  -- the cell is told once more, the town half laid
  have cell : ∀ {R : Option Value → iH → Prop}, R (some (.int (i_n c))) h4 → i_C i_MT i_AT L xs 107 [.ref 44] h4 R := fun H => by
    refine e107 (d107_0 L4 ⟨t, tw4, hT.T, ?_⟩)
    rw [F4.vI (p := 44) (c := 3) (by simp; omega), F4.vI (p := 44) (c := 2) (by simp), F4.vI (p := t) (c := 0) (by simp), x3, y3, g3.2.2.2.2.1.1.1]
    try simp (disch := omega) only [n_lit, n_m, n_add, n_mul, n_div, n_mod, n_cl, n_lt, n_le, n_eq, n_in, n_eqm, n_meq, n_mlt, n_ltm, n_mle, n_lem, not_true_eq_false, not_false_eq_true, true_implies, false_implies, true_and, and_true, Nat.not_lt_zero, Nat.zero_le]
    rw [Nat.mul_comm, eC]
    exact H
  refine cell ⟨_, rfl, d109_126 L4 ⟨48, aI h4 (t + 1), L4.ta_1 hT.T, (n_in (by omega)).mpr (by omega), ?_⟩⟩
  have v4 : fI h4 10 8 = i_n (o_tkv T n (o_ke T n 4 k0)) := by
    rw [F4.vI (by simp)]; exact z3.2.2.2.1
  rw [v4, n_cl (by omega)]
  have Fi : i_Fr [t + 1] [] h4 (i_siI h4 (t + 1) c (i_n (o_tkv T n (o_ke T n 4 k0)))) := i_Fr.refl.siI (by simp)
  have ea : ∀ i, aI (i_siI h4 (t + 1) c (i_n (o_tkv T n (o_ke T n 4 k0)))) (t + 1) i = if i = c then i_n (o_tkv T n (o_ke T n 4 k0)) else aI h4 (t + 1) i := fun i => by rw [x_aI_siI (L4.ta_1 hT.T), x_upd]
  have L5 : i_Lay (i_siI h4 (t + 1) c (i_n (o_tkv T n (o_ke T n 4 k0)))) := L4.siI
  generalize i_siI h4 (t + 1) c (i_n (o_tkv T n (o_ke T n 4 k0))) = h5 at Fi ea L5 ⊢
  have F5 : i_Fr [t + 1] [(t, 3)] h3 h5 := (F4.mono (fun _ z => absurd z (by simp)) (fun _ z => z)).trans (Fi.mono (fun _ z => z) (fun _ z => absurd z (by simp)))
  have hA : ∀ p, p ∈ [t + 1] → p ∈ tA t := fun q hq => by
    simp only [List.mem_cons, List.not_mem_nil, or_false] at hq
    subst hq
    simp [tA]
  have hF : ∀ q, q ∈ [(t, 3)] → q ∈ tF t := fun q hq => by
    simp only [List.mem_cons, List.not_mem_nil, or_false] at hq
    subst hq
    simp [tF]
  have ct : i_CT (o_su (o_su a (58 + c) (o_tkv T n (o_ke T n 4 k0))) 2 (a 2 + 1)) t h5 := i_CT.tree w hT hc (o_nf_0 e4).2.2 g3.2.2.2.2.1 F5 (by rw [Fi.vJ (by simp), E4]) (fun i => by rw [ea, F4.rI (by simp)])
  have g5 : i_PC (o_su (o_su a (58 + c) (o_tkv T n (o_ke T n 4 k0))) 2 (a 2 + 1)) t n (o_ke T n 5 k0) T h5 := g3.wr hT L5 F5 hA hF ct ((g3.2.2.2.2.2.1.fr F5 (by simp)).ch (by rw [o_su_f (by omega), o_su_f (by omega)]) (fun p hp => by rw [o_su_f (by omega), o_su_f (by omega)]) w.1.2.2.2.2.1) (by rw [o_su_f (by omega), o_su_f (by omega)])
  exact d109_134 L5 (m94 g5 hT l5.2 (f3.trans (F5.tw hA hF)) K (fun r h6 L6 hr q => ⟨_, rfl, d109_141 L6 ⟨hr, q⟩⟩))
theorem i_CT.lamp {c : Nat} {h2 : iH} (w : o_PW a) (hT : i_T2 t) (h4 : a 4 ≠ 8) (g : i_CT a t h) (f : i_Fr [t + 5] [(t, 9)] h h2) (e : fI h2 t 9 = i_n (a 4 + 1)) (e1 : ∀ i, aI h2 (t + 5) i = if i = a 4 then i_n c else aI h (t + 5) i) : i_CT (o_su (o_su a (106 + a 4) c) 4 (a 4 + 1)) t h2 := by
  have ht : t = 14 ∨ t = 29 := hT
  have c48 := w.c48
  have w3 := w.1.2.2.1
  have w4 := w.1.2.2.2.1
  generalize hb : o_su (o_su a (106 + a 4) c) 4 (a 4 + 1) = b
  have out : ∀ i, i ≠ 4 → i ≠ 106 + a 4 → b i = a i := fun i h1 h2 => by rw [← hb, o_su_f h1, o_su_f h2]
  have b4 : b 4 = a 4 + 1 := by rw [← hb, o_su_t]
  have bc : b (106 + a 4) = c := by rw [← hb, o_su_f (by omega), o_su_t]
  have v7 : ∀ b, fI h2 (t + 7) b = fI h (t + 7) b := fun b => f.vI (by simp)
  obtain ⟨g1, g2, g3, g4, g5, g6, g7, g8, g9⟩ := g
  unfold i_CT
  rw [f.vI (p := t) (c := 0) (by simp), f.vI (p := t) (c := 1) (by simp), f.vI (p := t) (c := 5) (by simp), v7, e, f.vJ (p := t) (c := 2) (by simp), f.vJ (p := t) (c := 3) (by simp), f.rI (p := t + 1) (by simp), f.rI (p := t + 2) (by simp), f.rI (p := t + 3) (by simp), f.rI (p := t + 4) (by simp), f.rI (p := t + 6) (by simp), f.rI (p := t + 9) (by simp), f.rI (p := t + 10) (by simp), f.rI (p := t + 11) (by simp), f.rI (p := t + 12) (by simp), f.rI (p := t + 13) (by simp), f.rI (p := t + 14) (by simp)]
  rw [out 0 (by omega) (by omega), out 1 (by omega) (by omega), out 3 (by omega) (by omega), b4, out 5 (by omega) (by omega)]
  refine ⟨g1, ?_, ?_, ?_, ⟨g5.1, fun k hk => ?_⟩, ⟨rfl, fun k hk => ?_⟩, fun k hk => ?_, ⟨g8.1, fun p hp => ?_⟩, fun j hj => ?_⟩
  · exact g2.congr (fun d hd => by unfold o_wall; rw [out _ (by omega) (by omega)])
  · exact g3.congr (fun d hd => by rw [out _ (by omega) (by omega)])
  · intro d hd
    unfold o_sway
    rw [out _ (by omega) (by omega)]; exact g4 d hd
  · have w10 := w.1.2.2.2.2.2.2.2.2.2.1 k hk
    rw [out _ (by omega) (by omega), out (115 + 10 * k) (by omega) (by omega)]
    refine ⟨(g5.2 k hk).1, (g5.2 k hk).2.1, fun j hj => ?_⟩
    rw [out _ (by omega) (by omega)]; exact (g5.2 k hk).2.2 j hj
  · rw [e1]
    by_cases q : k = a 4
    · subst q; rw [if_pos rfl, bc]
    · rw [if_neg q, out _ (by omega) (by omega)]; exact g6.2 k (by omega)
  · rw [out _ (by omega) (by omega)]; exact g7 k hk
  · rw [out _ (by omega) (by omega), out (155 + 5 * p) (by omega) (by omega), out (156 + 5 * p) (by omega) (by omega), out (157 + 5 * p) (by omega) (by omega), out (158 + 5 * p) (by omega) (by omega)]; exact g8.2 p hp
  · rw [out _ (by omega) (by omega)]; exact g9 j hj
theorem any_one {c : Nat} {P : Nat → Nat} {m : Nat} (hc : c < 64) : (List.range m).any (fun k => i_b ((1 : Int64) <<< ((i_n c).toInt64 &&& (63 : Int64))) (P k)) = (List.range m).any (fun k => P k == c) := by
  congr 1
  funext k
  rw [j_one hc]
  rfl
set_option maxHeartbeats 1000000 in
theorem c111 (g : i_PC a t n (o_ke T n 1 k0) T h) (z0 : i_TK h T n k0) (hT : i_T2 t) (w : o_PW a) (hk : k0 ≤ n) (K : i_CR t n T h Q (p_stop T n (p_lamp T n k0 a))) : i_C i_MT i_AT L xs 111 [.ref 44] h Q := by
  have ht : t = 14 ∨ t = 29 := hT
  have c48 := w.c48
  have w1 := w.2.1
  have h4 := w.1.2.2.2.1
  have l1 := o_ke_le (T := T) hk 1
  have l3 := o_ke_le (T := T) hk 3
  unfold p_lamp at K
  refine e111 (d111_0 g.1 ⟨t, g.tw, hT.T, ?_⟩)
  rw [g.n4]
  try simp (disch := omega) only [n_lit, n_m, n_add, n_mul, n_div, n_mod, n_cl, n_lt, n_le, n_eq, n_in, n_eqm, n_meq, n_mlt, n_ltm, n_mle, n_lem, not_true_eq_false, not_false_eq_true, true_implies, false_implies, true_and, and_true, Nat.not_lt_zero, Nat.zero_le]
  refine ⟨fun q => ?_, fun q => c86 g.1 z0 (x := 6) (fun h1 L1 f1 b1 => ⟨_, rfl, d111_21 L1 ⟨rfl, ?_⟩⟩)⟩
  rotate_left
  · rw [if_pos (by omega)] at K
    exact K h1 L1 f1.tl.tb b1
  rw [if_neg (by omega)] at K
  refine c106 (k2 := o_ke T n 2 k0) (k3 := o_ke T n 3 k0) (lx := 0) (ly := 0) rfl rfl g hT w l1.2 (by omega) (by omega) (fun e1 e2 h1 g1 f1 z1 x1 y1 => ⟨_, rfl, d111_28 g1.1 ⟨fun _ => ⟨t, g1.tw, hT.T, c107 g1 hT x1 y1 ⟨_, rfl, d111_44 g1.1 ?_⟩⟩, fun z => absurd (by decide) z⟩⟩) (fun e1 h1 L1 f1 b1 => ⟨_, rfl, d111_28 L1 ⟨fun z => absurd rfl z, fun _ => ?_⟩⟩) (fun e1 e2 h1 L1 f1 b1 => ⟨_, rfl, d111_28 L1 ⟨fun z => absurd rfl z, fun _ => ?_⟩⟩)
  rotate_left
  · rw [o_nu_f e1] at K
    exact K h1 L1 f1.ce b1
  · rw [o_nu_t e1, o_nu_f e2] at K
    exact K h1 L1 f1.ce b1
  rw [o_nu_t e1, o_nu_t e2] at K
  have hc := o_cel_lt w e1 e2
  have eC : a 0 * o_tkv T n (o_ke T n 2 k0) + o_tkv T n (o_ke T n 1 k0) = o_cel T n a (o_ke T n 1 k0) := rfl
  rw [eC]
  have f1 := f1.ce (t := t)
  generalize o_cel T n a (o_ke T n 1 k0) = c at *
  have b2 := g1.2.2.2.2.1.2.1 c (by omega)
  rw [decide_eq_true hc, Bool.true_and] at b2
  have wl : (o_wall a c = true) ↔ a (10 + c) = 1 := by unfold o_wall; exact beq_iff_eq
  have bad : (a (10 + c) = 1 ∨ (List.range (a 4)).any (fun k => a (106 + k) == c) = true) → i_P i_MT i_AT L xs 111 66 [some (.ref 44)] [] h1 0 0 Q := fun q => by
    rw [if_pos q] at K
    exact d111_66 g1.1 (c86 g1.1 z1 (x := 5) (fun h3 L3 f3 b3 => ⟨_, rfl, d111_74 L3 ⟨rfl, K h3 L3 (f1.trans f3.tl.tb) b3⟩⟩))
  refine c193 (by omega) ⟨_, rfl, d111_47 g1.1 ?_⟩
  rw [b2, i_bo_0, wl]
  refine ⟨fun q => bad (Or.inl (Classical.not_not.mp q)), fun q => ⟨t, g1.tw, hT.T, c107 g1 hT x1 y1 ⟨_, rfl, ?_⟩⟩⟩
  rw [eC]
  refine d111_59 g1.1 hT.T (c100 g1 hT w ⟨_, rfl, d111_63 g1.1 ?_⟩)
  rw [i_bo_0, any_one (by omega)]
  refine ⟨fun q2 => ⟨t, g1.tw, hT.T, t, g1.tw, hT.T, ?_⟩, fun q2 => bad (Or.inr (Classical.not_not.mp q2))⟩
  have nb : ¬ (a (10 + c) = 1 ∨ (List.range (a 4)).any (fun k => a (106 + k) == c) = true) := by
    rintro (z | z)
    · exact q (fun y => y z)
    · exact q2 z
  rw [if_neg nb] at K
  rw [g1.n4, show i_n (a 4) + 1 = i_n (a 4 + 1) from n_add (a 4) 1]
  refine w_sfI (R := fun z => i_P i_MT i_AT L xs 111 96 [some (.ref 44)] [.int (i_n (a 4)), .ref (t + 5)] z 0 0 Q) g1.1 (g1.1.t_9 hT.T) (fun h2 L2 F2 E2 => d111_96 L2 ?_)
  have tw2 : i_fld h2 44 9 1 = some (.ref t) := by
    have := L2.fw (q := 44) (ci := 9) (b := 1) rfl rfl rfl
    rw [F2.vR (by simp), g1.2.2.2.1] at this
    exact this
  have cell : ∀ {R : Option Value → iH → Prop}, R (some (.int (i_n c))) h2 → i_C i_MT i_AT L xs 107 [.ref 44] h2 R := fun H => by
    refine e107 (d107_0 L2 ⟨t, tw2, hT.T, ?_⟩)
    rw [F2.vI (p := 44) (c := 3) (by simp), F2.vI (p := 44) (c := 2) (by simp), F2.vI (p := t) (c := 0) (by simp), x1, y1, g1.2.2.2.2.1.1.1]
    try simp (disch := omega) only [n_lit, n_m, n_add, n_mul, n_div, n_mod, n_cl, n_lt, n_le, n_eq, n_in, n_eqm, n_meq, n_mlt, n_ltm, n_mle, n_lem, not_true_eq_false, not_false_eq_true, true_implies, false_implies, true_and, and_true, Nat.not_lt_zero, Nat.zero_le]
    rw [Nat.mul_comm, eC]
    exact H
  refine cell ⟨_, rfl, d111_100 L2 ⟨8, aI h2 (t + 5), L2.ta_5 hT.T, (n_in (by omega)).mpr (by omega), ?_⟩⟩
  rw [n_cl (by omega)]
  have Fi : i_Fr [t + 5] [] h2 (i_siI h2 (t + 5) (a 4) (i_n c)) := i_Fr.refl.siI (by simp)
  have ea : ∀ i, aI (i_siI h2 (t + 5) (a 4) (i_n c)) (t + 5) i = if i = a 4 then i_n c else aI h2 (t + 5) i := fun i => by rw [x_aI_siI (L2.ta_5 hT.T), x_upd]
  have L3 : i_Lay (i_siI h2 (t + 5) (a 4) (i_n c)) := L2.siI
  generalize i_siI h2 (t + 5) (a 4) (i_n c) = h3 at Fi ea L3 ⊢
  have F3 : i_Fr [t + 5] [(t, 9)] h1 h3 := (F2.mono (fun _ z => absurd z (by simp)) (fun _ z => z)).trans (Fi.mono (fun _ z => z) (fun _ z => absurd z (by simp)))
  have hA : ∀ p, p ∈ [t + 5] → p ∈ tA t := fun q hq => by
    simp only [List.mem_cons, List.not_mem_nil, or_false] at hq
    subst hq
    simp [tA]
  have hF : ∀ q, q ∈ [(t, 9)] → q ∈ tF t := fun q hq => by
    simp only [List.mem_cons, List.not_mem_nil, or_false] at hq
    subst hq
    simp [tF]
  have ct : i_CT (o_su (o_su a (106 + a 4) c) 4 (a 4 + 1)) t h3 := i_CT.lamp w hT (by omega) g1.2.2.2.2.1 F3 (by rw [Fi.vI (by simp), E2]) (fun i => by rw [ea, F2.rI (by simp)])
  have g3 : i_PC (o_su (o_su a (106 + a 4) c) 4 (a 4 + 1)) t n (o_ke T n 3 k0) T h3 := g1.wr hT L3 F3 hA hF ct ((g1.2.2.2.2.2.1.fr F3 (by simp)).ch (by rw [o_su_f (by omega), o_su_f (by omega)]) (fun p hp => by rw [o_su_f (by omega), o_su_f (by omega)]) w.1.2.2.2.2.1) (by rw [o_su_f (by omega), o_su_f (by omega)])
  exact d111_101 L3 (m94 g3 hT l3.2 (f1.trans (F3.tw hA hF)) K (fun r h6 L6 hr q => ⟨_, rfl, d111_108 L6 ⟨hr, q⟩⟩))
end
