/-! THE CLASS READS who hides, who shows, what is seen; a part; a whole text -/
section
variable {L : Nat} {xs : Nat → Int32} {h : iH} {Q : Option Value → iH → Prop} {a : Nat → Nat} {t : Nat} {n k0 : Nat} {T : Nat → Nat}
set_option maxRecDepth 20000
theorem c114 {k k2 : Nat} (hk2 : k2 = o_tke T n k) (g : i_PC a t n k T h) (hT : i_T2 t) (w : o_PW a) (hk : k ≤ n)
    (H1 : o_nm T n k → ∀ p, o_fnd a (o_tkc T n k) = some p → ∀ h2, i_PC a t n k2 T h2 → i_Fr [] tbF h h2 → i_TK h2 T n k → Q (some (.int (i_n p))) h2)
    (H0 : ¬ o_nm T n k → ∀ h2, i_Lay h2 → i_Fr [] tbF h h2 → i_BL h2 (o_bad T n k) (o_tks T n k) → Q (some (.int i_m)) h2)
    (H2 : o_nm T n k → o_fnd a (o_tkc T n k) = none → ∀ h2, i_Lay h2 → i_Fr [] tbF h h2 → i_BL h2 3 (o_tks T n k) → Q (some (.int i_m)) h2) : i_C i_MT i_AT L xs 114 [.ref 44] h Q := by
  have h5 := w.1.2.2.2.2.1
  have cl := o_tkc_lt (T := T) (n := n) (k := k)
  refine e114 (d114_0 g.1 ?_)
  refine m93 hk2 g hT hk (fun e1 h1 g1 f1 z1 => ⟨_, rfl, d114_7 g1.1 ⟨fun _ => ⟨t, g1.tw, hT.T, ?_⟩, fun z => absurd (by decide) z⟩⟩) (fun e1 h1 L1 f1 b1 => ⟨_, rfl, d114_7 L1 ⟨fun z => absurd rfl z, fun _ => H0 e1 h1 L1 f1 b1⟩⟩)
  rw [z1.2.2.2.2.1]
  refine m34 g1 hT w cl ⟨_, rfl, d114_29 g1.1 ?_⟩
  cases ef : o_fnd a (o_tkc T n k) with
  | some p =>
    have hp := o_fd_lt ef
    refine ⟨fun _ => d114_44 g1.1 (H1 e1 p ef h1 g1 f1 z1), fun y => ?_⟩
    have y : i_n p = i_m := Classical.not_not.mp y
    rw [n_eqm (by omega)] at y
    exact y.elim
  | none => exact ⟨fun y => absurd rfl y, fun _ => c86 g1.1 z1 (x := 3) (fun h2 L2 f2 b2 => ⟨_, rfl, d114_43 L2 (d114_44 L2 (H2 e1 ef h2 L2 (f1.trans f2.tl) b2))⟩)⟩
theorem i_CT.pair {off p v : Nat} {h2 : iH} (ho : off = 157 ∨ off = 158) (hp : p < a 5) (w : o_PW a) (hT : i_T2 t) (g : i_CT a t h) (f : i_Fr [t + off - 145] [] h h2) (e1 : ∀ i, aI h2 (t + off - 145) i = if i = p then i_n v else aI h (t + off - 145) i) : i_CT (o_su a (off + 5 * p) v) t h2 := by
  have ht : t = 14 ∨ t = 29 := hT
  have c48 := w.c48
  have w3 := w.1.2.2.1
  have w4 := w.1.2.2.2.1
  have w5 := w.1.2.2.2.2.1
  generalize hb : o_su a (off + 5 * p) v = b
  have out : ∀ i, i ≠ off + 5 * p → b i = a i := fun i h1 => by rw [← hb, o_su_f h1]
  have bi : b (off + 5 * p) = v := by rw [← hb, o_su_t]
  obtain ⟨g1, g2, g3, g4, g5, g6, g7, g8, g9⟩ := g
  unfold i_CT
  rw [f.vI (p := t) (c := 0) (by simp), f.vI (p := t) (c := 1) (by simp), f.vI (p := t) (c := 5) (by simp), f.vI (p := t) (c := 9) (by simp), f.vI (p := t + 7) (c := 0) (by simp), f.vJ (p := t) (c := 2) (by simp), f.vJ (p := t) (c := 3) (by simp), f.rI (p := t + 1) (by simp; omega), f.rI (p := t + 2) (by simp; omega), f.rI (p := t + 3) (by simp; omega), f.rI (p := t + 4) (by simp; omega), f.rI (p := t + 5) (by simp; omega), f.rI (p := t + 6) (by simp; omega), f.rI (p := t + 9) (by simp; omega), f.rI (p := t + 10) (by simp; omega), f.rI (p := t + 11) (by simp; omega), f.rI (p := t + 14) (by simp; omega)]
  rw [out 0 (by omega), out 1 (by omega), out 3 (by omega), out 4 (by omega), out 5 (by omega)]
  refine ⟨g1, ?_, ?_, ?_, ⟨g5.1, fun k hk => ?_⟩, ⟨g6.1, fun k hk => ?_⟩, fun k hk => ?_, ⟨g8.1, fun q hq => ?_⟩, fun j hj => ?_⟩
  · exact g2.congr (fun d hd => by unfold o_wall; rw [out _ (by omega)])
  · exact g3.congr (fun d hd => by rw [out _ (by omega)])
  · intro d hd
    unfold o_sway
    rw [out _ (by omega)]; exact g4 d hd
  · have w10 := w.1.2.2.2.2.2.2.2.2.2.1 k hk
    rw [out _ (by omega), out (115 + 10 * k) (by omega)]
    refine ⟨(g5.2 k hk).1, (g5.2 k hk).2.1, fun j hj => ?_⟩
    rw [out _ (by omega)]; exact (g5.2 k hk).2.2 j hj
  · rw [out _ (by omega)]; exact g6.2 k hk
  · rw [out _ (by omega)]; exact g7 k hk
  · have g8q := g8.2 q hq
    rw [out (154 + 5 * q) (by omega), out (155 + 5 * q) (by omega), out (156 + 5 * q) (by omega)]
    refine ⟨g8q.1, g8q.2.1, g8q.2.2.1, ?_, ?_⟩
    · rcases ho with rfl | rfl
      · have e1 : ∀ i, aI h2 (t + 12) i = if i = p then i_n v else aI h (t + 12) i := e1
        rw [e1]
        by_cases y : q = p
        · subst y; rw [if_pos rfl, bi]
        · rw [if_neg y, out _ (by omega)]; exact g8q.2.2.2.1
      · have f : i_Fr [t + 13] [] h h2 := f
        rw [f.rI (by simp), out _ (by omega)]; exact g8q.2.2.2.1
    · rcases ho with rfl | rfl
      · have f : i_Fr [t + 12] [] h h2 := f
        rw [f.rI (by simp), out _ (by omega)]; exact g8q.2.2.2.2
      · have e1 : ∀ i, aI h2 (t + 13) i = if i = p then i_n v else aI h (t + 13) i := e1
        rw [e1]
        by_cases y : q = p
        · subst y; rw [if_pos rfl, bi]
        · rw [if_neg y, out _ (by omega)]; exact g8q.2.2.2.2
  · rw [out _ (by omega)]; exact g9 j hj
set_option maxHeartbeats 1000000 in
theorem c113 {off w0 : Nat} (ho : off = 157 ∨ off = 158) (hw0 : w0 < 33) (g : i_PC a t n (o_ke T n 1 k0) T h) (hT : i_T2 t) (w : o_PW a) (hk : k0 ≤ n) (K : i_CR t n T h Q (p_stop T n (p_pair T n w0 off k0 a))) : i_C i_MT i_AT L xs 113 [.ref 44, .int (i_n w0), .ref (t + off - 145)] h Q := by
  have ht : t = 14 ∨ t = 29 := hT
  have h5 := w.1.2.2.2.2.1
  have l1 := o_ke_le (T := T) hk 1
  have l2 := o_ke_le (T := T) hk 2
  have l3 := o_ke_le (T := T) hk 3
  have l4 := o_ke_le (T := T) hk 4
  unfold p_pair at K
  have p21 : ∀ {h1 : iH} {y : Int32} {x4 : Option Value}, i_Lay h1 → Q (some (.int 0)) h1 → i_P i_MT i_AT L xs 113 21 [some (.ref 44), some (.int (i_n w0)), some (.ref (t + off - 145)), some (.int y), x4] [] h1 0 0 Q := fun L1 q => d113_21 L1 q
  refine e113 (d113_0 g.1 (c114 (k2 := o_ke T n 2 k0) rfl g hT w l1.2 (fun e1 p ep h1 g1 f1 z1 => ⟨_, rfl, d113_4 g1.1 ⟨fun y => ?_, fun _ => ?_⟩⟩) (fun e1 h1 L1 f1 b1 => ⟨_, rfl, d113_4 L1 ⟨fun _ => p21 L1 ?_, fun y => absurd rfl y⟩⟩) (fun e1 ep h1 L1 f1 b1 => ⟨_, rfl, d113_4 L1 ⟨fun _ => p21 L1 ?_, fun y => absurd rfl y⟩⟩)))
  · have hp := o_fd_lt ep
    have y : i_n p = i_m := y
    rw [n_eqm (by omega)] at y
    exact y.elim
  rotate_left
  · rw [if_neg e1] at K
    exact K h1 L1 f1.tb b1
  · rw [if_pos e1, ep] at K
    exact K h1 L1 f1.tb b1
  have hp := o_fd_lt ep
  rw [if_pos e1, ep] at K
  have f1 := f1.tb (t := t)
  refine m91 (k2 := o_ke T n 3 k0) (w := w0) rfl g1 hT l2.2 hw0 (fun e2 h2 g2 f2 z2 => ⟨_, rfl, d113_18 g2.1 ⟨fun _ => ?_, fun z => absurd (by decide) z⟩⟩) (fun e2 h2 L2 f2 b2 => ⟨_, rfl, d113_18 L2 ⟨fun z => absurd rfl z, fun _ => p21 L2 ?_⟩⟩)
  rotate_left
  · have K : i_CR t n T h Q (p_stop T n (o_wo T n (o_ke T n 2 k0) w0 _)) := K
    rw [o_wo_f e2] at K
    exact K h2 L2 (f1.trans f2.tb) b2
  have K : i_CR t n T h Q (p_stop T n (o_wo T n (o_ke T n 2 k0) w0 _)) := K
  rw [o_wo_t e2] at K
  have f2 := f1.trans f2.tb
  refine c114 (k2 := o_ke T n 4 k0) rfl g2 hT w l3.2 (fun e3 q eq h3 g3 f3 z3 => ⟨_, rfl, d113_27 g3.1 ⟨fun _ => ?_, fun y => ?_⟩⟩) (fun e3 h3 L3 f3 b3 => ⟨_, rfl, d113_27 L3 ⟨fun y => absurd rfl y, fun _ => ?_⟩⟩) (fun e3 eq h3 L3 f3 b3 => ⟨_, rfl, d113_27 L3 ⟨fun y => absurd rfl y, fun _ => ?_⟩⟩)
  rotate_left
  · have hq := o_fd_lt eq
    have y : i_n q = i_m := Classical.not_not.mp y
    rw [n_eqm (by omega)] at y
    exact y.elim
  · rw [if_neg e3] at K
    exact K h3 L3 (f2.trans f3.tb) b3
  · rw [if_pos e3, eq] at K
    exact K h3 L3 (f2.trans f3.tb) b3
  have hq := o_fd_lt eq
  rw [if_pos e3, eq] at K
  have K : i_CR t n T h Q (p_stop T n (if q = p then .inl (5, o_tks T n (o_ke T n 3 k0)) else .inr (o_ke T n 4 k0, o_su a (off + 5 * p) (a (off + 5 * p) ||| (1 <<< q))))) := K
  have f3 := f2.trans (f3.tb (t := t))
  try simp (disch := omega) only [n_lit, n_m, n_add, n_mul, n_div, n_mod, n_cl, n_lt, n_le, n_eq, n_in, n_eqm, n_meq, n_mlt, n_ltm, n_mle, n_lem, not_true_eq_false, not_false_eq_true, true_implies, false_implies, true_and, and_true, Nat.not_lt_zero, Nat.zero_le]
  refine ⟨fun y => ?_, fun y => c86 g3.1 z3 (x := 5) (fun h4 L4 f4 b4 => ⟨_, rfl, d113_51 L4 ⟨rfl, ?_⟩⟩)⟩
  rotate_left
  · rw [if_pos (Classical.not_not.mp y)] at K
    exact K h4 L4 (f3.trans f4.tl.tb) b4
  rw [if_neg y] at K
  have ea : i_arI h3 0 (t + off - 145) = some (8, aI h3 (t + off - 145)) := by
    rcases ho with rfl | rfl
    · exact g3.1.ta_12 hT.T
    · exact g3.1.ta_13 hT.T
  have w11 := w.1.2.2.2.2.2.2.2.2.2.2.1 p hp
  have g8p := g3.2.2.2.2.1.2.2.2.2.2.2.2.1.2 p hp
  have eo : aI h3 (t + off - 145) p = i_n (a (off + 5 * p)) := by
    rcases ho with rfl | rfl
    · exact g8p.2.2.2.1
    · exact g8p.2.2.2.2
  refine ⟨8, aI h3 (t + off - 145), ea, by omega, 8, aI h3 (t + off - 145), ea, by omega, ?_⟩
  rw [eo, n_shl 1 (by omega), n_or]
  refine w_siI (R := fun z => i_P i_MT i_AT L xs 113 62 [some (.ref 44), some (.int (i_n w0)), some (.ref (t + off - 145)), some (.int (i_n p)), some (.int (i_n q))] [] z 0 0 Q) g3.1 ea (fun h4 L4 F4 E4 => d113_62 L4 ?_)
  have hA : ∀ p, p ∈ [t + off - 145] → p ∈ tA t := fun q hq => by
    simp only [List.mem_cons, List.not_mem_nil, or_false] at hq
    subst hq
    unfold tA
    simp only [List.mem_cons, List.not_mem_nil, or_false]
    omega
  have ct := i_CT.pair (v := a (off + 5 * p) ||| (1 <<< q)) ho hp w hT g3.2.2.2.2.1 F4 E4
  have g4 : i_PC (o_su a (off + 5 * p) (a (off + 5 * p) ||| (1 <<< q))) t n (o_ke T n 4 k0) T h4 := g3.wr hT L4 F4 hA (fun _ z => absurd z (by simp)) ct ((g3.2.2.2.2.2.1.fr F4 (by simp; omega)).ch (o_su_f (by omega)) (fun p hp => o_su_f (by omega)) h5) (o_su_f (by omega))
  exact m94 g4 hT l4.2 (f3.trans (F4.tw hA (fun _ z => absurd z (by simp)))) K (fun r h6 L6 hr q => ⟨_, rfl, d113_69 L6 ⟨hr, q⟩⟩)
theorem i_CT.how {i v : Nat} {h2 : iH} (hi : i < 4) (w : o_PW a) (hT : i_T2 t) (g : i_CT a t h) (f : i_Fr [t + 6] [] h h2) (e1 : ∀ j, aI h2 (t + 6) j = if j = i then i_n v else aI h (t + 6) j) : i_CT (o_su a (6 + i) v) t h2 := by
  have ht : t = 14 ∨ t = 29 := hT
  have c48 := w.c48
  generalize hb : o_su a (6 + i) v = b
  have out : ∀ j, j ≠ 6 + i → b j = a j := fun j h1 => by rw [← hb, o_su_f h1]
  have bi : b (6 + i) = v := by rw [← hb, o_su_t]
  obtain ⟨g1, g2, g3, g4, g5, g6, g7, g8, g9⟩ := g
  unfold i_CT
  rw [f.vI (p := t) (c := 0) (by simp), f.vI (p := t) (c := 1) (by simp), f.vI (p := t) (c := 5) (by simp), f.vI (p := t) (c := 9) (by simp), f.vI (p := t + 7) (c := 0) (by simp), f.vJ (p := t) (c := 2) (by simp), f.vJ (p := t) (c := 3) (by simp), f.rI (p := t + 1) (by simp), f.rI (p := t + 2) (by simp), f.rI (p := t + 3) (by simp), f.rI (p := t + 4) (by simp), f.rI (p := t + 5) (by simp), f.rI (p := t + 9) (by simp), f.rI (p := t + 10) (by simp), f.rI (p := t + 11) (by simp), f.rI (p := t + 12) (by simp), f.rI (p := t + 13) (by simp), f.rI (p := t + 14) (by simp)]
  rw [out 0 (by omega), out 1 (by omega), out 3 (by omega), out 4 (by omega), out 5 (by omega)]
  refine ⟨g1, ?_, ?_, ?_, ⟨g5.1, fun k hk => ?_⟩, ⟨g6.1, fun k hk => ?_⟩, fun k hk => ?_, ⟨g8.1, fun q hq => ?_⟩, fun j hj => ?_⟩
  · exact g2.congr (fun d hd => by unfold o_wall; rw [out _ (by omega)])
  · exact g3.congr (fun d hd => by rw [out _ (by omega)])
  · intro d hd
    unfold o_sway
    rw [out _ (by omega)]; exact g4 d hd
  · rw [out _ (by omega), out (115 + 10 * k) (by omega)]
    refine ⟨(g5.2 k hk).1, (g5.2 k hk).2.1, fun j hj => ?_⟩
    rw [out _ (by omega)]; exact (g5.2 k hk).2.2 j hj
  · rw [out _ (by omega)]; exact g6.2 k hk
  · rw [e1]
    by_cases q : k = i
    · subst q; rw [if_pos rfl, bi]
    · rw [if_neg q, out _ (by omega)]; exact g7 k hk
  · rw [out (154 + 5 * q) (by omega), out (155 + 5 * q) (by omega), out (156 + 5 * q) (by omega), out (157 + 5 * q) (by omega), out (158 + 5 * q) (by omega)]; exact g8.2 q hq
  · rw [out _ (by omega)]; exact g9 j hj
theorem i_CT.ext {b : Nat → Nat} (w : o_PW a) (g : i_CT a t h) (out : ∀ i, i < 680 → b i = a i) : i_CT b t h := by
  have w3 := w.1.2.2.1
  have w4 := w.1.2.2.2.1
  have w5 := w.1.2.2.2.2.1
  have c48 := w.c48
  obtain ⟨g1, g2, g3, g4, g5, g6, g7, g8, g9⟩ := g
  unfold i_CT
  rw [out 0 (by omega), out 1 (by omega), out 3 (by omega), out 4 (by omega), out 5 (by omega)]
  refine ⟨g1, ?_, ?_, ?_, ⟨g5.1, fun k hk => ?_⟩, ⟨g6.1, fun k hk => ?_⟩, fun k hk => ?_, ⟨g8.1, fun q hq => ?_⟩, fun j hj => ?_⟩
  · exact g2.congr (fun d hd => by unfold o_wall; rw [out _ (by omega)])
  · exact g3.congr (fun d hd => by rw [out _ (by omega)])
  · intro d hd
    unfold o_sway
    rw [out _ (by omega)]; exact g4 d hd
  · have w10 := w.1.2.2.2.2.2.2.2.2.2.1 k hk
    rw [out _ (by omega), out (115 + 10 * k) (by omega)]
    refine ⟨(g5.2 k hk).1, (g5.2 k hk).2.1, fun j hj => ?_⟩
    rw [out _ (by omega)]; exact (g5.2 k hk).2.2 j hj
  · rw [out _ (by omega)]; exact g6.2 k hk
  · rw [out _ (by omega)]; exact g7 k hk
  · rw [out (154 + 5 * q) (by omega), out (155 + 5 * q) (by omega), out (156 + 5 * q) (by omega), out (157 + 5 * q) (by omega), out (158 + 5 * q) (by omega)]; exact g8.2 q hq
  · rw [out _ (by omega)]; exact g9 j hj
theorem p_sn_0 {i k : Nat} : p_sn T n 0 i k a = .inr (k, a) := rfl
theorem p_sn_s {f i k : Nat} : p_sn T n (f + 1) i k a = o_wo T n k (24 + i) (o_nu T n (o_tke T n k) 0 16 (p_sn T n f (i + 1) (o_tke T n (o_tke T n k)) (o_su a (6 + i) (o_tkv T n (o_tke T n k))))) := rfl
set_option maxHeartbeats 1000000 in
theorem c115 (g : i_PC a t n (o_ke T n 1 k0) T h) (z0 : i_TK h T n k0) (hT : i_T2 t) (w : o_PW a) (hk : k0 ≤ n) (K : i_CR t n T h Q (p_stop T n (p_seen T n k0 a))) : i_C i_MT i_AT L xs 115 [.ref 44] h Q := by
  have ht : t = 14 ∨ t = 29 := hT
  have l1 := o_ke_le (T := T) hk 1
  have v7 := w.2.2.2.2.1
  have loop : ∀ f i k (b : Nat → Nat), f + i = 4 → k ≤ n → ∀ h1, i_PC b t n k T h1 → o_PW b → i_Fr (tA t) (pcF t) h h1 → i_CR t n T h Q (p_stop T n (p_sn T n f i k b)) → i_P i_MT i_AT L xs 115 23 [some (.ref 44), some (.int (i_n i))] [] h1 0 0 Q := by
    intro f
    induction f with
    | zero =>
      intro i k b hf hk h1 g1 w f1 K
      rw [p_sn_0] at K
      refine d115_23 g1.1 ?_
      try simp (disch := omega) only [n_lit, n_m, n_add, n_mul, n_div, n_mod, n_cl, n_lt, n_le, n_eq, n_in, n_eqm, n_meq, n_mlt, n_ltm, n_mle, n_lem, not_true_eq_false, not_false_eq_true, true_implies, false_implies, true_and, and_true, Nat.not_lt_zero, Nat.zero_le]
      exact ⟨fun _ => m94 g1 hT hk f1 K (fun r h6 L6 hr q => ⟨_, rfl, d115_86 L6 ⟨hr, q⟩⟩), fun q => by omega⟩
    | succ f ih =>
      intro i k b hf hk h1 g1 w f1 K
      rw [p_sn_s] at K
      have l1 := o_tk_le (T := T) hk
      have l2 := o_tk_le (T := T) l1.2.2
      refine d115_23 g1.1 ?_
      try simp (disch := omega) only [n_lit, n_m, n_add, n_mul, n_div, n_mod, n_cl, n_lt, n_le, n_eq, n_in, n_eqm, n_meq, n_mlt, n_ltm, n_mle, n_lem, not_true_eq_false, not_false_eq_true, true_implies, false_implies, true_and, and_true, Nat.not_lt_zero, Nat.zero_le]
      refine ⟨fun q => by omega, fun _ => m91 (w := 24 + i) rfl g1 hT hk (by omega) (fun e2 h2 g2 f2 z2 => ⟨_, rfl, d115_39 g2.1 ⟨fun z => absurd z (by decide), fun _ => ?_⟩⟩) (fun e2 h2 L2 f2 b2 => ⟨_, rfl, d115_39 L2 ⟨fun _ => d115_55 L2 ?_, fun z => absurd rfl z⟩⟩)⟩
      rotate_left
      · rw [o_wo_f e2] at K
        exact K h2 L2 (f1.trans f2.tb) b2
      rw [o_wo_t e2] at K
      have f2 := f1.trans f2.tb
      refine m95 (lo := 0) (hi := 16) rfl g2 hT l1.2.2 (by omega) (by omega) (fun e3 h3 g3 f3 z3 => ⟨_, rfl, d115_52 g3.1 ⟨fun _ => ⟨t, g3.tw, hT.T, by try simp (disch := omega) only [n_lit, n_m, n_add, n_mul, n_div, n_mod, n_cl, n_lt, n_le, n_eq, n_in, n_eqm, n_meq, n_mlt, n_ltm, n_mle, n_lem, not_true_eq_false, not_false_eq_true, true_implies, false_implies, true_and, and_true, Nat.not_lt_zero, Nat.zero_le]; omega, ?_⟩, fun z => absurd (by decide) z⟩⟩) (fun e3 h3 L3 f3 b3 => ⟨_, rfl, d115_52 L3 ⟨fun z => absurd rfl z, fun _ => d115_55 L3 ?_⟩⟩)
      rotate_left
      · rw [o_nu_f e3] at K
        exact K h3 L3 (f2.trans f3.tb) b3
      rw [o_nu_t e3] at K
      have f3 := f2.trans f3.tb
      rw [z3.2.2.2.1, n_cl (by omega)]
      refine w_siI (R := fun z => i_P i_MT i_AT L xs 115 73 [some (.ref 44), some (.int (i_n i))] [] z 0 0 Q) g3.1 (g3.1.ta_6 hT.T) (fun h4 L4 F4 E4 => d115_73 L4 ?_)
      try simp (disch := omega) only [n_lit, n_m, n_add, n_mul, n_div, n_mod, n_cl, n_lt, n_le, n_eq, n_in, n_eqm, n_meq, n_mlt, n_ltm, n_mle, n_lem, not_true_eq_false, not_false_eq_true, true_implies, false_implies, true_and, and_true, Nat.not_lt_zero, Nat.zero_le]
      have hA : ∀ p, p ∈ [t + 6] → p ∈ tA t := fun q hq => by
        simp only [List.mem_cons, List.not_mem_nil, or_false] at hq
        subst hq
        simp [tA]
      refine ih (i + 1) (o_tke T n (o_tke T n k)) _ (by omega) l2.2.2 h4 ?_ (w.how (by omega) (o_nf_0 e3).2.2) (f3.trans (F4.tw hA (fun _ z => absurd z (by simp)))) K
      exact g3.wr hT L4 F4 hA (fun _ z => absurd z (by simp)) (i_CT.how (by omega) w hT g3.2.2.2.2.1 F4 E4) ((g3.2.2.2.2.2.1.fr F4 (by simp)).ch (o_su_f (by omega)) (fun p hp => o_su_f (by omega)) w.1.2.2.2.2.1) (o_su_f (by omega))
  unfold p_seen at K
  refine e115 (d115_0 g.1 ?_)
  rw [g.2.2.2.2.2.2]
  try simp (disch := omega) only [n_lit, n_m, n_add, n_mul, n_div, n_mod, n_cl, n_lt, n_le, n_eq, n_in, n_eqm, n_meq, n_mlt, n_ltm, n_mle, n_lem, not_true_eq_false, not_false_eq_true, true_implies, false_implies, true_and, and_true, Nat.not_lt_zero, Nat.zero_le]
  refine ⟨fun q => ⟨by decide, ?_⟩, fun q => c86 g.1 z0 (x := 5) (fun h2 L2 f2 b2 => ⟨_, rfl, d115_15 L2 ⟨rfl, ?_⟩⟩)⟩
  · rw [if_neg (by omega)] at K
    refine w_sfI (R := fun z => ∀ (y1 : Option Value), i_P i_MT i_AT L xs 115 21 [some (.ref 44), y1] [] z 0 0 Q) g.1 g.1.q44_4 (fun h1 L1 F1 E1 => fun y1 => d115_21 L1 ?_) _
    have g1 : i_PC (o_su a 799 1) t n (o_ke T n 1 k0) T h1 := by
      have F : ∀ q, q ≠ 44 → ∀ b, (q, b) ∉ [(44, 4)] := fun q hq b => by simp; omega
      refine ⟨L1, g.2.1.fr F1 (fun _ _ => by simp) (by simp), ?_, ?_, ?_, ?_, ?_⟩
      · rw [F1.vI (by simp)]; exact g.2.2.1
      · rw [F1.vR (by simp)]; exact g.2.2.2.1
      · have : i_CT a t h1 := g.2.2.2.2.1.fr F1 (fun _ _ _ => by simp) (fun b => ⟨F _ (by omega) _, F _ (by omega) _⟩)
        exact i_CT.ext w this (fun i hi => o_su_f (by omega))
      · exact (g.2.2.2.2.2.1.fr F1 (by simp)).ch (o_su_f (by omega)) (fun p hp => o_su_f (by omega)) w.1.2.2.2.2.1
      · rw [E1, o_su_t]
    refine loop 4 0 (o_ke T n 1 k0) _ rfl l1.2 h1 g1 w.seen (F1.mono (fun _ z => absurd z (by simp)) (fun q hq => ?_)) K
    simp only [List.mem_cons, List.not_mem_nil, or_false] at hq
    subst hq
    simp
  · rw [if_pos (by omega)] at K
    exact K h2 L2 f2.tl.tb b2
end
