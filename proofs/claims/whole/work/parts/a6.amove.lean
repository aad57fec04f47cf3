/-! THE REFERENCE READS A MOVE -/
section
variable {L : Nat} {xs : Nat → Int32} {h : iH} {Q : Option Value → iH → Prop} {a : Nat → Nat} {t : Nat} {n m k c d p pl N : Nat} {T s z op : Nat → Nat} {A : Nat → List Nat} {V : Nat → Nat × Nat × Nat}
set_option maxRecDepth 20000
abbrev rpF : List (Nat × Nat) := [(138, 14), (138, 15), (138, 16), (138, 17), (138, 19), (138, 20), (138, 26), (138, 27), (138, 28)]
abbrev i_RP (h h2 : iH) : Prop := i_Fr [148, 149] rpF h h2
/-- where the moves of depth i begin, and end -/
def o_lo (op : Nat → Nat) (i : Nat) : Nat := if i = 0 then 0 else op (i - 1) + 1
def o_hi (op : Nat → Nat) (d N i : Nat) : Nat := if i < d then op i else N
/-- the reference on the way through the moves of one -/
def i_RM (n k : Nat) (T : Nat → Nat) (c d : Nat) (A : Nat → List Nat) (z : Nat → Nat) (N : Nat) (V : Nat → Nat × Nat × Nat) (op : Nat → Nat) (h : iH) : Prop :=
  i_Lay h ∧ i_TXr h n T ∧ i_RK h T n k ∧ (fI h 138 20 = 0 ∧ fI h 138 19 = i_m) ∧ (fI h 138 26 = i_n N ∧ fI h 138 27 = i_n c ∧ fI h 138 28 = i_n d) ∧ i_OP N V h ∧ (∀ j, j < d → aI h 149 j = i_n (op j) ∧ op j < N ∧ (V (op j)).1 = 31 ∧ (V (op j)).2.1 = z (j + 1)) ∧ (∀ i, i ≤ d → o_sg V (o_lo op i) (o_hi op d N i) (A i)) ∧ N + d ≤ 2 * c
theorem i_OP.fr {h2 : iH} {B : List Nat} {F : List (Nat × Nat)} (x : i_OP N V h) (f : i_Fr B F h h2) (hA : 148 ∉ B) : i_OP N V h2 := by
  unfold i_OP
  rw [f.rI hA]
  exact x
/-- a token is read -/
theorem i_RM.rk {h2 : iH} {k2 : Nat} (g : i_RM n k T c d A z N V op h) (hL : i_Lay h2) (f : i_Fr [] rkF h h2) (zk : i_RK h2 T n k2) : i_RM n k2 T c d A z N V op h2 := by
  obtain ⟨g1, g2, g3, g4, g5, g6, g7, g8⟩ := g
  refine ⟨hL, g2.fr f (by simp) (by decide), zk, ?_, ?_, g6.fr f (by simp), ?_, g8⟩
  · rw [f.vI (by decide), f.vI (by decide)]; exact g4
  · rw [f.vI (by decide), f.vI (by decide), f.vI (by decide)]; exact g5
  · rw [f.rI (by simp)]; exact g7
theorem i_Fr.rp {h2 : iH} (f : i_Fr [] rkF h h2) : i_RP h h2 := f.mono (fun _ y => absurd y (by simp)) (by decide)
theorem i_Fr.rq {h2 : iH} (f : i_Fr [] flF h h2) : i_RP h h2 := f.mono (fun _ y => absurd y (by simp)) (by decide)
def i_RM1 (n : Nat) (T : Nat → Nat) (h : iH) (Q : Option Value → iH → Prop) (r : o_M1) : Prop := match r with
  | .inl (f, p) => ∀ h2, i_Lay h2 → i_RP h h2 → i_RBL h2 f p → Q (some (.int 0)) h2
  | .inr (k2, c2, d2, A2, z2) => ∀ N2 V2 op2 h2, i_RP h h2 → i_RM n k2 T c2 d2 A2 z2 N2 V2 op2 h2 → Q (some (.int 1)) h2
theorem o_cw_24 : ∀ u : Fin 33, 24 ≤ u.val → o_cw u.val = u.val := by decide +kernel
/-- one more move noted -/
def o_nt (V : Nat → Nat × Nat × Nat) (N : Nat) (e : Nat × Nat × Nat) : Nat → Nat × Nat × Nat := fun j => if j = N then e else V j
theorem o_nt_t {e : Nat × Nat × Nat} : o_nt V N e N = e := if_pos rfl
theorem o_nt_f {e : Nat × Nat × Nat} {j : Nat} (h : j ≠ N) : o_nt V N e j = V j := if_neg h
theorem o_kx_kd {w : Nat} (h : w = 24 ∨ w = 25 ∨ w = 29) : o_kx w = o_kd w := by
  unfold o_kx o_kd
  rcases h with rfl | rfl | rfl <;> rfl
/-- the moves of the depths, with one more behind -/
theorem o_segs_app {e : Nat × Nat × Nat} {l : List Nat} (sg : ∀ i, i ≤ d → o_sg V (o_lo op i) (o_hi op d N i) (A i)) (ho : ∀ j, j < d → op j < N) (s : o_sg (o_nt V N e) N (N + 1) l) : ∀ i, i ≤ d → o_sg (o_nt V N e) (o_lo op i) (o_hi op d (N + 1) i) (o_sl A d (A d ++ l) i) := by
  intro i hi
  have si := sg i hi
  by_cases q : i = d
  · subst q
    rw [o_sl_t]
    unfold o_hi at si ⊢
    rw [if_neg (by omega)] at si ⊢
    exact (si.ext (fun x _ h2 => o_nt_f (by omega))).app s
  · rw [o_sl_f q]
    have hd := ho i (by omega)
    unfold o_hi at si ⊢
    rw [if_pos (by omega)] at si ⊢
    exact si.ext (fun x _ h2 => o_nt_f (by omega))
theorem i_OP.nt {e : Nat × Nat × Nat} {h2 : iH} (x : i_OP N V h) (lo : ∀ i, i < 3 * N → aI h2 148 i = aI h 148 i) (e1 : aI h2 148 (3 * N) = i_n e.1) (e2 : aI h2 148 (3 * N + 1) = i_n e.2.1) (e3 : e.1 = 32 → aI h2 148 (3 * N + 2) = i_n e.2.2) (b1 : e.1 < 40) (b2 : e.2.1 ≤ 60) (b3 : e.2.2 < 100) : i_OP (N + 1) (o_nt V N e) h2 := by
  intro j hj
  by_cases q : j = N
  · subst q
    rw [o_nt_t]
    exact ⟨e1, e2, e3, b1, b2, b3⟩
  · rw [o_nt_f q, lo _ (by omega), lo (3 * j + 1) (by omega), lo (3 * j + 2) (by omega)]
    exact x j (by omega)
set_option maxHeartbeats 4000000 in
theorem c244 (g : i_RM n k T c d A z N V op h) (hk : k ≤ n) (hc : c ≤ 40) (hd : d ≤ 2) (hz : ∀ j, 1 ≤ j → j ≤ d → 1 ≤ z j ∧ z j ≤ 60)
    (KC : o_wy T n k = 32 → 0 < d → ∀ N2 V2 op2 h2, i_RP h h2 → i_RM n (o_tke T n k) T c (d - 1) (o_sl A (d - 1) (A (d - 1) ++ o_rep (A d) (z d))) z N2 V2 op2 h2 → Q (some (.int 1)) h2)
    (KM : ¬ (o_wy T n k = 32 ∧ 0 < d) → i_RM1 n T h Q (p_m1 T n k c d A z)) : i_C i_MT i_AT L xs 244 [.ref 138] h Q := by
  have l1 := o_tk_le (T := T) hk
  have l2 := o_tk_le (T := T) l1.2.2
  have k4 := o_tkk4 (T := T) (n := n) (k := k)
  obtain ⟨g1, g2, g3, g4, g5, g6, g7, g8, g9⟩ := id g
  have hN : N ≤ 80 := by omega
  have fail2 : ∀ {x1 x2 x3 : Int32} {x4 : Option Value}, (∀ h2, i_Lay h2 → i_RP h h2 → i_RBL h2 (o_bad T n k) (o_tks T n k) → Q (some (.int 0)) h2) → i_P i_MT i_AT L xs 244 76 [some (.ref 138), some (.int x1), some (.int x2), some (.int x3), x4] [] h 0 0 Q := fun H => d244_76 g1 (c221b g1 g3 g4.1 (fun h2 L2 f2 b2 => ⟨_, rfl, d244_81 L2 ⟨rfl, H h2 L2 f2.rq b2⟩⟩))
  -- what the word is
  refine e244 (d244_0 g1 (c220 g1 g2 g3 hk ⟨_, rfl, ?_⟩))
  by_cases hu : (24 ≤ o_wy T n k ∧ o_wy T n k ≤ 26) ∨ (29 ≤ o_wy T n k ∧ o_wy T n k ≤ 31) ∨ (o_wy T n k = 32 ∧ 0 < d)
  rotate_left
  · -- none of a move
    have nm : ¬ o_mvw (o_wy T n k) := by unfold o_mvw; omega
    have bad : ∀ h2, i_Lay h2 → i_RP h h2 → i_RBL h2 (o_bad T n k) (o_tks T n k) → Q (some (.int 0)) h2 := by
      have := KM (by omega)
      unfold p_m1 at this
      rw [if_pos nm] at this
      exact this
    have ne : ∀ r, 24 ≤ r → r < 33 → r ≠ 32 → r ≠ 27 → r ≠ 28 → ¬ o_rix (o_wy T n k) = i_n r := fun r h1 h2 h3 h4 h5 e => by
      rw [o_ri_is h2, o_cw_24 ⟨r, h2⟩ h1] at e
      dsimp only at e
      omega
    refine d244_6 g1 ⟨fun y => absurd y (ne 29 (by omega) (by omega) (by omega) (by omega) (by omega)), fun _ => ⟨fun y => absurd y (ne 24 (by omega) (by omega) (by omega) (by omega) (by omega)), fun _ => ⟨fun _ => d244_30 g1 ⟨fun _ => d244_42 g1 ⟨fun y => absurd rfl y, fun _ => ⟨fun y => absurd rfl y, fun _ => ⟨fun y => absurd y (ne 30 (by omega) (by omega) (by omega) (by omega) (by omega)), fun _ => ⟨fun y => absurd y (ne 31 (by omega) (by omega) (by omega) (by omega) (by omega)), fun _ => ⟨fun _ => fail2 bad, fun y => ?_⟩⟩⟩⟩⟩, fun y => absurd (ne 26 (by omega) (by omega) (by omega) (by omega) (by omega)) y⟩, fun y => absurd (ne 25 (by omega) (by omega) (by omega) (by omega) (by omega)) y⟩⟩⟩
    have y := Classical.not_not.mp y
    rw [show (32 : Int32) = i_n 32 from rfl, o_ri_is (by omega), show o_cw 32 = 32 from rfl] at y
    have d0 : d = 0 := by omega
    rw [g5.2.2, d0]
    exact ⟨fun y2 => absurd rfl y2, fun _ => fail2 bad⟩
  have kind2 : o_tkk T n k = 2 := o_wy_kind (by omega)
  have erx : o_rix (o_wy T n k) = i_n (o_wy T n k) := by
    have h33 : o_wy T n k < 33 := by omega
    rw [o_ri_is h33]
    exact (o_cw_24 ⟨o_wy T n k, h33⟩ (by dsimp only; omega)).symm
  rw [erx]
  generalize hW : o_wy T n k = u at *
  -- the way to what is noted
  have pre : ∀ b1 b2, (b1 = if u = 24 ∨ u = 25 ∨ u = 29 then 1 else 0) → (b2 = if u = 26 then 1 else 0) → (∀ (y4 : Option Value), i_P i_MT i_AT L xs 244 82 [some (.ref 138), some (.int (i_n u)), some (.int (i_n b1)), some (.int (i_n b2)), y4] [] h 0 0 Q) → ∀ (y1 y2 y3 y4 : Option Value), i_P i_MT i_AT L xs 244 6 [some (.ref 138), y1, y2, y3, y4] [.int (i_n u)] h 0 0 Q := by
    intro b1 b2 e1 e2 H y1 y2 y3 y4
    refine d244_6 g1 ?_
    have p25 : (u = 24 ∨ u = 25 ∨ u = 29) → ∀ (y2 y3 y4 : Option Value), i_P i_MT i_AT L xs 244 25 [some (.ref 138), some (.int (i_n u)), y2, y3, y4] [] h 0 0 Q := fun y y2 y3 y4 => by
      rw [if_pos y] at e1
      rw [if_neg (by omega)] at e2
      subst e1 e2
      refine d244_25 g1 (d244_30 g1 ?_)
      try simp (disch := omega) only [n_lit, n_m, n_add, n_mul, n_div, n_mod, n_cl, n_lt, n_le, n_eq, n_in, n_eqm, n_meq, n_mlt, n_ltm, n_mle, n_lem, not_true_eq_false, not_false_eq_true, true_implies, false_implies, true_and, and_true, Nat.not_lt_zero, Nat.zero_le]
      exact ⟨fun _ => d244_42 g1 ⟨fun _ => H _, fun y => absurd (show ¬ (1 : Int32) = 0 by decide) y⟩, fun y2 => by omega⟩
    try simp (disch := omega) only [n_lit, n_m, n_add, n_mul, n_div, n_mod, n_cl, n_lt, n_le, n_eq, n_in, n_eqm, n_meq, n_mlt, n_ltm, n_mle, n_lem, not_true_eq_false, not_false_eq_true, true_implies, false_implies, true_and, and_true, Nat.not_lt_zero, Nat.zero_le]
    refine ⟨fun y => p25 (by omega) _ _ _, fun y1 => ⟨fun y => p25 (by omega) _ _ _, fun y2 => ⟨fun y3 => ?_, fun y => p25 (by omega) _ _ _⟩⟩⟩
    rw [if_neg (by omega)] at e1
    subst e1
    refine d244_30 g1 ?_
    try simp (disch := omega) only [n_lit, n_m, n_add, n_mul, n_div, n_mod, n_cl, n_lt, n_le, n_eq, n_in, n_eqm, n_meq, n_mlt, n_ltm, n_mle, n_lem, not_true_eq_false, not_false_eq_true, true_implies, false_implies, true_and, and_true, Nat.not_lt_zero, Nat.zero_le]
    refine ⟨fun y4 => d244_42 g1 ?_, fun y4 => d244_42 g1 ?_⟩
    · rw [if_neg y4] at e2
      subst e2
      rw [g5.2.2]
      try simp (disch := omega) only [n_lit, n_m, n_add, n_mul, n_div, n_mod, n_cl, n_lt, n_le, n_eq, n_in, n_eqm, n_meq, n_mlt, n_ltm, n_mle, n_lem, not_true_eq_false, not_false_eq_true, true_implies, false_implies, true_and, and_true, Nat.not_lt_zero, Nat.zero_le]
      exact ⟨fun _ => H _, fun y5 => ⟨fun _ => H _, fun y6 => ⟨fun y7 => by omega, fun y7 => ⟨fun _ => H _, fun y8 => by omega⟩⟩⟩⟩
    · rw [if_pos (Classical.not_not.mp y4)] at e2
      subst e2
      refine ⟨fun y => absurd rfl y, fun _ => ⟨fun _ => H _, fun y => absurd (show ¬ (1 : Int32) = 0 by decide) y⟩⟩
  -- what is noted
  have note : ∀ b1 b2 c2, (c2 = if u = 32 then c else c + 1) → (∀ h2, i_Lay h2 → i_RP h h2 → fI h2 138 26 = i_n (N + 1) → fI h2 138 27 = i_n c2 → fI h2 138 28 = i_n d → aI h2 149 = aI h 149 → (fI h2 138 20 = 0 ∧ fI h2 138 19 = i_m) → i_TXr h2 n T → aI h2 148 (3 * N) = i_n u → aI h2 148 (3 * N + 1) = i_n 0 → (∀ i, i < 3 * N → aI h2 148 i = aI h 148 i) → i_RK h2 T n (o_tke T n k) → i_P i_MT i_AT L xs 244 185 [some (.ref 138), some (.int (i_n u)), some (.int (i_n b1)), some (.int (i_n b2)), some (.int (i_n (3 * N)))] [] h2 0 0 Q) → ∀ (y4 : Option Value), i_P i_MT i_AT L xs 244 125 [some (.ref 138), some (.int (i_n u)), some (.int (i_n b1)), some (.int (i_n b2)), y4] [] h 0 0 Q := by
    intro b1 b2 c2 ec H y4
    have put : ∀ v, v + c = c2 → i_P i_MT i_AT L xs 244 141 [some (.ref 138), some (.int (i_n u)), some (.int (i_n b1)), some (.int (i_n b2)), y4] [.int (i_n v), .int (i_n c), .ref 138] h 0 0 Q := by
      intro v hv
      refine d244_141 g1 ?_
      try simp (disch := omega) only [n_lit, n_m, n_add, n_mul, n_div, n_mod, n_cl, n_lt, n_le, n_eq, n_in, n_eqm, n_meq, n_mlt, n_ltm, n_mle, n_lem, not_true_eq_false, not_false_eq_true, true_implies, false_implies, true_and, and_true, Nat.not_lt_zero, Nat.zero_le]
      rw [show c + v = c2 by omega]
      refine w_sfI (R := fun y => i_P i_MT i_AT L xs 244 145 [some (.ref 138), some (.int (i_n u)), some (.int (i_n b1)), some (.int (i_n b2)), y4] [] y 0 0 Q) g1 g1.q138_27 (fun h1 L1 F1 E1 => d244_145 L1 ?_)
      rw [F1.vI (by simp), g5.1]
      try simp (disch := omega) only [n_lit, n_m, n_add, n_mul, n_div, n_mod, n_cl, n_lt, n_le, n_eq, n_in, n_eqm, n_meq, n_mlt, n_ltm, n_mle, n_lem, not_true_eq_false, not_false_eq_true, true_implies, false_implies, true_and, and_true, Nat.not_lt_zero, Nat.zero_le]
      refine ⟨by omega, w_siI (R := fun y => i_P i_MT i_AT L xs 244 161 [some (.ref 138), some (.int (i_n u)), some (.int (i_n b1)), some (.int (i_n b2)), some (.int (i_n (3 * N)))] [] y 0 0 Q) L1 L1.a148 (fun h2 L2 F2 E2 => d244_161 L2 ?_)⟩
      try simp (disch := omega) only [n_lit, n_m, n_add, n_mul, n_div, n_mod, n_cl, n_lt, n_le, n_eq, n_in, n_eqm, n_meq, n_mlt, n_ltm, n_mle, n_lem, not_true_eq_false, not_false_eq_true, true_implies, false_implies, true_and, and_true, Nat.not_lt_zero, Nat.zero_le]
      refine ⟨by omega, w_siI (R := fun y => i_P i_MT i_AT L xs 244 171 [some (.ref 138), some (.int (i_n u)), some (.int (i_n b1)), some (.int (i_n b2)), some (.int (i_n (3 * N)))] [] y 0 0 Q) L2 L2.a148 (fun h3 L3 F3 E3 => d244_171 L3 ?_)⟩
      rw [F3.vI (by simp), F2.vI (by simp), F1.vI (by simp), g5.1, show i_n N + 1 = i_n (N + 1) from n_add N 1]
      refine w_sfI (R := fun y => i_P i_MT i_AT L xs 244 181 [some (.ref 138), some (.int (i_n u)), some (.int (i_n b1)), some (.int (i_n b2)), some (.int (i_n (3 * N)))] [] y 0 0 Q) L3 L3.q138_26 (fun h4 L4 F4 E4 => d244_181 L4 ?_)
      have F14 : i_Fr [148] [(138, 26), (138, 27)] h h4 := (F1.mono (fun _ y => absurd y (by simp)) (by decide)).trans ((F2.mono (fun _ y => y) (fun _ y => absurd y (by simp))).trans ((F3.mono (fun _ y => y) (fun _ y => absurd y (by simp))).trans (F4.mono (fun _ y => absurd y (by simp)) (by decide))))
      have x4 : i_TXr h4 n T := g2.fr F14 (by simp) (by decide)
      refine c218n L4 x4 hk (g3.fr F14 (by decide)) (fun h5 L5 F5 z5 => ⟨rfl, H h5 L5 ((F14.mono (by simp) (by decide)).trans F5.rp) ?_ ?_ ?_ ?_ ?_ (x4.fr F5 (by simp) (by decide)) ?_ ?_ ?_ z5⟩)
      · rw [F5.vI (by decide)]; exact E4
      · rw [F5.vI (by decide), F4.vI (by simp), F3.vI (by simp), F2.vI (by simp)]; exact E1
      · rw [F5.vI (by decide), F14.vI (by decide)]; exact g5.2.2
      · rw [F5.rI (by simp), F14.rI (by simp)]
      · rw [F5.vI (by decide), F5.vI (by decide), F14.vI (by decide), F14.vI (by decide)]; exact g4
      · rw [F5.rI (by simp), F4.rI (by simp), E3, if_neg (by omega), E2, if_pos rfl]
      · rw [F5.rI (by simp), F4.rI (by simp), E3, if_pos rfl]
      · intro i hi
        rw [F5.rI (by simp), F4.rI (by simp), E3, if_neg (by omega), E2, if_neg (by omega), F1.rI (by simp)]
    refine d244_125 g1 ?_
    rw [g5.2.1]
    try simp (disch := omega) only [n_lit, n_m, n_add, n_mul, n_div, n_mod, n_cl, n_lt, n_le, n_eq, n_in, n_eqm, n_meq, n_mlt, n_ltm, n_mle, n_lem, not_true_eq_false, not_false_eq_true, true_implies, false_implies, true_and, and_true, Nat.not_lt_zero, Nat.zero_le]
    refine ⟨fun y => put 1 ?_, fun y => put 0 ?_⟩
    · rw [ec, if_neg y]; omega
    · rw [ec, if_pos (Classical.not_not.mp y)]; omega
  -- behind the numbers
  have out : ∀ b1 b2, u ≠ 31 → u ≠ 32 → ∀ h2, i_Lay h2 → Q (some (.int 1)) h2 → i_P i_MT i_AT L xs 244 306 [some (.ref 138), some (.int (i_n u)), some (.int (i_n b1)), some (.int (i_n b2)), some (.int (i_n (3 * N)))] [] h2 0 0 Q := by
    intro b1 b2 n1 n2 h2 L2 q
    refine d244_306 L2 ?_
    try simp (disch := omega) only [n_lit, n_m, n_add, n_mul, n_div, n_mod, n_cl, n_lt, n_le, n_eq, n_in, n_eqm, n_meq, n_mlt, n_ltm, n_mle, n_lem, not_true_eq_false, not_false_eq_true, true_implies, false_implies, true_and, and_true, Nat.not_lt_zero, Nat.zero_le]
    refine ⟨fun _ => d244_337 L2 ?_, fun y => absurd n1 y⟩
    try simp (disch := omega) only [n_lit, n_m, n_add, n_mul, n_div, n_mod, n_cl, n_lt, n_le, n_eq, n_in, n_eqm, n_meq, n_mlt, n_ltm, n_mle, n_lem, not_true_eq_false, not_false_eq_true, true_implies, false_implies, true_and, and_true, Nat.not_lt_zero, Nat.zero_le]
    exact ⟨fun _ => d244_371 L2 q, fun y => absurd n2 y⟩
  by_cases u32 : u = 32
  · -- a loop ends
    have d0 : 0 < d := by omega
    obtain ⟨e, rfl⟩ : ∃ e, d = e + 1 := ⟨d - 1, by omega⟩
    rw [Nat.add_sub_cancel] at KC
    refine pre 0 0 (by rw [if_neg (by omega)]) (by rw [if_neg (by omega)]) (fun y4 => d244_82 g1 ?_) _ _ _ _
    try simp (disch := omega) only [n_lit, n_m, n_add, n_mul, n_div, n_mod, n_cl, n_lt, n_le, n_eq, n_in, n_eqm, n_meq, n_mlt, n_ltm, n_mle, n_lem, not_true_eq_false, not_false_eq_true, true_implies, false_implies, true_and, and_true, Nat.not_lt_zero, Nat.zero_le]
    refine ⟨fun _ => d244_104 g1 ?_, fun y => absurd u32 y⟩
    try simp (disch := omega) only [n_lit, n_m, n_add, n_mul, n_div, n_mod, n_cl, n_lt, n_le, n_eq, n_in, n_eqm, n_meq, n_mlt, n_ltm, n_mle, n_lem, not_true_eq_false, not_false_eq_true, true_implies, false_implies, true_and, and_true, Nat.not_lt_zero, Nat.zero_le]
    refine ⟨fun _ => note 0 0 c (by rw [if_pos u32]) (fun h2 L2 F2 e26 e27 e28 e149 e20 x2 a0 a1 al zk => d244_185 L2 ?_) _, fun y => absurd (show ¬ u = 31 by omega) y⟩
    refine ⟨fun _ => d244_240 L2 ?_, fun y => absurd rfl y⟩
    try simp (disch := omega) only [n_lit, n_m, n_add, n_mul, n_div, n_mod, n_cl, n_lt, n_le, n_eq, n_in, n_eqm, n_meq, n_mlt, n_ltm, n_mle, n_lem, not_true_eq_false, not_false_eq_true, true_implies, false_implies, true_and, and_true, Nat.not_lt_zero, Nat.zero_le]
    refine ⟨fun y => by omega, fun _ => ⟨fun _ => d244_306 L2 ?_, fun y => by omega⟩⟩
    try simp (disch := omega) only [n_lit, n_m, n_add, n_mul, n_div, n_mod, n_cl, n_lt, n_le, n_eq, n_in, n_eqm, n_meq, n_mlt, n_ltm, n_mle, n_lem, not_true_eq_false, not_false_eq_true, true_implies, false_implies, true_and, and_true, Nat.not_lt_zero, Nat.zero_le]
    refine ⟨fun _ => d244_337 L2 ?_, fun y => by omega⟩
    try simp (disch := omega) only [n_lit, n_m, n_add, n_mul, n_div, n_mod, n_cl, n_lt, n_le, n_eq, n_in, n_eqm, n_meq, n_mlt, n_ltm, n_mle, n_lem, not_true_eq_false, not_false_eq_true, true_implies, false_implies, true_and, and_true, Nat.not_lt_zero, Nat.zero_le]
    refine ⟨fun y => absurd u32 y, fun _ => ?_⟩
    rw [e28, show i_n (e + 1) - i_n 1 = i_n e from n_sub (a := e + 1) (b := 1) (by omega)]
    refine w_sfI (R := fun y => i_P i_MT i_AT L xs 244 353 [some (.ref 138), some (.int (i_n u)), some (.int (i_n 0)), some (.int (i_n 0)), some (.int (i_n (3 * N)))] [] y 0 0 Q) L2 L2.q138_28 (fun h3 L3 F3 E3 => d244_353 L3 ?_)
    have oe := g7 e (by omega)
    rw [E3, F3.rI (by simp), e149]
    try simp (disch := omega) only [n_lit, n_m, n_add, n_mul, n_div, n_mod, n_cl, n_lt, n_le, n_eq, n_in, n_eqm, n_meq, n_mlt, n_ltm, n_mle, n_lem, not_true_eq_false, not_false_eq_true, true_implies, false_implies, true_and, and_true, Nat.not_lt_zero, Nat.zero_le, oe.1]
    refine ⟨by omega, by omega, w_siI (R := fun y => i_P i_MT i_AT L xs 244 371 [some (.ref 138), some (.int (i_n u)), some (.int (i_n 0)), some (.int (i_n 0)), some (.int (i_n (3 * N)))] [] y 0 0 Q) L3 L3.a148 (fun h4 L4 F4 E4 => d244_371 L4 ?_)⟩
    have F24 : i_Fr [148] [(138, 28)] h2 h4 := (F3.mono (fun _ y => absurd y (by simp)) (fun _ y => y)).trans (F4.mono (fun _ y => y) (fun _ y => absurd y (by simp)))
    have vop : o_nt V N (32, 0, op e) (op e) = V (op e) := o_nt_f (by omega)
    refine KC u32 (by omega) (N + 1) (o_nt V N (32, 0, op e)) op h4 (F2.trans (F24.mono (by simp) (by decide))) ⟨L4, x2.fr F24 (by simp) (by simp), zk.fr F24 (by decide), ?_, ⟨?_, ?_, ?_⟩, ?_, fun j hj => ?_, fun i hi => ?_, by omega⟩
    · rw [F24.vI (by simp), F24.vI (by simp)]; exact e20
    · rw [F24.vI (by simp)]; exact e26
    · rw [F24.vI (by simp)]; exact e27
    · rw [F4.vI (by simp)]; exact E3
    · refine g6.nt (fun i hi => ?_) ?_ ?_ (fun _ => ?_) (by dsimp only; omega) (by dsimp only; omega) (by dsimp only; omega)
      · rw [E4, if_neg (by omega), F3.rI (by simp)]; exact al i hi
      · rw [E4, if_neg (by omega), F3.rI (by simp), a0, u32]
      · rw [E4, if_neg (by omega), F3.rI (by simp)]; exact a1
      · rw [E4, if_pos rfl]
    · have oj := g7 j (by omega)
      rw [F24.rI (by simp), e149, o_nt_f (by omega)]
      exact ⟨oj.1, by omega, oj.2.2⟩
    · have si := g8 i (by omega)
      by_cases y : i = e
      · subst y
        rw [o_sl_t]
        have sd := g8 (i + 1) (Nat.le_refl _)
        unfold o_hi o_lo at sd
        rw [if_neg (by omega), if_neg (by omega), Nat.add_sub_cancel] at sd
        unfold o_hi at si ⊢
        rw [if_pos (by omega)] at si
        rw [if_neg (by omega)]
        have lp := o_sg.loop (V := o_nt V N (32, 0, op i)) (b := op i) (j := N) (q := z (i + 1)) (l := A (i + 1)) (by rw [vop]; exact oe.2.2.1) (by rw [vop]; exact oe.2.2.2) (hz (i + 1) (by omega) (Nat.le_refl _)) (sd.ext (fun x _ h2 => o_nt_f (by omega))) (by rw [o_nt_t]) (by rw [o_nt_t])
        exact (si.ext (fun x _ h2 => o_nt_f (by omega))).app lp
      · rw [o_sl_f y]
        have oj := g7 i (by omega)
        unfold o_hi at si ⊢
        rw [if_pos (by omega)] at si ⊢
        exact si.ext (fun x _ h2 => o_nt_f (by omega))
  have KM := KM (by omega)
  unfold p_m1 at KM
  rw [hW, if_neg (fun y => y (by unfold o_mvw; omega))] at KM
  by_cases c40 : c = 40
  · rw [if_pos c40] at KM
    refine pre (if u = 24 ∨ u = 25 ∨ u = 29 then 1 else 0) (if u = 26 then 1 else 0) rfl rfl (fun y4 => d244_82 g1 ?_) _ _ _ _
    rw [g5.2.1]
    try simp (disch := omega) only [n_lit, n_m, n_add, n_mul, n_div, n_mod, n_cl, n_lt, n_le, n_eq, n_in, n_eqm, n_meq, n_mlt, n_ltm, n_mle, n_lem, not_true_eq_false, not_false_eq_true, true_implies, false_implies, true_and, and_true, Nat.not_lt_zero, Nat.zero_le]
    refine ⟨fun y => absurd y u32, fun _ => ⟨fun y => absurd c40 y, fun _ => c221g g1 g3 g4.1 (x := 6) (by omega) (fun h2 L2 f2 b2 => ⟨_, rfl, d244_103 L2 ⟨rfl, KM h2 L2 f2.rq b2⟩⟩)⟩⟩
  rw [if_neg c40] at KM
  have on82 : ∀ b1 b2, (b1 = if u = 24 ∨ u = 25 ∨ u = 29 then 1 else 0) → (b2 = if u = 26 then 1 else 0) → (∀ (y4 : Option Value), i_P i_MT i_AT L xs 244 104 [some (.ref 138), some (.int (i_n u)), some (.int (i_n b1)), some (.int (i_n b2)), y4] [] h 0 0 Q) → ∀ (y1 y2 y3 y4 : Option Value), i_P i_MT i_AT L xs 244 6 [some (.ref 138), y1, y2, y3, y4] [.int (i_n u)] h 0 0 Q := fun b1 b2 e1 e2 H => pre b1 b2 e1 e2 (fun y4 => d244_82 g1 (by
    rw [g5.2.1]
    try simp (disch := omega) only [n_lit, n_m, n_add, n_mul, n_div, n_mod, n_cl, n_lt, n_le, n_eq, n_in, n_eqm, n_meq, n_mlt, n_ltm, n_mle, n_lem, not_true_eq_false, not_false_eq_true, true_implies, false_implies, true_and, and_true, Nat.not_lt_zero, Nat.zero_le]
    exact ⟨fun y => absurd y u32, fun _ => ⟨fun _ => H _, fun y => absurd (Classical.not_not.mp y) c40⟩⟩))
  -- the moves laid, no loop
  have lay : ∀ (k2 arg : Nat) (l : List Nat) (h2 h3 : iH), i_RP h h3 → i_Lay h3 → fI h3 138 26 = i_n (N + 1) → fI h3 138 27 = i_n (c + 1) → fI h3 138 28 = i_n d → aI h3 149 = aI h 149 → (fI h3 138 20 = 0 ∧ fI h3 138 19 = i_m) → i_TXr h3 n T → aI h3 148 (3 * N) = i_n u → aI h3 148 (3 * N + 1) = i_n arg → (∀ i, i < 3 * N → aI h3 148 i = aI h 148 i) → i_RK h3 T n k2 → arg ≤ 60 → u ≠ 31 → o_sg (o_nt V N (u, arg, 0)) N (N + 1) l → i_RM n k2 T (c + 1) d (o_sl A d (A d ++ l)) z (N + 1) (o_nt V N (u, arg, 0)) op h3 := by
    intro k2 arg l h2 h3 F L3 e26 e27 e28 e149 e20 x3 a0 a1 al zk ha u31 sg
    refine ⟨L3, x3, zk, e20, ⟨e26, e27, e28⟩, g6.nt al a0 a1 (fun y => absurd y u32) (by dsimp only; omega) ha (by dsimp only; omega), fun j hj => ?_, o_segs_app g8 (fun j hj => (g7 j hj).2.1) sg, by omega⟩
    have oj := g7 j hj
    rw [e149, o_nt_f (by omega)]
    exact ⟨oj.1, by omega, oj.2.2⟩
  by_cases u26 : u = 26
  · -- a sign
    rw [if_pos u26] at KM
    refine on82 0 1 (by rw [if_neg (by omega)]) (by rw [if_pos u26]) (fun y4 => d244_104 g1 ?_) _ _ _ _
    try simp (disch := omega) only [n_lit, n_m, n_add, n_mul, n_div, n_mod, n_cl, n_lt, n_le, n_eq, n_in, n_eqm, n_meq, n_mlt, n_ltm, n_mle, n_lem, not_true_eq_false, not_false_eq_true, true_implies, false_implies, true_and, and_true, Nat.not_lt_zero, Nat.zero_le]
    refine ⟨fun _ => note 0 1 (c + 1) (by rw [if_neg u32]) (fun h2 L2 F2 e26 e27 e28 e149 e20 x2 a0 a1 al zk => d244_185 L2 ?_) _, fun y => absurd (show ¬ u = 31 by omega) y⟩
    refine ⟨fun _ => d244_240 L2 ?_, fun y => absurd rfl y⟩
    try simp (disch := omega) only [n_lit, n_m, n_add, n_mul, n_div, n_mod, n_cl, n_lt, n_le, n_eq, n_in, n_eqm, n_meq, n_mlt, n_ltm, n_mle, n_lem, not_true_eq_false, not_false_eq_true, true_implies, false_implies, true_and, and_true, Nat.not_lt_zero, Nat.zero_le]
    refine ⟨fun y => by omega, fun _ => ⟨fun _ => out 0 1 (by omega) u32 h2 L2 ?_, fun y => by omega⟩⟩
    have sg := o_sg.move (V := o_nt V N (u, 0, 0)) (i := N) (by rw [o_nt_t]; exact u32) (by rw [o_nt_t]; dsimp only; omega) (by rw [o_nt_t]; dsimp only; omega)
    rw [o_nt_t] at sg
    have e32 : 8 * o_kx u + 0 = 32 := by rw [u26]; rfl
    dsimp only at sg
    rw [e32] at sg
    exact KM (N + 1) _ op h2 F2 (lay _ 0 _ h2 h2 F2 L2 e26 e27 e28 e149 e20 x2 a0 a1 al zk (by omega) (by omega) sg)
  rw [if_neg u26] at KM
  have e1k : o_ke T n 1 k = o_tke T n k := rfl
  have e2k : o_ke T n 2 k = o_tke T n (o_tke T n k) := rfl
  have tv := o_tkv_lt (T := T) (n := n) (k := o_tke T n k)
  have k41 := o_tkk4 (T := T) (n := n) (k := o_tke T n k)
  -- a number behind it
  have num : ∀ b1 b2 h2, i_Lay h2 → i_RP h h2 → (fI h2 138 20 = 0 ∧ fI h2 138 19 = i_m) → i_TXr h2 n T → i_RK h2 T n (o_tke T n k) → (∀ f, f = o_nf T n (o_tke T n k) 1 60 → f ≠ 0 → ∀ h3, i_Lay h3 → i_RP h h3 → i_RBL h3 f (o_tks T n (o_tke T n k)) → Q (some (.int 0)) h3) → (o_nf T n (o_tke T n k) 1 60 = 0 → ∀ h3, i_Lay h3 → i_Fr [148] rkF h2 h3 → (∀ i, aI h3 148 i = if i = 3 * N + 1 then i_n (o_tkv T n (o_tke T n k)) else aI h2 148 i) → i_RK h3 T n (o_tke T n (o_tke T n k)) → i_P i_MT i_AT L xs 244 306 [some (.ref 138), some (.int (i_n u)), some (.int (i_n b1)), some (.int (i_n b2)), some (.int (i_n (3 * N)))] [] h3 0 0 Q) → i_P i_MT i_AT L xs 244 252 [some (.ref 138), some (.int (i_n u)), some (.int (i_n b1)), some (.int (i_n b2)), some (.int (i_n (3 * N)))] [] h2 0 0 Q := by
    intro b1 b2 h2 L2 F2 e20 x2 zk HB HG
    have rl := o_rk_le (show o_tkk T n (o_tke T n k) ≤ 5 by omega)
    refine d244_252 L2 ?_
    rw [zk.1, show (3 : Int32) = i_n 3 from rfl, n_eq (by omega) (by omega), o_rk_3 k41]
    refine ⟨fun q => ?_, fun q => c221b L2 zk e20.1 (fun h3 L3 f3 b3 => ⟨_, rfl, d244_265 L3 ⟨rfl, HB _ rfl (o_nf_b0 q) h3 L3 (F2.trans f3.rq) (by rw [o_nf_b q]; exact b3)⟩⟩)⟩
    have bad : ¬ (1 ≤ o_tkv T n (o_tke T n k) ∧ o_tkv T n (o_tke T n k) ≤ 60) → i_P i_MT i_AT L xs 244 283 [some (.ref 138), some (.int (i_n u)), some (.int (i_n b1)), some (.int (i_n b2)), some (.int (i_n (3 * N)))] [] h2 0 0 Q := fun y => by
      have e4 := o_nf_4 q y
      exact d244_283 L2 (c221g L2 zk e20.1 (x := 4) (by omega) (fun h3 L3 f3 b3 => ⟨_, rfl, d244_288 L3 ⟨rfl, HB _ rfl (by omega) h3 L3 (F2.trans f3.rq) (by rw [e4]; exact b3)⟩⟩))
    rw [zk.2.2.2.1 q]
    try simp (disch := omega) only [n_lit, n_m, n_add, n_mul, n_div, n_mod, n_cl, n_lt, n_le, n_eq, n_in, n_eqm, n_meq, n_mlt, n_ltm, n_mle, n_lem, not_true_eq_false, not_false_eq_true, true_implies, false_implies, true_and, and_true, Nat.not_lt_zero, Nat.zero_le]
    refine ⟨fun y => bad (by omega), fun y => ⟨fun y2 => ⟨by omega, ?_⟩, fun y2 => bad (by omega)⟩⟩
    refine w_siI (R := fun y => i_P i_MT i_AT L xs 244 302 [some (.ref 138), some (.int (i_n u)), some (.int (i_n b1)), some (.int (i_n b2)), some (.int (i_n (3 * N)))] [] y 0 0 Q) L2 L2.a148 (fun h3 L3 F3 E3 => d244_302 L3 ?_)
    refine c218n L3 (x2.fr F3 (by simp) (by simp)) l1.2.2 (zk.fr F3 (fun _ _ => by simp)) (fun h4 L4 F4 z4 => ⟨rfl, HG (o_nf_t q (by omega)) h4 L4 ((F3.mono (fun _ y => y) (fun _ y => absurd y (by simp))).trans (F4.mono (fun _ y => absurd y (by simp)) (fun _ y => y))) (fun i => ?_) z4⟩)
    rw [F4.rI (by simp)]
    exact E3 i
  by_cases u30 : u = 30
  · -- still
    rw [if_pos u30] at KM
    refine on82 0 0 (by rw [if_neg (by omega)]) (by rw [if_neg u26]) (fun y4 => d244_104 g1 ?_) _ _ _ _
    try simp (disch := omega) only [n_lit, n_m, n_add, n_mul, n_div, n_mod, n_cl, n_lt, n_le, n_eq, n_in, n_eqm, n_meq, n_mlt, n_ltm, n_mle, n_lem, not_true_eq_false, not_false_eq_true, true_implies, false_implies, true_and, and_true, Nat.not_lt_zero, Nat.zero_le]
    refine ⟨fun _ => note 0 0 (c + 1) (by rw [if_neg u32]) (fun h2 L2 F2 e26 e27 e28 e149 e20 x2 a0 a1 al zk => d244_185 L2 ?_) _, fun y => absurd (show ¬ u = 31 by omega) y⟩
    refine ⟨fun _ => d244_240 L2 ?_, fun y => absurd rfl y⟩
    try simp (disch := omega) only [n_lit, n_m, n_add, n_mul, n_div, n_mod, n_cl, n_lt, n_le, n_eq, n_in, n_eqm, n_meq, n_mlt, n_ltm, n_mle, n_lem, not_true_eq_false, not_false_eq_true, true_implies, false_implies, true_and, and_true, Nat.not_lt_zero, Nat.zero_le]
    refine ⟨fun _ => num 0 0 h2 L2 F2 e20 x2 zk (fun f ef f0 h3 L3 F3 b3 => ?_) (fun nf h3 L3 F3 E3 z3 => out 0 0 (by omega) u32 h3 L3 ?_), fun y => absurd u30 y⟩
    · rw [e1k, if_neg (by omega)] at KM
      exact KM h3 L3 F3 (by rw [← ef]; exact b3)
    · rw [e1k, if_pos nf, e2k] at KM
      have sg := o_sg.still (V := o_nt V N (u, o_tkv T n (o_tke T n k), 0)) (i := N) (by rw [o_nt_t]; exact u30)
      rw [o_nt_t] at sg
      have nf := o_nf_0 nf
      refine KM (N + 1) _ op h3 (F2.trans (F3.mono (by simp) (by decide))) (lay _ _ _ h3 h3 (F2.trans (F3.mono (by simp) (by decide))) L3 ?_ ?_ ?_ ?_ ?_ (x2.fr F3 (by simp) (by decide)) ?_ ?_ ?_ z3 nf.2.2 (by omega) sg)
      · rw [F3.vI (by decide)]; exact e26
      · rw [F3.vI (by decide)]; exact e27
      · rw [F3.vI (by decide)]; exact e28
      · rw [F3.rI (by simp)]; exact e149
      · rw [F3.vI (by decide), F3.vI (by decide)]; exact e20
      · rw [E3, if_neg (by omega)]; exact a0
      · rw [E3, if_pos rfl]
      · intro i hi; rw [E3, if_neg (by omega)]; exact al i hi
  rw [if_neg u30] at KM
  by_cases u31 : u = 31
  · -- a loop begins
    rw [if_pos u31] at KM
    refine on82 0 0 (by rw [if_neg (by omega)]) (by rw [if_neg u26]) (fun y4 => d244_104 g1 ?_) _ _ _ _
    rw [g5.2.2]
    try simp (disch := omega) only [n_lit, n_m, n_add, n_mul, n_div, n_mod, n_cl, n_lt, n_le, n_eq, n_in, n_eqm, n_meq, n_mlt, n_ltm, n_mle, n_lem, not_true_eq_false, not_false_eq_true, true_implies, false_implies, true_and, and_true, Nat.not_lt_zero, Nat.zero_le]
    refine ⟨fun y => absurd u31 y, fun _ => ⟨fun y2 => ?_, fun y2 => c221g g1 g3 g4.1 (x := 7) (by omega) (fun h2 L2 f2 b2 => ⟨_, rfl, d244_124 L2 ⟨rfl, ?_⟩⟩)⟩⟩
    rotate_left
    · rw [if_pos (Classical.not_not.mp y2)] at KM
      exact KM h2 L2 f2.rq b2
    rw [if_neg y2] at KM
    refine note 0 0 (c + 1) (by rw [if_neg u32]) (fun h2 L2 F2 e26 e27 e28 e149 e20 x2 a0 a1 al zk => d244_185 L2 ?_) _
    refine ⟨fun _ => d244_240 L2 ?_, fun y => absurd rfl y⟩
    try simp (disch := omega) only [n_lit, n_m, n_add, n_mul, n_div, n_mod, n_cl, n_lt, n_le, n_eq, n_in, n_eqm, n_meq, n_mlt, n_ltm, n_mle, n_lem, not_true_eq_false, not_false_eq_true, true_implies, false_implies, true_and, and_true, Nat.not_lt_zero, Nat.zero_le]
    refine ⟨fun y => by omega, fun _ => ⟨fun y => absurd u31 y, fun _ => num 0 0 h2 L2 F2 e20 x2 zk (fun f ef f0 h3 L3 F3 b3 => ?_) (fun nf h3 L3 F3 E3 z3 => d244_306 L3 ?_)⟩⟩
    · rw [e1k, if_neg (by omega)] at KM
      exact KM h3 L3 F3 (by rw [← ef]; exact b3)
    · rw [e1k, if_pos nf, e2k] at KM
      have nf := o_nf_0 nf
      rw [F3.vI (p := 138) (c := 28) (by decide), F3.vI (p := 138) (c := 26) (by decide), e28, e26]
      try simp (disch := omega) only [n_lit, n_m, n_add, n_mul, n_div, n_mod, n_cl, n_lt, n_le, n_eq, n_in, n_eqm, n_meq, n_mlt, n_ltm, n_mle, n_lem, not_true_eq_false, not_false_eq_true, true_implies, false_implies, true_and, and_true, Nat.not_lt_zero, Nat.zero_le]
      refine ⟨fun y => absurd u31 y, fun _ => ⟨by omega, ?_⟩⟩
      rw [show i_n (N + 1) - i_n 1 = i_n N from n_sub (a := N + 1) (b := 1) (by omega)]
      refine w_siI (R := fun y => i_P i_MT i_AT L xs 244 327 [some (.ref 138), some (.int (i_n u)), some (.int (i_n 0)), some (.int (i_n 0)), some (.int (i_n (3 * N)))] [] y 0 0 Q) L3 L3.a149 (fun h4 L4 F4 E4 => d244_327 L4 ?_)
      rw [F4.vI (by simp), F3.vI (by decide), e28, show i_n d + 1 = i_n (d + 1) from n_add d 1]
      refine w_sfI (R := fun y => i_P i_MT i_AT L xs 244 337 [some (.ref 138), some (.int (i_n u)), some (.int (i_n 0)), some (.int (i_n 0)), some (.int (i_n (3 * N)))] [] y 0 0 Q) L4 L4.q138_28 (fun h5 L5 F5 E5 => d244_337 L5 ?_)
      try simp (disch := omega) only [n_lit, n_m, n_add, n_mul, n_div, n_mod, n_cl, n_lt, n_le, n_eq, n_in, n_eqm, n_meq, n_mlt, n_ltm, n_mle, n_lem, not_true_eq_false, not_false_eq_true, true_implies, false_implies, true_and, and_true, Nat.not_lt_zero, Nat.zero_le]
      refine ⟨fun _ => d244_371 L5 ?_, fun y => absurd u32 y⟩
      have F45 : i_Fr [149] [(138, 28)] h3 h5 := (F4.mono (fun _ y => y) (fun _ y => absurd y (by simp))).trans (F5.mono (fun _ y => absurd y (by simp)) (fun _ y => y))
      refine KM (N + 1) (o_nt V N (u, o_tkv T n (o_tke T n k), 0)) (o_su op d N) h5 (F2.trans ((F3.mono (by simp) (by decide)).trans (F45.mono (by simp) (by decide)))) ⟨L5, (x2.fr F3 (by simp) (by decide)).fr F45 (by simp) (by simp), z3.fr F45 (by decide), ?_, ⟨?_, ?_, E5⟩, ?_, fun j hj => ?_, fun i hi => ?_, by omega⟩
      · rw [F45.vI (by simp), F45.vI (by simp), F3.vI (by decide), F3.vI (by decide)]; exact e20
      · rw [F45.vI (by simp), F3.vI (by decide)]; exact e26
      · rw [F45.vI (by simp), F3.vI (by decide)]; exact e27
      · refine g6.nt (fun i hi => ?_) ?_ ?_ (fun y => absurd y u32) (by dsimp only; omega) nf.2.2 (by dsimp only; omega)
        · rw [F45.rI (by simp), E3, if_neg (by omega)]; exact al i hi
        · rw [F45.rI (by simp), E3, if_neg (by omega)]; exact a0
        · rw [F45.rI (by simp), E3, if_pos rfl]
      · rw [F5.rI (by simp), E4]
        by_cases y : j = d
        · subst y
          rw [if_pos rfl, o_su_t, o_nt_t, o_su_t]
          exact ⟨rfl, by omega, u31, rfl⟩
        · have oj := g7 j (by omega)
          rw [if_neg y, o_su_f y, o_su_f (by omega), F3.rI (by simp), e149, o_nt_f (by omega)]
          exact ⟨oj.1, by omega, oj.2.2⟩
      · by_cases y : i = d + 1
        · subst y
          rw [o_sl_t]
          unfold o_lo o_hi
          rw [if_neg (by omega), if_neg (by omega), Nat.add_sub_cancel, o_su_t]
          exact o_sg.nil
        · rw [o_sl_f y]
          have si := g8 i (by omega)
          have elo : o_lo (o_su op d N) i = o_lo op i := by
            unfold o_lo
            split
            · rfl
            · rw [o_su_f (by omega)]
          rw [elo]
          unfold o_hi at si ⊢
          rw [if_pos (by omega)]
          by_cases y2 : i = d
          · subst y2
            rw [if_neg (by omega)] at si
            rw [o_su_t]
            exact si.ext (fun x _ h2 => o_nt_f (by omega))
          · rw [if_pos (by omega)] at si
            rw [o_su_f y2]
            have oj := g7 i (by omega)
            exact si.ext (fun x _ h2 => o_nt_f (by omega))
  rw [if_neg u31] at KM
  have uw : u = 24 ∨ u = 25 ∨ u = 29 := by omega
  -- a way
  refine on82 1 0 (by rw [if_pos uw]) (by rw [if_neg u26]) (fun y4 => d244_104 g1 ?_) _ _ _ _
  try simp (disch := omega) only [n_lit, n_m, n_add, n_mul, n_div, n_mod, n_cl, n_lt, n_le, n_eq, n_in, n_eqm, n_meq, n_mlt, n_ltm, n_mle, n_lem, not_true_eq_false, not_false_eq_true, true_implies, false_implies, true_and, and_true, Nat.not_lt_zero, Nat.zero_le]
  refine ⟨fun _ => note 1 0 (c + 1) (by rw [if_neg u32]) (fun h2 L2 F2 e26 e27 e28 e149 e20 x2 a0 a1 al zk => d244_185 L2 ?_) _, fun y => absurd u31 y⟩
  refine ⟨fun y => absurd y (by decide), fun _ => c220 L2 x2 zk l1.2.2 ⟨_, rfl, ?_⟩⟩
  try simp (disch := omega) only [n_lit, n_m, n_add, n_mul, n_div, n_mod, n_cl, n_lt, n_le, n_eq, n_in, n_eqm, n_meq, n_mlt, n_ltm, n_mle, n_lem, not_true_eq_false, not_false_eq_true, true_implies, false_implies, true_and, and_true, Nat.not_lt_zero, Nat.zero_le]
  refine d244_203 L2 ⟨300, aI h2 148, L2.a148, (n_in (by omega)).mpr (by omega), ?_⟩
  rw [n_cl (by omega)]
  refine w_siI (R := fun y => i_P i_MT i_AT L xs 244 204 [some (.ref 138), some (.int (i_n u)), some (.int (i_n 1)), some (.int (i_n 0)), some (.int (i_n (3 * N)))] [] y 0 0 Q) L2 L2.a148 (fun h3 L3 F3 E3 => d244_204 L3 ?_)
  have a13 : aI h3 148 (3 * N + 1) = o_rix (o_wy T n (o_tke T n k)) := by rw [E3, if_pos rfl]
  try simp (disch := omega) only [n_lit, n_m, n_add, n_mul, n_div, n_mod, n_cl, n_lt, n_le, n_eq, n_in, n_eqm, n_meq, n_mlt, n_ltm, n_mle, n_lem, not_true_eq_false, not_false_eq_true, true_implies, false_implies, true_and, and_true, Nat.not_lt_zero, Nat.zero_le]
  rw [a13]
  have zk3 : i_RK h3 T n (o_tke T n k) := zk.fr F3 (fun _ _ => by simp)
  have up3 : i_RP h2 h3 := F3.mono (by simp) (fun _ y => absurd y (by simp))
  have bad : ¬ o_wy T n (o_tke T n k) < 8 → i_P i_MT i_AT L xs 244 230 [some (.ref 138), some (.int (i_n u)), some (.int (i_n 1)), some (.int (i_n 0)), some (.int (i_n (3 * N)))] [] h3 0 0 Q := fun nw => by
    rw [e1k, if_neg nw] at KM
    exact d244_230 L3 (c221b L3 zk3 (by rw [F3.vI (by simp)]; exact e20.1) (fun h4 L4 f4 b4 => ⟨_, rfl, d244_235 L4 ⟨rfl, KM h4 L4 (F2.trans (up3.trans f4.rq)) b4⟩⟩))
  refine ⟨by omega, fun q => bad (fun y => (o_ri_way.mpr y).1 q), fun q => ⟨by omega, fun q2 => ?_, fun q2 => bad (fun y => q2 (o_ri_way.mpr y).2)⟩⟩
  have hw := o_ri_way.mp ⟨q, q2⟩
  rw [o_ri_w8 hw] at a13
  rw [e1k, if_pos hw, e2k] at KM
  refine c218n L3 (x2.fr F3 (by simp) (by simp)) l1.2.2 zk3 (fun h4 L4 F4 z4 => ⟨rfl, d244_240 L4 ?_⟩)
  try simp (disch := omega) only [n_lit, n_m, n_add, n_mul, n_div, n_mod, n_cl, n_lt, n_le, n_eq, n_in, n_eqm, n_meq, n_mlt, n_ltm, n_mle, n_lem, not_true_eq_false, not_false_eq_true, true_implies, false_implies, true_and, and_true, Nat.not_lt_zero, Nat.zero_le]
  refine ⟨fun y => absurd y u30, fun _ => ⟨fun _ => out 1 0 u31 u32 h4 L4 ?_, fun y => absurd (Classical.not_not.mp y) u31⟩⟩
  have F34 : i_Fr [148] rkF h2 h4 := (F3.mono (fun _ y => y) (fun _ y => absurd y (by simp))).trans (F4.mono (fun _ y => absurd y (by simp)) (fun _ y => y))
  have up4 : i_RP h h4 := F2.trans (F34.mono (by simp) (by decide))
  have sg := o_sg.move (V := o_nt V N (u, o_wy T n (o_tke T n k), 0)) (i := N) (by rw [o_nt_t]; exact u32) (by rw [o_nt_t]; exact u31) (by rw [o_nt_t]; exact u30)
  rw [o_nt_t] at sg
  dsimp only at sg
  rw [o_kx_kd uw] at sg
  refine KM (N + 1) _ op h4 up4 (lay _ _ _ h4 h4 up4 L4 ?_ ?_ ?_ ?_ ?_ (x2.fr F34 (by simp) (by decide)) ?_ ?_ ?_ z4 (by omega) u31 sg)
  · rw [F34.vI (by decide)]; exact e26
  · rw [F34.vI (by decide)]; exact e27
  · rw [F34.vI (by decide)]; exact e28
  · rw [F34.rI (by simp)]; exact e149
  · rw [F34.vI (by decide), F34.vI (by decide)]; exact e20
  · rw [F4.rI (by simp), E3, if_neg (by omega)]; exact a0
  · rw [F4.rI (by simp)]; exact a13
  · intro i hi; rw [F4.rI (by simp), E3, if_neg (by omega)]; exact al i hi
end
