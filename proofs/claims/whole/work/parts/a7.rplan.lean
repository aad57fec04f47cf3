/-! THE REFERENCE READS A PLAN -/
section
variable {L : Nat} {xs : Nat → Int32} {h h0 : iH} {Q : Option Value → iH → Prop} {a : Nat → Nat} {t : Nat} {n m k c d p pl N : Nat} {T s z op : Nat → Nat} {A : Nat → List Nat} {V : Nat → Nat × Nat × Nat}
set_option maxRecDepth 20000
abbrev lnF : List (Nat × Nat) := (138, 21) :: rpF
def i_LF (h h2 : iH) : Prop := i_Fr [139, 148, 149, 150] lnF h h2 ∧ ∀ i, (i < 2914 ∨ 3394 ≤ i) → aI h2 139 i = aI h 139 i
theorem i_LF.refl : i_LF h h := ⟨i_Fr.refl, fun _ _ => rfl⟩
theorem i_LF.trans {h1 h2 : iH} (x : i_LF h h1) (y : i_LF h1 h2) : i_LF h h2 := ⟨x.1.trans y.1, fun i hi => (y.2 i hi).trans (x.2 i hi)⟩
theorem i_LF.of {h2 : iH} {B : List Nat} {F : List (Nat × Nat)} (f : i_Fr B F h h2) (h9 : 139 ∉ B) (hB : ∀ q, q ∈ B → q ∈ [139, 148, 149, 150]) (hF : ∀ q, q ∈ F → q ∈ lnF) : i_LF h h2 := ⟨f.mono hB hF, fun i _ => by rw [f.rI h9]⟩
def i_LNr (n k : Nat) (T : Nat → Nat) (c pl : Nat) (s : Nat → Nat) (h : iH) : Prop := i_Lay h ∧ i_TXr h n T ∧ i_RK h T n k ∧ (fI h 138 20 = 0 ∧ fI h 138 19 = i_m) ∧ fI h 138 21 = i_n pl ∧ fI h 138 27 = i_n c ∧ ∀ i, i < 480 → aI h 139 (2914 + i) = i_n (s i)
def i_LQ (n : Nat) (T : Nat → Nat) (h : iH) (Q : Option Value → iH → Prop) (r : o_L) : Prop := match r with
  | .inl (f, q) => ∀ h2, i_Lay h2 → i_LF h h2 → i_RBL h2 f q → Q (some (.int 0)) h2
  | .inr (k2, c2, pl2, s2) => ∀ h2, i_LF h h2 → i_LNr n k2 T c2 pl2 s2 h2 → Q (some (.int 1)) h2
def i_MR (n : Nat) (T : Nat → Nat) (h : iH) (Q : Option Value → iH → Prop) (pl : Nat) (s : Nat → Nat) (p : Nat) (r : o_Mv) : Prop := match r with
  | .inl (f, q) => ∀ h2, i_Lay h2 → i_LF h h2 → i_RBL h2 f q → Q (some (.int 0)) h2
  | .inr (k2, c2, l) => ∀ h2, i_LF h h2 → i_LNr n (o_tke T n k2) T c2 pl (o_lay s p l) h2 → Q (some (.int 1)) h2
set_option maxHeartbeats 2000000 in
theorem c246m (hp : p < 8) (e21 : fI h 138 21 = i_n pl) (es : ∀ i, i < 480 → aI h 139 (2914 + i) = i_n (s i)) (z0 : ∀ i, i < 60 → s (60 * p + i) = 0) (B : i_LF h0 h) : ∀ f k c d (A : Nat → List Nat) (z : Nat → Nat), n - k < f → k ≤ n → c ≤ 40 → d ≤ 2 → (∀ i, i ≤ d → ∀ x, x ∈ A i → x < 40) → (∀ j, 1 ≤ j → j ≤ d → 1 ≤ z j ∧ z j ≤ 60) → ∀ N V op h2, i_RM n k T c d A z N V op h2 → i_RP h h2 → i_MR n T h0 Q pl s p (p_mv T n f k c d A z) → i_P i_MT i_AT L xs 246 78 [some (.ref 138), some (.int (i_n p)), some (.int (i_n 1))] [] h2 0 0 Q := by
  intro f
  induction f with
  | zero => intro k c d A z h; omega
  | succ f ih =>
    intro k c d A z hf hk hc hd hA hz N V op h2 g F K
    obtain ⟨g1, g2, g3, g4, g5, g6, g7, g8, g9⟩ := id g
    have k4 := o_tkk4 (T := T) (n := n) (k := k)
    have rl := o_rk_le (show o_tkk T n k ≤ 5 by omega)
    have l1 := o_tk_le (T := T) hk
    have e14 : fI h2 138 14 = 2 ↔ o_tkk T n k = 2 := by
      rw [g3.1, show (2 : Int32) = i_n 2 from rfl, n_eq (by omega) (by omega)]
      exact o_rk_2 k4
    have out : o_tkk T n k ≠ 2 → i_P i_MT i_AT L xs 246 107 [some (.ref 138), some (.int (i_n p)), some (.int (i_n 1))] [] h2 0 0 Q := fun q => by
      rw [p_mv] at K
      have nm : ¬ o_mvw (o_wy T n k) := fun y => q (o_wy_kind (by unfold o_mvw at y; omega))
      have n32 : ¬ (o_wy T n k = 32 ∧ 0 < d) := fun y => q (o_wy_kind (by omega))
      have pm : p_m1 T n k c d A z = .inl (o_bad T n k, o_tks T n k) := by unfold p_m1; rw [if_pos nm]
      refine d246_107 g1 ⟨fun _ => ?_, fun y => absurd (show ¬ i_n 1 = (0 : Int32) by decide) y⟩
      rw [g5.2.2]
      try simp (disch := omega) only [n_lit, n_m, n_add, n_mul, n_div, n_mod, n_cl, n_lt, n_le, n_eq, n_in, n_eqm, n_meq, n_mlt, n_ltm, n_mle, n_lem, not_true_eq_false, not_false_eq_true, true_implies, false_implies, true_and, and_true, Nat.not_lt_zero, Nat.zero_le]
      refine ⟨fun y => ?_, fun y => ?_⟩
      · have d0 : d = 0 := by omega
        subst d0
        have sg0 := g8 0 (Nat.le_refl _)
        unfold o_lo o_hi at sg0
        rw [if_pos rfl, if_neg (by omega)] at sg0
        refine c245 g1 hp (by omega) g5.1 g6 (fun x hx => ?_) sg0 (fun h3 L3 F3 E3 => ⟨rfl, d246_131 L3 ?_⟩)
        · rw [F.rI (by simp), show 2914 + 60 * p + x = 2914 + (60 * p + x) by omega, es _ (by omega), z0 x hx]
        have lf3 : i_LF h0 h3 := B.trans ⟨(F.mono (by simp) (by decide)).trans (F3.mono (by simp) (fun _ y => absurd y (by simp))), fun i hi => by rw [E3, if_neg (by omega), F.rI (by simp)]⟩
        refine c223 L3 (g2.fr F3 (by simp) (by simp)) hk (g3.fr F3 (fun _ _ => by simp)) (by rw [F3.vI (by simp)]; exact g4.1) (fun e3 h4 L4 F4 z4 => ⟨_, rfl, d246_137 L4 ⟨rfl, ?_⟩⟩) (fun e3 h4 L4 F4 b4 => ⟨_, rfl, d246_137 L4 ⟨rfl, ?_⟩⟩)
        · rw [if_pos ⟨e3, rfl⟩] at K
          refine K h4 (lf3.trans (.of F4 (by simp) (by simp) (by decide))) ⟨L4, (g2.fr F3 (by simp) (by simp)).fr F4 (by simp) (by decide), z4, ?_, ?_, ?_, fun i hi => ?_⟩
          · rw [F4.vI (by decide), F4.vI (by decide), F3.vI (by simp), F3.vI (by simp)]; exact g4
          · rw [F4.vI (by decide), F3.vI (by simp), F.vI (by decide)]; exact e21
          · rw [F4.vI (by decide), F3.vI (by simp)]; exact g5.2.1
          · rw [F4.rI (by simp), E3]
            unfold o_lay
            by_cases u : 60 * p ≤ i ∧ i < 60 * p + 60
            · rw [if_pos ⟨by omega, by omega⟩, if_pos u, show 2914 + i - (2914 + 60 * p) = i - 60 * p by omega]
            · rw [if_neg (by omega), if_neg u, F.rI (by simp)]; exact es i hi
        · rw [if_neg (fun y => e3 y.1), if_neg n32, pm] at K
          exact K h4 L4 (lf3.trans (.of F4 (by simp) (by simp) (by decide))) b4
      · rw [if_neg (fun y2 => by omega), if_neg n32, pm] at K
        refine c221b g1 g3 g4.1 (fun h3 L3 F3 b3 => ⟨_, rfl, d246_125 L3 ⟨rfl, ?_⟩⟩)
        exact K h3 L3 (B.trans (.of (F.trans F3.rq) (by simp) (by simp) (by decide))) b3
    refine d246_78 g1 ⟨fun y => absurd y (by decide), fun _ => c219 g1 g3 ⟨_, rfl, d246_88 g1 ?_⟩⟩
    rw [i_bo_0, e14]
    refine ⟨fun q => out (by have := Classical.not_not.mp q; omega), fun q => ⟨fun q2 => out q2, fun q2 => ?_⟩⟩
    have q2 := Classical.not_not.mp q2
    rw [p_mv, if_neg (by omega)] at K
    have on := o_tk_on (T := T) hk (by omega)
    refine c244 g hk hc hd hz (fun e hd0 N2 V2 op2 h3 F3 x3 => ⟨_, rfl, d246_103 x3.1 ?_⟩) (fun nk => ?_)
    · rw [if_pos ⟨e, hd0⟩] at K
      refine ih _ _ _ _ _ (by omega) l1.2.2 hc (by omega) (fun i hi x hx => ?_) (fun j h1 h2 => hz j h1 (by omega)) N2 V2 op2 h3 x3 (F.trans F3) K
      by_cases y : i = d - 1
      · subst y
        rw [o_sl_t, List.mem_append] at hx
        rcases hx with hx | hx
        · exact hA _ (by omega) x hx
        · exact hA d (Nat.le_refl _) x (o_rep_mem _ hx)
      · rw [o_sl_f y] at hx
        exact hA i (by omega) x hx
    · rw [if_neg nk] at K
      have gd := p_m1_g (T := T) hk hc hd hA hz
      cases hm : p_m1 T n k c d A z with
      | inl r =>
        obtain ⟨f3, p3⟩ := r
        rw [hm] at K
        exact fun h3 L3 F3 b3 => ⟨_, rfl, d246_103 L3 (d246_78 L3 ⟨fun _ => d246_107 L3 ⟨fun y => absurd rfl y, fun _ => K h3 L3 (B.trans (.of (F.trans F3) (by simp) (by simp) (by decide))) b3⟩, fun y => absurd rfl y⟩)⟩
      | inr r =>
        obtain ⟨k2, c2, d2, A2, z2⟩ := r
        rw [hm] at K gd
        obtain ⟨y1, y2, y3, y4, y5, y6, y7⟩ := gd
        exact fun N2 V2 op2 h3 F3 x3 => ⟨_, rfl, d246_103 x3.1 (ih _ _ _ _ _ (by omega) y2 y4 y5 y6 y7 N2 V2 op2 h3 x3 (F.trans F3) K)⟩
set_option maxHeartbeats 2000000 in
theorem c246 (g : i_LNr n k T c pl s h) (e5 : aI h 139 5 = i_n (a 5)) (nr : i_NR a 0 h) (nw : o_NW a) (h5 : a 5 ≤ 8) (hk : k ≤ n) (hn : n ≤ 300) (hc : c ≤ 40) (hpl : pl < 256) (hz : ∀ p, p < 8 → pl.testBit p = false → ∀ i, i < 60 → s (60 * p + i) = 0) (K : i_LQ n T h Q (p_line T n a k c pl s)) : i_C i_MT i_AT L xs 246 [.ref 138] h Q := by
  obtain ⟨g1, g2, g3, g4, g5, g6, g7⟩ := id g
  have l1 := o_tk_le (T := T) hk
  have l2 := o_tk_le (T := T) l1.2.2
  refine e246 (d246_0 g1 ?_)
  try simp (disch := omega) only [n_lit, n_m, n_add, n_mul, n_div, n_mod, n_cl, n_lt, n_le, n_eq, n_in, n_eqm, n_meq, n_mlt, n_ltm, n_mle, n_lem, not_true_eq_false, not_false_eq_true, true_implies, false_implies, true_and, and_true, Nat.not_lt_zero, Nat.zero_le, e5]
  have fail : ∀ f3 p3, p_line T n a k c pl s = .inl (f3, p3) → ∀ h3, i_Lay h3 → i_Fr [] flF h h3 → i_RBL h3 f3 p3 → Q (some (.int 0)) h3 := fun f3 p3 he h3 L3 F3 b3 => by
    rw [he] at K
    exact K h3 L3 (.of F3 (by simp) (by simp) (by decide)) b3
  refine c239 (b := 0) g1 g2 g3 hk g4.1 h5 (by omega) nr nw (fun q p ef => ⟨_, rfl, d246_11 g1 ?_⟩) (fun q h3 L3 F3 b3 => ⟨_, rfl, d246_11 L3 ⟨fun y => absurd rfl y, fun _ => fail _ _ (by unfold p_line; rw [if_neg q]) h3 L3 F3 b3⟩⟩) (fun q ef h3 L3 F3 b3 => ⟨_, rfl, d246_11 L3 ⟨fun y => absurd rfl y, fun _ => fail _ _ (by unfold p_line; rw [if_pos q, ef]) h3 L3 F3 b3⟩⟩)
  have hp := o_fd_lt ef
  have on := o_tk_on (T := T) hk (by have := q.1; omega)
  rw [g5, show (31 : Int32) = i_n 31 from rfl, show (1 : Int32) = i_n 1 from rfl, n_shr (by omega) (by omega), n_and, n_shl 1 (by omega), n_or, n_eq (n_bitlt _ _) (by omega), n_bit1]
  refine ⟨fun _ => ⟨fun q2 => ?_, fun q2 => c221g g1 g3 g4.1 (x := 5) (by have := q.1; omega) (fun h3 L3 F3 b3 => ⟨_, rfl, d246_36 L3 ⟨rfl, fail _ _ ?_ h3 L3 F3 b3⟩⟩)⟩, fun y => ?_⟩
  rotate_left
  · unfold p_line
    rw [if_pos q, ef]
    show (if pl.testBit p = true then _ else _) = _
    rw [if_pos (Classical.not_not.mp q2)]
  · have y : i_n p = i_m := Classical.not_not.mp y
    rw [n_eqm (by omega)] at y
    exact y.elim
  have q2 : pl.testBit p = false := by simpa using q2
  have le : p_line T n a k c pl s = (if o_wy T n (o_ke T n 1 k) = 28 then (match p_mv T n 300 (o_ke T n 2 k) c 0 (fun _ => []) (fun _ => 0) with
    | .inl e => .inl e
    | .inr (k2, c2, l) => .inr (o_tke T n k2, c2, pl ||| (1 <<< p), o_lay s p l))
    else .inl (o_bad T n (o_ke T n 1 k), o_tks T n (o_ke T n 1 k))) := by
    unfold p_line
    rw [if_pos q, ef]
    show (if pl.testBit p = true then _ else _) = _
    rw [if_neg (by rw [q2]; exact Bool.false_ne_true)]
    rfl
  clear fail
  rw [le] at K
  refine w_sfI (R := fun y => i_P i_MT i_AT L xs 246 49 [some (.ref 138), some (.int (i_n p)), none] [] y 0 0 Q) g1 g1.q138_21 (fun h1 L1 F1 E1 => d246_49 L1 ?_)
  have x1 := g2.fr F1 (by simp) (by simp)
  refine c218n L1 x1 hk (g3.fr F1 (by decide)) (fun h2 L2 F2 z2 => ⟨rfl, d246_53 L2 ?_⟩)
  have x2 := x1.fr F2 (by simp) (by decide)
  have e1k : o_ke T n 1 k = o_tke T n k := rfl
  rw [e1k] at K
  have lf2 : i_LF h h2 := (i_LF.of F1 (by simp) (by simp) (by decide)).trans (.of F2 (by simp) (by simp) (by decide))
  refine c224 (r := 28) (w := 28) L2 x2 l1.2.2 z2 ?_ (by omega) rfl (fun e h3 L3 F3 z3 => ⟨_, rfl, d246_61 L3 ⟨fun _ => ?_, fun y => absurd (by decide) y⟩⟩) (fun e h3 L3 F3 b3 => ⟨_, rfl, d246_61 L3 ⟨fun y => absurd rfl y, fun _ => ?_⟩⟩)
  · rw [F2.vI (by decide), F1.vI (by simp)]; exact g4.1
  rotate_left
  · rw [if_neg e] at K
    exact K h3 L3 (lf2.trans (.of F3 (by simp) (by simp) (by decide))) b3
  rw [if_pos e] at K
  have on2 := o_tk_on (T := T) (k := o_tke T n k) l1.2.2 (by have := o_wy_kind (T := T) (n := n) (k := o_tke T n k) (show o_wy T n (o_tke T n k) ≠ 99 by omega); omega)
  refine w_sfI (R := fun y => i_P i_MT i_AT L xs 246 71 [some (.ref 138), some (.int (i_n p)), none] [] y 0 0 Q) L3 L3.q138_26 (fun h4 L4 F4 E4 => d246_71 L4 ?_)
  refine w_sfI (R := fun y => i_P i_MT i_AT L xs 246 76 [some (.ref 138), some (.int (i_n p)), none] [] y 0 0 Q) L4 L4.q138_28 (fun h5 L5 F5 E5 => d246_76 L5 ?_)
  have F35 : i_Fr [] [(138, 26), (138, 28)] h3 h5 := (F4.mono (fun _ y => y) (by decide)).trans (F5.mono (fun _ y => y) (by decide))
  have F15 : i_Fr [] [(138, 14), (138, 15), (138, 16), (138, 17), (138, 26), (138, 28)] h1 h5 := (F2.mono (fun _ y => y) (by decide)).trans ((F3.mono (fun _ y => y) (by decide)).trans (F35.mono (fun _ y => y) (by decide)))
  have lf5 : i_LF h h5 := (i_LF.of F1 (by simp) (by simp) (by decide)).trans (.of F15 (by simp) (by simp) (by decide))
  refine c246m (pl := pl ||| (1 <<< p)) (s := s) (by omega) ?_ (fun i hi => ?_) (hz p (by omega) q2) lf5 300 (o_ke T n 2 k) c 0 (fun _ => []) (fun _ => 0) ?_ l2.2.2 hc (by omega) (fun i _ x hx => by cases hx) (fun j h1 h2 => by omega) 0 (fun _ => (0, 0, 0)) (fun _ => 0) h5 ⟨L5, x1.fr F15 (by simp) (by decide), z3.fr F35 (by decide), ?_, ⟨?_, ?_, E5⟩, fun j hj => absurd hj (by omega), fun j hj => absurd hj (by omega), fun i hi => ?_, by omega⟩ i_Fr.refl ?_
  · rw [F15.vI (by decide)]; exact E1
  · rw [F15.rI (by simp), F1.rI (by simp)]; exact g7 i hi
  · show n - o_tke T n (o_tke T n k) < 300
    omega
  · rw [F15.vI (by decide), F15.vI (by decide), F1.vI (by simp), F1.vI (by simp)]; exact g4
  · rw [F5.vI (by simp)]; exact E4
  · rw [F15.vI (by decide), F1.vI (by simp)]; exact g6
  · have i0 : i = 0 := by omega
    subst i0
    exact o_sg.nil
  · cases hm : p_mv T n 300 (o_ke T n 2 k) c 0 (fun _ => []) (fun _ => 0) with
    | inl r => obtain ⟨f3, p3⟩ := r; rw [hm] at K; exact K
    | inr r => obtain ⟨k3, c3, l3⟩ := r; rw [hm] at K; exact K
end
