/-! PLAN, the class -/
section
variable {L : Nat} {xs : Nat → Int32} {h : iH} {Q : Option Value → iH → Prop} {a : Nat → Nat} {t : Nat} {n m k c d p pl : Nat} {T s z : Nat → Nat} {A : Nat → List Nat} {X : List Nat}
set_option maxRecDepth 20000
abbrev plF8 : List (Nat × Nat) := (45, 8) :: plF
theorem i_Fr.q8 {h2 : iH} (f : i_Fr plA plF h h2) : i_Fr plA plF8 h h2 := f.mono (fun _ z => z) (fun _ z => List.mem_cons_of_mem _ z)
/-- the people of the town, as a plan's text needs them -/
def i_PP (a : Nat → Nat) (t : Nat) (h : iH) : Prop := fI h (t + 7) 0 = i_n (a 5) ∧ i_NC a t h
theorem i_PP.fr {h2 : iH} {B : List Nat} {F : List (Nat × Nat)} (x : i_PP a t h) (f : i_Fr B F h h2) (hA : t + 8 ∉ B) (hF : (t + 7, 0) ∉ F) : i_PP a t h2 := by
  refine ⟨?_, x.2.fr f hA⟩
  rw [f.vI hF]; exact x.1
theorem i_PP.on {h2 : iH} (x : i_PP a t h) (hT : i_T2 t) (f : i_Fr plA plF8 h h2) : i_PP a t h2 := by
  have ht : t = 14 ∨ t = 29 := hT
  exact x.fr f (by simp only [List.mem_cons, List.not_mem_nil, or_false]; omega) (by simp only [List.mem_cons, List.not_mem_nil, or_false, Prod.mk.injEq]; omega)
/-- between the lines of a plan -/
def i_LN (n k : Nat) (T : Nat → Nat) (c pl : Nat) (s : Nat → Nat) (h : iH) : Prop := i_Lay h ∧ i_TX h n T ∧ fI h 10 5 = i_n k ∧ fI h 45 2 = i_n c ∧ fI h 45 8 = i_n pl ∧ ∀ i, i < 480 → aI h 46 i = i_n (s i)
set_option maxHeartbeats 1000000 in
theorem c40 (g : i_LN n (o_ke T n 1 k) T c pl s h) (z0 : i_TK h T n k) (hT : i_T2 t) (pp : i_PP a t h) (h5 : a 5 ≤ 8) (nw : o_NW a) (hk : k ≤ n) (hpl : pl < 256) (hz : ∀ p, p < 8 → pl.testBit p = false → ∀ i, i < 60 → s (60 * p + i) = 0)
    (H1 : ∀ p, o_nm T n k → o_fnd a (o_tkc T n k) = some p → pl.testBit p = false → o_wy T n (o_ke T n 1 k) = 28 → ∀ h2, i_Fr plA plF8 h h2 → i_MV n (o_ke T n 2 k) T c 0 (fun _ => []) (fun _ => 0) s p h2 → fI h2 45 8 = i_n (pl ||| (1 <<< p)) → Q (some (.int 1)) h2)
    (H0 : ∀ f q, p_line T n a k c pl s = .inl (f, q) → ∀ h2, i_Lay h2 → i_Fr plA plF8 h h2 → i_BL h2 f q → Q (some (.int 0)) h2) : i_C i_MT i_AT L xs 40 [.ref 45, .ref (t + 7)] h Q := by
  have ht : t = 14 ∨ t = 29 := hT
  have l1 := o_ke_le (T := T) hk 1
  have cl := o_tkc_lt (T := T) (n := n) (k := k)
  have e1 : o_ke T n 1 k = o_tke T n k := rfl
  obtain ⟨g1, g2, g3, g4, g5, g6⟩ := g
  refine e40 (d40_0 g1 hT.T (c90 g1 z0 ⟨_, rfl, d40_7 g1 hT.T ?_⟩))
  rw [i_bo_0, Classical.not_not]
  refine ⟨fun q => ?_, fun q => c87 g1 z0 (fun h1 L1 f1 b1 => ⟨_, rfl, d40_17 L1 hT.T ⟨rfl, H0 _ _ (by unfold p_line; rw [if_neg q]) h1 L1 f1.tl.pl.q8 b1⟩⟩)⟩
  rw [z0.2.2.2.2.1]
  refine c34 g1 hT.T h5 pp.1 pp.2 nw cl ⟨_, rfl, d40_30 g1 hT.T ?_⟩
  refine w_sfI (R := fun y => i_P i_MT i_AT L xs 40 33 [some (.ref 45), some (.ref (t + 7))] [] y 0 0 Q) g1 g1.q45_6 (fun h1 L1 F1 E1 => d40_33 L1 hT.T ?_)
  have up1 : i_Fr plA plF8 h h1 := F1.mono (fun _ y => absurd y (by simp)) (fun q hq => by
    simp only [List.mem_cons, List.not_mem_nil, or_false] at hq
    subst hq
    simp)
  have z1 : i_TK h1 T n k := z0.fr F1 (by decide)
  rw [E1, F1.vI (by simp), g5]
  cases ef : o_fnd a (o_tkc T n k) with
  | none =>
    refine ⟨fun y => absurd rfl y, fun _ => c86 L1 z1 (x := 3) (fun h2 L2 f2 b2 => ⟨_, rfl, d40_49 L2 hT.T ⟨rfl, H0 _ _ (by unfold p_line; rw [if_pos q, ef]) h2 L2 (up1.trans f2.tl.pl.q8) b2⟩⟩)⟩
  | some p =>
    have hp := o_fd_lt ef
    rw [show o_op (some p) = i_n p from rfl]
    refine ⟨fun _ => ?_, fun y => ?_⟩
    rotate_left
    · have y : i_n p = i_m := Classical.not_not.mp y
      rw [n_eqm (by omega)] at y
      exact y.elim
    rw [ef] at E1
    have E1 : fI h1 45 6 = i_n p := E1
    rw [jj_n (by omega)]
    refine c193 (by omega) ⟨_, rfl, d40_62 L1 hT.T ?_⟩
    rw [jj_b (by omega), i_bo_0, E1, F1.vI (by simp), g5]
    refine ⟨fun q2 => ?_, fun q2 => c86 L1 z1 (x := 5) (fun h2 L2 f2 b2 => ⟨_, rfl, d40_73 L2 hT.T ⟨rfl, H0 _ _ (by unfold p_line; rw [if_pos q, ef]; show (if pl.testBit p = true then _ else _) = _; rw [if_pos (Classical.not_not.mp q2)]) h2 L2 (up1.trans f2.tl.pl.q8) b2⟩⟩)⟩
    have q2 : pl.testBit p = false := by simpa using q2
    rw [show (1 : Int32) = i_n 1 from rfl, show (31 : Int32) = i_n 31 from rfl, n_shl 1 (by omega), n_or]
    refine w_sfI (R := fun y => i_P i_MT i_AT L xs 40 89 [some (.ref 45), some (.ref (t + 7))] [] y 0 0 Q) L1 L1.q45_8 (fun h2 L2 F2 E2 => d40_89 L2 hT.T ?_)
    refine w_sfI (R := fun y => i_P i_MT i_AT L xs 40 94 [some (.ref 45), some (.ref (t + 7))] [] y 0 0 Q) L2 L2.q45_5 (fun h3 L3 F3 E3 => d40_94 L3 hT.T ?_)
    refine w_sfI (R := fun y => i_P i_MT i_AT L xs 40 99 [some (.ref 45), some (.ref (t + 7))] [] y 0 0 Q) L3 L3.q45_7 (fun h4 L4 F4 E4 => d40_99 L4 hT.T ?_)
    have F14 : i_Fr [] [(45, 5), (45, 6), (45, 7), (45, 8)] h h4 := (F1.mono (fun _ y => y) (by decide)).trans ((F2.mono (fun _ y => y) (by decide)).trans ((F3.mono (fun _ y => y) (by decide)).trans (F4.mono (fun _ y => y) (by decide))))
    have up4 : i_Fr plA plF8 h h4 := F14.mono (fun _ y => absurd y (by simp)) (by decide)
    have x4 : i_TX h4 n T := g2.fr F14 (fun _ _ => by simp) (by decide)
    have g54 : fI h4 10 5 = i_n (o_ke T n 1 k) := by rw [F14.vI (by decide)]; exact g3
    refine c91 (w := 28) L4 x4 l1.2 g54 (by omega) (fun e2 h5 L5 f5 z5 => ⟨_, rfl, d40_108 L5 hT.T ⟨rfl, H1 p q ef q2 e2 h5 (up4.trans f5.tt.pl.q8) ?_ ?_⟩⟩) (fun e2 h5 L5 f5 b5 => ⟨_, rfl, d40_108 L5 hT.T ⟨rfl, H0 _ _ (by unfold p_line; rw [if_pos q, ef]; show (if pl.testBit p = true then _ else _) = _; rw [if_neg (by rw [q2]; exact Bool.false_ne_true), if_neg e2]) h5 L5 (up4.trans f5.pl.q8) b5⟩⟩)
    · refine ⟨L5, x4.fr f5 (fun _ _ => by simp) (by decide), z5.1, ?_, ?_, ⟨?_, ?_, fun i hi => ?_⟩, fun j hj => absurd hj (by omega)⟩
      · rw [f5.vI (by decide), F14.vI (by decide)]; exact g4
      · rw [f5.vI (by decide), F4.vI (by decide)]; exact E3
      · rw [f5.vI (by decide), F4.vI (by decide), F3.vI (by decide), F2.vI (by decide)]; exact E1
      · rw [f5.vI (by decide)]; exact E4
      · rw [f5.rI (by simp), F14.rI (by simp), g6 i hi]
        unfold o_lay o_fl
        by_cases y : 60 * p ≤ i ∧ i < 60 * p + 60
        · rw [if_pos y]
          have := hz p (by omega) q2 (i - 60 * p) (by omega)
          rw [show 60 * p + (i - 60 * p) = i by omega] at this
          rw [this]
          rfl
        · rw [if_neg y]
    · rw [f5.vI (by decide), F4.vI (by decide), F3.vI (by decide)]; exact E2
def i_PE (h : iH) (Q : Option Value → iH → Prop) (r : o_P) : Prop := match r with
  | .inl (f, p) => ∀ h2, i_Lay h2 → i_Fr plA plF8 h h2 → i_BL h2 f p → Q (some (.int 0)) h2
  | .inr (c, s) => ∀ h2, i_Lay h2 → i_Fr plA plF8 h h2 → fI h2 45 2 = i_n c → (∀ i, i < 480 → aI h2 46 i = i_n (s i)) → Q (some (.int 1)) h2
set_option maxHeartbeats 1000000 in
theorem c39 (hL : i_Lay h) (hT : i_T2 t) (x : i_TX h n T) (hn : n ≤ 300) (e0 : fI h 10 5 = i_n 0) (pp : i_PP a t h) (h5 : a 5 ≤ 8) (nw : o_NW a) (K : i_PE h Q (p_plan T n a)) : i_C i_MT i_AT L xs 39 [.ref 45, .ref (t + 7)] h Q := by
  have ht : t = 14 ∨ t = 29 := hT
  have loop : ∀ f k c pl (s : Nat → Nat), f ≤ 300 → (n - k < f ∨ (k = 0 ∧ f = 300)) → k ≤ n → c ≤ 40 → pl < 256 → (∀ i, s i < 40) → (∀ p, p < 8 → pl.testBit p = false → ∀ i, i < 60 → s (60 * p + i) = 0) → ∀ h1, i_LN n k T c pl s h1 → i_Fr plA plF8 h h1 → i_PE h Q (p_lines T n a f k c pl s) → i_P i_MT i_AT L xs 39 20 [some (.ref 45), some (.ref (t + 7)), some (.int (i_n (300 - f)))] [] h1 0 0 Q := by
    intro f
    induction f with
    | zero => intro k c pl s _ h; omega
    | succ f ih =>
      intro k c pl s hf3 hf hk hc hpl hs hz h1 g1 f1 K
      have l1 := o_tk_le (T := T) hk
      have k5 := o_tkk_le (T := T) (n := n) (k := k)
      have gd := p_line_g (T := T) (a := a) h5 hn hk hc hpl hs hz
      rw [p_lines] at K
      refine d39_20 g1.1 hT.T ?_
      try simp (disch := omega) only [n_lit, n_m, n_add, n_mul, n_div, n_mod, n_cl, n_lt, n_le, n_eq, n_in, n_eqm, n_meq, n_mlt, n_ltm, n_mle, n_lem, not_true_eq_false, not_false_eq_true, true_implies, false_implies, true_and, and_true, Nat.not_lt_zero, Nat.zero_le]
      refine ⟨fun q => by omega, fun _ => c88 g1.1 g1.2.1 hk g1.2.2.1 (fun h2 L2 f2 z2 => ⟨rfl, d39_34 L2 hT.T ?_⟩)⟩
      have g2 : i_LN n (o_ke T n 1 k) T c pl s h2 := by
        obtain ⟨-, y2, y3, y4, y5, y6⟩ := g1
        refine ⟨L2, y2.fr f2 (fun _ _ => by simp) (by decide), z2.1, ?_, ?_, ?_⟩
        · rw [f2.vI (by decide)]; exact y4
        · rw [f2.vI (by decide)]; exact y5
        · rw [f2.rI (by simp)]; exact y6
      have f2 := f1.trans f2.tt.pl.q8
      have pp2 := pp.on hT f2
      rw [z2.2.1]
      try simp (disch := omega) only [n_lit, n_m, n_add, n_mul, n_div, n_mod, n_cl, n_lt, n_le, n_eq, n_in, n_eqm, n_meq, n_mlt, n_ltm, n_mle, n_lem, not_true_eq_false, not_false_eq_true, true_implies, false_implies, true_and, and_true, Nat.not_lt_zero, Nat.zero_le]
      refine ⟨fun q => ?_, fun q => ?_⟩
      · rw [if_neg q] at K
        have fail : ∀ f3 p3, p_line T n a k c pl s = .inl (f3, p3) → ∀ h3, i_Lay h3 → i_Fr plA plF8 h2 h3 → i_BL h3 f3 p3 → i_P i_MT i_AT L xs 39 61 [some (.ref 45), some (.ref (t + 7)), some (.int (i_n (300 - (f + 1))))] [] h3 0 0 Q := fun f3 p3 he h3 L3 F3 b3 => by
          rw [he] at K
          exact d39_61 L3 hT.T (K h3 L3 (f2.trans F3) b3)
        refine c40 g2 z2 hT pp2 h5 nw hk hpl hz (fun p q1 q2 q3 q4 h3 F3 g3 e8 => ⟨_, rfl, d39_51 g3.1 hT.T ⟨fun y => absurd y (by decide), fun _ => ?_⟩⟩) (fun f3 p3 he h3 L3 F3 b3 => ⟨_, rfl, d39_51 L3 hT.T ⟨fun _ => fail f3 p3 he h3 L3 F3 b3, fun y => absurd rfl y⟩⟩)
        have hp := o_fd_lt q2
        have on := o_tk_on (T := T) hk (by have := q1.1; omega)
        have l2 := o_ke_le (T := T) hk 2
        have l12 := o_tk_le (T := T) (k := o_ke T n 1 k) l1.2.2
        have e1 : o_ke T n 1 k = o_tke T n k := rfl
        have e2 : o_ke T n 2 k = o_tke T n (o_ke T n 1 k) := rfl
        have le : p_line T n a k c pl s = (match p_mv T n 300 (o_ke T n 2 k) c 0 (fun _ => []) (fun _ => 0) with
          | .inl e => .inl e
          | .inr (k2, c2, l) => .inr (o_tke T n k2, c2, pl ||| (1 <<< p), o_lay s p l)) := by
          unfold p_line
          rw [if_pos q1, q2]
          show (if pl.testBit p = true then _ else _) = _
          rw [if_neg (by rw [q3]; exact Bool.false_ne_true), if_pos q4]
          rfl
        refine c41 (by omega) hn g3 l2.2 (by omega) hc ?_
        cases hm : p_mv T n 300 (o_ke T n 2 k) c 0 (fun _ => []) (fun _ => 0) with
        | inl r =>
          obtain ⟨f3, p3⟩ := r
          rw [hm] at le
          exact fun h4 L4 F4 b4 => ⟨_, rfl, d39_58 L4 hT.T ⟨fun y => absurd rfl y, fun _ => fail f3 p3 le h4 L4 (F3.trans F4.q8) b4⟩⟩
        | inr r =>
          obtain ⟨k4, c4, l4⟩ := r
          rw [hm] at le
          rw [le] at gd K
          obtain ⟨y1, y2, y3, y4, y5, y6⟩ := gd
          intro h4 L4 F4 x4 e54 e24 sl4
          refine ⟨_, rfl, d39_58 L4 hT.T ⟨fun _ => ?_, fun y => absurd (by decide) y⟩⟩
          try simp (disch := omega) only [n_lit, n_m, n_add, n_mul, n_div, n_mod, n_cl, n_lt, n_le, n_eq, n_in, n_eqm, n_meq, n_mlt, n_ltm, n_mle, n_lem, not_true_eq_false, not_false_eq_true, true_implies, false_implies, true_and, and_true, Nat.not_lt_zero, Nat.zero_le]
          rw [show 300 - (f + 1) + 1 = 300 - f by omega]
          refine ih (o_tke T n k4) c4 _ _ (by omega) (by omega) y2 y3 y4 y5 y6 h4 ⟨L4, x4, e54, e24, ?_, sl4.2.2⟩ (f2.trans (F3.trans F4.q8)) K
          rw [F4.vI (by decide)]; exact e8
      · rw [if_pos (Classical.not_not.mp q)] at K
        exact K h2 L2 f2 g2.2.2.2.1 g2.2.2.2.2.2
  refine e39 (d39_0 hL hT.T (c349 hL hL.a46 (by omega) (fun h1 L1 F1 E1 => ⟨rfl, d39_8 L1 hT.T ?_⟩)))
  refine w_sfI (R := fun y => ∀ (y2 : Option Value), i_P i_MT i_AT L xs 39 13 [some (.ref 45), some (.ref (t + 7)), y2] [] y 0 0 Q) L1 L1.q45_2 (fun h2 L2 F2 E2 => fun y2 => d39_13 L2 hT.T ?_) _
  refine w_sfI (R := fun y => i_P i_MT i_AT L xs 39 18 [some (.ref 45), some (.ref (t + 7)), y2] [] y 0 0 Q) L2 L2.q45_8 (fun h3 L3 F3 E3 => d39_18 L3 hT.T ?_)
  have F13 : i_Fr [46] [(45, 2), (45, 8)] h h3 := (F1.mono (fun _ y => y) (fun _ y => absurd y (by simp))).trans ((F2.mono (fun _ y => absurd y (by simp)) (by decide)).trans (F3.mono (fun _ y => absurd y (by simp)) (by decide)))
  refine loop 300 0 0 0 (fun _ => 0) (Nat.le_refl _) (Or.inr ⟨rfl, rfl⟩) (Nat.zero_le _) (by omega) (by omega) (fun _ => by omega) (fun _ _ _ _ _ => rfl) h3 ⟨L3, x.fr F13 (by decide) (by decide), ?_, ?_, E3, fun i hi => ?_⟩ (F13.mono (by simp) (by decide)) K
  · rw [F13.vI (by decide)]; exact e0
  · rw [F3.vI (by decide)]; exact E2
  · rw [F3.rI (by simp), F2.rI (by simp), E1 i hi]; rfl
/-- a town with other moves -/
theorem i_CT.pln {h2 : iH} {s : Nat → Nat} (w : o_WF a) (g : i_CT a t h) (f : i_Fr [t + 14] [] h h2) (e : ∀ j, j < 480 → aI h2 (t + 14) j = i_n (s j)) : i_CT (o_pln a s) t h2 := by
  have w3 := w.2.2.1
  have w4 := w.2.2.2.1
  have w5 := w.2.2.2.2.1
  have c48 := w.c48
  have out : ∀ i, i < 194 → o_pln a s i = a i := fun i hi => o_pln_o (Or.inl hi)
  obtain ⟨g1, g2, g3, g4, g5, g6, g7, g8, g9⟩ := g
  unfold i_CT
  rw [f.vI (p := t) (c := 0) (by simp), f.vI (p := t) (c := 1) (by simp), f.vI (p := t) (c := 5) (by simp), f.vI (p := t) (c := 9) (by simp), f.vI (p := t + 7) (c := 0) (by simp), f.vJ (p := t) (c := 2) (by simp), f.vJ (p := t) (c := 3) (by simp), f.rI (p := t + 1) (by simp), f.rI (p := t + 2) (by simp), f.rI (p := t + 3) (by simp), f.rI (p := t + 4) (by simp), f.rI (p := t + 5) (by simp), f.rI (p := t + 6) (by simp), f.rI (p := t + 9) (by simp), f.rI (p := t + 10) (by simp), f.rI (p := t + 11) (by simp), f.rI (p := t + 12) (by simp), f.rI (p := t + 13) (by simp)]
  rw [out 0 (by omega), out 1 (by omega), out 3 (by omega), out 4 (by omega), out 5 (by omega)]
  refine ⟨g1, ?_, ?_, ?_, ⟨g5.1, fun k hk => ?_⟩, ⟨g6.1, fun k hk => ?_⟩, fun k hk => ?_, ⟨g8.1, fun q hq => ?_⟩, fun j hj => ?_⟩
  · exact g2.congr (fun d hd => by unfold o_wall; rw [out _ (by omega)])
  · exact g3.congr (fun d hd => by rw [out _ (by omega)])
  · intro d hd
    unfold o_sway
    rw [out _ (by omega)]; exact g4 d hd
  · have w10 := w.2.2.2.2.2.2.2.2.2.1 k hk
    rw [out _ (by omega), out (115 + 10 * k) (by omega)]
    refine ⟨(g5.2 k hk).1, (g5.2 k hk).2.1, fun j hj => ?_⟩
    rw [out _ (by omega)]; exact (g5.2 k hk).2.2 j hj
  · rw [out _ (by omega)]; exact g6.2 k hk
  · rw [out _ (by omega)]; exact g7 k hk
  · rw [out (154 + 5 * q) (by omega), out (155 + 5 * q) (by omega), out (156 + 5 * q) (by omega), out (157 + 5 * q) (by omega), out (158 + 5 * q) (by omega)]; exact g8.2 q hq
  · rw [o_pln_s hj]; exact e j hj
theorem c99p (hL : i_Lay h) (ht : i_T t) (K : ∀ h2, i_Lay h2 → i_Fr [t + 14] [] h h2 → (∀ j, j < 480 → aI h2 (t + 14) j = aI h 46 j) → Q none h2) : i_C i_MT i_AT L xs 99 [.ref t, .ref 46] h Q := by
  refine e99 (d99_0 hL ht ⟨480, aI h 46, 480, aI h (t + 14), hL.a46, hL.ta_14 ht, by decide, by decide, by decide, by decide, by decide, ?_⟩)
  exact w_cpI (R := fun z => i_P i_MT i_AT L xs 99 13 [some (.ref t), some (.ref 46)] [] z 0 0 Q) hL (hL.ta_14 ht) rfl (fun h1 L1 F1 E1 => d99_13 L1 ht (K h1 L1 F1 E1))
abbrev cpF : List (Nat × Nat) := (0, 0) :: (10, 3) :: (10, 4) :: (plF8 ++ foF)
abbrev cpA (t : Nat) : List Nat := (t + 14) :: (plA ++ foA)
set_option maxHeartbeats 2000000 in
theorem c138 (g : i_ST a t h) (nc : i_NC a t h) (nw : o_NW a) (tt : i_TT h) (tp : i_TPc h m T) {x : Int32}
    (HA : ¬ (0 ≤ x ∧ x ≤ i_n (min m 300)) → ∀ h2, i_ST a t h2 → i_Fr [] [(0, 0)] h h2 → fI h2 0 0 = 1 → Q (some (.int (-1))) h2)
    (HF : ∀ n, n ≤ min m 300 → x = i_n n → ∀ f p, p_plan T n a = .inl (f, p) → ∀ h2, i_ST a t h2 → i_Fr (cpA t) cpF h h2 → i_BL h2 f p → fI h2 10 3 = i_n 0 → fI h2 0 0 = 9 → Q (some (.int (-1))) h2)
    (HT : ∀ n, n ≤ min m 300 → x = i_n n → ∀ c s, p_plan T n a = .inr (c, s) → ∀ h2, i_ST (o_pln a s) t h2 → i_Fr (cpA t) cpF h h2 → i_BL h2 0 4294967295 → fI h2 10 3 = i_n 0 → fI h2 0 0 = 0 → Q (some (.int (i_n c))) h2) : i_C i_MT i_AT L xs 138 [.ref 0, .int x] h Q := by
  have hT : i_T2 t := g.1.1.2.2.1
  have ht : t = 14 ∨ t = 29 := hT
  have m9 := tp.2.1
  have w0 := g.w.wh
  have h5 := g.w.2.2.2.2.1
  refine e138 (d138_0 g.l ?_)
  rw [tp.1, show (300 : Int32) = i_n 300 from rfl]
  refine c337n (by omega) (by omega) ⟨_, rfl, d138_15 g.l (c192 ⟨_, rfl, d138_18 g.l ?_⟩)⟩
  rw [i_bo_0, Classical.not_not]
  refine ⟨fun q => ?_, fun q => q179 g.l (fun h2 L2 f2 s2 => ⟨_, rfl, d138_26 L2 (HA q h2 (g.out L2 f2 (fun _ z => absurd z (by simp)) (fun q hq => ?_)) f2 s2)⟩)⟩
  rotate_left
  · simp only [List.mem_cons, List.not_mem_nil, or_false] at hq
    subst hq
    exact ⟨by decide, by dsimp only; omega, by decide⟩
  obtain ⟨n, hn, rfl⟩ := n_gle q (by omega)
  refine c84 g.l (fun h1 L1 F1 e4 e5 e3 => ⟨rfl, d138_35 L1 ?_⟩)
  have g1 : i_ST a t h1 := g.out L1 F1 (fun _ z => absurd z (by simp)) (fun q hq => by
    simp only [List.mem_cons, List.not_mem_nil, or_false] at hq
    rcases hq with rfl | rfl | rfl <;> exact ⟨by decide, by dsimp only; omega, by decide⟩)
  have x1 : i_TX h1 n T := by
    refine ⟨tt.fr F1 (fun _ _ => by simp), e4, by omega, fun i hi => ?_⟩
    rw [F1.rI (by simp)]
    exact tp.2.2 i (by omega)
  have pp1 : i_PP a t h1 := ⟨g1.1.ct.2.2.2.2.2.2.2.1.1, nc.fr F1 (by simp)⟩
  have up1 : i_Fr (cpA t) cpF h h1 := F1.mono (fun _ z => absurd z (by simp)) (by decide)
  have up2 : ∀ {h2 : iH}, i_Fr plA plF8 h1 h2 → i_Fr (cpA t) cpF h1 h2 := fun f => f.mono (fun _ z => List.mem_cons_of_mem _ (List.mem_append_left _ z)) (fun _ z => List.mem_cons_of_mem _ (List.mem_cons_of_mem _ (List.mem_cons_of_mem _ (List.mem_append_left _ z))))
  have g2 : ∀ {h2 : iH}, i_Lay h2 → i_Fr plA plF8 h1 h2 → i_ST a t h2 := fun L2 f => g1.out L2 f (fun p hp => by
    simp only [List.mem_cons, List.not_mem_nil, or_false] at hp
    omega) (fun q hq => by
    obtain ⟨q1, q2⟩ := q
    simp only [List.mem_cons, List.not_mem_nil, or_false, Prod.mk.injEq] at hq
    refine ⟨by dsimp only; omega, by dsimp only; omega, fun z => ?_⟩
    simp only [Prod.mk.injEq] at z
    omega)
  have gd := p_plan_g (T := T) (n := n) (a := a) h5 (by omega)
  refine ⟨t, g1.tw, hT.T, c39 L1 hT x1 (by omega) e5 pp1 h5 nw ?_⟩
  cases he : p_plan T n a with
  | inl r =>
    obtain ⟨f, p⟩ := r
    intro h2 L2 F2 b2
    refine ⟨_, rfl, d138_49 L2 ⟨fun z => absurd rfl z, fun _ => q179 L2 (fun h3 L3 F3 s3 => ⟨_, rfl, d138_58 L3 ?_⟩)⟩⟩
    refine HF n hn rfl f p he h3 ((g2 L2 F2).out L3 F3 (fun _ z => absurd z (by simp)) (fun q hq => ?_)) ((up1.trans (up2 F2)).trans (F3.mono (fun _ z => absurd z (by simp)) (by decide))) ?_ ?_ s3
    · simp only [List.mem_cons, List.not_mem_nil, or_false] at hq
      subst hq
      exact ⟨by decide, by dsimp only; omega, by decide⟩
    · unfold i_BL
      rw [F3.vI (by decide), F3.vI (by decide)]; exact b2
    · rw [F3.vI (by decide), F2.vI (by decide)]; exact e3
  | inr r =>
    obtain ⟨c, s⟩ := r
    rw [he] at gd
    intro h2 L2 F2 e2 s2
    have gs : ∀ i, s i < 40 := gd.2
    refine ⟨_, rfl, d138_49 L2 ⟨fun _ => c85 L2 (fun h3 L3 F3 b11 b12 => ⟨rfl, d138_66 L3 ?_⟩), fun z => absurd (by decide) z⟩⟩
    have F23 : i_Fr plA plF8 h1 h3 := F2.trans (F3.mono (fun _ z => absurd z (by simp)) (by decide))
    have g3 := g2 L3 F23
    refine ⟨t, g3.tw, hT.T, c99p L3 hT.T (fun h4 L4 F4 E4 => ⟨rfl, d138_80 L4 ?_⟩)⟩
    have ct4 : i_CT (o_pln a s) t h4 := i_CT.pln g.w g3.1.ct F4 (fun j hj => by rw [E4 j hj, F3.rI (by simp)]; exact s2 j hj)
    have tw4 : i_fld h4 0 11 5 = some (.ref t) := by
      have := L4.fw (q := 0) (ci := 11) (b := 5) rfl rfl rfl
      rw [F4.vR (by simp), g3.2] at this
      exact this
    have gq4 : i_GQ (a 0) (a 1) h4 := i_GR.q (g3.1.2.1.fr F4 (fun p hp => by
      simp only [List.mem_cons, List.not_mem_nil, or_false] at hp ⊢
      omega) (fun b _ => by simp))
    refine ⟨t, tw4, hT.T, c1 L4 (o_pln_w g.w gs) hT ct4 w0.1 w0.2 gq4 (fun h5 g5 F5 => ⟨rfl, d138_91 g5.l ?_⟩)⟩
    rw [F5.vI (by decide), F4.vI (by simp), F3.vI (by decide), e2]
    refine q181 g5.l (fun h6 L6 F6 s6 => ⟨_, rfl, d138_102 L6 ?_⟩)
    have E55 : fR h5 0 5 = t := by rw [F5.vR (by decide), F4.vR (by simp)]; exact g3.2
    have g6 : i_ST (o_pln a s) t h6 := i_ST.out (a := o_pln a s) (t := t) ⟨g5, E55⟩ L6 F6 (fun _ z => absurd z (by simp)) (fun q hq => by
      simp only [List.mem_cons, List.not_mem_nil, or_false] at hq
      subst hq
      exact ⟨by decide, by dsimp only; omega, by decide⟩)
    refine HT n hn rfl c s he h6 g6 ?_ ⟨?_, ?_⟩ ?_ s6
    · exact (up1.trans (up2 F23)).trans ((F4.mono (by simp) (fun _ z => absurd z (by simp))).trans ((F5.mono (fun _ z => List.mem_cons_of_mem _ (List.mem_append_right _ z)) (fun _ z => List.mem_cons_of_mem _ (List.mem_cons_of_mem _ (List.mem_cons_of_mem _ (List.mem_append_right _ z))))).trans (F6.mono (fun _ z => absurd z (by simp)) (by decide))))
    · rw [F6.vI (by simp), F5.vI (by decide), F4.vI (by simp)]; exact b11
    · rw [F6.vI (by simp), F5.vI (by decide), F4.vI (by simp), n_big]; exact b12
    · rw [F6.vI (by simp), F5.vI (by decide), F4.vI (by simp), F23.vI (by decide)]; exact e3
end
