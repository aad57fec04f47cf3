/-! THE REFERENCE TAKES A PLAN -/
section
variable {L : Nat} {xs : Nat → Int32} {h h0 : iH} {Q : Option Value → iH → Prop} {a : Nat → Nat} {t : Nat} {n m k c d p pl N : Nat} {T s z op : Nat → Nat}
set_option maxRecDepth 20000
abbrev gpF : List (Nat × Nat) := [(138, 4), (138, 12), (138, 13), (138, 14), (138, 15), (138, 16), (138, 17), (138, 18), (138, 19), (138, 20), (138, 21), (138, 26), (138, 27), (138, 28)]
abbrev gpA : List Nat := [139, 147, 148, 149, 150]
set_option maxHeartbeats 4000000 in
theorem c247 (r : i_RA a h) (nr : i_NR a 0 h) (nw : o_NW a) (tp : i_TPr h m T) {x : Int32}
    (HA : ¬ (0 ≤ x ∧ x ≤ i_n (min m 300)) → ∀ h2, i_RA a h2 → i_G0 h h2 → fI h2 138 4 = 1 → Q (some (.int (-1))) h2)
    (HF : ∀ n, n ≤ min m 300 → x = i_n n → ∀ f p, p_plan T n a = .inl (f, p) → ∀ h2, i_RA a h2 → i_Fr (gpA ++ frA) gpF h h2 → (∀ i, i < 2720 → aI h2 139 i = aI h 139 i) → fI h2 138 18 = i_n f → fI h2 138 19 = i_n p → fI h2 138 12 = 0 → fI h2 138 4 = 9 → Q (some (.int (-1))) h2)
    (HT : ∀ n, n ≤ min m 300 → x = i_n n → ∀ c s, p_plan T n a = .inr (c, s) → ∀ h2, i_RA (o_pln a s) h2 → i_Fr (gpA ++ frA) gpF h h2 → (∀ i, 680 ≤ i → i < 2720 → aI h2 139 i = aI h 139 i) → fI h2 138 18 = i_n 0 → fI h2 138 19 = i_m → fI h2 138 12 = 0 → fI h2 138 4 = 0 → Q (some (.int (i_n c))) h2) : i_C i_MT i_AT L xs 247 [.ref 138, .int x] h Q := by
  have m9 := tp.2.1
  have w := r.2.1
  have h5 := w.2.2.2.2.1
  refine e247 (d247_0 r.1 (c222 (mo := 300) r.1 tp (by omega) (fun q => ⟨_, rfl, d247_8 r.1 ⟨fun z => absurd rfl z, fun _ => m201 r (fun h2 r2 f2 s2 => ⟨_, rfl, d247_16 r2.1 (HA (fun y => q ⟨y.1, Int32.le_trans y.2 ((n_le (by omega) (by omega)).mpr (by omega)), Int32.le_trans y.2 ((n_le (by omega) (by omega)).mpr (by omega))⟩) h2 r2 f2 s2)⟩)⟩⟩) (fun n hnm hn hx h1 L1 F1 x1 z1 e20 e21 e12 e19 => ⟨_, rfl, d247_8 L1 ⟨fun _ => ?_, fun z => absurd (by decide) z⟩⟩)))
  have HA : True := trivial
  -- behind the lines
  have rest : ∀ h0, i_LNr n 0 T 0 0 (fun _ => 0) h0 → i_Fr [139, 147] gpF h h0 → (∀ i, i < 2720 → aI h0 139 i = aI h 139 i) → (∀ i, 674 ≤ i → i < 680 → aI h0 139 (2720 + i) = i_n 0) → fI h0 138 12 = 0 → ∀ (y3 : Option Value), i_P i_MT i_AT L xs 247 52 [some (.ref 138), some (.int x), some (.int (i_n 1)), y3] [] h0 0 0 Q := by
    intro h0 g0 F0 A0 Z0 e12
    -- where it has failed
    have bad : ∀ f p, p_plan T n a = .inl (f, p) → ∀ h3, i_Lay h3 → i_LF h0 h3 → i_RBL h3 f p → ∀ b, ∀ (y3 : Option Value), i_P i_MT i_AT L xs 247 71 [some (.ref 138), some (.int x), some (.int b), y3] [] h3 0 0 Q := by
      intro f p he h3 L3 lf b3 b y3
      have gd := p_plan_g (T := T) (n := n) (a := a) h5 hn
      rw [he] at gd
      have gd : 1 ≤ f ∧ f ≤ 7 := gd
      have up3 : i_Fr (gpA ++ frA) gpF h h3 := (F0.mono (by simp) (fun _ y => y)).trans (lf.1.mono (by simp) (by decide))
      have A3 : ∀ i, i < 2720 → aI h3 139 i = aI h 139 i := fun i hi => by rw [lf.2 i (by omega), A0 i hi]
      have rA : i_RA a h3 := r.gn (A := gpA) (F := gpF) L3 ((F0.mono (by simp) (fun _ y => y)).trans (lf.1.mono (by simp) (by decide))) (by decide) (fun i hi => A3 i (by omega))
      refine d247_71 L3 ?_
      rw [b3.1]
      try simp (disch := omega) only [n_lit, n_m, n_add, n_mul, n_div, n_mod, n_cl, n_lt, n_le, n_eq, n_in, n_eqm, n_meq, n_mlt, n_ltm, n_mle, n_lem, not_true_eq_false, not_false_eq_true, true_implies, false_implies, true_and, and_true, Nat.not_lt_zero, Nat.zero_le]
      refine ⟨fun _ => d247_115 L3 (c230 L3 gd.2 b3.1 (fun z => by omega) (fun _ h4 L4 F4 e18 s4 => ⟨_, rfl, d247_123 L4 ?_⟩)), fun z => absurd (Classical.not_not.mp z) (by omega)⟩
      refine HF n (by omega) hx f p he h4 (rA.fr L4 F4 (fun _ _ => by simp)) (up3.trans (F4.mono (fun _ z => absurd z (by simp)) (by decide))) (fun i hi => ?_) e18 ?_ ?_ s4
      · rw [F4.rI (by simp), A3 i hi]
      · rw [F4.vI (by decide)]; exact b3.2
      · rw [F4.vI (by decide), lf.1.vI (by decide)]; exact e12
    -- where it is well
    have well : ∀ k c pl s, p_plan T n a = .inr (c, s) → ∀ h3, i_LNr n k T c pl s h3 → i_LF h0 h3 → ∀ b, ∀ (y3 : Option Value), i_P i_MT i_AT L xs 247 71 [some (.ref 138), some (.int x), some (.int b), y3] [] h3 0 0 Q := by
      intro k c pl s he h3 g3 lf b y3
      have gd := p_plan_g (T := T) (n := n) (a := a) h5 hn
      rw [he] at gd
      have gd : c ≤ 40 ∧ ∀ i, s i < 40 := gd
      obtain ⟨y1, y2, y3, y4, y5, y6, y7⟩ := g3
      have up3 : i_Fr (gpA ++ frA) gpF h h3 := (F0.mono (by simp) (fun _ y => y)).trans (lf.1.mono (by simp) (by decide))
      have A3 : ∀ i, i < 2720 → aI h3 139 i = aI h 139 i := fun i hi => by rw [lf.2 i (by omega), A0 i hi]
      have B3 : ∀ i, 194 ≤ i → i < 680 → aI h3 139 (2720 + i) = i_n (o_pln a s i) := fun i h1 h2 => by
        unfold o_pln
        by_cases q : i < 674
        · rw [if_pos ⟨h1, q⟩, ← y7 (i - 194) (by omega), show 2914 + (i - 194) = 2720 + i by omega]
        · rw [if_neg (by omega), if_pos ⟨by omega, h2⟩, lf.2 (2720 + i) (by omega), Z0 i (by omega) h2]
      have copy : ∀ k, k ≤ 680 → 194 ≤ k → ∀ h4, i_Lay h4 → i_Fr [139] [] h3 h4 → (∀ i, aI h4 139 i = if 194 ≤ i ∧ i < k then i_n (o_pln a s i) else aI h3 139 i) → i_P i_MT i_AT L xs 247 82 [some (.ref 138), some (.int x), some (.int b), some (.int (i_n k))] [] h4 0 0 Q := by
        refine l_up ?_ ?_
        · intro _ h4 L4 F4 E4
          refine d247_82 L4 ?_
          try simp (disch := omega) only [n_lit, n_m, n_add, n_mul, n_div, n_mod, n_cl, n_lt, n_le, n_eq, n_in, n_eqm, n_meq, n_mlt, n_ltm, n_mle, n_lem, not_true_eq_false, not_false_eq_true, true_implies, false_implies, true_and, and_true, Nat.not_lt_zero, Nat.zero_le, Nat.le_refl]
          have rb : i_RB (o_pln a s) h4 := by
            refine ⟨L4, o_pln_w w gd.2, fun i hi => ?_, ?_, trivial⟩
            · rw [E4]
              by_cases q : 194 ≤ i
              · rw [if_pos ⟨q, hi⟩]
              · rw [if_neg (by omega), A3 i (by omega), o_pln_o (by omega)]; exact r.2.2.1 i hi
            · rw [F4.rI (by simp), F4.rI (by simp), up3.rI (by simp), up3.rI (by simp)]
              exact r.2.2.2.1
          refine c252 rb (fun h5 r5 F5 => ⟨rfl, d247_115 r5.1 ?_⟩)
          have e205 : fI h5 138 20 = i_n 0 := by rw [F5.vI (by simp), F4.vI (by simp)]; exact y4.1
          refine c230 r5.1 (by omega) e205 (fun _ h6 L6 F6 e18 s6 => ⟨_, rfl, d247_123 L6 ?_⟩) (fun z => by omega)
          rw [F5.vI (by simp), F4.vI (by simp), y6]
          refine HT n (by omega) hx c s he h6 (r5.fr L6 F6 (fun _ _ => by simp)) ?_ (fun i h1 h2 => ?_) e18 ?_ ?_ s6
          · exact up3.trans ((F4.mono (by simp) (fun _ z => absurd z (by simp))).trans ((F5.mono (by simp) (fun _ z => absurd z (by simp))).trans (F6.mono (fun _ z => absurd z (by simp)) (by decide))))
          · rw [F6.rI (by simp), F5.rI (by simp), E4, if_neg (by omega), A3 i h2]
          · rw [F6.vI (by decide), F5.vI (by simp), F4.vI (by simp)]; exact y4.2
          · rw [F6.vI (by decide), F5.vI (by simp), F4.vI (by simp), lf.1.vI (by decide)]; exact e12
        · intro k hk ih hk1 h4 L4 F4 E4
          refine d247_82 L4 ?_
          try simp (disch := omega) only [n_lit, n_m, n_add, n_mul, n_div, n_mod, n_cl, n_lt, n_le, n_eq, n_in, n_eqm, n_meq, n_mlt, n_ltm, n_mle, n_lem, not_true_eq_false, not_false_eq_true, true_implies, false_implies, true_and, and_true, Nat.not_lt_zero, Nat.zero_le]
          have ek : aI h4 139 (2720 + k) = i_n (o_pln a s k) := by rw [E4, if_neg (by omega)]; exact B3 k hk1 hk
          rw [ek]
          refine ⟨fun z => by omega, fun _ => ⟨by omega, by omega, ?_⟩⟩
          refine w_siI (R := fun z => i_P i_MT i_AT L xs 247 105 [some (.ref 138), some (.int x), some (.int b), some (.int (i_n k))] [] z 0 0 Q) L4 L4.a139 (fun h5 L5 F5 E5 => d247_105 L5 ?_)
          try simp (disch := omega) only [n_lit, n_m, n_add, n_mul, n_div, n_mod, n_cl, n_lt, n_le, n_eq, n_in, n_eqm, n_meq, n_mlt, n_ltm, n_mle, n_lem, not_true_eq_false, not_false_eq_true, true_implies, false_implies, true_and, and_true, Nat.not_lt_zero, Nat.zero_le]
          refine ih (by omega) h5 L5 (F4.trans F5) (fun i => ?_)
          rw [E5]
          by_cases y : i = k
          · subst y; rw [if_pos rfl, if_pos (by omega)]
          · rw [if_neg y, E4]
            by_cases q : 194 ≤ i ∧ i < k
            · rw [if_pos q, if_pos (by omega)]
            · rw [if_neg q, if_neg (by omega)]
      refine d247_71 y1 ?_
      rw [y4.1]
      exact ⟨fun z => absurd rfl z, fun _ => copy 194 (by omega) (by omega) h3 y1 i_Fr.refl (fun i => by rw [if_neg (by omega)])⟩
    have loop : ∀ f k c pl (s : Nat → Nat), (n - k < f ∨ (k = 0 ∧ f = 300)) → k ≤ n → c ≤ 40 → pl < 256 → (∀ i, s i < 40) → (∀ p, p < 8 → pl.testBit p = false → ∀ i, i < 60 → s (60 * p + i) = 0) → p_plan T n a = p_lines T n a f k c pl s → ∀ h3, i_LNr n k T c pl s h3 → i_LF h0 h3 → ∀ (y3 : Option Value), i_P i_MT i_AT L xs 247 52 [some (.ref 138), some (.int x), some (.int (i_n 1)), y3] [] h3 0 0 Q := by
      intro f
      induction f with
      | zero => intro k c pl s h; omega
      | succ f ih =>
        intro k c pl s hf hk hc hpl hs hz he h3 g3 lf y3
        have gp := p_line_g (T := T) (a := a) h5 hn hk hc hpl hs hz
        have k4 := o_tkk4 (T := T) (n := n) (k := k)
        have rl := o_rk_le (show o_tkk T n k ≤ 5 by omega)
        have e14 : fI h3 138 14 = i_n 0 ↔ o_tkk T n k = 0 := by
          rw [g3.2.2.1.1, n_eq (by omega) (by omega)]
          exact o_rk_0 k4
        rw [p_lines] at he
        refine d247_52 g3.1 ⟨fun z => absurd z (by decide), fun _ => ?_⟩
        rw [show (0 : Int32) = i_n 0 from rfl, e14]
        refine ⟨fun q => ?_, fun q => c246 (a := a) g3 ?_ ?_ nw h5 hk hn hc hpl hz ?_⟩
        · rw [if_pos q] at he
          exact well k c pl s he h3 g3 lf _ _
        · rw [lf.2 5 (by omega), A0 5 (by omega)]; exact r.2.2.1 5 (by omega)
        · exact (nr.fr F0 (by simp)).fr lf.1 (by simp)
        · rw [if_neg q] at he
          cases hs2 : p_line T n a k c pl s with
          | inl e =>
            obtain ⟨f4, p4⟩ := e
            rw [hs2] at he
            exact fun h4 L4 f4' b4 => ⟨_, rfl, d247_67 L4 (d247_52 L4 ⟨fun _ => bad f4 p4 he h4 L4 (lf.trans f4') b4 _ _, fun z => absurd rfl z⟩)⟩
          | inr e =>
            obtain ⟨k4, c4, pl4, s4⟩ := e
            rw [hs2] at he gp
            obtain ⟨y1, y2, y3, y4, y5, y6⟩ := gp
            exact fun h4 f4' g4 => ⟨_, rfl, d247_67 g4.1 (ih k4 c4 pl4 s4 (by omega) y2 y3 y4 y5 y6 he h4 g4 (lf.trans f4') _)⟩
    exact loop 300 0 0 0 (fun _ => 0) (Or.inr ⟨rfl, rfl⟩) (Nat.zero_le _) (by omega) (by omega) (fun _ => by omega) (fun _ _ _ _ _ => rfl) rfl h0 g0 .refl
  -- all numbers of the plan, to nought
  have zero : ∀ k, k ≤ 680 → 194 ≤ k → ∀ h4, i_Lay h4 → i_Fr [139] [] h1 h4 → (∀ i, aI h4 139 i = if 2914 ≤ i ∧ i < 2720 + k then i_n 0 else aI h1 139 i) → ∀ (y3 : Option Value), i_P i_MT i_AT L xs 247 21 [some (.ref 138), some (.int x), some (.int (i_n k)), y3] [] h4 0 0 Q := by
    refine l_up ?_ ?_
    · intro _ h4 L4 F4 E4 y3
      refine d247_21 L4 ?_
      try simp (disch := omega) only [n_lit, n_m, n_add, n_mul, n_div, n_mod, n_cl, n_lt, n_le, n_eq, n_in, n_eqm, n_meq, n_mlt, n_ltm, n_mle, n_lem, not_true_eq_false, not_false_eq_true, true_implies, false_implies, true_and, and_true, Nat.not_lt_zero, Nat.zero_le, Nat.le_refl]
      refine w_sfI (R := fun u => ∀ (y3 : Option Value), i_P i_MT i_AT L xs 247 50 [some (.ref 138), some (.int x), some (.int (i_n 680)), y3] [] u 0 0 Q) L4 L4.q138_27 (fun h5 L5 F5 E5 => fun y3 => d247_50 L5 (rest h5 ⟨L5, (x1.fr F4 (by simp) (by simp)).fr F5 (by simp) (by simp), (z1.fr F4 (fun _ _ => by simp)).fr F5 (by decide), ?_, ?_, E5, fun i hi => ?_⟩ ?_ (fun i hi => ?_) (fun i h1 h2 => ?_) ?_ _)) _
      · rw [F5.vI (by simp), F5.vI (by simp), F4.vI (by simp), F4.vI (by simp)]; exact ⟨e20, e19⟩
      · rw [F5.vI (by simp), F4.vI (by simp)]; exact e21
      · rw [F5.rI (by simp), E4, if_pos (by omega)]
      · exact (F1.mono (by simp) (by decide)).trans ((F4.mono (by simp) (fun _ z => absurd z (by simp))).trans (F5.mono (fun _ z => absurd z (by simp)) (by decide)))
      · rw [F5.rI (by simp), E4, if_neg (by omega), F1.rI (by simp)]
      · rw [F5.rI (by simp), E4, if_pos (by omega)]
      · rw [F5.vI (by simp), F4.vI (by simp)]; exact e12
    · intro k hk ih hk1 h4 L4 F4 E4 y3
      refine d247_21 L4 ?_
      try simp (disch := omega) only [n_lit, n_m, n_add, n_mul, n_div, n_mod, n_cl, n_lt, n_le, n_eq, n_in, n_eqm, n_meq, n_mlt, n_ltm, n_mle, n_lem, not_true_eq_false, not_false_eq_true, true_implies, false_implies, true_and, and_true, Nat.not_lt_zero, Nat.zero_le]
      refine ⟨fun z => by omega, fun _ => ⟨by omega, ?_⟩⟩
      refine w_siI (R := fun z => ∀ (y3 : Option Value), i_P i_MT i_AT L xs 247 39 [some (.ref 138), some (.int x), some (.int (i_n k)), y3] [] z 0 0 Q) L4 L4.a139 (fun h5 L5 F5 E5 => fun y3 => d247_39 L5 ?_) _
      try simp (disch := omega) only [n_lit, n_m, n_add, n_mul, n_div, n_mod, n_cl, n_lt, n_le, n_eq, n_in, n_eqm, n_meq, n_mlt, n_ltm, n_mle, n_lem, not_true_eq_false, not_false_eq_true, true_implies, false_implies, true_and, and_true, Nat.not_lt_zero, Nat.zero_le]
      refine ih (by omega) h5 L5 (F4.trans F5) (fun i => ?_) _
      rw [E5]
      by_cases y : i = 2720 + k
      · subst y; rw [if_pos rfl, if_pos (by omega)]
      · rw [if_neg y, E4]
        by_cases q : 2914 ≤ i ∧ i < 2720 + k
        · rw [if_pos q, if_pos (by omega)]
        · rw [if_neg q, if_neg (by omega)]
  exact zero 194 (by omega) (by omega) h1 L1 i_Fr.refl (fun i => by rw [if_neg (by omega)]) _
end
