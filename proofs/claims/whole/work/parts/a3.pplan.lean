/-! THE CLASS READS A PLAN -/
section
variable {L : Nat} {xs : Nat → Int32} {h : iH} {Q : Option Value → iH → Prop} {a : Nat → Nat} {t : Nat} {n k c d p : Nat} {T s z : Nat → Nat} {A : Nat → List Nat} {X : List Nat}
set_option maxRecDepth 20000
theorem o_rep_s {l : List Nat} : ∀ m, o_rep l m ++ l = o_rep l (m + 1)
  | 0 => by rw [o_rep, o_rep, o_rep, List.append_nil, List.nil_append]
  | m + 1 => by rw [o_rep, List.append_assoc, o_rep_s m]; rfl
theorem o_take_s {l : List Nat} {k : Nat} (hk : k < l.length) : l.take k ++ [l.getD k 0] = l.take (k + 1) := by
  rw [List.take_succ, List.getD_eq_getElem?_getD, List.getElem?_eq_getElem hk]
  rfl
theorem o_ctl {P B : List Nat} {q : Nat} (hq : 1 ≤ q) : (((P ++ B).take 60) ++ o_rep (((P ++ B).take 60).drop (min 60 P.length)) (q - 1)).take 60 = (P ++ o_rep B q).take 60 := by
  obtain ⟨m, rfl⟩ : ∃ m, q = m + 1 := ⟨q - 1, by omega⟩
  rw [Nat.add_sub_cancel, o_rep, ← List.append_assoc]
  by_cases h : (P ++ B).length ≤ 60
  · have hl := h
    rw [List.length_append] at hl
    rw [List.take_of_length_le h, Nat.min_eq_right (by omega), List.drop_left]
  · have hl : ((P ++ B).take 60).length = 60 := by rw [List.length_take]; omega
    rw [List.take_append_of_le_length (show 60 ≤ ((P ++ B).take 60).length by omega), List.take_append_of_le_length (show 60 ≤ (P ++ B).length by omega), List.take_take, Nat.min_self]
set_option maxHeartbeats 1000000 in
theorem c47 {e : Nat} (g : i_MV n k T c (e + 1) A z s p h) (he : e ≤ 1) (hp : p < 8) (hz : 1 ≤ z (e + 1) ∧ z (e + 1) ≤ 60) (K : ∀ h2, i_Fr plA plF h h2 → i_MV n k T c e (o_sl A e (A e ++ o_rep (A (e + 1)) (z (e + 1)))) z s p h2 → Q none h2) : i_C i_MT i_AT L xs 47 [.ref 45] h Q := by
  obtain ⟨g1, g2, g3, g4, g5, g6, g7⟩ := g
  have j0 := g7 e (by omega)
  refine e47 (d47_0 g1 ?_)
  rw [g5, show i_n (e + 1) - 1 = i_n e from n_sub (a := e + 1) (b := 1) (by omega)]
  refine w_sfI (R := fun y => ∀ (y1 y2 y3 y4 : Option Value), i_P i_MT i_AT L xs 47 10 [some (.ref 45), y1, y2, y3, y4] [] y 0 0 Q) g1 g1.q45_5 (fun h1 L1 F1 E1 => fun y1 y2 y3 y4 => d47_10 L1 ?_) _ _ _ _
  rw [E1, F1.vI (by simp), F1.rI (by simp), g6.2.1, n_cl (by omega), j0.1]
  refine ⟨(n_in (by omega)).mpr (by omega), ?_⟩
  rw [o_fl]
  have hle : min 60 (o_fl A e).length ≤ min 60 (o_fl A e ++ A (e + 1)).length := by rw [List.length_append]; omega
  rw [n_sub hle]
  have s1 : i_SL h1 p (o_fl A e ++ A (e + 1)) s := g6.fr F1 (by simp) (by simp) (by simp)
  have s1 : i_SL h1 p ((o_fl A e ++ A (e + 1)).take 60) s := s1.cut (by rw [List.take_take, Nat.min_self])
  have cut := o_ctl (P := o_fl A e) (B := A (e + 1)) hz.1
  have ll : ((o_fl A e ++ A (e + 1)).take 60).length = min 60 (o_fl A e ++ A (e + 1)).length := List.length_take
  generalize hst : min 60 (o_fl A e).length = st at *
  generalize hfl : min 60 (o_fl A e ++ A (e + 1)).length = fl at *
  have l60 : ((o_fl A e ++ A (e + 1)).take 60).length ≤ 60 := by rw [ll, ← hfl]; omega
  generalize (o_fl A e ++ A (e + 1)).take 60 = Y at *
  generalize hB : Y.drop st = B at *
  have lB : B.length = fl - st := by rw [← hB, List.length_drop, ll]
  have rd : ∀ (Z : List Nat) (k : Nat), k < fl - st → (Y ++ Z).getD (st + k) 0 = B.getD k 0 := fun Z k hk => by
    rw [gd_l (by omega), ← hB, List.getD_eq_getElem?_getD, List.getD_eq_getElem?_getD, List.getElem?_drop]
  have outer : ∀ i, i ≤ z (e + 1) → 1 ≤ i → ∀ h2, i_Lay h2 → i_Fr [46] [(45, 7)] h1 h2 → i_SL h2 p (Y ++ o_rep B (i - 1)) s → ∀ (y4 : Option Value), i_P i_MT i_AT L xs 47 29 [some (.ref 45), some (.int (i_n st)), some (.int (i_n (fl - st))), some (.int (i_n i)), y4] [] h2 0 0 Q := by
    refine l_up ?_ ?_
    · intro _ h2 L2 F2 x2 y4
      refine d47_29 L2 ?_
      rw [F2.vI (by simp), E1, n_cl (by omega), F2.rI (by simp), F1.rI (by simp), j0.2]
      try simp (disch := omega) only [n_lit, n_m, n_add, n_mul, n_div, n_mod, n_cl, n_lt, n_le, n_eq, n_in, n_eqm, n_meq, n_mlt, n_ltm, n_mle, n_lem, not_true_eq_false, not_false_eq_true, true_implies, false_implies, true_and, and_true, Nat.not_lt_zero, Nat.zero_le, Nat.le_refl]
      refine ⟨by omega, ?_⟩
      have F12 : i_Fr [46] [(45, 5), (45, 7)] h h2 := (F1.mono (fun _ y => absurd y (by simp)) (by simp)).trans (F2.mono (fun _ y => y) (by simp))
      refine K h2 (F12.mono (by simp) (by decide)) ⟨L2, g2.fr F12 (by decide) (by decide), ?_, ?_, ?_, ?_, fun j hj => ?_⟩
      · rw [F12.vI (by decide)]; exact g3
      · rw [F12.vI (by decide)]; exact g4
      · rw [F2.vI (by simp)]; exact E1
      · rw [o_fl_app]
        exact x2.cut cut
      · rw [F12.rI (by simp), F12.rI (by simp), o_fl_low hj]
        exact g7 j (by omega)
    · intro i hi ih h0 h2 L2 F2 x2 y4
      have inner : ∀ k, k ≤ fl - st → ∀ h3, i_Lay h3 → i_Fr [46] [(45, 7)] h1 h3 → i_SL h3 p (Y ++ o_rep B (i - 1) ++ B.take k) s → i_P i_MT i_AT L xs 47 45 [some (.ref 45), some (.int (i_n st)), some (.int (i_n (fl - st))), some (.int (i_n i)), some (.int (i_n k))] [] h3 0 0 Q := by
        refine l_up ?_ ?_
        · intro h3 L3 F3 x3
          refine d47_45 L3 ?_
          try simp (disch := omega) only [n_lit, n_m, n_add, n_mul, n_div, n_mod, n_cl, n_lt, n_le, n_eq, n_in, n_eqm, n_meq, n_mlt, n_ltm, n_mle, n_lem, not_true_eq_false, not_false_eq_true, true_implies, false_implies, true_and, and_true, Nat.not_lt_zero, Nat.zero_le, Nat.le_refl]
          refine ih (by omega) h3 L3 F3 ?_ _
          rw [← lB, List.take_length, List.append_assoc, o_rep_s, show i - 1 + 1 = i + 1 - 1 by omega] at x3
          exact x3
        · intro k hk ihk h3 L3 F3 x3
          have x3' := x3
          obtain ⟨y1, y2, y3⟩ := x3
          refine d47_45 L3 ?_
          rw [y1]
          try simp (disch := omega) only [n_lit, n_m, n_add, n_mul, n_div, n_mod, n_cl, n_lt, n_le, n_eq, n_in, n_eqm, n_meq, n_mlt, n_ltm, n_mle, n_lem, not_true_eq_false, not_false_eq_true, true_implies, false_implies, true_and, and_true, Nat.not_lt_zero, Nat.zero_le]
          have eb := y3 (p * 60 + st + k) (by omega)
          have ey : o_lay s p (Y ++ o_rep B (i - 1) ++ B.take k) (p * 60 + st + k) = B.getD k 0 := by
            unfold o_lay
            rw [if_pos ⟨by omega, by omega⟩, show p * 60 + st + k - 60 * p = st + k by omega, List.append_assoc, rd _ k hk]
          rw [ey] at eb
          rw [eb]
          refine ⟨fun q => by omega, fun _ => ⟨by omega, c48 L3 hp x3' (fun h4 L4 F4 x4 => ⟨rfl, d47_72 L4 ?_⟩)⟩⟩
          try simp (disch := omega) only [n_lit, n_m, n_add, n_mul, n_div, n_mod, n_cl, n_lt, n_le, n_eq, n_in, n_eqm, n_meq, n_mlt, n_ltm, n_mle, n_lem, not_true_eq_false, not_false_eq_true, true_implies, false_implies, true_and, and_true, Nat.not_lt_zero, Nat.zero_le]
          refine ihk h4 L4 (F3.trans F4) ?_
          rw [List.append_assoc, o_take_s (by omega)] at x4
          exact x4
      refine d47_29 L2 ?_
      rw [F2.vI (by simp), E1, n_cl (by omega), F2.rI (by simp), F1.rI (by simp), j0.2]
      try simp (disch := omega) only [n_lit, n_m, n_add, n_mul, n_div, n_mod, n_cl, n_lt, n_le, n_eq, n_in, n_eqm, n_meq, n_mlt, n_ltm, n_mle, n_lem, not_true_eq_false, not_false_eq_true, true_implies, false_implies, true_and, and_true, Nat.not_lt_zero, Nat.zero_le]
      refine ⟨by omega, fun q => by omega, fun _ => inner 0 (Nat.zero_le _) h2 L2 F2 ?_⟩
      rw [List.take_zero, List.append_nil]
      exact x2
  refine outer 1 hz.1 (Nat.le_refl _) h1 L1 i_Fr.refl ?_ _
  rw [Nat.sub_self, o_rep, List.append_nil]
  exact s1
def i_ME (n : Nat) (T s : Nat → Nat) (p : Nat) (h : iH) (Q : Option Value → iH → Prop) (r : o_Mv) : Prop := match r with
  | .inl (f, p) => ∀ h2, i_Lay h2 → i_Fr plA plF h h2 → i_BL h2 f p → Q (some (.int 0)) h2
  | .inr (k2, c2, l) => ∀ h2, i_Lay h2 → i_Fr plA plF h h2 → i_TX h2 n T → fI h2 10 5 = i_n (o_tke T n k2) → fI h2 45 2 = i_n c2 → i_SL h2 p l s → Q (some (.int 1)) h2
set_option maxHeartbeats 1000000 in
theorem c41 (hp : p < 8) (hn : n ≤ 300) (g : i_MV n k T c 0 (fun _ => []) (fun _ => 0) s p h) (hk : k ≤ n) (k1 : 1 ≤ k) (hc : c ≤ 40) (K : i_ME n T s p h Q (p_mv T n 300 k c 0 (fun _ => []) (fun _ => 0))) : i_C i_MT i_AT L xs 41 [.ref 45] h Q := by
  have loop : ∀ f k c d (A : Nat → List Nat) (z : Nat → Nat), f ≤ 300 → n - k < f → k ≤ n → c ≤ 40 → d ≤ 2 → (∀ i, i ≤ d → ∀ x, x ∈ A i → x < 40) → (∀ j, 1 ≤ j → j ≤ d → 1 ≤ z j ∧ z j ≤ 60) → ∀ h1, i_MV n k T c d A z s p h1 → i_Fr plA plF h h1 → i_ME n T s p h Q (p_mv T n f k c d A z) → i_P i_MT i_AT L xs 41 2 [some (.ref 45), some (.int (i_n (300 - f)))] [] h1 0 0 Q := by
    intro f
    induction f with
    | zero => intro k c d A z _ h; omega
    | succ f ih =>
      intro k c d A z hf3 hf hk hc hd hA hz h1 g1 f1 K
      have l1 := o_tk_le (T := T) hk
      have k5 := o_tkk_le (T := T) (n := n) (k := k)
      have wl := o_wy_le (T := T) (n := n) (k := k)
      rw [p_mv] at K
      refine d41_2 g1.1 ?_
      try simp (disch := omega) only [n_lit, n_m, n_add, n_mul, n_div, n_mod, n_cl, n_lt, n_le, n_eq, n_in, n_eqm, n_meq, n_mlt, n_ltm, n_mle, n_lem, not_true_eq_false, not_false_eq_true, true_implies, false_implies, true_and, and_true, Nat.not_lt_zero, Nat.zero_le]
      refine ⟨fun q => by omega, fun _ => c88 g1.1 g1.2.1 hk g1.2.2.1 (fun h2 L2 f2 z2 => ⟨rfl, d41_16 L2 ?_⟩)⟩
      have g2 : i_MV n (o_ke T n 1 k) T c d A z s p h2 := g1.tb L2 f2.tt z2.1
      have f2 := f1.trans f2.tt.pl
      rw [z2.2.1, g2.2.2.2.2.1]
      try simp (disch := omega) only [n_lit, n_m, n_add, n_mul, n_div, n_mod, n_cl, n_lt, n_le, n_eq, n_in, n_eqm, n_meq, n_mlt, n_ltm, n_mle, n_lem, not_true_eq_false, not_false_eq_true, true_implies, false_implies, true_and, and_true, Nat.not_lt_zero, Nat.zero_le]
      have nx : ∀ {h3 : iH}, i_Lay h3 → i_P i_MT i_AT L xs 41 2 [some (.ref 45), some (.int (i_n (300 - f)))] [] h3 0 0 Q → i_P i_MT i_AT L xs 41 71 [some (.ref 45), some (.int (i_n (300 - (f + 1))))] [] h3 0 0 Q := fun L3 q => by
        refine d41_71 L3 ?_
        try simp (disch := omega) only [n_lit, n_m, n_add, n_mul, n_div, n_mod, n_cl, n_lt, n_le, n_eq, n_in, n_eqm, n_meq, n_mlt, n_ltm, n_mle, n_lem, not_true_eq_false, not_false_eq_true, true_implies, false_implies, true_and, and_true, Nat.not_lt_zero, Nat.zero_le]
        rw [show 300 - (f + 1) + 1 = 300 - f by omega]
        exact q
      have p62 : ¬ (o_tkk T n k = 3 ∧ d = 0) → ¬ (o_wy T n k = 32 ∧ 0 < d) → i_P i_MT i_AT L xs 41 62 [some (.ref 45), some (.int (i_n (300 - (f + 1))))] [] h2 0 0 Q := fun q1 q2 => by
        rw [if_neg q1, if_neg q2] at K
        have gd := p_m1_g (T := T) hk hc hd hA hz
        refine d41_62 L2 (c42 g2 z2 hk hc hd hp ?_)
        cases he : p_m1 T n k c d A z with
        | inl r =>
          obtain ⟨f3, p3⟩ := r
          rw [he] at K
          exact fun h3 L3 F3 b3 => ⟨_, rfl, d41_66 L3 ⟨fun y => absurd rfl y, fun _ => K h3 L3 (f2.trans F3) b3⟩⟩
        | inr r =>
          obtain ⟨k3, c3, d3, A3, z3⟩ := r
          rw [he] at K gd
          obtain ⟨e1, e2, e3, e4, e5, e6, e7⟩ := gd
          intro h3 F3 g3
          exact ⟨_, rfl, d41_66 g3.1 ⟨fun _ => nx g3.1 (ih k3 c3 d3 A3 z3 (by omega) (by omega) e2 e4 e5 e6 e7 h3 g3 (f2.trans F3) K), fun y => absurd (by decide) y⟩⟩
      have p36 : ¬ (o_tkk T n k = 3 ∧ d = 0) → i_P i_MT i_AT L xs 41 36 [some (.ref 45), some (.int (i_n (300 - (f + 1))))] [] h2 0 0 Q := fun q1 => by
        refine d41_36 L2 ?_
        rw [show (32 : Int32) = i_n 32 from rfl, z2.w (by omega), g2.2.2.2.2.1]
        try simp (disch := omega) only [n_lit, n_m, n_add, n_mul, n_div, n_mod, n_cl, n_lt, n_le, n_eq, n_in, n_eqm, n_meq, n_mlt, n_ltm, n_mle, n_lem, not_true_eq_false, not_false_eq_true, true_implies, false_implies, true_and, and_true, Nat.not_lt_zero, Nat.zero_le]
        refine ⟨fun q => p62 q1 (fun y => q y.1), fun q => ⟨fun q2 => p62 q1 (fun y => by omega), fun q2 => ?_⟩⟩
        have q := Classical.not_not.mp q
        rw [if_neg q1, if_pos ⟨q, by omega⟩] at K
        obtain ⟨e, rfl⟩ : ∃ e, d = e + 1 := ⟨d - 1, by omega⟩
        rw [Nat.add_sub_cancel] at K
        have on := o_tk_on (T := T) hk (by have := o_wy_kind (T := T) (n := n) (k := k) (by omega); omega)
        refine c47 g2 (by omega) hp (hz (e + 1) (by omega) (Nat.le_refl _)) (fun h3 F3 g3 => ⟨rfl, d41_59 g3.1 (nx g3.1 (ih (o_tke T n k) c e _ z (by omega) (by omega) l1.2.2 hc (by omega) (fun i hi x hx => ?_) (fun j h1 h2 => hz j h1 (by omega)) h3 g3 (f2.trans F3) K))⟩)
        by_cases y : i = e
        · subst y
          rw [o_sl_t, List.mem_append] at hx
          rcases hx with hx | hx
          · exact hA _ (by omega) x hx
          · exact hA _ (Nat.le_refl _) x (o_rep_mem _ hx)
        · rw [o_sl_f y] at hx
          exact hA i (by omega) x hx
      refine ⟨fun q => p36 (fun y => q y.1), fun q => ⟨fun q2 => p36 (fun y => q2 y.2), fun q2 => ?_⟩⟩
      have q2 := Classical.not_not.mp q2
      subst q2
      rw [if_pos ⟨Classical.not_not.mp q, rfl⟩] at K
      exact K h2 L2 f2 g2.2.1 g2.2.2.1 g2.2.2.2.1 g2.2.2.2.2.2.1
  refine e41 (d41_0 g.1 ?_)
  exact loop 300 k c 0 _ _ (Nat.le_refl _) (by omega) hk hc (by omega) (fun i _ x hx => by cases hx) (fun j h1 h2 => by omega) h g i_Fr.refl K
end
