/-! THE CLASS READS MOVES -/
section
variable {L : Nat} {xs : Nat → Int32} {h : iH} {Q : Option Value → iH → Prop} {a : Nat → Nat} {t : Nat} {n k c d p : Nat} {T s z : Nat → Nat} {A : Nat → List Nat} {X : List Nat}
set_option maxRecDepth 20000
def o_fl (A : Nat → List Nat) : Nat → List Nat
  | 0 => A 0
  | d + 1 => o_fl A d ++ A (d + 1)
theorem o_fl_ext {B : Nat → List Nat} : ∀ d, (∀ i, i ≤ d → A i = B i) → o_fl A d = o_fl B d
  | 0, e => e 0 (Nat.le_refl _)
  | d + 1, e => by rw [o_fl, o_fl, o_fl_ext d (fun i hi => e i (by omega)), e (d + 1) (Nat.le_refl _)]
theorem o_fl_app {l : List Nat} : ∀ d, o_fl (o_sl A d (A d ++ l)) d = o_fl A d ++ l
  | 0 => by rw [o_fl, o_fl, o_sl_t]
  | d + 1 => by rw [o_fl, o_fl, o_sl_t, o_fl_ext (B := A) d (fun i hi => o_sl_f (by omega)), List.append_assoc]
theorem o_fl_low {l : List Nat} {j : Nat} (hj : j < d) : o_fl (o_sl A d l) j = o_fl A j := o_fl_ext j (fun i hi => o_sl_f (by omega))
abbrev plF : List (Nat × Nat) := (45, 2) :: (45, 5) :: (45, 6) :: (45, 7) :: tbF
abbrev plA : List Nat := [46, 47, 48]
/-- the script in the making: X for the person p -/
def i_SL (h : iH) (p : Nat) (X : List Nat) (s : Nat → Nat) : Prop := fI h 45 6 = i_n p ∧ fI h 45 7 = i_n (min 60 X.length) ∧ ∀ i, i < 480 → aI h 46 i = i_n (o_lay s p X i)
theorem i_SL.fr {h2 : iH} {B : List Nat} {F : List (Nat × Nat)} (x : i_SL h p X s) (f : i_Fr B F h h2) (hA : 46 ∉ B) (h6 : (45, 6) ∉ F) (h7 : (45, 7) ∉ F) : i_SL h2 p X s := by
  unfold i_SL
  rw [f.vI h6, f.vI h7, f.rI hA]
  exact x
theorem o_lay_take {X Y : List Nat} {i : Nat} (e : X.take 60 = Y.take 60) : o_lay s p X i = o_lay s p Y i := by
  unfold o_lay
  split
  · rename_i q
    have h1 : ∀ Z : List Nat, Z.getD (i - 60 * p) 0 = (Z.take 60).getD (i - 60 * p) 0 := fun Z => by
      rw [List.getD_eq_getElem?_getD, List.getD_eq_getElem?_getD, List.getElem?_take_of_lt (by omega)]
    rw [h1 X, h1 Y, e]
  · rfl
theorem i_SL.cut {Y : List Nat} (x : i_SL h p X s) (e : X.take 60 = Y.take 60) : i_SL h p Y s := by
  have el : min 60 X.length = min 60 Y.length := by rw [← List.length_take, ← List.length_take, e]
  obtain ⟨x1, x2, x3⟩ := x
  exact ⟨x1, by rw [← el]; exact x2, fun i hi => by rw [x3 i hi, o_lay_take e]⟩
theorem c48 (hL : i_Lay h) (hp : p < 8) (x : i_SL h p X s) {v : Nat} (K : ∀ h2, i_Lay h2 → i_Fr [46] [(45, 7)] h h2 → i_SL h2 p (X ++ [v]) s → Q none h2) : i_C i_MT i_AT L xs 48 [.ref 45, .int (i_n v)] h Q := by
  obtain ⟨x1, x2, x3⟩ := x
  refine e48 (d48_0 hL ?_)
  rw [x1, x2]
  try simp (disch := omega) only [n_lit, n_m, n_add, n_mul, n_div, n_mod, n_cl, n_lt, n_le, n_eq, n_in, n_eqm, n_meq, n_mlt, n_ltm, n_mle, n_lem, not_true_eq_false, not_false_eq_true, true_implies, false_implies, true_and, and_true, Nat.not_lt_zero, Nat.zero_le]
  refine ⟨fun q => d48_37 hL (K h hL i_Fr.refl ?_), fun q => ⟨by omega, ?_⟩⟩
  · refine i_SL.cut (X := X) ⟨x1, x2, x3⟩ ?_
    rw [List.take_append_of_le_length (by omega)]
  · have hX : X.length < 60 := by omega
    rw [Nat.min_eq_right (by omega)]
    refine w_siI (R := fun z => i_P i_MT i_AT L xs 48 27 [some (.ref 45), some (.int (i_n v))] [] z 0 0 Q) hL hL.a46 (fun h1 L1 F1 E1 => d48_27 L1 ?_)
    rw [F1.vI (by simp), x2, Nat.min_eq_right (by omega), show i_n X.length + 1 = i_n (X.length + 1) from n_add _ 1]
    refine w_sfI (R := fun z => i_P i_MT i_AT L xs 48 37 [some (.ref 45), some (.int (i_n v))] [] z 0 0 Q) L1 L1.q45_7 (fun h2 L2 F2 E2 => d48_37 L2 (K h2 L2 ((F1.mono (fun _ z => z) (fun _ z => absurd z (by simp))).trans (F2.mono (fun _ z => absurd z (by simp)) (fun _ z => z))) ⟨?_, ?_, fun i hi => ?_⟩))
    · rw [F2.vI (by simp), F1.vI (by simp)]; exact x1
    · rw [E2, List.length_append, List.length_singleton, Nat.min_eq_right (by omega)]
    · rw [F2.rI (by simp), E1]
      unfold o_lay
      by_cases y : i = p * 60 + X.length
      · rw [if_pos y, if_pos ⟨by omega, by omega⟩, show i - 60 * p = X.length by omega, gd_r (Nat.le_refl _), Nat.sub_self]
        rfl
      · rw [if_neg y, x3 i hi]
        unfold o_lay
        by_cases q2 : 60 * p ≤ i ∧ i < 60 * p + 60
        · rw [if_pos q2, if_pos q2]
          by_cases q3 : i - 60 * p < X.length
          · rw [gd_l q3]
          · rw [gd_r (by omega), List.getD_eq_getElem?_getD, List.getD_eq_getElem?_getD, List.getElem?_eq_none (by omega), List.getElem?_eq_none (by rw [List.length_singleton]; omega)]
        · rw [if_neg q2, if_neg q2]
/-- the class on the way through the moves of p -/
def i_MV (n k : Nat) (T : Nat → Nat) (c d : Nat) (A : Nat → List Nat) (z s : Nat → Nat) (p : Nat) (h : iH) : Prop := i_Lay h ∧ i_TX h n T ∧ fI h 10 5 = i_n k ∧ fI h 45 2 = i_n c ∧ fI h 45 5 = i_n d ∧ i_SL h p (o_fl A d) s ∧ ∀ j, j < d → aI h 47 j = i_n (min 60 (o_fl A j).length) ∧ aI h 48 j = i_n (z (j + 1))
theorem i_Fr.pl {h2 : iH} (f : i_Fr [] tbF h h2) : i_Fr plA plF h h2 := f.mono (fun _ z => absurd z (by simp)) (fun _ z => List.mem_cons_of_mem _ (List.mem_cons_of_mem _ (List.mem_cons_of_mem _ (List.mem_cons_of_mem _ z))))
theorem i_MV.tb {h2 : iH} {k2 : Nat} (g : i_MV n k T c d A z s p h) (hL : i_Lay h2) (f : i_Fr [] tbF h h2) (e : fI h2 10 5 = i_n k2) : i_MV n k2 T c d A z s p h2 := by
  obtain ⟨g1, g2, g3, g4, g5, g6, g7⟩ := g
  refine ⟨hL, g2.fr f (fun _ _ => by simp) (by decide), e, ?_, ?_, g6.fr f (by simp) (by decide) (by decide), ?_⟩
  · rw [f.vI (by decide)]; exact g4
  · rw [f.vI (by decide)]; exact g5
  · rw [f.rI (by simp), f.rI (by simp)]; exact g7
/-- moves are laid behind -/
theorem i_MV.app {h2 : iH} {c2 : Nat} {l : List Nat} (g : i_MV n k T c d A z s p h) (hL : i_Lay h2) (f : i_Fr [46] [(45, 2), (45, 7)] h h2) (e2 : fI h2 45 2 = i_n c2) (x : i_SL h2 p (o_fl A d ++ l) s) : i_MV n k T c2 d (o_sl A d (A d ++ l)) z s p h2 := by
  obtain ⟨g1, g2, g3, g4, g5, g6, g7⟩ := g
  refine ⟨hL, g2.fr f (by decide) (by decide), ?_, e2, ?_, by rw [o_fl_app]; exact x, fun j hj => ?_⟩
  · rw [f.vI (by decide)]; exact g3
  · rw [f.vI (by decide)]; exact g5
  · rw [f.rI (by simp), f.rI (by simp), o_fl_low hj]; exact g7 j hj
def i_M1 (n : Nat) (T s : Nat → Nat) (p : Nat) (h : iH) (Q : Option Value → iH → Prop) (r : o_M1) : Prop := match r with
  | .inl (f, p) => ∀ h2, i_Lay h2 → i_Fr plA plF h h2 → i_BL h2 f p → Q (some (.int 0)) h2
  | .inr (k2, c2, d2, A2, z2) => ∀ h2, i_Fr plA plF h h2 → i_MV n k2 T c2 d2 A2 z2 s p h2 → Q (some (.int 1)) h2
theorem c43 (hL : i_Lay h) (z0 : i_TK h T n k) (H : Q (some (.int (i_bo (o_mvw (o_wy T n k))))) h) : i_C i_MT i_AT L xs 43 [.int (fI h 10 10)] h Q := by
  have yes : o_mvw (o_wy T n k) → i_P i_MT i_AT L xs 43 24 [some (.int (fI h 10 10))] [] h 0 0 Q := fun q => by
    rw [i_bo_t q] at H
    exact d43_24 hL (d43_29 hL ⟨rfl, H⟩)
  have no : ¬ o_mvw (o_wy T n k) → i_P i_MT i_AT L xs 43 28 [some (.int (fI h 10 10))] [] h 0 0 Q := fun q => by
    rw [i_bo_f q] at H
    exact d43_28 hL (d43_29 hL ⟨rfl, H⟩)
  refine e43 (d43_0 hL ?_)
  rcases o_wy_cases (T := T) (n := n) (k := k) with ⟨e, q⟩ | ⟨u, hu, e, q⟩
  · have ef : fI h 10 10 = i_m := by rw [z0.2.2.2.2.2, e]; rfl
    refine ⟨fun _ => d43_12 hL ⟨fun _ => no (by omega), fun y => ?_⟩, fun y => ?_⟩
    · rw [ef] at y; exact absurd (by decide) y
    · rw [ef] at y; exact absurd (by decide) y
  · have ef : fI h 10 10 = i_n u := by rw [z0.2.2.2.2.2, e]; rfl
    rw [q] at yes no
    have p12 : ¬ (29 ≤ u ∧ u ≤ 31) → i_P i_MT i_AT L xs 43 12 [some (.int (fI h 10 10))] [] h 0 0 Q := fun q2 => by
      refine d43_12 hL ?_
      generalize fI h 10 10 = w at *
      subst ef
      try simp (disch := omega) only [n_lit, n_m, n_add, n_mul, n_div, n_mod, n_cl, n_lt, n_le, n_eq, n_in, n_eqm, n_meq, n_mlt, n_ltm, n_mle, n_lem, not_true_eq_false, not_false_eq_true, true_implies, false_implies, true_and, and_true, Nat.not_lt_zero, Nat.zero_le]
      exact ⟨fun y => no (by omega), fun y => ⟨fun y2 => no (by omega), fun y2 => yes (by omega)⟩⟩
    generalize fI h 10 10 = w at *
    subst ef
    try simp (disch := omega) only [n_lit, n_m, n_add, n_mul, n_div, n_mod, n_cl, n_lt, n_le, n_eq, n_in, n_eqm, n_meq, n_mlt, n_ltm, n_mle, n_lem, not_true_eq_false, not_false_eq_true, true_implies, false_implies, true_and, and_true, Nat.not_lt_zero, Nat.zero_le]
    exact ⟨fun y => p12 (by omega), fun y => ⟨fun y2 => yes (by omega), fun y2 => p12 (by omega)⟩⟩
theorem o_kd_le {w : Nat} : o_kd w ≤ 3 := by unfold o_kd; split <;> (try split) <;> omega
set_option maxHeartbeats 2000000 in
theorem c42 (g : i_MV n (o_ke T n 1 k) T c d A z s p h) (z0 : i_TK h T n k) (hk : k ≤ n) (hc : c ≤ 40) (hd : d ≤ 2) (hp : p < 8) (K : i_M1 n T s p h Q (p_m1 T n k c d A z)) : i_C i_MT i_AT L xs 42 [.ref 45] h Q := by
  have l1 := o_ke_le (T := T) hk 1
  have l2 := o_ke_le (T := T) hk 2
  have wl := o_wy_le (T := T) (n := n) (k := k)
  have tv := o_tkv_lt (T := T) (n := n) (k := o_ke T n 1 k)
  unfold p_m1 at K
  refine e42 (d42_0 g.1 (c43 g.1 z0 ⟨_, rfl, d42_12 g.1 ?_⟩))
  rw [i_bo_0, Classical.not_not]
  rw [g.2.2.2.1]
  refine ⟨fun q => ⟨fun q2 => ?_, fun q2 => c86 g.1 z0 (x := 6) (fun h1 L1 f1 b1 => ⟨_, rfl, d42_41 L1 ⟨rfl, ?_⟩⟩)⟩, fun q => c87 g.1 z0 (fun h1 L1 f1 b1 => ⟨_, rfl, d42_22 L1 ⟨rfl, ?_⟩⟩)⟩
  rotate_left
  · rw [show (40 : Int32) = i_n 40 from rfl, n_lt (by omega) (by omega)] at q2
    rw [if_neg (fun y => y q), if_pos (by omega)] at K
    exact K h1 L1 f1.tl.pl b1
  · rw [if_pos q] at K
    exact K h1 L1 f1.tl.pl b1
  rw [show (40 : Int32) = i_n 40 from rfl, n_lt (by omega) (by omega)] at q2
  rw [if_neg (fun y => y q), if_neg (by omega)] at K
  rw [show i_n c + 1 = i_n (c + 1) from n_add c 1]
  refine w_sfI (R := fun y => i_P i_MT i_AT L xs 42 52 [some (.ref 45), some (.int (fI h 10 10))] [] y 0 0 Q) g.1 g.1.q45_2 (fun h1 L1 F1 E1 => d42_52 L1 ?_)
  have z1 : i_TK h1 T n k := z0.fr F1 (by decide)
  have x1 : i_TX h1 n T := g.2.1.fr F1 (fun _ _ => by simp) (by simp)
  have e51 : fI h1 10 5 = i_n (o_ke T n 1 k) := by rw [F1.vI (by simp)]; exact g.2.2.1
  have s1 : i_SL h1 p (o_fl A d) s := g.2.2.2.2.2.1.fr F1 (by simp) (by simp) (by simp)
  have f1 : i_Fr plA plF h h1 := F1.mono (fun _ y => absurd y (by simp)) (fun q hq => by
    simp only [List.mem_cons, List.not_mem_nil, or_false] at hq
    subst hq
    simp)
  have g1 : i_MV n (o_ke T n 1 k) T (c + 1) d A z s p h1 := by
    obtain ⟨g1, g2, g3, g4, g5, g6, g7⟩ := g
    refine ⟨L1, x1, e51, E1, ?_, s1, ?_⟩
    · rw [F1.vI (by simp)]; exact g5
    · rw [F1.rI (by simp), F1.rI (by simp)]; exact g7
  have ti : ∀ w : Nat, w < 33 → ((fI h 10 10).toInt = (w : Int) ↔ o_wy T n k = w) := fun w hw => z0.wi hw
  have sign : o_wy T n k = 26 → ∀ {Q2 : Option Value → iH → Prop}, (∀ h2, Q (some (.int 1)) h2 → i_Lay h2 → Q2 none h2) → i_C i_MT i_AT L xs 48 [.ref 45, .int 32] h1 Q2 := fun e Q2 H => by
    rw [if_pos e] at K
    refine c48 (v := 32) L1 hp s1 (fun h2 L2 F2 x2 => H h2 (K h2 (f1.trans (F2.mono (by simp) (fun q hq => by
      simp only [List.mem_cons, List.not_mem_nil, or_false] at hq
      subst hq
      simp))) ?_) L2)
    exact g1.app L2 (F2.mono (fun _ y => y) (by simp)) (by rw [F2.vI (by simp)]; exact E1) x2
  have way : (o_wy T n k = 24 ∨ o_wy T n k = 25 ∨ o_wy T n k = 29) → ∀ {Q2 : Option Value → iH → Prop}, (∀ x h2, i_Lay h2 → i_ret (some .boolean) x = true → Q (some (.int x)) h2 → Q2 (some (.int x)) h2) → i_C i_MT i_AT L xs 44 [.ref 45, .int (i_n (o_kd (o_wy T n k)))] h1 Q2 := fun e Q2 H => by
    rw [if_neg (by omega), if_neg (by omega), if_neg (by omega)] at K
    have kl := o_kd_le (w := o_wy T n k)
    refine e44 (d44_0 L1 (c92 L1 x1 l1.2 e51 (fun e1 h2 L2 f2 z2 => ⟨_, rfl, d44_7 L2 ⟨fun _ => ?_, fun y => absurd (by decide) y⟩⟩) (fun e1 h2 L2 f2 b2 => ⟨_, rfl, d44_7 L2 ⟨fun y => absurd rfl y, fun _ => ?_⟩⟩)))
    · rw [if_pos e1] at K
      rw [z2.way e1]
      try simp (disch := omega) only [n_lit, n_m, n_add, n_mul, n_div, n_mod, n_cl, n_lt, n_le, n_eq, n_in, n_eqm, n_meq, n_mlt, n_ltm, n_mle, n_lem, not_true_eq_false, not_false_eq_true, true_implies, false_implies, true_and, and_true, Nat.not_lt_zero, Nat.zero_le]
      have g2 : i_MV n (o_ke T n 2 k) T (c + 1) d A z s p h2 := g1.tb L2 f2.tt z2.1
      rw [Nat.mul_comm (o_kd (o_wy T n k)) 8]
      refine c48 L2 hp g2.2.2.2.2.2.1 (fun h3 L3 F3 x3 => ⟨rfl, d44_28 L3 (H 1 h3 L3 rfl (K h3 ((f1.trans f2.tt.pl).trans (F3.mono (by simp) (fun q hq => by
        simp only [List.mem_cons, List.not_mem_nil, or_false] at hq
        subst hq
        simp))) ?_))⟩)
      exact g2.app L3 (F3.mono (fun _ y => y) (by simp)) (by rw [F3.vI (by simp)]; exact g2.2.2.2.1) x3
    · rw [if_neg e1] at K
      exact H 0 h2 L2 rfl (K h2 L2 (f1.trans f2.pl) b2)
  have up7 : ∀ {h2 h3 : iH}, i_Fr [46] [(45, 7)] h2 h3 → i_Fr plA plF h2 h3 := fun f => f.mono (by simp) (fun q hq => by
    simp only [List.mem_cons, List.not_mem_nil, or_false] at hq
    subst hq
    simp)
  refine ⟨fun e => ?_, fun e => ?_, fun e => ?_, fun e => ?_, fun e => ?_, fun e => ?_, fun e => ?_, fun e => ?_, fun e => ?_⟩
  · exfalso
    rw [z0.2.2.2.2.2] at e
    rcases o_wy_cases (T := T) (n := n) (k := k) with ⟨e2, q3⟩ | ⟨u, hu, e2, q3⟩
    · omega
    · rw [e2, show o_op (some u) = i_n u from rfl, n_int (by omega)] at e
      omega
  · have e := (ti 24 (by omega)).mp e
    have := way (Or.inl e) (Q2 := fun v h4 => ∃ r4 : Int32, v = some (.int r4) ∧ i_P i_MT i_AT L xs 42 111 [some (.ref 45), some (.int (fI h 10 10))] [.int r4] h4 0 0 Q) (fun x h2 L2 hr q => ⟨x, rfl, d42_111 L2 ⟨hr, q⟩⟩)
    rw [e] at this
    exact this
  · have e := (ti 25 (by omega)).mp e
    have := way (Or.inr (Or.inl e)) (Q2 := fun v h4 => ∃ r4 : Int32, v = some (.int r4) ∧ i_P i_MT i_AT L xs 42 117 [some (.ref 45), some (.int (fI h 10 10))] [.int r4] h4 0 0 Q) (fun x h2 L2 hr q => ⟨x, rfl, d42_117 L2 ⟨hr, q⟩⟩)
    rw [e] at this
    exact this
  · have e := (ti 26 (by omega)).mp e
    exact sign e (fun h2 q L2 => ⟨rfl, d42_134 L2 q⟩)
  · have e := (ti 27 (by omega)).mp e
    omega
  · have e := (ti 28 (by omega)).mp e
    omega
  · have e := (ti 29 (by omega)).mp e
    have := way (Or.inr (Or.inr e)) (Q2 := fun v h4 => ∃ r4 : Int32, v = some (.int r4) ∧ i_P i_MT i_AT L xs 42 105 [some (.ref 45), some (.int (fI h 10 10))] [.int r4] h4 0 0 Q) (fun x h2 L2 hr q => ⟨x, rfl, d42_105 L2 ⟨hr, q⟩⟩)
    rw [e] at this
    exact this
  · have e := (ti 30 (by omega)).mp e
    rw [if_neg (by omega), if_pos e] at K
    refine e45 (d45_0 L1 (c95 (lo := 1) (hi := 60) L1 x1 l1.2 e51 (by omega) (by omega) (fun e1 h2 L2 f2 z2 => ⟨_, rfl, d45_10 L2 ⟨fun _ => ?_, fun y => absurd (by decide) y⟩⟩) (fun e1 h2 L2 f2 b2 => ⟨_, rfl, d45_10 L2 ⟨fun y => absurd rfl y, fun _ => ⟨_, rfl, ?_⟩⟩⟩)))
    · rw [if_pos e1] at K
      have g2 : i_MV n (o_ke T n 2 k) T (c + 1) d A z s p h2 := g1.tb L2 f2.tt z2.1
      have f12 := f1.trans f2.tt.pl
      have loop : ∀ i, i ≤ o_tkv T n (o_ke T n 1 k) → ∀ h3, i_Lay h3 → i_Fr [46] [(45, 7)] h2 h3 → i_SL h3 p (o_fl A d ++ List.replicate i 0) s → i_P i_MT i_AT L xs 45 17 [some (.ref 45), some (.int (i_n i))] [] h3 0 0 (fun v h1 => ∃ r16 : Int32, v = some (.int r16) ∧ i_P i_MT i_AT L xs 42 122 [some (.ref 45), some (.int (fI h 10 10))] [.int r16] h1 0 0 Q) := by
        refine l_up ?_ ?_
        · intro h3 L3 F3 x3
          refine d45_17 L3 ?_
          rw [F3.vI (by simp), z2.2.2.2.1]
          try simp (disch := omega) only [n_lit, n_m, n_add, n_mul, n_div, n_mod, n_cl, n_lt, n_le, n_eq, n_in, n_eqm, n_meq, n_mlt, n_ltm, n_mle, n_lem, not_true_eq_false, not_false_eq_true, true_implies, false_implies, true_and, and_true, Nat.not_lt_zero, Nat.zero_le, Nat.le_refl]
          refine ⟨1, rfl, d42_122 L3 ⟨rfl, K h3 (f12.trans (up7 F3)) ?_⟩⟩
          exact g2.app L3 (F3.mono (fun _ y => y) (by simp)) (by rw [F3.vI (by simp)]; exact g2.2.2.2.1) x3
        · intro i hi ih h3 L3 F3 x3
          refine d45_17 L3 ?_
          rw [F3.vI (by simp), z2.2.2.2.1]
          try simp (disch := omega) only [n_lit, n_m, n_add, n_mul, n_div, n_mod, n_cl, n_lt, n_le, n_eq, n_in, n_eqm, n_meq, n_mlt, n_ltm, n_mle, n_lem, not_true_eq_false, not_false_eq_true, true_implies, false_implies, true_and, and_true, Nat.not_lt_zero, Nat.zero_le]
          refine ⟨fun y => by omega, fun _ => c48 (v := 0) L3 hp x3 (fun h4 L4 F4 x4 => ⟨rfl, d45_33 L4 ?_⟩)⟩
          try simp (disch := omega) only [n_lit, n_m, n_add, n_mul, n_div, n_mod, n_cl, n_lt, n_le, n_eq, n_in, n_eqm, n_meq, n_mlt, n_ltm, n_mle, n_lem, not_true_eq_false, not_false_eq_true, true_implies, false_implies, true_and, and_true, Nat.not_lt_zero, Nat.zero_le]
          refine ih h4 L4 (F3.trans F4) ?_
          rw [List.append_assoc] at x4
          rw [List.replicate_succ']
          exact x4
      exact loop 0 (Nat.zero_le _) h2 L2 i_Fr.refl (by rw [List.replicate_zero, List.append_nil]; exact g2.2.2.2.2.2.1)
    · rw [if_neg e1] at K
      exact d42_122 L2 ⟨rfl, K h2 L2 (f1.trans f2.pl) b2⟩
  · have e := (ti 31 (by omega)).mp e
    rw [if_neg (by omega), if_neg (by omega), if_pos e] at K
    refine e46 (d46_0 L1 ?_)
    rw [F1.vI (by simp), g.2.2.2.2.1]
    try simp (disch := omega) only [n_lit, n_m, n_add, n_mul, n_div, n_mod, n_cl, n_lt, n_le, n_eq, n_in, n_eqm, n_meq, n_mlt, n_ltm, n_mle, n_lem, not_true_eq_false, not_false_eq_true, true_implies, false_implies, true_and, and_true, Nat.not_lt_zero, Nat.zero_le]
    refine ⟨fun q3 => ?_, fun q3 => c86 L1 z1 (x := 7) (fun h2 L2 f2 b2 => ⟨_, rfl, d46_17 L2 ⟨rfl, _, rfl, d42_127 L2 ⟨rfl, ?_⟩⟩⟩)⟩
    rotate_left
    · rw [if_pos (by omega)] at K
      exact K h2 L2 (f1.trans f2.tl.pl) b2
    rw [if_neg (by omega)] at K
    refine c95 (lo := 1) (hi := 60) L1 x1 l1.2 e51 (by omega) (by omega) (fun e1 h2 L2 f2 z2 => ⟨_, rfl, d46_28 L2 ⟨fun _ => ?_, fun y => absurd (by decide) y⟩⟩) (fun e1 h2 L2 f2 b2 => ⟨_, rfl, d46_28 L2 ⟨fun y => absurd rfl y, fun _ => ⟨_, rfl, d42_127 L2 ⟨rfl, ?_⟩⟩⟩⟩)
    rotate_left
    · rw [if_neg e1] at K
      exact K h2 L2 (f1.trans f2.pl) b2
    rw [if_pos e1] at K
    have g2 : i_MV n (o_ke T n 2 k) T (c + 1) d A z s p h2 := g1.tb L2 f2.tt z2.1
    obtain ⟨-, h2x, h25, h2c, h2d, h2s, h2j⟩ := g2
    rw [h2d, h2s.2.1, n_cl (by omega)]
    refine ⟨(n_in (by omega)).mpr (by omega), ?_⟩
    refine w_siI (R := fun y => i_P i_MT i_AT L xs 46 46 [some (.ref 45)] [] y 0 0 (fun v h1 => ∃ r18 : Int32, v = some (.int r18) ∧ i_P i_MT i_AT L xs 42 127 [some (.ref 45), some (.int (fI h 10 10))] [.int r18] h1 0 0 Q)) L2 L2.a47 (fun h3 L3 F3 E3 => d46_46 L3 ?_)
    rw [F3.vI (by simp), h2d, F3.vI (by simp), z2.2.2.2.1, n_cl (by omega)]
    refine ⟨(n_in (by omega)).mpr (by omega), ?_⟩
    refine w_siI (R := fun y => i_P i_MT i_AT L xs 46 62 [some (.ref 45)] [] y 0 0 (fun v h1 => ∃ r18 : Int32, v = some (.int r18) ∧ i_P i_MT i_AT L xs 42 127 [some (.ref 45), some (.int (fI h 10 10))] [.int r18] h1 0 0 Q)) L3 L3.a48 (fun h4 L4 F4 E4 => d46_62 L4 ?_)
    rw [F4.vI (by simp), F3.vI (by simp), h2d, show i_n d + 1 = i_n (d + 1) from n_add d 1]
    refine w_sfI (R := fun y => i_P i_MT i_AT L xs 46 72 [some (.ref 45)] [] y 0 0 (fun v h1 => ∃ r18 : Int32, v = some (.int r18) ∧ i_P i_MT i_AT L xs 42 127 [some (.ref 45), some (.int (fI h 10 10))] [.int r18] h1 0 0 Q)) L4 L4.q45_5 (fun h5 L5 F5 E5 => d46_72 L5 ⟨1, rfl, d42_127 L5 ⟨rfl, K h5 ?_ ?_⟩⟩)
    · refine (f1.trans f2.tt.pl).trans ((F3.mono (by simp) (fun _ y => absurd y (by simp))).trans ((F4.mono (by simp) (fun _ y => absurd y (by simp))).trans (F5.mono (fun _ y => absurd y (by simp)) (fun q hq => ?_))))
      simp only [List.mem_cons, List.not_mem_nil, or_false] at hq
      subst hq
      simp
    · have F35 : i_Fr [47, 48] [(45, 5)] h2 h5 := (F3.mono (by simp) (fun _ y => absurd y (by simp))).trans ((F4.mono (by simp) (fun _ y => absurd y (by simp))).trans (F5.mono (fun _ y => absurd y (by simp)) (fun _ y => y)))
      refine ⟨L5, h2x.fr F35 (by decide) (by decide), ?_, ?_, E5, ?_, fun j hj => ?_⟩
      · rw [F35.vI (by decide)]; exact h25
      · rw [F35.vI (by decide)]; exact h2c
      · rw [o_fl, o_sl_t, List.append_nil, o_fl_low (by omega)]
        exact h2s.fr F35 (by simp) (by decide) (by decide)
      · rw [F5.rI (by simp), F4.rI (by simp), E3, F5.rI (by simp), E4, o_fl_low (by omega)]
        by_cases y : j = d
        · subst y
          rw [if_pos rfl, if_pos rfl, o_su_t]
          exact ⟨rfl, rfl⟩
        · rw [if_neg y, if_neg y, F3.rI (by simp), o_su_f (by omega)]
          exact h2j j (by omega)
end
