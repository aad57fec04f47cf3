/-! TRAYS OF THE REFERENCE -/
section
variable {L : Nat} {xs : Nat → Int32} {h : iH} {Q : Option Value → iH → Prop} {a : Nat → Nat} {t : Nat} {z q : Nat → Nat} {v : Nat → Nat → Int64}
set_option maxRecDepth 20000
theorem i_RA.tr (r : i_RA a h) {h2 : iH} (hL : i_Lay h2) (f : i_GTr h h2) : i_RA a h2 := r.fr hL f (by decide)
theorem i_G0.tr {h2 : iH} (f : i_G0 h h2) (g : i_TR z q v h) : i_TR z q v h2 := g.fr f (by decide)
theorem c208 (hL : i_Lay h) (w : o_TW z q) (g : i_TR z q v h) {x p : Int32} (H : Q (some (.int (o_plc z x p))) h) : i_C i_MT i_AT L xs 208 [.ref 138, .int x, .int p] h Q := by
  unfold o_plc at H
  refine e208 (d208_0 hL (c205 hL ⟨_, rfl, d208_4 hL ?_⟩))
  rw [i_bo_0, Classical.not_not]
  refine ⟨fun e => ?_, fun e => by rw [if_neg e] at H; exact d208_44 hL H⟩
  rw [if_pos e] at H
  obtain ⟨j, hj, rfl⟩ := n_get e (by omega)
  rw [n_cl (by omega)] at H
  have h61 := (w j hj).1
  have hin : i_in (i_n j) 4 := (n_in (by omega)).mpr hj
  rw [n_cl (by omega), (g j hj).1, show (-1 : Int32) = i_m from rfl, o_zI_m h61]
  refine ⟨hin, fun e2 => ?_, fun e2 => by rw [if_pos (Classical.not_not.mp e2)] at H; exact d208_44 hL H⟩
  rw [if_neg e2] at H
  rw [o_zI_s e2]
  have bad : ¬ (0 ≤ p ∧ p < i_n (z j - 1)) → i_P i_MT i_AT L xs 208 39 [some (.ref 138), some (.int (i_n j)), some (.int p)] [] h 0 0 Q := by
    intro e3
    rw [if_neg e3] at H
    exact d208_39 hL (d208_44 hL H)
  refine ⟨fun e3 => bad (fun q => absurd q.1 (Int32.not_le.mpr e3)), fun e3 => ⟨hin, fun e4 => d208_44 hL ?_, fun e4 => bad (fun q => e4 q.2)⟩⟩
  rw [if_pos ⟨Int32.not_lt.mp e3, e4⟩] at H
  exact H
theorem c206 (hL : i_Lay h) {x : Int64} {s : Nat} (hs : s ≤ 3) (H : Q (some (.long (o_cut x s))) h) : i_C i_MT i_AT L xs 206 [.long x, .int (i_n s)] h Q := by
  unfold o_cut at H
  refine e206 (d206_0 hL ?_)
  try simp (disch := omega) only [n_lit, n_m, i_bo01, j_cmpn, Classical.not_not, n_add, n_mul, n_div, n_mod, n_cl, n_lt, n_le, n_eq, n_in, n_eqm, n_meq, n_mlt, n_ltm, n_mle, n_lem, not_true_eq_false, not_false_eq_true, true_implies, false_implies, true_and, and_true, Nat.not_lt_zero, Nat.zero_le]
  refine ⟨fun e => ⟨fun e2 => ⟨fun e3 => d206_35 hL ?_, fun e3 => d206_35 hL ?_⟩, fun e2 => d206_35 hL ?_⟩, fun e => d206_35 hL ?_⟩
  · rw [if_neg e, if_neg e2, if_neg e3] at H; exact H
  · rw [if_neg e, if_neg e2, if_pos e3] at H; exact H
  · rw [if_neg e, if_pos e2] at H; exact H
  · rw [if_pos e] at H; exact H
theorem i_TR.put (hL : i_Lay h) (w : o_TW z q) (g : i_TR z q v h) {j k : Nat} {x : Int64} (hj : j < 4) (hk : k + 1 < z j) : i_TR z q (o_upv v j k x) (i_siJ h 145 (60 * j + k) x) ∧ i_GTr h (i_siJ h 145 (60 * j + k) x) := by
  have f : i_Fr [145] [] h (i_siJ h 145 (60 * j + k) x) := i_Fr.refl.siJ List.mem_cons_self
  have wj := (w j hj).1
  refine ⟨fun j2 hj2 => ?_, f.mono (by decide) (by decide)⟩
  have wj2 := (w j2 hj2).1
  rw [f.rI (by decide), f.rI (by decide)]
  refine ⟨(g j2 hj2).1, (g j2 hj2).2.1, fun k2 hk2 => ?_⟩
  unfold o_upv
  rw [x_aJ_siJ hL.a145, x_updJ]
  by_cases e : j2 = j ∧ k2 = k
  · rw [if_pos (by omega), if_pos e]
  · rw [if_neg (by omega), if_neg e]; exact (g j2 hj2).2.2 k2 hk2
theorem c209 (r : i_RA a h) (w : o_TW z q) (k : i_TR z q v h) {x p : Int32} {y : Int64} (H1 : o_plc z x p ≠ 0 → ∀ h2, i_RA a h2 → i_G0 h h2 → fI h2 138 4 = o_plc z x p → Q (some (.int 0)) h2) (H2 : ∀ j i, x = i_n j → p = i_n i → j < 4 → i + 1 < z j → o_plc z x p = 0 → ∀ h2, i_RA a h2 → i_GTr h h2 → i_TR z q (o_upv v j i (o_cut y (q j))) h2 → fI h2 138 4 = 0 → Q (some (.int 1)) h2) : i_C i_MT i_AT L xs 209 [.ref 138, .int x, .int p, .long y] h Q := by
  refine e209 (d209_0 r.1 (c208 r.1 w k ⟨_, rfl, d209_6 r.1 ⟨fun e => d209_34 r.1 ?_, fun e => ?_⟩⟩))
  · refine m200 r (fun h2 g2 f2 s2 => ⟨_, rfl, d209_40 g2.1 ⟨i_bo_ret, ?_⟩⟩)
    rw [i_bo_f e]
    exact H1 e h2 g2 f2 s2
  · have e0 := Classical.not_not.mp e
    rw [e0]
    obtain ⟨j, i, rfl, rfl, hj, hi⟩ := o_plc_0 w e0
    have wj := w j hj
    rw [n_cl (by omega), (k j hj).2.1]
    refine ⟨(n_in (by omega)).mpr hj, c206 r.1 wj.2 ⟨_, rfl, d209_33 r.1 ⟨240, aJ h 145, r.1.a145, ?_⟩⟩⟩
    try simp (disch := omega) only [n_lit, n_m, n_add, n_mul, n_div, n_mod, n_cl, n_lt, n_le, n_eq, n_in, n_eqm, n_meq, n_mlt, n_ltm, n_mle, n_lem, not_true_eq_false, not_false_eq_true, true_implies, false_implies, true_and, and_true, Nat.not_lt_zero, Nat.zero_le]
    have pu := k.put r.1 w (x := o_cut y (q j)) hj hi
    have r2 := r.tr r.1.siJ pu.2
    refine ⟨by omega, d209_34 r2.1 (m200 r2 (fun h2 g2 f2 s2 => ⟨_, rfl, d209_40 g2.1 ⟨i_bo_ret, ?_⟩⟩))⟩
    rw [i_bo_t (show i_n 0 = 0 from rfl)]
    exact H2 j i rfl rfl hj hi e0 h2 g2 (pu.2.trans (f2.mono (by decide) (by decide))) (i_G0.tr f2 pu.1) s2
theorem c210 (r : i_RA a h) (w : o_TW z q) (k : i_TR z q v h) {x p : Int32} (H1 : o_plc z x p ≠ 0 → ∀ h2, i_RA a h2 → i_G0 h h2 → fI h2 138 4 = o_plc z x p → Q (some (.long (-1))) h2) (H2 : ∀ j i, x = i_n j → p = i_n i → j < 4 → i + 1 < z j → o_plc z x p = 0 → ∀ h2, i_RA a h2 → i_G0 h h2 → fI h2 138 4 = 0 → Q (some (.long (v j i))) h2) : i_C i_MT i_AT L xs 210 [.ref 138, .int x, .int p] h Q := by
  refine e210 (d210_0 r.1 (c208 r.1 w k ⟨_, rfl, d210_7 r.1 ?_⟩))
  have s := r.s0 (o_plc z x p)
  refine d210_10 s.1.1 ?_
  rw [s.2.2]
  by_cases e0 : o_plc z x p = 0
  · obtain ⟨j, i, rfl, rfl, hj, hi⟩ := o_plc_0 w e0
    have wj := w j hj
    rw [e0] at s ⊢
    generalize i_sf h 138 4 (.int 0) = h1 at s ⊢
    try simp (disch := omega) only [n_lit, n_m, n_add, n_mul, n_div, n_mod, n_cl, n_lt, n_le, n_eq, n_in, n_eqm, n_meq, n_mlt, n_ltm, n_mle, n_lem, not_true_eq_false, not_false_eq_true, true_implies, false_implies, true_and, and_true, Nat.not_lt_zero, Nat.zero_le, (i_G0.tr s.2.1 k j hj).2.2]
    exact ⟨by omega, d210_34 s.1.1 (H2 j i rfl rfl hj hi e0 _ s.1 s.2.1 s.2.2)⟩
  · have pos : ¬ o_plc z x p ≤ 0 := by
      unfold o_plc at e0 ⊢
      split
      · split
        · decide
        · split
          · rename_i h1 h2 h3; rw [if_pos h1, if_neg h2, if_pos h3] at e0; exact absurd rfl e0
          · decide
      · decide
    exact ⟨fun q => absurd q pos, fun _ => d210_34 s.1.1 (H1 e0 _ s.1 s.2.1 s.2.2)⟩
theorem c207 (r : i_RA a h) (w : o_TW z q) (k : i_TR z q v h) {x y n : Int32} (H1 : ¬ v_ly x y n → ∀ h2, i_RA a h2 → i_G0 h h2 → fI h2 138 4 = 1 → Q (some (.int 0)) h2) (H2 : ∀ j s m, x = i_n j → y = i_n s → n = i_n m → j < 4 → s ≤ 3 → m ≤ 60 → ∀ h2, i_RA a h2 → i_GTr h h2 → i_TR (o_up z j (m + 1)) (o_up q j s) (o_upz v j) h2 → fI h2 138 4 = 0 → Q (some (.int 1)) h2) : i_C i_MT i_AT L xs 207 [.ref 138, .int x, .int y, .int n] h Q := by
  have bad : ¬ v_ly x y n → ∀ (y4 : Option Value), i_P i_MT i_AT L xs 207 26 [some (.ref 138), some (.int x), some (.int y), some (.int n), y4] [] h 0 0 Q := by
    intro e y4
    refine d207_26 r.1 (m200 r (fun h2 g2 f2 s2 => ⟨_, rfl, d207_31 g2.1 ⟨i_bo_ret, ?_⟩⟩))
    rw [i_bo_f (by decide)]
    exact H1 e h2 g2 f2 s2
  refine e207 (d207_0 r.1 (c205 r.1 ⟨_, rfl, d207_4 r.1 ?_⟩))
  rw [i_bo_0, Classical.not_not]
  refine ⟨fun e => bad (fun q => e q.1) _, fun e => ⟨fun e2 => bad (fun q => absurd q.2.1.1 (Int32.not_le.mpr e2)) _, fun e2 => ⟨fun e3 => bad (fun q => absurd q.2.1.2 (Int32.not_le.mpr e3)) _, fun e3 => ⟨fun e4 => bad (fun q => absurd q.2.2.1 (Int32.not_le.mpr e4)) _, fun e4 => ⟨fun e5 => ?_, fun e5 => bad (fun q => e5 q.2.2.2) _⟩⟩⟩⟩⟩
  obtain ⟨j, hj, rfl⟩ := n_get e (by omega)
  obtain ⟨s, hs, rfl⟩ := n_gle (k := 3) ⟨Int32.not_lt.mp e2, Int32.not_lt.mp e3⟩ (by omega)
  obtain ⟨m, hm, rfl⟩ := n_gle (k := 60) ⟨Int32.not_lt.mp e4, e5⟩ (by omega)
  have hij : i_in (i_n j) 4 := (n_in (by omega)).mpr hj
  have f1 : i_Fr [143] [] h (i_siI h 143 j (i_n s)) := i_Fr.refl.siI List.mem_cons_self
  rw [n_cl (by omega)]
  refine ⟨hij, d207_39 r.1.siI ⟨hij, ?_⟩⟩
  rw [n_cl (by omega)]
  have r1 := r.tr r.1.siI (f1.mono (by decide) (by decide))
  have f2 : i_Fr [144] [] (i_siI h 143 j (i_n s)) (i_siI (i_siI h 143 j (i_n s)) 144 j (i_n m)) := i_Fr.refl.siI List.mem_cons_self
  have r2 := r1.tr r1.1.siI (f2.mono (by decide) (by decide))
  have F2 : i_GTr h (i_siI (i_siI h 143 j (i_n s)) 144 j (i_n m)) := (f1.mono (by decide) (by decide)).trans (f2.mono (by decide) (by decide))
  have K2 : ∀ j2, j2 < 4 → aI (i_siI (i_siI h 143 j (i_n s)) 144 j (i_n m)) 144 j2 = o_zI (o_up z j (m + 1) j2) ∧ aI (i_siI (i_siI h 143 j (i_n s)) 144 j (i_n m)) 143 j2 = i_n (o_up q j s j2) ∧ (j2 ≠ j → ∀ i, i + 1 < z j2 → aJ (i_siI (i_siI h 143 j (i_n s)) 144 j (i_n m)) 145 (60 * j2 + i) = v j2 i) := by
    intro j2 hj2
    unfold o_up
    rw [x_aI_siI r1.1.a144, x_upd, f2.rI (p := 143) (by decide), x_aI_siI r.1.a143, x_upd, f2.rJ (by decide), f1.rJ (by decide), f1.rI (p := 144) (by decide)]
    by_cases e : j2 = j
    · subst e
      rw [if_pos rfl, if_pos rfl, if_pos rfl, if_pos rfl]
      exact ⟨rfl, rfl, fun e => absurd rfl e⟩
    · rw [if_neg e, if_neg e, if_neg e, if_neg e]
      exact ⟨(k j2 hj2).1, (k j2 hj2).2.1, fun _ => (k j2 hj2).2.2⟩
  generalize i_siI (i_siI h 143 j (i_n s)) 144 j (i_n m) = h2 at r2 F2 K2 ⊢
  refine d207_46 r2.1 ?_
  try simp (disch := omega) only [n_lit, n_m, n_add, n_mul, n_div, n_mod, n_cl, n_lt, n_le, n_eq, n_in, n_eqm, n_meq, n_mlt, n_ltm, n_mle, n_lem, not_true_eq_false, not_false_eq_true, true_implies, false_implies, true_and, and_true, Nat.not_lt_zero, Nat.zero_le]
  have key : ∀ i, i ≤ m → ∀ h3, i_RA a h3 → i_Fr [145] [] h2 h3 → (∀ i2, i2 < i → aJ h3 145 (60 * j + i2) = 0) → (∀ j2, j2 < 4 → j2 ≠ j → ∀ i, i + 1 < z j2 → aJ h3 145 (60 * j2 + i) = v j2 i) → i_P i_MT i_AT L xs 207 49 [some (.ref 138), some (.int (i_n j)), some (.int (i_n s)), some (.int (i_n m)), some (.int (i_n i))] [] h3 0 0 Q := by
    refine l_up ?_ ?_
    · intro h3 r3 f3 e0 e1
      refine d207_49 r3.1 ?_
      try simp (disch := omega) only [n_lit, n_m, n_add, n_mul, n_div, n_mod, n_cl, n_lt, n_le, n_eq, n_in, n_eqm, n_meq, n_mlt, n_ltm, n_mle, n_lem, not_true_eq_false, not_false_eq_true, true_implies, false_implies, true_and, and_true, Nat.not_lt_zero, Nat.zero_le, Nat.le_refl]
      refine m200 r3 (fun h4 g4 f4 s4 => ⟨_, rfl, d207_79 g4.1 ⟨i_bo_ret, ?_⟩⟩)
      rw [i_bo_t (show i_n 0 = 0 from rfl)]
      refine H2 j s m rfl rfl rfl hj hs hm h4 g4 ((F2.trans (f3.mono (by decide) (by decide))).trans (f4.mono (by decide) (by decide))) (i_G0.tr f4 (fun j2 hj2 => ?_)) s4
      rw [f3.rI (by decide), f3.rI (by decide)]
      refine ⟨(K2 j2 hj2).1, (K2 j2 hj2).2.1, fun i hi => ?_⟩
      unfold o_upz
      unfold o_up at hi
      by_cases e : j2 = j
      · subst e
        rw [if_pos rfl] at hi ⊢
        exact e0 i (by omega)
      · rw [if_neg e] at hi ⊢
        exact e1 j2 hj2 e i hi
    · intro i hi ih h3 r3 f3 e0 e1
      refine d207_49 r3.1 ?_
      try simp (disch := omega) only [n_lit, n_m, n_add, n_mul, n_div, n_mod, n_cl, n_lt, n_le, n_eq, n_in, n_eqm, n_meq, n_mlt, n_ltm, n_mle, n_lem, not_true_eq_false, not_false_eq_true, true_implies, false_implies, true_and, and_true, Nat.not_lt_zero, Nat.zero_le]
      have f4 : i_Fr [145] [] h3 (i_siJ h3 145 (60 * j + i) 0) := i_Fr.refl.siJ List.mem_cons_self
      have r4 := r3.tr r3.1.siJ (f4.mono (by decide) (by decide))
      refine ⟨fun z => by omega, fun _ => ⟨by omega, d207_68 r4.1 ?_⟩⟩
      try simp (disch := omega) only [n_lit, n_m, n_add, n_mul, n_div, n_mod, n_cl, n_lt, n_le, n_eq, n_in, n_eqm, n_meq, n_mlt, n_ltm, n_mle, n_lem, not_true_eq_false, not_false_eq_true, true_implies, false_implies, true_and, and_true, Nat.not_lt_zero, Nat.zero_le]
      refine ih _ r4 (f3.trans f4) (fun i2 hi2 => ?_) (fun j2 hj2 hne i2 hi2 => ?_)
      · rw [x_aJ_siJ r3.1.a145, x_updJ]
        by_cases e : i2 = i
        · rw [if_pos (by omega)]
        · rw [if_neg (by omega)]; exact e0 i2 (by omega)
      · have := (w j2 hj2).1
        rw [x_aJ_siJ r3.1.a145, x_updJ, if_neg (by omega)]
        exact e1 j2 hj2 hne i2 hi2
  exact key 0 (Nat.zero_le _) h2 r2 i_Fr.refl (fun i2 hi2 => absurd hi2 (Nat.not_lt_zero i2)) (fun j2 hj2 hne => (K2 j2 hj2).2.2 hne)
set_option maxHeartbeats 1000000 in
theorem c211 (r : i_RA a h) (w : o_TW z q) (k : i_TR z q v h) {x p y g n : Int32} (H1 : o_pou z q x p y g n ≠ 0 → ∀ h2, i_RA a h2 → i_G0 h h2 → fI h2 138 4 = o_pou z q x p y g n → Q (some (.int 0)) h2) (H2 : o_pou z q x p y g n = 0 → ∀ h2, i_RA a h2 → i_GTr h h2 → i_TR z q (o_pov v x.toNatClampNeg p.toNatClampNeg y.toNatClampNeg g.toNatClampNeg n.toNatClampNeg) h2 → fI h2 138 4 = 0 → Q (some (.int 1)) h2) : i_C i_MT i_AT L xs 211 [.ref 138, .int x, .int p, .int y, .int g, .int n] h Q := by
  have no : ∀ s : Int32, o_pou z q x p y g n = s → s ≠ 0 → i_C i_MT i_AT L xs 200 [.ref 138, .int s] h (fun v h1 => ∃ r2 : Int32, v = some (.int r2) ∧ i_ret (some .boolean) r2 = true ∧ Q (some (.int r2)) h1) := by
    intro s es hs
    refine m200 r (fun h2 g2 f2 s2 => ⟨_, rfl, i_bo_ret, ?_⟩)
    rw [i_bo_f hs]
    rw [es] at H1
    exact H1 hs h2 g2 f2 s2
  have mono : ∀ {s : Int32} {Q2 : Option Value → iH → Prop}, i_C i_MT i_AT L xs 200 [.ref 138, .int s] h (fun v h1 => ∃ r2 : Int32, v = some (.int r2) ∧ i_ret (some .boolean) r2 = true ∧ Q (some (.int r2)) h1) → (∀ r2 h1, i_ret (some .boolean) r2 = true → Q (some (.int r2)) h1 → i_Lay h1 → Q2 (some (.int r2)) h1) → True := fun _ _ => trivial
  have bad : ∀ s : Int32, o_pou z q x p y g n = s → s ≠ 0 → ∀ (Q2 : Option Value → iH → Prop), (∀ h1, i_RA a h1 → Q (some (.int 0)) h1 → Q2 (some (.int 0)) h1) → i_C i_MT i_AT L xs 200 [.ref 138, .int s] h Q2 := by
    intro s es hs Q2 hQ
    refine m200 r (fun h2 g2 f2 s2 => ?_)
    rw [i_bo_f hs]
    rw [es] at H1
    exact hQ h2 g2 (H1 hs h2 g2 f2 s2)
  have b1 : ¬ (v_tr x ∧ v_tr y ∧ 0 ≤ p ∧ 0 ≤ g ∧ 0 ≤ n) → ∀ (y6 y7 : Option Value), i_P i_MT i_AT L xs 211 28 [some (.ref 138), some (.int x), some (.int p), some (.int y), some (.int g), some (.int n), y6, y7] [] h 0 0 Q := by
    intro e y6 y7
    exact d211_28 r.1 (bad 1 (by unfold o_pou; rw [if_neg e]) (by decide) _ (fun h1 r1 q => ⟨_, rfl, d211_33 r1.1 ⟨rfl, q⟩⟩))
  refine e211 (d211_0 r.1 (c205 r.1 ⟨_, rfl, d211_4 r.1 ?_⟩))
  rw [i_bo_0, Classical.not_not]
  refine ⟨fun e => b1 (fun q => e q.1) _ _, fun e => c205 r.1 ⟨_, rfl, d211_11 r.1 ?_⟩⟩
  rw [i_bo_0, Classical.not_not]
  refine ⟨fun e2 => b1 (fun q => e2 q.2.1) _ _, fun e2 => ⟨fun e3 => b1 (fun q => absurd q.2.2.1 (Int32.not_le.mpr e3)) _ _, fun e3 => ⟨fun e4 => b1 (fun q => absurd q.2.2.2.1 (Int32.not_le.mpr e4)) _ _, fun e4 => ⟨fun e5 => ?_, fun e5 => b1 (fun q => e5 q.2.2.2.2) _ _⟩⟩⟩⟩
  have eV : v_tr x ∧ v_tr y ∧ 0 ≤ p ∧ 0 ≤ g ∧ 0 ≤ n := ⟨e, e2, Int32.not_lt.mp e3, Int32.not_lt.mp e4, e5⟩
  obtain ⟨j, hj, rfl⟩ := n_get e (by omega)
  obtain ⟨l, hl, rfl⟩ := n_get e2 (by omega)
  obtain ⟨p, hp, rfl⟩ := n_nn (Int32.not_lt.mp e3)
  obtain ⟨g, hg, rfl⟩ := n_nn (Int32.not_lt.mp e4)
  obtain ⟨n, hn, rfl⟩ := n_nn e5
  have E : o_pou z q (i_n j) (i_n p) (i_n l) (i_n g) (i_n n) = (if z j = 0 ∨ z l = 0 then 2 else if q j = q l then (if p + n < z j ∧ g + n < z l then 0 else 3) else 8) := by
    unfold o_pou
    rw [if_pos eV, n_cl (by omega), n_cl (by omega), n_cl hp, n_cl hg, n_cl hn]
  rw [E] at bad H2
  rw [n_cl (by omega), n_cl hp, n_cl (by omega), n_cl hg, n_cl hn] at H2
  have zj := (w j hj).1
  have zl := (w l hl).1
  have qj := (w j hj).2
  have ql := (w l hl).2
  have miss : (z j = 0 ∨ z l = 0) → ∀ (y6 y7 : Option Value), i_P i_MT i_AT L xs 211 54 [some (.ref 138), some (.int (i_n j)), some (.int (i_n p)), some (.int (i_n l)), some (.int (i_n g)), some (.int (i_n n)), y6, y7] [] h 0 0 Q := by
    intro e y6 y7
    exact d211_54 r.1 (bad 2 (by rw [if_pos e]) (by decide) _ (fun h1 r1 q => ⟨_, rfl, d211_59 r1.1 ⟨rfl, q⟩⟩))
  have hij : i_in (i_n j) 4 := (n_in (by omega)).mpr hj
  have hil : i_in (i_n l) 4 := (n_in (by omega)).mpr hl
  rw [n_cl (by omega), n_cl (by omega), (k j hj).1, (k l hl).1, (k j hj).2.1, (k l hl).2.1, show (-1 : Int32) = i_m from rfl, o_zI_m zj, o_zI_m zl, n_eq (by omega) (by omega)]
  refine ⟨hij, fun e6 => miss (Or.inl e6) _ _, fun e6 => ⟨hil, fun e7 => ⟨hij, hil, fun e8 => ⟨hij, ?_⟩, fun e8 => ?_⟩, fun e7 => miss (Or.inr (Classical.not_not.mp e7)) _ _⟩⟩
  · rw [o_zI_s e6, o_zI_s e7, n_sub_lt (by omega) hp hn, n_le_sub (by omega) hg hn]
    have far : ¬ (p + n < z j ∧ g + n < z l) → ∀ (y6 y7 : Option Value), i_P i_MT i_AT L xs 211 109 [some (.ref 138), some (.int (i_n j)), some (.int (i_n p)), some (.int (i_n l)), some (.int (i_n g)), some (.int (i_n n)), y6, y7] [] h 0 0 Q := by
      intro e y6 y7
      exact d211_109 r.1 (bad 3 (by rw [if_neg (fun q => q.elim e6 e7), if_pos e8, if_neg e]) (by decide) _ (fun h1 r1 q => ⟨_, rfl, d211_114 r1.1 ⟨rfl, q⟩⟩))
    refine ⟨fun e9 => far (by omega) _ _, fun e9 => ⟨hil, fun e10 => ?_, fun e10 => far (by omega) _ _⟩⟩
    have H2 := H2 (by rw [if_neg (fun q => q.elim e6 e7), if_pos e8, if_pos (by omega)])
    -- the numbers go over one by one: those that were read stand as they were
    let ix : Nat → Nat := fun i => if p < g then n - 1 - i else i
    have key : ∀ i, i ≤ n → ∀ h3, i_RA a h3 → i_Fr [145] [] h h3 → (∀ c, c < 240 → aJ h3 145 c = (if ∃ i2, i2 < i ∧ c = 60 * l + g + ix i2 then aJ h 145 (60 * j + p + (c - (60 * l + g))) else aJ h 145 c)) → ∀ (y7 : Option Value), i_P i_MT i_AT L xs 211 118 [some (.ref 138), some (.int (i_n j)), some (.int (i_n p)), some (.int (i_n l)), some (.int (i_n g)), some (.int (i_n n)), some (.int (i_n i)), y7] [] h3 0 0 Q := by
      refine l_up ?_ ?_
      · intro h3 r3 f3 e0 y7
        refine d211_118 r3.1 ?_
        try simp (disch := omega) only [n_lit, n_m, n_add, n_mul, n_div, n_mod, n_cl, n_lt, n_le, n_eq, n_in, n_eqm, n_meq, n_mlt, n_ltm, n_mle, n_lem, not_true_eq_false, not_false_eq_true, true_implies, false_implies, true_and, and_true, Nat.not_lt_zero, Nat.zero_le, Nat.le_refl]
        refine m200 r3 (fun h4 g4 f4 s4 => ⟨_, rfl, d211_185 g4.1 ⟨i_bo_ret, ?_⟩⟩)
        rw [i_bo_t (show i_n 0 = 0 from rfl)]
        refine H2 h4 g4 ((f3.mono (by decide) (by decide)).trans (f4.mono (by decide) (by decide))) (i_G0.tr f4 (fun j2 hj2 => ?_)) s4
        rw [f3.rI (by decide), f3.rI (by decide)]
        refine ⟨(k j2 hj2).1, (k j2 hj2).2.1, fun c hc => ?_⟩
        have w2 := (w j2 hj2).1
        rw [e0 _ (by omega)]
        unfold o_pov
        by_cases e : j2 = l ∧ g ≤ c ∧ c < g + n
        · rw [if_pos e, if_pos ?_]
          · obtain ⟨rfl, z1, z2⟩ := e
            have := (k j hj).2.2 (p + (c - g)) (by omega)
            rw [show 60 * j + p + (60 * j2 + c - (60 * j2 + g)) = 60 * j + (p + (c - g)) by omega]
            exact this
          · by_cases pg : p < g
            · exact ⟨n - 1 - (c - g), by omega, by dsimp only [ix]; rw [if_pos pg]; omega⟩
            · exact ⟨c - g, by omega, by dsimp only [ix]; rw [if_neg pg]; omega⟩
        · rw [if_neg e, if_neg ?_]
          · exact (k j2 hj2).2.2 c hc
          · rintro ⟨i2, z1, z2⟩
            dsimp only [ix] at z2
            refine e ?_
            split at z2 <;> omega
      · intro i hi ih h3 r3 f3 e0 y7
        have go : ∀ m : Nat, m = ix i → ∀ (y7 : Option Value), i_P i_MT i_AT L xs 211 143 [some (.ref 138), some (.int (i_n j)), some (.int (i_n p)), some (.int (i_n l)), some (.int (i_n g)), some (.int (i_n n)), some (.int (i_n i)), y7] [.int (i_n m)] h3 0 0 Q := by
          intro m hm y7
          have hmn : m < n := by rw [hm]; dsimp only [ix]; split <;> omega
          refine d211_143 r3.1 ?_
          try simp (disch := omega) only [n_lit, n_m, n_add, n_mul, n_div, n_mod, n_cl, n_lt, n_le, n_eq, n_in, n_eqm, n_meq, n_mlt, n_ltm, n_mle, n_lem, not_true_eq_false, not_false_eq_true, true_implies, false_implies, true_and, and_true, Nat.not_lt_zero, Nat.zero_le]
          have f4 : i_Fr [145] [] h3 (i_siJ h3 145 (60 * l + g + m) (aJ h3 145 (60 * j + p + m))) := i_Fr.refl.siJ List.mem_cons_self
          have r4 := r3.tr r3.1.siJ (f4.mono (by decide) (by decide))
          refine ⟨by omega, by omega, d211_174 r4.1 ?_⟩
          try simp (disch := omega) only [n_lit, n_m, n_add, n_mul, n_div, n_mod, n_cl, n_lt, n_le, n_eq, n_in, n_eqm, n_meq, n_mlt, n_ltm, n_mle, n_lem, not_true_eq_false, not_false_eq_true, true_implies, false_implies, true_and, and_true, Nat.not_lt_zero, Nat.zero_le]
          refine ih _ r4 (f3.trans f4) (fun c hc => ?_) _
          rw [x_aJ_siJ r3.1.a145, x_updJ]
          by_cases e : c = 60 * l + g + m
          · rw [if_pos e, if_pos ⟨i, by omega, by rw [e, hm]⟩, e0 _ (by omega), if_neg ?_]
            · rw [e]; congr 1; omega
            · rintro ⟨i2, z1, z2⟩
              dsimp only [ix] at hm z2
              by_cases pg : p < g
              · rw [if_pos pg] at hm z2; omega
              · rw [if_neg pg] at hm z2; omega
          · rw [if_neg e, e0 c hc]
            have : (∃ i2, i2 < i + 1 ∧ c = 60 * l + g + ix i2) ↔ (∃ i2, i2 < i ∧ c = 60 * l + g + ix i2) := by
              constructor
              · rintro ⟨i2, z1, z2⟩
                by_cases e3 : i2 = i
                · subst e3; rw [← hm] at z2; exact absurd z2 e
                · exact ⟨i2, by omega, z2⟩
              · rintro ⟨i2, z1, z2⟩; exact ⟨i2, by omega, z2⟩
            by_cases e4 : ∃ i2, i2 < i ∧ c = 60 * l + g + ix i2
            · rw [if_pos e4, if_pos (this.mpr e4)]
            · rw [if_neg e4, if_neg (fun z => e4 (this.mp z))]
        refine d211_118 r3.1 ?_
        try simp (disch := omega) only [n_lit, n_m, n_add, n_mul, n_div, n_mod, n_cl, n_lt, n_le, n_eq, n_in, n_eqm, n_meq, n_mlt, n_ltm, n_mle, n_lem, not_true_eq_false, not_false_eq_true, true_implies, false_implies, true_and, and_true, Nat.not_lt_zero, Nat.zero_le, n_sub]
        refine ⟨fun z => by omega, fun _ => ⟨fun e => go i (by dsimp only [ix]; rw [if_neg (by omega)]) _, fun e => go (n - 1 - i) (by dsimp only [ix]; rw [if_pos (by omega)]) _⟩⟩
    try simp (disch := omega) only [n_lit, n_m, n_add, n_mul, n_div, n_mod, n_cl, n_lt, n_le, n_eq, n_in, n_eqm, n_meq, n_mlt, n_ltm, n_mle, n_lem, not_true_eq_false, not_false_eq_true, true_implies, false_implies, true_and, and_true, Nat.not_lt_zero, Nat.zero_le]
    refine key 0 (Nat.zero_le _) h r i_Fr.refl (fun c hc => ?_) _
    rw [if_neg]
    rintro ⟨i2, z1, z2⟩
    exact absurd z1 (Nat.not_lt_zero i2)
  · exact bad 8 (by rw [if_neg (fun q => q.elim e6 e7), if_neg e8]) (by decide) _ (fun h1 r1 q => ⟨_, rfl, d211_81 r1.1 ⟨rfl, q⟩⟩)
end
