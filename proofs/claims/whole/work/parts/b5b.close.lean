/-! THREE CONTRACTS, said a little more closely -/
section
variable {L : Nat} {xs : Nat → Int32} {h : iH} {Q : Option Value → iH → Prop} {a : Nat → Nat} {t : Nat}
set_option maxRecDepth 20000
set_option maxHeartbeats 2000000
theorem c176b (g : i_ST a t h) {x y : Int32} (H1 : ¬ v_sf x y → ∀ h2, i_ST a t h2 → i_F0 h h2 → fI h2 0 0 = 1 → Q (some (.int 0)) h2) (H2 : ∀ s m, x = i_n s → y = i_n m → s ≤ 9999 → m ≤ 30 → v_sf x y → ∀ h2, i_ST a t h2 → i_Fr fsA ((0, 1) :: (0, 2) :: fsF) h h2 → fI h2 0 0 = 0 → fJ h2 0 1 = o_top (o_saf a s m) m → fJ h2 0 2 = o_bot (o_saf a s m) m → Q (some (.int 1)) h2) : i_C i_MT i_AT L xs 176 [.ref 0, .int x, .int y] h Q := by
  have bad : ¬ v_sf x y → ∀ (y3 y4 : Option Value), i_P i_MT i_AT L xs 176 23 [some (.ref 0), some (.int x), some (.int y), y3, y4] [] h 0 0 Q := by
    intro z y3 y4
    exact d176_23 g.l (m180 g (fun h2 g2 f2 s2 => ⟨_, rfl, d176_28 g2.l ⟨rfl, H1 z h2 g2 f2 s2⟩⟩))
  refine e176 (d176_0 g.l (c192 ⟨_, rfl, d176_7 g.l ?_⟩))
  rw [i_bo_0, Classical.not_not]
  refine ⟨fun z => bad (fun q => z q.1) _ _, fun z => ?_⟩
  obtain ⟨m, hm1, hm, rfl⟩ := n_g1 (j := 1) (k := 30) z (by omega) (by omega)
  try simp (disch := omega) only [n_lit, n_m, n_add, n_mul, n_div, n_mod, n_cl, n_lt, n_le, n_eq, n_in, n_eqm, n_meq, n_mlt, n_ltm, n_mle, n_lem, not_true_eq_false, not_false_eq_true, true_implies, false_implies, true_and, and_true, Nat.not_lt_zero, Nat.zero_le, n_sub]
  refine c192 ⟨_, rfl, d176_20 g.l ?_⟩
  rw [i_bo_0, Classical.not_not]
  refine ⟨fun z2 => ?_, fun z2 => bad (fun q => z2 ⟨q.2.1.1, ?_⟩) _ _⟩
  · obtain ⟨s, hs, rfl⟩ := n_gle (k := 10000 - m) z2 (by omega)
    have hv : v_sf (i_n s) (i_n m) := by
      refine ⟨z, ⟨z2.1, ?_⟩, ?_⟩
      · rw [n_le (by omega) (by omega)]; omega
      · rw [n_cl (by omega), n_cl (by omega)]; omega
    have H2 := H2 s m rfl rfl (by omega) (by omega) hv
    have key : ∀ k, k ≤ m → ∀ h1, i_ST a t h1 → i_FS h h1 → i_P i_MT i_AT L xs 176 34 [some (.ref 0), some (.int (i_n s)), some (.int (i_n m)), some (.int (i_n (o_saf a s k))), some (.int (i_n k))] [] h1 0 0 Q := by
      refine l_up ?_ ?_
      · intro h1 g1 f1
        have hl : o_saf a s m ≤ m := o_cn0_le m
        refine d176_34 g1.l ?_
        try simp (disch := omega) only [n_lit, n_m, n_add, n_mul, n_div, n_mod, n_cl, n_lt, n_le, n_eq, n_in, n_eqm, n_meq, n_mlt, n_ltm, n_mle, n_lem, not_true_eq_false, not_false_eq_true, true_implies, false_implies, true_and, and_true, Nat.not_lt_zero, Nat.zero_le, Nat.le_refl]
        refine c185 g1.l (by omega) (by omega) (fun h2 hL2 f2 e1 e2 => ⟨rfl, ?_⟩)
        have G2 : i_ST a t h2 := g1.fr hL2 f2 (by decide) (by decide)
        refine d176_85 G2.l (m184 G2 (fun h3 g3 f3 s3 => ⟨_, rfl, d176_89 g3.l ⟨rfl, H2 h3 g3 ((f1.mono (fun _ z => z) (by decide)).trans ((f2.mono (by decide) (by decide)).trans (f3.mono (by decide) (by decide)))) s3 ?_ ?_⟩⟩))
        · rw [f3.vJ (by decide)]; exact e1
        · rw [f3.vJ (by decide)]; exact e2
      · intro k hk ih h1 g1 f1
        have hl : o_saf a s k ≤ k := o_cn0_le k
        refine d176_34 g1.l ?_
        try simp (disch := omega) only [n_lit, n_m, n_add, n_mul, n_div, n_mod, n_cl, n_lt, n_le, n_eq, n_in, n_eqm, n_meq, n_mlt, n_ltm, n_mle, n_lem, not_true_eq_false, not_false_eq_true, true_implies, false_implies, true_and, and_true, Nat.not_lt_zero, Nat.zero_le]
        refine ⟨fun z => by omega, fun _ => c17 g1.1 (y := 136) (Or.inr rfl) (by omega) (fun h2 g2 f2 e0 ey e2 => ⟨rfl, ?_⟩)⟩
        have F2 : i_FS h h2 := f1.trans (f2.mono (by decide) (by decide))
        have G2 : i_ST a t h2 := g1.fs g2 (f2.mono (by decide) (by decide))
        have hb : o_hid a (o_day a (s + k)) ≤ a 5 := o_cn0_le _
        have h5 := g.w.2.2.2.2.1
        have nx : ∀ b : Nat, b = (if (o_hid a (o_day a (s + k)) == 0) = true then 1 else 0) → i_P i_MT i_AT L xs 176 71 [some (.ref 0), some (.int (i_n s)), some (.int (i_n m)), some (.int (i_n (o_saf a s k))), some (.int (i_n k))] [.int (i_n b), .int (i_n (o_saf a s k))] h2 0 0 Q := by
          intro b hb
          refine d176_71 G2.l ?_
          try simp (disch := omega) only [n_lit, n_m, n_add, n_mul, n_div, n_mod, n_cl, n_lt, n_le, n_eq, n_in, n_eqm, n_meq, n_mlt, n_ltm, n_mle, n_lem, not_true_eq_false, not_false_eq_true, true_implies, false_implies, true_and, and_true, Nat.not_lt_zero, Nat.zero_le]
          have := ih h2 G2 F2
          unfold o_saf at this ⊢
          rw [o_cn0, ← hb] at this
          exact this
        refine d176_55 G2.l ?_
        rw [e2]
        try simp (disch := omega) only [n_lit, n_m, i_bo01, j_cmpn, Classical.not_not, n_add, n_mul, n_div, n_mod, n_cl, n_lt, n_le, n_eq, n_in, n_eqm, n_meq, n_mlt, n_ltm, n_mle, n_lem, not_true_eq_false, not_false_eq_true, true_implies, false_implies, true_and, and_true, Nat.not_lt_zero, Nat.zero_le]
        exact ⟨fun z => nx 0 (by rw [if_neg (by simpa using z)]), fun z => nx 1 (by rw [if_pos (by simpa using z)])⟩
    try simp (disch := omega) only [n_lit, n_m, n_add, n_mul, n_div, n_mod, n_cl, n_lt, n_le, n_eq, n_in, n_eqm, n_meq, n_mlt, n_ltm, n_mle, n_lem, not_true_eq_false, not_false_eq_true, true_implies, false_implies, true_and, and_true, Nat.not_lt_zero, Nat.zero_le]
    exact key 0 (Nat.zero_le _) h g i_Fr.refl
  · obtain ⟨s, hs, rfl⟩ := n_gle (k := 9999) q.2.1 (by omega)
    have := q.2.2
    rw [n_cl (by omega), n_cl (by omega)] at this
    rw [n_le (by omega) (by omega)]; omega
/-! DAYS AS THE REFERENCE HAS THEM -/
theorem c329b (r : i_RA a h) {x y : Int32} (H1 : ¬ v_sf x y → ∀ h2, i_RA a h2 → i_G0 h h2 → fI h2 138 4 = 1 → Q (some (.int 0)) h2) (H2 : ∀ s m, x = i_n s → y = i_n m → s ≤ 9999 → m ≤ 30 → v_sf x y → ∀ h2, i_RA a h2 → i_Fr gsA ((138, 5) :: (138, 6) :: gsF) h h2 → fI h2 138 4 = 0 → fJ h2 138 5 = o_top (o_saf a s m) m → fJ h2 138 6 = o_bot (o_saf a s m) m → Q (some (.int 1)) h2) : i_C i_MT i_AT L xs 329 [.ref 138, .int x, .int y] h Q := by
  have bad : ¬ v_sf x y → ∀ (y3 y4 : Option Value), i_P i_MT i_AT L xs 329 35 [some (.ref 138), some (.int x), some (.int y), y3, y4] [] h 0 0 Q := by
    intro z y3 y4
    refine d329_35 r.1 (m200 r (fun h2 g2 f2 s2 => ⟨_, rfl, d329_40 g2.1 ⟨i_bo_ret, ?_⟩⟩))
    rw [i_bo_f (by decide)]
    exact H1 z h2 g2 f2 s2
  refine e329 (d329_0 r.1 (c212i (y := 0) (z := 9999) r.1 rfl rfl ⟨_, rfl, d329_9 r.1 ?_⟩))
  rw [i_bo_0, Classical.not_not]
  refine ⟨fun z => bad (fun q => z q.2.1) _ _, fun z => c212i (y := 1) (z := 30) r.1 rfl rfl ⟨_, rfl, d329_21 r.1 ?_⟩⟩
  rw [i_bo_0, Classical.not_not]
  refine ⟨fun z2 => bad (fun q => z2 q.1) _ _, fun z2 => ?_⟩
  obtain ⟨m, hm1, hm, rfl⟩ := n_g1 (j := 1) (k := 30) z2 (by omega) (by omega)
  obtain ⟨s, hs, rfl⟩ := n_gle (k := 9999) z (by omega)
  try simp (disch := omega) only [n_lit, n_m, n_add, n_mul, n_div, n_mod, n_cl, n_lt, n_le, n_eq, n_in, n_eqm, n_meq, n_mlt, n_ltm, n_mle, n_lem, not_true_eq_false, not_false_eq_true, true_implies, false_implies, true_and, and_true, Nat.not_lt_zero, Nat.zero_le, n_sub]
  refine ⟨fun z3 => ?_, fun z3 => bad (fun q => z3 ?_) _ _⟩
  · have hv : v_sf (i_n s) (i_n m) := by
      refine ⟨z2, z, ?_⟩
      rw [n_cl (by omega), n_cl (by omega)]; omega
    have H2 := H2 s m rfl rfl (by omega) (by omega) hv
    have key : ∀ k, k ≤ m → ∀ h1, i_RA a h1 → i_GS h h1 → i_P i_MT i_AT L xs 329 46 [some (.ref 138), some (.int (i_n s)), some (.int (i_n m)), some (.int (i_n (o_saf a s k))), some (.int (i_n k))] [] h1 0 0 Q := by
      refine l_up ?_ ?_
      · intro h1 r1 f1
        have hl : o_saf a s m ≤ m := o_cn0_le m
        refine d329_46 r1.1 ?_
        try simp (disch := omega) only [n_lit, n_m, n_add, n_mul, n_div, n_mod, n_cl, n_lt, n_le, n_eq, n_in, n_eqm, n_meq, n_mlt, n_ltm, n_mle, n_lem, not_true_eq_false, not_false_eq_true, true_implies, false_implies, true_and, and_true, Nat.not_lt_zero, Nat.zero_le, Nat.le_refl, jj_n]
        refine c204 r1 (by omega) (by omega) (fun h2 r2 f2 e4 e5 e6 => ⟨_, rfl, d329_89 r2.1 ⟨rfl, H2 h2 r2 ((f1.mono (fun _ z => z) (by decide)).trans (f2.mono (by decide) (by decide))) e4 e5 e6⟩⟩)
      · intro k hk ih h1 r1 f1
        have hl : o_saf a s k ≤ k := o_cn0_le k
        refine d329_46 r1.1 ?_
        try simp (disch := omega) only [n_lit, n_m, n_add, n_mul, n_div, n_mod, n_cl, n_lt, n_le, n_eq, n_in, n_eqm, n_meq, n_mlt, n_ltm, n_mle, n_lem, not_true_eq_false, not_false_eq_true, true_implies, false_implies, true_and, and_true, Nat.not_lt_zero, Nat.zero_le]
        refine ⟨fun z => by omega, fun _ => c325 r1 (by omega) (fun h2 r2 f2 ey e2 => ⟨rfl, ?_⟩)⟩
        have F2 : i_GS h h2 := f1.trans (f2.mono (by decide) (by decide))
        have hb : o_hid a (o_day a (s + k)) ≤ a 5 := o_cn0_le _
        have h5 := r.2.1.2.2.2.2.1
        have nx : ∀ b : Nat, b = (if (o_hid a (o_day a (s + k)) == 0) = true then 1 else 0) → i_P i_MT i_AT L xs 329 73 [some (.ref 138), some (.int (i_n s)), some (.int (i_n m)), some (.int (i_n (o_saf a s k))), some (.int (i_n k))] [.int (i_n b), .int (i_n (o_saf a s k))] h2 0 0 Q := by
          intro b hb
          refine d329_73 r2.1 ?_
          try simp (disch := omega) only [n_lit, n_m, n_add, n_mul, n_div, n_mod, n_cl, n_lt, n_le, n_eq, n_in, n_eqm, n_meq, n_mlt, n_ltm, n_mle, n_lem, not_true_eq_false, not_false_eq_true, true_implies, false_implies, true_and, and_true, Nat.not_lt_zero, Nat.zero_le]
          have := ih h2 r2 F2
          unfold o_saf at this ⊢
          rw [o_cn0, ← hb] at this
          exact this
        refine d329_60 r2.1 ?_
        rw [e2]
        try simp (disch := omega) only [n_lit, n_m, i_bo01, j_cmpn, Classical.not_not, n_add, n_mul, n_div, n_mod, n_cl, n_lt, n_le, n_eq, n_in, n_eqm, n_meq, n_mlt, n_ltm, n_mle, n_lem, not_true_eq_false, not_false_eq_true, true_implies, false_implies, true_and, and_true, Nat.not_lt_zero, Nat.zero_le]
        exact ⟨fun z => nx 0 (by rw [if_neg (by simpa using z)]), fun z => nx 1 (by rw [if_pos (by simpa using z)])⟩
    exact key 0 (Nat.zero_le _) h r i_Fr.refl
  · have := q.2.2
    rw [n_cl (by omega), n_cl (by omega)] at this
    omega
theorem c287w (r : i_RA a h) {x y : Int32} (Hb : ¬ (v_p a x ∧ v_f a y) → i_R0 a h Q (-1, 1)) (H0 : ∀ p c, x = i_n p → y = i_n c → p < a 5 → c < a 0 * a 1 → o_wall a c = false → o_wyA a p c = none → ∀ h2, i_RA a h2 → i_GS h h2 → fI h2 138 4 = 6 → Q (some (.int (-1))) h2) (H1 : ∀ p c T, x = i_n p → y = i_n c → p < a 5 → c < a 0 * a 1 → o_wall a c = false → o_wyA a p c = some T → T ≤ 60 → ∀ h2, i_RA a h2 → i_Fr (157 :: gsA) ((138, 36) :: gsF) h h2 → fI h2 138 4 = 0 → fI h2 138 36 = i_n T → (∀ m, m ≤ T → aI h2 157 m = i_n (o_pth a p c T m)) → Q (some (.int (i_n T))) h2) : i_C i_MT i_AT L xs 287 [.ref 138, .int x, .int y] h Q := by
  have h5 := r.2.1.2.2.2.2.1
  have h48 := r.2.1.c48
  have bad : ¬ (v_p a x ∧ v_f a y) → ∀ (y3 y4 y5 y6 y7 y8 : Option Value), i_P i_MT i_AT L xs 287 25 [some (.ref 138), some (.int x), some (.int y), y3, y4, y5, y6, y7, y8] [] h 0 0 Q := by
    intro z y3 y4 y5 y6 y7 y8
    exact d287_25 r.1 (m201 r (fun h2 g2 f2 s2 => ⟨_, rfl, d287_30 g2.1 (Hb z h2 g2 f2 s2)⟩))
  refine e287 (d287_0 r.1 (c254 r ⟨_, rfl, d287_5 r.1 ?_⟩))
  rw [i_bo_0, Classical.not_not]
  refine ⟨fun z => bad (fun q => z q.1) _ _ _ _ _ _, fun z1 => c249 r ⟨_, rfl, d287_14 r.1 ?_⟩⟩
  rw [i_bo_0, Classical.not_not]
  refine ⟨fun z2 => bad (fun q => z2 q.2.1) _ _ _ _ _ _, fun z2 => ?_⟩
  obtain ⟨c, hc, hc48, rfl, hop⟩ := r_open (n := 0) (pc1 := 0) (pc2 := 0) r z2
  refine c250 r hc48 ⟨_, rfl, d287_22 r.1 ?_⟩
  rw [i_bo_0, Classical.not_not]
  rw [← hop]
  refine ⟨fun z3 => c248 r ⟨_, rfl, d287_35 r.1 ?_⟩, fun z3 => bad (fun q => z3 q.2) _ _ _ _ _ _⟩
  obtain ⟨p, hp, rfl⟩ := n_get z1 (by omega)
  have hw : o_wall a c = false := by
    have := z3.2
    rw [n_cl (by omega)] at this
    exact this
  have H0 := H0 p c rfl rfl hp hc hw
  have H1 := fun T => H1 p c T rfl rfl hp hc hw
  have hs := (r.st hp).1
  have rfr : ∀ h2, i_Lay h2 → i_Fr rwA [] h h2 → i_RA a h2 := fun h2 hL2 f => r.fr hL2 f (by decide)
  have sA : ∀ h1, i_RA a h1 → aI h1 139 (154 + 5 * p) = i_n (a (154 + 5 * p)) := fun h1 r1 => r1.2.2.1 _ (by omega)
  -- behind the search: the way told
  have told : ∀ T, T ≤ 60 → o_wyA a p c = some T → o_rch a p T c = true → ∀ h1, i_RA a h1 → i_Fr rwA [] h h1 → ∀ (y6 y7 y8 : Option Value), i_P i_MT i_AT L xs 287 245 [some (.ref 138), some (.int (i_n p)), some (.int (i_n c)), some (.int (i_n (a 0 * a 1))), some (.int (i_n T)), some (.int (i_n 0)), y6, y7, y8] [] h1 0 0 Q := by
    intro T hT eT hr
    -- the way itself
    have way : ∀ m, m ≤ T + 1 → 1 ≤ m → ∀ h1, i_RA a h1 → i_Fr rwA [] h h1 → (∀ i c2, i ≤ T → c2 < a 0 * a 1 → aI h1 156 (48 * i + c2) = i_bo (o_bk a p c T (T - i) c2 = true)) → (∀ i, i < m → aI h1 157 i = i_n (o_pth a p c T i)) → ∀ (y6 y7 y8 : Option Value), i_P i_MT i_AT L xs 287 431 [some (.ref 138), some (.int (i_n p)), some (.int (i_n c)), some (.int (i_n (a 0 * a 1))), some (.int (i_n T)), some (.int (i_n m)), y6, y7, y8] [] h1 0 0 Q := by
      refine l_up ?_ ?_
      · intro _ h1 r1 f1 hB hP y6 y7 y8
        refine d287_431 r1.1 ?_
        try simp (disch := omega) only [n_lit, n_m, n_add, n_mul, n_div, n_mod, n_cl, n_lt, n_le, n_eq, n_in, n_eqm, n_meq, n_mlt, n_ltm, n_mle, n_lem, not_true_eq_false, not_false_eq_true, true_implies, false_implies, true_and, and_true, Nat.not_lt_zero, Nat.zero_le, Nat.lt_succ_self]
        have fr : i_Fr [] [(138, 36)] h1 (i_sf h1 138 36 (.int (i_n T))) := i_Fr.refl.sf (by decide)
        have r2 := r1.frf fr (r1.1.sf r1.1.q138_36 rfl) (by decide)
        refine d287_537 r2.1 (m202 r2 (fun h3 g3 f3 s3 => ⟨_, rfl, d287_543 g3.1 (H1 T eT hT h3 g3 ((f1.mono (by decide) (by decide)).trans ((fr.mono (by decide) (by decide)).trans (f3.mono (by decide) (by decide)))) s3 ?_ (fun m hm => ?_))⟩))
        · rw [f3.vI (by decide)]; exact x_fI_sf r1.1.q138_36
        · rw [f3.rI (by decide), fr.rI (by decide)]; exact hP m (by omega)
      · intro m hm ih hm1 h1 r1 f1 hB hP y6 y7 y8
        obtain ⟨j, rfl⟩ : ∃ j, m = j + 1 := ⟨m - 1, by omega⟩
        have ok := o_pth_ok hc hr j (by omega)
        have hnx := o_nxP_s hc hr (m := j) (by omega)
        have g0 := o_lst_g _ _ _ hnx
        have scan : ∀ b, b ≤ o_pth a p c T (j + 1) → ∀ (y7 y8 : Option Value), i_P i_MT i_AT L xs 287 441 [some (.ref 138), some (.int (i_n p)), some (.int (i_n c)), some (.int (i_n (a 0 * a 1))), some (.int (i_n T)), some (.int (i_n (j + 1))), some (.int (i_n b)), y7, y8] [] h1 0 0 Q := by
          have tst : ∀ b, b < a 0 * a 1 → (o_nxP a p c T (j + 1) (o_pth a p c T j) b = false → ∀ (y7 y8 : Option Value), i_P i_MT i_AT L xs 287 510 [some (.ref 138), some (.int (i_n p)), some (.int (i_n c)), some (.int (i_n (a 0 * a 1))), some (.int (i_n T)), some (.int (i_n (j + 1))), some (.int (i_n b)), y7, y8] [] h1 0 0 Q) → (o_nxP a p c T (j + 1) (o_pth a p c T j) b = true → ∀ (y7 y8 : Option Value), i_P i_MT i_AT L xs 287 525 [some (.ref 138), some (.int (i_n p)), some (.int (i_n c)), some (.int (i_n (a 0 * a 1))), some (.int (i_n T)), some (.int (i_n (j + 1))), some (.int (i_n b)), y7, y8] [] (i_siI h1 157 (j + 1) (i_n b)) 0 0 Q) → ∀ (y7 y8 : Option Value), i_P i_MT i_AT L xs 287 441 [some (.ref 138), some (.int (i_n p)), some (.int (i_n c)), some (.int (i_n (a 0 * a 1))), some (.int (i_n T)), some (.int (i_n (j + 1))), some (.int (i_n b)), y7, y8] [] h1 0 0 Q := by
            intro b hb no yes y7 y8
            unfold o_nxP at no yes
            have mc : o_bk a p c T (T - (j + 1)) b = true → (b == o_pth a p c T j || o_far (a 0) b (o_pth a p c T j) == 1) = true → i_P i_MT i_AT L xs 287 489 [some (.ref 138), some (.int (i_n p)), some (.int (i_n c)), some (.int (i_n (a 0 * a 1))), some (.int (i_n T)), some (.int (i_n (j + 1))), some (.int (i_n b)), y7, y8] [] h1 0 0 Q := by
              intro e1 e2
              refine d287_489 r1.1 ?_
              try simp (disch := omega) only [n_lit, n_m, n_add, n_mul, n_div, n_mod, n_cl, n_lt, n_le, n_eq, n_in, n_eqm, n_meq, n_mlt, n_ltm, n_mle, n_lem, not_true_eq_false, not_false_eq_true, true_implies, false_implies, true_and, and_true, Nat.not_lt_zero, Nat.zero_le, n_sub]
              rw [show j + 1 - 1 = j by omega, hP j (by omega)]
              refine ⟨by omega, c286 r1 hp ok.1 hb (by omega) ⟨_, rfl, d287_507 r1.1 ?_⟩⟩
              try simp (disch := omega) only [n_lit, n_m, i_bo01, j_cmpn, Classical.not_not, n_add, n_mul, n_div, n_mod, n_cl, n_lt, n_le, n_eq, n_in, n_eqm, n_meq, n_mlt, n_ltm, n_mle, n_lem, not_true_eq_false, not_false_eq_true, true_implies, false_implies, true_and, and_true, Nat.not_lt_zero, Nat.zero_le]
              refine ⟨fun e3 => ⟨by omega, yes (by rw [e1, e2, e3]; rfl) _ _⟩, fun e3 => no ?_ _ _⟩
              have : o_mc a p (j + 1) (o_pth a p c T j) b = false := by simpa using e3
              rw [this, Bool.and_false, Bool.and_false]
            refine d287_441 r1.1 ?_
            try simp (disch := omega) only [n_lit, n_m, i_bo01, j_cmpn, Classical.not_not, n_add, n_mul, n_div, n_mod, n_cl, n_lt, n_le, n_eq, n_in, n_eqm, n_meq, n_mlt, n_ltm, n_mle, n_lem, not_true_eq_false, not_false_eq_true, true_implies, false_implies, true_and, and_true, Nat.not_lt_zero, Nat.zero_le, hB, n_sub]
            rw [show j + 1 - 1 = j by omega, hP j (by omega)]
            refine ⟨by omega, fun e => no ?_ _ _, fun e => ⟨by omega, fun e2 => mc e ?_, fun e2 => ⟨by omega, c285 r1 hb ok.1 ⟨_, rfl, d287_486 r1.1 ?_⟩⟩⟩⟩
            · have : o_bk a p c T (T - (j + 1)) b = false := by simpa using e
              rw [this, Bool.false_and]
            · rw [n_eq (by omega) (by omega)] at e2
              simp [e2]
            · rw [n_eq (by omega) (by omega)] at e2
              try simp (disch := omega) only [n_lit, n_m, i_bo01, j_cmpn, Classical.not_not, n_add, n_mul, n_div, n_mod, n_cl, n_lt, n_le, n_eq, n_in, n_eqm, n_meq, n_mlt, n_ltm, n_mle, n_lem, not_true_eq_false, not_false_eq_true, true_implies, false_implies, true_and, and_true, Nat.not_lt_zero, Nat.zero_le]
              refine ⟨fun e3 => no ?_ _ _, fun e3 => mc e ?_⟩
              · have : (b == o_pth a p c T j || o_far (a 0) b (o_pth a p c T j) == 1) = false := by simp [e2, e3]
                rw [this, Bool.false_and, Bool.and_false]
              · simp [e3]
          refine l_up ?_ ?_
          · intro y7 y8
            refine tst _ (by omega) (fun e => absurd (e.symm.trans g0.2.2.1) (by decide)) (fun _ y7 y8 => ?_) _ _
            have fr : i_Fr [157] [] h1 (i_siI h1 157 (j + 1) (i_n (o_pth a p c T (j + 1)))) := i_Fr.refl.siI (by decide)
            have f2 := f1.trans (fr.mono (B := rwA) (G := []) (by decide) (fun _ z => z))
            have r2 := rfr _ r1.1.siI f2
            refine d287_525 r2.1 ?_
            try simp (disch := omega) only [n_lit, n_m, n_add, n_mul, n_div, n_mod, n_cl, n_lt, n_le, n_eq, n_in, n_eqm, n_meq, n_mlt, n_ltm, n_mle, n_lem, not_true_eq_false, not_false_eq_true, true_implies, false_implies, true_and, and_true, Nat.not_lt_zero, Nat.zero_le]
            refine ih (by omega) _ r2 f2 (by rw [fr.rI (by decide)]; exact hB) (fun i hi => ?_) _ _ _
            rw [x_aI_siI r1.1.a157, x_upd]
            by_cases e : i = j + 1
            · rw [if_pos e, e]
            · rw [if_neg e]; exact hP i (by omega)
          · intro b hb ihb y7 y8
            refine tst b (by omega) (fun _ y7 y8 => ?_) (fun e => absurd (e.symm.trans (g0.2.2.2 b (Nat.zero_le _) hb)) (by decide)) _ _
            refine d287_510 r1.1 ?_
            try simp (disch := omega) only [n_lit, n_m, n_add, n_mul, n_div, n_mod, n_cl, n_lt, n_le, n_eq, n_in, n_eqm, n_meq, n_mlt, n_ltm, n_mle, n_lem, not_true_eq_false, not_false_eq_true, true_implies, false_implies, true_and, and_true, Nat.not_lt_zero, Nat.zero_le]
            exact ihb _ _
        refine d287_431 r1.1 ?_
        try simp (disch := omega) only [n_lit, n_m, n_add, n_mul, n_div, n_mod, n_cl, n_lt, n_le, n_eq, n_in, n_eqm, n_meq, n_mlt, n_ltm, n_mle, n_lem, not_true_eq_false, not_false_eq_true, true_implies, false_implies, true_and, and_true, Nat.not_lt_zero, Nat.zero_le]
        exact ⟨fun e => by omega, fun _ => scan 0 (Nat.zero_le _) _ _⟩
    -- back from the end
    have back : ∀ m, m ≤ T → ∀ h1, i_RA a h1 → i_Fr rwA [] h h1 → (∀ i c2, m ≤ i → i ≤ T → c2 < a 0 * a 1 → aI h1 156 (48 * i + c2) = i_bo (o_bk a p c T (T - i) c2 = true)) → ∀ (y6 y7 y8 : Option Value), i_P i_MT i_AT L xs 287 287 [some (.ref 138), some (.int (i_n p)), some (.int (i_n c)), some (.int (i_n (a 0 * a 1))), some (.int (i_n T)), some (.int (o_zI m)), y6, y7, y8] [] h1 0 0 Q := by
      intro m
      induction m with
      | zero =>
        intro _ h1 r1 f1 hB y6 y7 y8
        have neg : o_zI 0 < (0 : Int32) := by decide
        refine d287_287 r1.1 ⟨fun _ => ?_, fun e => absurd neg e⟩
        try simp (disch := omega) only [n_lit, n_m, n_add, n_mul, n_div, n_mod, n_cl, n_lt, n_le, n_eq, n_in, n_eqm, n_meq, n_mlt, n_ltm, n_mle, n_lem, not_true_eq_false, not_false_eq_true, true_implies, false_implies, true_and, and_true, Nat.not_lt_zero, Nat.zero_le, sA h1 r1]
        have fr : i_Fr [157] [] h1 (i_siI h1 157 0 (i_n (a (154 + 5 * p)))) := i_Fr.refl.siI (by decide)
        have f2 := f1.trans (fr.mono (B := rwA) (G := []) (by decide) (fun _ z => z))
        have r2 := rfr _ r1.1.siI f2
        refine ⟨by omega, by omega, d287_428 r2.1 ?_⟩
        try simp (disch := omega) only [n_lit, n_m, n_add, n_mul, n_div, n_mod, n_cl, n_lt, n_le, n_eq, n_in, n_eqm, n_meq, n_mlt, n_ltm, n_mle, n_lem, not_true_eq_false, not_false_eq_true, true_implies, false_implies, true_and, and_true, Nat.not_lt_zero, Nat.zero_le]
        refine way 1 (by omega) (Nat.le_refl 1) _ r2 f2 (by rw [fr.rI (by decide)]; exact fun i c2 h1 h2 => hB i c2 (Nat.zero_le _) h1 h2) (fun i hi => ?_) _ _ _
        rw [x_aI_siI r1.1.a157, x_upd, if_pos (by omega), show i = 0 by omega]
        rfl
      | succ m ih =>
        intro hm h1 r1 f1 hB y6 y7 y8
        have row : ∀ b, b ≤ a 0 * a 1 → ∀ h2, i_RA a h2 → i_Fr rwA [] h h2 → (∀ i c2, m + 1 ≤ i → i ≤ T → c2 < a 0 * a 1 → aI h2 156 (48 * i + c2) = i_bo (o_bk a p c T (T - i) c2 = true)) → (∀ c2, c2 < b → aI h2 156 (48 * m + c2) = i_bo (o_bk a p c T (T - m) c2 = true)) → ∀ (y7 y8 : Option Value), i_P i_MT i_AT L xs 287 295 [some (.ref 138), some (.int (i_n p)), some (.int (i_n c)), some (.int (i_n (a 0 * a 1))), some (.int (i_n T)), some (.int (i_n m)), some (.int (i_n b)), y7, y8] [] h2 0 0 Q := by
          refine l_up ?_ ?_
          · intro h2 r2 f2 hB2 hG2 y7 y8
            refine d287_295 r2.1 ?_
            try simp (disch := omega) only [n_lit, n_m, n_add, n_mul, n_div, n_mod, n_cl, n_lt, n_le, n_eq, n_in, n_eqm, n_meq, n_mlt, n_ltm, n_mle, n_lem, not_true_eq_false, not_false_eq_true, true_implies, false_implies, true_and, and_true, Nat.not_lt_zero, Nat.zero_le, Nat.le_refl, n_zdec]
            refine ih (by omega) h2 r2 f2 (fun i c2 h1i h2i hc2 => ?_) _ _ _
            by_cases e : i = m
            · subst e; exact hG2 c2 hc2
            · exact hB2 i c2 (by omega) h2i hc2
          · intro b hb ihb h2 r2 f2 hB2 hG2 y7 y8
            have can : ∀ d, d ≤ a 0 * a 1 → i_P i_MT i_AT L xs 287 307 [some (.ref 138), some (.int (i_n p)), some (.int (i_n c)), some (.int (i_n (a 0 * a 1))), some (.int (i_n T)), some (.int (i_n m)), some (.int (i_n b)), some (.int (i_bo (o_or (fun d => o_bk a p c T (T - (m + 1)) d && ((b == d || o_far (a 0) b d == 1) && o_mc a p (m + 1) b d)) d = true))), some (.int (i_n d))] [] h2 0 0 Q := by
              refine l_up ?_ ?_
              · have e0 : o_bk a p c T (T - m) b = o_or (fun d => o_bk a p c T (T - (m + 1)) d && ((b == d || o_far (a 0) b d == 1) && o_mc a p (m + 1) b d)) (a 0 * a 1) := by
                  rw [show T - m = (T - (m + 1)) + 1 by omega, o_bk, show T - (T - (m + 1)) = m + 1 by omega]
                rw [← e0]
                refine d287_307 r2.1 ?_
                try simp (disch := omega) only [n_lit, n_m, n_add, n_mul, n_div, n_mod, n_cl, n_lt, n_le, n_eq, n_in, n_eqm, n_meq, n_mlt, n_ltm, n_mle, n_lem, not_true_eq_false, not_false_eq_true, true_implies, false_implies, true_and, and_true, Nat.not_lt_zero, Nat.zero_le, Nat.le_refl, vn_bo]
                have fr : i_Fr [156] [] h2 (i_siI h2 156 (48 * m + b) (i_bo (o_bk a p c T (T - m) b = true))) := i_Fr.refl.siI (by decide)
                have f3 := f2.trans (fr.mono (B := rwA) (G := []) (by decide) (fun _ z => z))
                have r3 := rfr _ r2.1.siI f3
                refine ⟨by omega, d287_398 r3.1 ?_⟩
                try simp (disch := omega) only [n_lit, n_m, n_add, n_mul, n_div, n_mod, n_cl, n_lt, n_le, n_eq, n_in, n_eqm, n_meq, n_mlt, n_ltm, n_mle, n_lem, not_true_eq_false, not_false_eq_true, true_implies, false_implies, true_and, and_true, Nat.not_lt_zero, Nat.zero_le]
                refine ihb _ r3 f3 (fun i c2 h1i h2i hc2 => ?_) (fun c2 hc2 => ?_) _ _
                · rw [r_row r2.1 r2.1.a156 c2 i (by omega) (by omega), if_neg (by omega)]; exact hB2 i c2 h1i h2i hc2
                · rw [r_row r2.1 r2.1.a156 c2 m (by omega) (by omega)]
                  by_cases e : c2 = b
                  · rw [if_pos ⟨rfl, e⟩, e]
                  · rw [if_neg (fun q => e q.2)]; exact hG2 c2 (by omega)
              · intro d hd ihd
                rw [o_or] at ihd
                generalize o_or (fun d => o_bk a p c T (T - (m + 1)) d && ((b == d || o_far (a 0) b d == 1) && o_mc a p (m + 1) b d)) d = O at ihd ⊢
                have nx : ∀ v : Bool, v = (O || (o_bk a p c T (T - (m + 1)) d && ((b == d || o_far (a 0) b d == 1) && o_mc a p (m + 1) b d))) → i_P i_MT i_AT L xs 287 375 [some (.ref 138), some (.int (i_n p)), some (.int (i_n c)), some (.int (i_n (a 0 * a 1))), some (.int (i_n T)), some (.int (i_n m)), some (.int (i_n b)), some (.int (i_bo (O = true))), some (.int (i_n d))] [.int (i_bo (v = true))] h2 0 0 Q := by
                  intro v hv
                  subst hv
                  refine d287_375 r2.1 ?_
                  try simp (disch := omega) only [n_lit, n_m, n_add, n_mul, n_div, n_mod, n_cl, n_lt, n_le, n_eq, n_in, n_eqm, n_meq, n_mlt, n_ltm, n_mle, n_lem, not_true_eq_false, not_false_eq_true, true_implies, false_implies, true_and, and_true, Nat.not_lt_zero, Nat.zero_le]
                  exact ihd
                have yes : (O || (o_bk a p c T (T - (m + 1)) d && ((b == d || o_far (a 0) b d == 1) && o_mc a p (m + 1) b d))) = true → i_P i_MT i_AT L xs 287 370 [some (.ref 138), some (.int (i_n p)), some (.int (i_n c)), some (.int (i_n (a 0 * a 1))), some (.int (i_n T)), some (.int (i_n m)), some (.int (i_n b)), some (.int (i_bo (O = true))), some (.int (i_n d))] [] h2 0 0 Q := fun z => d287_370 r2.1 (nx true z.symm)
                have no : (O || (o_bk a p c T (T - (m + 1)) d && ((b == d || o_far (a 0) b d == 1) && o_mc a p (m + 1) b d))) = false → i_P i_MT i_AT L xs 287 374 [some (.ref 138), some (.int (i_n p)), some (.int (i_n c)), some (.int (i_n (a 0 * a 1))), some (.int (i_n T)), some (.int (i_n m)), some (.int (i_n b)), some (.int (i_bo (O = true))), some (.int (i_n d))] [] h2 0 0 Q := fun z => d287_374 r2.1 (nx false z.symm)
                have mc : O = false → o_bk a p c T (T - (m + 1)) d = true → (b == d || o_far (a 0) b d == 1) = true → i_P i_MT i_AT L xs 287 354 [some (.ref 138), some (.int (i_n p)), some (.int (i_n c)), some (.int (i_n (a 0 * a 1))), some (.int (i_n T)), some (.int (i_n m)), some (.int (i_n b)), some (.int (i_bo (O = true))), some (.int (i_n d))] [] h2 0 0 Q := by
                  intro e0 e1 e2
                  refine d287_354 r2.1 ?_
                  try simp (disch := omega) only [n_lit, n_m, n_add, n_mul, n_div, n_mod, n_cl, n_lt, n_le, n_eq, n_in, n_eqm, n_meq, n_mlt, n_ltm, n_mle, n_lem, not_true_eq_false, not_false_eq_true, true_implies, false_implies, true_and, and_true, Nat.not_lt_zero, Nat.zero_le]
                  refine c286 r2 hp hb hd (by omega) ⟨_, rfl, d287_367 r2.1 ?_⟩
                  try simp (disch := omega) only [n_lit, n_m, i_bo01, j_cmpn, Classical.not_not, n_add, n_mul, n_div, n_mod, n_cl, n_lt, n_le, n_eq, n_in, n_eqm, n_meq, n_mlt, n_ltm, n_mle, n_lem, not_true_eq_false, not_false_eq_true, true_implies, false_implies, true_and, and_true, Nat.not_lt_zero, Nat.zero_le]
                  exact ⟨fun e3 => no (by simp [e0, e1, e2, e3]), fun e3 => yes (by simp [e0, e1, e2, e3])⟩
                have hBd := hB2 (m + 1) d (Nat.le_refl _) hm hd
                refine d287_307 r2.1 ?_
                try simp (disch := omega) only [n_lit, n_m, i_bo01, j_cmpn, Classical.not_not, n_add, n_mul, n_div, n_mod, n_cl, n_lt, n_le, n_eq, n_in, n_eqm, n_meq, n_mlt, n_ltm, n_mle, n_lem, not_true_eq_false, not_false_eq_true, true_implies, false_implies, true_and, and_true, Nat.not_lt_zero, Nat.zero_le, hBd]
                refine ⟨fun e => by omega, fun _ => ⟨fun e => yes (by rw [e]; rfl), fun e => ⟨by omega, fun e1 => no (by simp [e, e1]), fun e1 => ⟨fun e2 => mc (by simpa using e) e1 (by simp [e2]), fun e2 => c285 r2 hb hd ⟨_, rfl, d287_351 r2.1 ?_⟩⟩⟩⟩⟩
                try simp (disch := omega) only [n_lit, n_m, i_bo01, j_cmpn, Classical.not_not, n_add, n_mul, n_div, n_mod, n_cl, n_lt, n_le, n_eq, n_in, n_eqm, n_meq, n_mlt, n_ltm, n_mle, n_lem, not_true_eq_false, not_false_eq_true, true_implies, false_implies, true_and, and_true, Nat.not_lt_zero, Nat.zero_le]
                exact ⟨fun e3 => no (by simp [e, e2, e3]), fun e3 => mc (by simpa using e) e1 (by simp [e3])⟩
            refine d287_295 r2.1 ?_
            try simp (disch := omega) only [n_lit, n_m, n_add, n_mul, n_div, n_mod, n_cl, n_lt, n_le, n_eq, n_in, n_eqm, n_meq, n_mlt, n_ltm, n_mle, n_lem, not_true_eq_false, not_false_eq_true, true_implies, false_implies, true_and, and_true, Nat.not_lt_zero, Nat.zero_le]
            exact ⟨fun e => by omega, fun _ => can 0 (Nat.zero_le _)⟩
        refine d287_287 r1.1 ?_
        rw [show o_zI (m + 1) = i_n m from rfl]
        try simp (disch := omega) only [n_lit, n_m, n_add, n_mul, n_div, n_mod, n_cl, n_lt, n_le, n_eq, n_in, n_eqm, n_meq, n_mlt, n_ltm, n_mle, n_lem, not_true_eq_false, not_false_eq_true, true_implies, false_implies, true_and, and_true, Nat.not_lt_zero, Nat.zero_le]
        exact row 0 (Nat.zero_le _) h1 r1 f1 hB (fun c2 hc2 => absurd hc2 (Nat.not_lt_zero c2)) _ _
    have endr : ∀ b, b ≤ a 0 * a 1 → ∀ h1, i_RA a h1 → i_Fr rwA [] h h1 → (∀ c2, c2 < b → aI h1 156 (48 * T + c2) = i_bo (o_bk a p c T 0 c2 = true)) → ∀ (y6 y7 y8 : Option Value), i_P i_MT i_AT L xs 287 245 [some (.ref 138), some (.int (i_n p)), some (.int (i_n c)), some (.int (i_n (a 0 * a 1))), some (.int (i_n T)), some (.int (i_n b)), y6, y7, y8] [] h1 0 0 Q := by
      refine l_up ?_ ?_
      · intro h1 r1 f1 hB y6 y7 y8
        refine d287_245 r1.1 ?_
        try simp (disch := omega) only [n_lit, n_m, n_add, n_mul, n_div, n_mod, n_cl, n_lt, n_le, n_eq, n_in, n_eqm, n_meq, n_mlt, n_ltm, n_mle, n_lem, not_true_eq_false, not_false_eq_true, true_implies, false_implies, true_and, and_true, Nat.not_lt_zero, Nat.zero_le, Nat.le_refl]
        rw [show i_n T - i_n 1 = o_zI T by rw [← n_zdec, Int32.sub_eq_add_neg]; rfl]
        refine back T (Nat.le_refl T) h1 r1 f1 (fun i c2 h1i h2i hc2 => ?_) _ _ _
        have e : i = T := by omega
        subst e
        rw [Nat.sub_self]; exact hB c2 hc2
      · intro b hb ihb h1 r1 f1 hB y6 y7 y8
        have nx : ∀ v : Bool, v = o_bk a p c T 0 b → ∀ (y6 y7 y8 : Option Value), i_P i_MT i_AT L xs 287 274 [some (.ref 138), some (.int (i_n p)), some (.int (i_n c)), some (.int (i_n (a 0 * a 1))), some (.int (i_n T)), some (.int (i_n b)), y6, y7, y8] [.int (i_bo (v = true)), .int (i_n (48 * T + b)), .ref 156] h1 0 0 Q := by
          intro v hv y6 y7 y8
          subst hv
          refine d287_274 r1.1 ⟨2928, aI h1 156, r1.1.a156, ?_⟩
          try simp (disch := omega) only [n_lit, n_m, n_add, n_mul, n_div, n_mod, n_cl, n_lt, n_le, n_eq, n_in, n_eqm, n_meq, n_mlt, n_ltm, n_mle, n_lem, not_true_eq_false, not_false_eq_true, true_implies, false_implies, true_and, and_true, Nat.not_lt_zero, Nat.zero_le, vn_bo]
          have fr : i_Fr [156] [] h1 (i_siI h1 156 (48 * T + b) (i_bo (o_bk a p c T 0 b = true))) := i_Fr.refl.siI (by decide)
          have f2 := f1.trans (fr.mono (B := rwA) (G := []) (by decide) (fun _ z => z))
          have r2 := rfr _ r1.1.siI f2
          refine ⟨by omega, d287_275 r2.1 ?_⟩
          try simp (disch := omega) only [n_lit, n_m, n_add, n_mul, n_div, n_mod, n_cl, n_lt, n_le, n_eq, n_in, n_eqm, n_meq, n_mlt, n_ltm, n_mle, n_lem, not_true_eq_false, not_false_eq_true, true_implies, false_implies, true_and, and_true, Nat.not_lt_zero, Nat.zero_le]
          refine ihb _ r2 f2 (fun c2 hc2 => ?_) _ _ _
          rw [r_row r1.1 r1.1.a156 c2 T (by omega) (by omega)]
          by_cases e : c2 = b
          · rw [if_pos ⟨rfl, e⟩, e]
          · rw [if_neg (fun q => e q.2)]; exact hB c2 (by omega)
        refine d287_245 r1.1 ?_
        try simp (disch := omega) only [n_lit, n_m, i_bo01, j_cmpn, Classical.not_not, n_add, n_mul, n_div, n_mod, n_cl, n_lt, n_le, n_eq, n_in, n_eqm, n_meq, n_mlt, n_ltm, n_mle, n_lem, not_true_eq_false, not_false_eq_true, true_implies, false_implies, true_and, and_true, Nat.not_lt_zero, Nat.zero_le]
        exact ⟨fun e => by omega, fun _ => ⟨fun e => nx false (by rw [o_bk]; simp [e]) _ _ _, fun e => nx true (by rw [o_bk]; simp [e]) _ _ _⟩⟩
    intro h1 r1 f1
    exact endr 0 (Nat.zero_le _) h1 r1 f1 (fun c2 hc2 => absurd hc2 (Nat.not_lt_zero c2))
  -- the search
  have find : ∀ m, m ≤ 61 → ∀ h1, i_RA a h1 → i_Fr [155] [] h h1 → (m ≤ 60 → ∀ c2, c2 < a 0 * a 1 → aI h1 155 (48 * m + c2) = i_bo (o_rch a p m c2 = true)) → (∀ i, i < m → o_rch a p i c = false) → ∀ (y5 y6 y7 y8 : Option Value), i_P i_MT i_AT L xs 287 83 [some (.ref 138), some (.int (i_n p)), some (.int (i_n c)), some (.int (i_n (a 0 * a 1))), some (.int (i_n m)), y5, y6, y7, y8] [] h1 0 0 Q := by
    refine l_up ?_ ?_
    · intro h1 r1 f1 _ hj y5 y6 y7 y8
      refine d287_83 r1.1 ?_
      try simp (disch := omega) only [n_lit, n_m, n_add, n_mul, n_div, n_mod, n_cl, n_lt, n_le, n_eq, n_in, n_eqm, n_meq, n_mlt, n_ltm, n_mle, n_lem, not_true_eq_false, not_false_eq_true, true_implies, false_implies, true_and, and_true, Nat.not_lt_zero, Nat.zero_le]
      refine ⟨fun _ => d287_228 r1.1 ?_, fun e => absurd (by omega) e⟩
      try simp (disch := omega) only [n_lit, n_m, n_add, n_mul, n_div, n_mod, n_cl, n_lt, n_le, n_eq, n_in, n_eqm, n_meq, n_mlt, n_ltm, n_mle, n_lem, not_true_eq_false, not_false_eq_true, true_implies, false_implies, true_and, and_true, Nat.not_lt_zero, Nat.zero_le]
      exact ⟨fun e => by omega, fun _ => m201 r1 (fun h3 g3 f3 s3 => ⟨_, rfl, d287_241 g3.1 (H0 (o_lst_n 61 0 (fun i _ h2 => hj i (by omega))) h3 g3 ((f1.mono (by decide) (by decide)).trans f3.s) s3)⟩)⟩
    · intro m hm ih h1 r1 f1 hF hj y5 y6 y7 y8
      have hFm := hF (by omega)
      have row : ∀ b, b ≤ a 0 * a 1 → o_rch a p m c = false → m + 1 ≤ 60 → ∀ h2, i_RA a h2 → i_Fr [155] [] h h2 → (∀ c2, c2 < a 0 * a 1 → aI h2 155 (48 * m + c2) = i_bo (o_rch a p m c2 = true)) → (∀ c2, c2 < b → aI h2 155 (48 * (m + 1) + c2) = i_bo (o_rch a p (m + 1) c2 = true)) → ∀ (y6 y7 y8 : Option Value), i_P i_MT i_AT L xs 287 111 [some (.ref 138), some (.int (i_n p)), some (.int (i_n c)), some (.int (i_n (a 0 * a 1))), some (.int (i_n (m + 1))), some (.int (i_n b)), y6, y7, y8] [] h2 0 0 Q := by
        refine l_up ?_ ?_
        · intro e0 hm60 h2 r2 f2 hF2 hG2 y6 y7 y8
          refine d287_111 r2.1 ?_
          try simp (disch := omega) only [n_lit, n_m, n_add, n_mul, n_div, n_mod, n_cl, n_lt, n_le, n_eq, n_in, n_eqm, n_meq, n_mlt, n_ltm, n_mle, n_lem, not_true_eq_false, not_false_eq_true, true_implies, false_implies, true_and, and_true, Nat.not_lt_zero, Nat.zero_le, Nat.le_refl]
          refine d287_225 r2.1 (ih h2 r2 f2 (fun _ => hG2) (fun i hi => ?_) _ _ _ _)
          by_cases ei : i = m
          · subst ei; exact e0
          · exact hj i (by omega)
        · intro b hb ihb e0 hm60 h2 r2 f2 hF2 hG2 y6 y7 y8
          have can : ∀ d, d ≤ a 0 * a 1 → ∀ (y8 : Option Value), i_P i_MT i_AT L xs 287 130 [some (.ref 138), some (.int (i_n p)), some (.int (i_n c)), some (.int (i_n (a 0 * a 1))), some (.int (i_n (m + 1))), some (.int (i_n b)), some (.int (i_bo (o_or (fun d => o_rch a p m d && ((d == b || o_far (a 0) d b == 1) && o_mc a p (m + 1) d b)) d = true))), some (.int (i_n d)), y8] [] h2 0 0 Q := by
            refine l_up ?_ ?_
            · intro y8
              rw [← o_rch_or hb]
              refine d287_130 r2.1 ?_
              try simp (disch := omega) only [n_lit, n_m, n_add, n_mul, n_div, n_mod, n_cl, n_lt, n_le, n_eq, n_in, n_eqm, n_meq, n_mlt, n_ltm, n_mle, n_lem, not_true_eq_false, not_false_eq_true, true_implies, false_implies, true_and, and_true, Nat.not_lt_zero, Nat.zero_le, Nat.le_refl, vn_bo]
              have fr : i_Fr [155] [] h2 (i_siI h2 155 (48 * (m + 1) + b) (i_bo (o_rch a p (m + 1) b = true))) := i_Fr.refl.siI (by decide)
              have f3 := f2.trans fr
              have r3 := r.fr r2.1.siI f3 (by decide)
              refine ⟨by omega, d287_219 r3.1 ?_⟩
              try simp (disch := omega) only [n_lit, n_m, n_add, n_mul, n_div, n_mod, n_cl, n_lt, n_le, n_eq, n_in, n_eqm, n_meq, n_mlt, n_ltm, n_mle, n_lem, not_true_eq_false, not_false_eq_true, true_implies, false_implies, true_and, and_true, Nat.not_lt_zero, Nat.zero_le]
              refine ihb e0 hm60 _ r3 f3 (fun c2 hc2 => ?_) (fun c2 hc2 => ?_) _ _ _
              · rw [r_row r2.1 r2.1.a155 c2 m (by omega) (by omega), if_neg (by omega)]; exact hF2 c2 hc2
              · rw [r_row r2.1 r2.1.a155 c2 (m + 1) (by omega) (by omega)]
                by_cases e : c2 = b
                · rw [if_pos ⟨rfl, e⟩, e]
                · rw [if_neg (fun q => e q.2)]; exact hG2 c2 (by omega)
            · intro d hd ihd y8
              rw [o_or] at ihd
              generalize o_or (fun d => o_rch a p m d && ((d == b || o_far (a 0) d b == 1) && o_mc a p (m + 1) d b)) d = O at ihd ⊢
              have nx : ∀ v : Bool, v = (O || (o_rch a p m d && ((d == b || o_far (a 0) d b == 1) && o_mc a p (m + 1) d b))) → i_P i_MT i_AT L xs 287 196 [some (.ref 138), some (.int (i_n p)), some (.int (i_n c)), some (.int (i_n (a 0 * a 1))), some (.int (i_n (m + 1))), some (.int (i_n b)), some (.int (i_bo (O = true))), some (.int (i_n d)), y8] [.int (i_bo (v = true))] h2 0 0 Q := by
                intro v hv
                subst hv
                refine d287_196 r2.1 ?_
                try simp (disch := omega) only [n_lit, n_m, n_add, n_mul, n_div, n_mod, n_cl, n_lt, n_le, n_eq, n_in, n_eqm, n_meq, n_mlt, n_ltm, n_mle, n_lem, not_true_eq_false, not_false_eq_true, true_implies, false_implies, true_and, and_true, Nat.not_lt_zero, Nat.zero_le]
                exact ihd _
              have yes : (O || (o_rch a p m d && ((d == b || o_far (a 0) d b == 1) && o_mc a p (m + 1) d b))) = true → i_P i_MT i_AT L xs 287 191 [some (.ref 138), some (.int (i_n p)), some (.int (i_n c)), some (.int (i_n (a 0 * a 1))), some (.int (i_n (m + 1))), some (.int (i_n b)), some (.int (i_bo (O = true))), some (.int (i_n d)), y8] [] h2 0 0 Q := fun z => d287_191 r2.1 (nx true z.symm)
              have no : (O || (o_rch a p m d && ((d == b || o_far (a 0) d b == 1) && o_mc a p (m + 1) d b))) = false → i_P i_MT i_AT L xs 287 195 [some (.ref 138), some (.int (i_n p)), some (.int (i_n c)), some (.int (i_n (a 0 * a 1))), some (.int (i_n (m + 1))), some (.int (i_n b)), some (.int (i_bo (O = true))), some (.int (i_n d)), y8] [] h2 0 0 Q := fun z => d287_195 r2.1 (nx false z.symm)
              have mc : O = false → o_rch a p m d = true → (d == b || o_far (a 0) d b == 1) = true → i_P i_MT i_AT L xs 287 177 [some (.ref 138), some (.int (i_n p)), some (.int (i_n c)), some (.int (i_n (a 0 * a 1))), some (.int (i_n (m + 1))), some (.int (i_n b)), some (.int (i_bo (O = true))), some (.int (i_n d)), y8] [] h2 0 0 Q := by
                intro e0 e1 e2
                refine d287_177 r2.1 (c286 r2 hp hd hb hm60 ⟨_, rfl, d287_188 r2.1 ?_⟩)
                try simp (disch := omega) only [n_lit, n_m, i_bo01, j_cmpn, Classical.not_not, n_add, n_mul, n_div, n_mod, n_cl, n_lt, n_le, n_eq, n_in, n_eqm, n_meq, n_mlt, n_ltm, n_mle, n_lem, not_true_eq_false, not_false_eq_true, true_implies, false_implies, true_and, and_true, Nat.not_lt_zero, Nat.zero_le]
                exact ⟨fun e3 => no (by simp [e0, e1, e2, e3]), fun e3 => yes (by simp [e0, e1, e2, e3])⟩
              refine d287_130 r2.1 ?_
              try simp (disch := omega) only [n_lit, n_m, i_bo01, j_cmpn, Classical.not_not, n_add, n_mul, n_div, n_mod, n_cl, n_lt, n_le, n_eq, n_in, n_eqm, n_meq, n_mlt, n_ltm, n_mle, n_lem, not_true_eq_false, not_false_eq_true, true_implies, false_implies, true_and, and_true, Nat.not_lt_zero, Nat.zero_le, n_sub]
              rw [show m + 1 - 1 = m by omega, hF2 d hd]
              try simp (disch := omega) only [n_lit, n_m, i_bo01, j_cmpn, Classical.not_not, n_add, n_mul, n_div, n_mod, n_cl, n_lt, n_le, n_eq, n_in, n_eqm, n_meq, n_mlt, n_ltm, n_mle, n_lem, not_true_eq_false, not_false_eq_true, true_implies, false_implies, true_and, and_true, Nat.not_lt_zero, Nat.zero_le]
              refine ⟨fun e => by omega, fun _ => ⟨fun e => yes (by rw [e]; rfl), fun e => ⟨by omega, fun e1 => no (by simp [e, e1]), fun e1 => ⟨fun e2 => mc (by simpa using e) e1 (by simp [e2]), fun e2 => c285 r2 hd hb ⟨_, rfl, d287_174 r2.1 ?_⟩⟩⟩⟩⟩
              try simp (disch := omega) only [n_lit, n_m, i_bo01, j_cmpn, Classical.not_not, n_add, n_mul, n_div, n_mod, n_cl, n_lt, n_le, n_eq, n_in, n_eqm, n_meq, n_mlt, n_ltm, n_mle, n_lem, not_true_eq_false, not_false_eq_true, true_implies, false_implies, true_and, and_true, Nat.not_lt_zero, Nat.zero_le]
              exact ⟨fun e3 => no (by simp [e, e2, e3]), fun e3 => mc (by simpa using e) e1 (by simp [e3])⟩
          refine d287_111 r2.1 ?_
          try simp (disch := omega) only [n_lit, n_m, n_add, n_mul, n_div, n_mod, n_cl, n_lt, n_le, n_eq, n_in, n_eqm, n_meq, n_mlt, n_ltm, n_mle, n_lem, not_true_eq_false, not_false_eq_true, true_implies, false_implies, true_and, and_true, Nat.not_lt_zero, Nat.zero_le]
          exact ⟨fun e => by omega, fun _ => ⟨fun e => by omega, fun _ => can 0 (Nat.zero_le _) _⟩⟩
      refine d287_83 r1.1 ?_
      try simp (disch := omega) only [n_lit, n_m, i_bo01, j_cmpn, Classical.not_not, n_add, n_mul, n_div, n_mod, n_cl, n_lt, n_le, n_eq, n_in, n_eqm, n_meq, n_mlt, n_ltm, n_mle, n_lem, not_true_eq_false, not_false_eq_true, true_implies, false_implies, true_and, and_true, Nat.not_lt_zero, Nat.zero_le, hFm c hc]
      refine ⟨fun e => by omega, fun _ => ⟨by omega, fun e => d287_228 r1.1 ?_, fun e => ?_⟩⟩
      · try simp (disch := omega) only [n_lit, n_m, n_add, n_mul, n_div, n_mod, n_cl, n_lt, n_le, n_eq, n_in, n_eqm, n_meq, n_mlt, n_ltm, n_mle, n_lem, not_true_eq_false, not_false_eq_true, true_implies, false_implies, true_and, and_true, Nat.not_lt_zero, Nat.zero_le]
        exact ⟨fun _ => told m (by omega) (o_lst_s (P := fun m => o_rch a p m c) (j := m) e 61 0 (by omega) (by omega) (fun i _ h2 => hj i h2)) e h1 r1 (f1.mono (by decide) (by decide)) _ _ _, fun q => absurd (by omega) q⟩
      · have e0 : o_rch a p m c = false := by simpa using e
        by_cases hm60 : m + 1 ≤ 60
        · exact row 0 (Nat.zero_le _) e0 hm60 h1 r1 f1 hFm (fun c2 hc2 => absurd hc2 (Nat.not_lt_zero c2)) _ _ _
        · refine d287_111 r1.1 ?_
          try simp (disch := omega) only [n_lit, n_m, n_add, n_mul, n_div, n_mod, n_cl, n_lt, n_le, n_eq, n_in, n_eqm, n_meq, n_mlt, n_ltm, n_mle, n_lem, not_true_eq_false, not_false_eq_true, true_implies, false_implies, true_and, and_true, Nat.not_lt_zero, Nat.zero_le]
          refine ⟨fun q => by omega, fun _ => ⟨fun _ => d287_225 r1.1 (ih h1 r1 f1 (fun q => absurd q hm60) (fun i hi => ?_) _ _ _ _), fun q => absurd (by omega) q⟩⟩
          by_cases ei : i = m
          · subst ei; exact e0
          · exact hj i (by omega)
  have init : ∀ b, b ≤ a 0 * a 1 → ∀ h1, i_RA a h1 → i_Fr [155] [] h h1 → (∀ c2, c2 < b → aI h1 155 (48 * 0 + c2) = i_bo (o_rch a p 0 c2 = true)) → ∀ (y5 y6 y7 y8 : Option Value), i_P i_MT i_AT L xs 287 39 [some (.ref 138), some (.int (i_n p)), some (.int (i_n c)), some (.int (i_n (a 0 * a 1))), some (.int (i_n b)), y5, y6, y7, y8] [] h1 0 0 Q := by
    refine l_up ?_ ?_
    · intro h1 r1 f1 hF y5 y6 y7 y8
      refine d287_39 r1.1 ?_
      try simp (disch := omega) only [n_lit, n_m, n_add, n_mul, n_div, n_mod, n_cl, n_lt, n_le, n_eq, n_in, n_eqm, n_meq, n_mlt, n_ltm, n_mle, n_lem, not_true_eq_false, not_false_eq_true, true_implies, false_implies, true_and, and_true, Nat.not_lt_zero, Nat.zero_le, Nat.le_refl]
      exact find 0 (by omega) h1 r1 f1 (fun _ => hF) (fun i hi => absurd hi (Nat.not_lt_zero i)) _ _ _ _
    · intro b hb ihb h1 r1 f1 hF y5 y6 y7 y8
      have nx : ∀ v : Bool, v = o_rch a p 0 b → ∀ (y5 y6 y7 y8 : Option Value), i_P i_MT i_AT L xs 287 73 [some (.ref 138), some (.int (i_n p)), some (.int (i_n c)), some (.int (i_n (a 0 * a 1))), some (.int (i_n b)), y5, y6, y7, y8] [.int (i_bo (v = true)), .int (i_n b), .ref 155] h1 0 0 Q := by
        intro v hv y5 y6 y7 y8
        subst hv
        refine d287_73 r1.1 ⟨2928, aI h1 155, r1.1.a155, ?_⟩
        try simp (disch := omega) only [n_lit, n_m, n_add, n_mul, n_div, n_mod, n_cl, n_lt, n_le, n_eq, n_in, n_eqm, n_meq, n_mlt, n_ltm, n_mle, n_lem, not_true_eq_false, not_false_eq_true, true_implies, false_implies, true_and, and_true, Nat.not_lt_zero, Nat.zero_le, vn_bo]
        have fr : i_Fr [155] [] h1 (i_siI h1 155 b (i_bo (o_rch a p 0 b = true))) := i_Fr.refl.siI (by decide)
        have f2 := f1.trans fr
        have r2 := r.fr r1.1.siI f2 (by decide)
        refine ⟨by omega, d287_74 r2.1 ?_⟩
        try simp (disch := omega) only [n_lit, n_m, n_add, n_mul, n_div, n_mod, n_cl, n_lt, n_le, n_eq, n_in, n_eqm, n_meq, n_mlt, n_ltm, n_mle, n_lem, not_true_eq_false, not_false_eq_true, true_implies, false_implies, true_and, and_true, Nat.not_lt_zero, Nat.zero_le]
        refine ihb _ r2 f2 (fun c2 hc2 => ?_) _ _ _ _
        rw [x_aI_siI r1.1.a155, x_upd]
        by_cases e : c2 = b
        · rw [if_pos (by omega), e]
        · rw [if_neg (by omega)]; exact hF c2 (by omega)
      refine d287_39 r1.1 ?_
      try simp (disch := omega) only [n_lit, n_m, i_bo01, j_cmpn, Classical.not_not, n_add, n_mul, n_div, n_mod, n_cl, n_lt, n_le, n_eq, n_in, n_eqm, n_meq, n_mlt, n_ltm, n_mle, n_lem, not_true_eq_false, not_false_eq_true, true_implies, false_implies, true_and, and_true, Nat.not_lt_zero, Nat.zero_le, sA h1 r1]
      exact ⟨fun e => by omega, fun _ => ⟨by omega, fun e => nx false (by rw [o_rch]; simp [e]) _ _ _ _, fun e => nx true (by rw [o_rch]; simp [e]) _ _ _ _⟩⟩
  try simp (disch := omega) only [n_lit, n_m, n_add, n_mul, n_div, n_mod, n_cl, n_lt, n_le, n_eq, n_in, n_eqm, n_meq, n_mlt, n_ltm, n_mle, n_lem, not_true_eq_false, not_false_eq_true, true_implies, false_implies, true_and, and_true, Nat.not_lt_zero, Nat.zero_le]
  exact init 0 (Nat.zero_le _) h r i_Fr.refl (fun c2 hc2 => absurd hc2 (Nat.not_lt_zero c2)) _ _ _ _
end
