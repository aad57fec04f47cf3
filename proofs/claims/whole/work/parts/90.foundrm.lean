/-! FOUND, the reference: the question -/
section
variable {L : Nat} {xs : Nat → Int32} {h : iH} {Q : Option Value → iH → Prop} {a : Nat → Nat} {t : Nat}
set_option maxRecDepth 20000
theorem j_neg (y : Int64) : lg_cmp y 0 < 0 ↔ i_b y 63 = true := by
  rw [j_lt, Int64.lt_iff_toInt_lt]
  unfold i_b
  rw [← show y.toBitVec.msb = y.toBitVec.getLsbD 63 from BitVec.msb_eq_getLsbD_last _, BitVec.msb_eq_toInt]
  rw [show (0 : Int64).toInt = 0 from rfl, decide_eq_true_eq]
  rfl
theorem j_hass (y : Int64) {k : Nat} (hk : k < 64) : lg_cmp ((y >>> ((i_n k).toInt64 &&& (63 : Int64))) &&& (1 : Int64)) 0 = 0 ↔ i_b y k = false := by
  rw [j_cmp0, j_eq0]
  constructor
  · intro z
    have := z 0 (by omega)
    rw [j_and, j_sar y hk (by omega), j_1, if_pos (by omega)] at this
    simpa using this
  · intro z c hc
    rw [j_and, j_sar y hk hc, j_1]
    by_cases e : c = 0
    · subst e; rw [if_pos (by omega), Nat.add_zero, z]; rfl
    · simp [e]
theorem j_top {y : Int64} {N : Nat} (hN : N < 64) (h63 : i_b y 63 = false) : lg_cmp (y >>> ((i_n N).toInt64 &&& (63 : Int64))) 0 = 0 ↔ ∀ c, c < 64 → i_b y c = true → c < N := by
  rw [j_cmp0, j_eq0]
  constructor
  · intro z c hc e
    by_cases q : c < N
    · exact q
    · exfalso
      have := z (c - N) (by omega)
      rw [j_sar y hN (by omega), if_pos (by omega), show N + (c - N) = c by omega, e] at this
      cases this
  · intro z c hc
    rw [j_sar y hN hc]
    split
    · rename_i q
      rw [← Bool.not_eq_true]
      intro e
      have := z _ q e
      omega
    · exact h63
set_option maxHeartbeats 4000000 in
theorem c298 (r : i_RA a h) {x : Int32} {y : Int64} (H : i_RS a h Q (o_fdA a x y)) : i_C i_MT i_AT L xs 298 [.ref 138, .int x, .long y] h Q := by
  have h5 := r.2.1.2.2.2.2.1
  have h48 := r.2.1.c48
  unfold o_fdA at H
  have bad : ∀ h1, i_RA a h1 → i_GS h h1 → ¬ (v_p a x ∧ o_mok a y = true) → ∀ (y4 y5 y6 y7 y8 y9 y10 y11 : Option Value), i_P i_MT i_AT L xs 298 25 [some (.ref 138), some (.int x), some (.long y), none, y4, y5, y6, y7, y8, y9, y10, y11] [] h1 0 0 Q := by
    intro h1 r1 f1 z y4 y5 y6 y7 y8 y9 y10 y11
    rw [o_A6_f z] at H
    exact d298_25 r1.1 (m201 r1 (fun h2 g2 f2 s2 => ⟨_, rfl, d298_30 g2.1 (H h2 g2 (f1.trans f2.s) s2)⟩))
  refine e298 (d298_0 r.1 (c254 r ⟨_, rfl, d298_5 r.1 ?_⟩))
  rw [i_bo_0, Classical.not_not]
  rw [j_neg]
  refine ⟨fun z => bad h r i_Fr.refl (fun q => z q.1) _ _ _ _ _ _ _ _, fun z1 => ⟨fun z => bad h r i_Fr.refl (fun q => ?_) _ _ _ _ _ _ _ _, fun z2 => c248 r ⟨_, rfl, d298_19 r.1 ?_⟩⟩⟩
  · have := (o_mok_t.mp q.2).1 63 (by omega) z
    omega
  have z2 : i_b y 63 = false := by simpa using z2
  rw [j_top (by omega) z2]
  refine ⟨fun z3 => ?_, fun z3 => bad h r i_Fr.refl (fun q => z3 (o_mok_t.mp q.2).1) _ _ _ _ _ _ _ _⟩
  obtain ⟨p, hp, rfl⟩ := n_get z1 (by omega)
  rw [n_cl (by omega)] at H
  have hst := r.st hp
  have sA : ∀ h1, i_RA a h1 → aI h1 139 (154 + 5 * p) = i_n (a (154 + 5 * p)) := fun h1 r1 => r1.2.2.1 _ (by omega)
  generalize hP : i_b y = P at H z3
  -- behind the list
  have lst : o_cn0 P (a 0 * a 1) ≤ 6 → ∀ h1, i_RA a h1 → i_Fr [164] [] h h1 → (∀ j, j < o_cn0 P (a 0 * a 1) → aI h1 164 j = i_n (o_skS a P j)) → ∀ (y6 y7 y8 y9 y10 y11 : Option Value), i_P i_MT i_AT L xs 298 106 [some (.ref 138), some (.int (i_n p)), some (.long y), none, some (.int (i_n (o_cn0 P (a 0 * a 1)))), some (.int (i_n (2 ^ o_cn0 P (a 0 * a 1) - 1))), y6, y7, y8, y9, y10, y11] [.int (i_n (a 0 * a 1)), .int (i_n 512)] h1 0 0 Q := by
    intro hn6 h1 r1 f1 hS1 y6 y7 y8 y9 y10 y11
    have H := H.a6 ⟨z1, by
      rw [o_mok_t, hP]
      exact ⟨z3, hn6⟩⟩
    generalize hn : o_cn0 P (a 0 * a 1) = n at H hn6 hS1 ⊢
    generalize hS : o_skS a P = S at H hS1
    have hSl : ∀ j, j < n → S j < a 0 * a 1 := fun j hj => by
      rw [← hS]
      exact o_skl_lt _ _ (by rw [o_skl_len]; omega)
    have fl : 2 ^ n ≤ 64 := Nat.pow_le_pow_right (n := 2) (j := 6) (by omega) hn6
    have fl0 : 0 < 2 ^ n := Nat.two_pow_pos n
    have rfr : ∀ h2, i_Lay h2 → i_Fr [162, 163, 164, 165] [] h h2 → i_RA a h2 := fun h2 hL2 f => r.fr hL2 f (by decide)
    have F1 := f1.mono (B := [162, 163, 164, 165]) (G := []) (by decide) (fun _ z => z)
    -- the minutes
    have key : ∀ k, k ≤ 31 → ∀ h1, (k ≤ 30 → o_rk a h1 162 (o_fk a p S n k)) → (∀ j, j < k → o_or (o_fd a p S n j (2 ^ n - 1)) (a 0 * a 1) = false) → (∀ j, j < n → aI h1 164 j = i_n (S j)) → i_RA a h1 → i_Fr [162, 163, 164, 165] [] h h1 → ∀ (y8 y9 y10 y11 : Option Value), i_P i_MT i_AT L xs 298 167 [some (.ref 138), some (.int (i_n p)), some (.long y), none, some (.int (i_n n)), some (.int (i_n (2 ^ n - 1))), some (.int (i_n (512 * (a 0 * a 1)))), some (.int (i_n k)), y8, y9, y10, y11] [] h1 0 0 Q := by
      refine l_up ?_ ?_
      · intro h1 _ hno _ r1 f1 y8 y9 y10 y11
        refine d298_167 r1.1 ?_
        try simp (disch := omega) only [n_lit, n_m, n_add, n_mul, n_div, n_mod, n_cl, n_lt, n_le, n_eq, n_in, n_eqm, n_meq, n_mlt, n_ltm, n_mle, n_lem, not_true_eq_false, not_false_eq_true, true_implies, false_implies, true_and, and_true, Nat.not_lt_zero, Nat.zero_le]
        refine ⟨fun _ => m201 r1 (fun h2 g2 f2 s2 => ⟨_, rfl, d298_364 g2.1 ?_⟩), fun e => absurd (by omega) e⟩
        exact H.2 (o_lst_n 31 0 (fun j _ h2 => hno j (by omega))) h2 g2 ((f1.mono (by decide) (by decide)).trans f2.s) s2
      · intro k hk ih h1 hF hno hS1 r1 f1 y8 y9 y10 y11
        have hF := hF (by omega)
        refine d298_167 r1.1 ?_
        try simp (disch := omega) only [n_lit, n_m, n_add, n_mul, n_div, n_mod, n_cl, n_lt, n_le, n_eq, n_in, n_eqm, n_meq, n_mlt, n_ltm, n_mle, n_lem, not_true_eq_false, not_false_eq_true, true_implies, false_implies, true_and, and_true, Nat.not_lt_zero, Nat.zero_le]
        refine ⟨fun e => by omega, fun _ => c297 r1 (by omega) hF ⟨_, rfl, d298_180 r1.1 ?_⟩⟩
        rw [o_fk_or hst.2.2.1]
        rw [i_bo_0, Classical.not_not]
        refine ⟨fun e => ?_, fun e => m202 r1 (fun h2 g2 f2 s2 => ⟨_, rfl, d298_189 g2.1 ?_⟩)⟩
        rotate_left
        · exact H.1 k (o_lst_s (P := fun m => o_or (o_fd a p S n m (2 ^ n - 1)) (a 0 * a 1)) (j := k) (by simpa using e) 31 0 (by omega) (by omega) (fun j _ hj => hno j hj)) h2 g2 ((f1.mono (by decide) (by decide)).trans f2.s) s2
        have ek : o_or (o_fd a p S n k (2 ^ n - 1)) (a 0 * a 1) = false := by simpa using e
        -- the copy
        have copy : ∀ (G : Nat → Nat → Bool), (k < 30 → ∀ V c, V < 64 → c < 8 * (a 0 * a 1) → G V c = o_fk a p S n (k + 1) V c) → ∀ j, j ≤ 512 * (a 0 * a 1) → ∀ h2, o_rk a h2 163 G → (∀ i, i < j → aI h2 162 i = i_bo (G (i % 64) (i / 64) = true)) → (∀ j, j < n → aI h2 164 j = i_n (S j)) → i_RA a h2 → i_Fr [162, 163, 164, 165] [] h h2 → ∀ (y9 y10 y11 : Option Value), i_P i_MT i_AT L xs 298 325 [some (.ref 138), some (.int (i_n p)), some (.long y), none, some (.int (i_n n)), some (.int (i_n (2 ^ n - 1))), some (.int (i_n (512 * (a 0 * a 1)))), some (.int (i_n k)), some (.int (i_n j)), y9, y10, y11] [] h2 0 0 Q := by
          intro G hG
          refine l_up ?_ ?_
          · intro h2 h163 h162 hS2 r2 f2 y9 y10 y11
            refine d298_325 r2.1 ?_
            try simp (disch := omega) only [n_lit, n_m, n_add, n_mul, n_div, n_mod, n_cl, n_lt, n_le, n_eq, n_in, n_eqm, n_meq, n_mlt, n_ltm, n_mle, n_lem, not_true_eq_false, not_false_eq_true, true_implies, false_implies, true_and, and_true, Nat.not_lt_zero, Nat.zero_le, Nat.le_refl]
            refine ih h2 (fun hk60 V c hV hc => ?_) (fun j hj => ?_) hS2 r2 f2 _ _ _ _
            · rw [h162 _ (by omega), show (64 * c + V) % 64 = V by omega, show (64 * c + V) / 64 = c by omega, hG (by omega) V c hV hc]
            · by_cases ej : j = k
              · subst ej; exact ek
              · exact hno j (by omega)
          · intro j hj ih2 h2 h163 h162 hS2 r2 f2 y9 y10 y11
            refine d298_325 r2.1 ?_
            have e163 : aI h2 163 j = i_bo (G (j % 64) (j / 64) = true) := by
              have := h163 (j % 64) (j / 64) (by omega) (by omega)
              rw [show 64 * (j / 64) + j % 64 = j by omega] at this
              exact this
            try simp (disch := omega) only [n_lit, n_m, n_add, n_mul, n_div, n_mod, n_cl, n_lt, n_le, n_eq, n_in, n_eqm, n_meq, n_mlt, n_ltm, n_mle, n_lem, not_true_eq_false, not_false_eq_true, true_implies, false_implies, true_and, and_true, Nat.not_lt_zero, Nat.zero_le, e163, n_bob]
            have Fi : i_Fr [162] [] h2 (i_siI h2 162 j (i_bo (G (j % 64) (j / 64) = true))) := i_Fr.refl.siI (by decide)
            have f3 := f2.trans (Fi.mono (B := [162, 163, 164, 165]) (G := []) (by decide) (fun _ z => z))
            have r3 := rfr _ r2.1.siI f3
            refine ⟨fun e => by omega, fun _ => ⟨by omega, by omega, d298_346 r3.1 ?_⟩⟩
            try simp (disch := omega) only [n_lit, n_m, n_add, n_mul, n_div, n_mod, n_cl, n_lt, n_le, n_eq, n_in, n_eqm, n_meq, n_mlt, n_ltm, n_mle, n_lem, not_true_eq_false, not_false_eq_true, true_implies, false_implies, true_and, and_true, Nat.not_lt_zero, Nat.zero_le]
            refine ih2 _ (fun V c hV hc => ?_) (fun i hi => ?_) ?_ r3 f3 _ _ _
            · rw [Fi.rI (by decide)]; exact h163 V c hV hc
            · rw [x_aI_siI r2.1.a162, x_upd]
              by_cases e : i = j
              · rw [if_pos e, e]
              · rw [if_neg e]; exact h162 i (by omega)
            · rw [Fi.rI (by decide)]; exact hS2
        have F3 : ∀ {h3 h4 : iH}, i_Fr [163] [] h3 h4 → i_Fr [162, 163, 164, 165] [] h3 h4 := fun f => f.mono (by decide) (fun _ z => z)
        have k162 : ∀ {h3 h4 : iH}, i_Fr [163] [] h3 h4 → o_rk a h3 162 (o_fk a p S n k) → o_rk a h4 162 (o_fk a p S n k) := fun f z V c hV hc => by rw [f.rI (by decide)]; exact z V c hV hc
        have k164 : ∀ {h3 h4 : iH}, i_Fr [163] [] h3 h4 → (∀ j, j < n → aI h3 164 j = i_n (S j)) → (∀ j, j < n → aI h4 164 j = i_n (S j)) := fun f z => by rw [f.rI (by decide)]; exact z
        have k165 : ∀ {h3 h4 : iH}, i_Fr [163] [] h3 h4 → (∀ c l, c < a 0 * a 1 → l < 8 → aI h3 165 (8 * c + l) = i_n (o_fg a p S n (k + 1) l c)) → (∀ c l, c < a 0 * a 1 → l < 8 → aI h4 165 (8 * c + l) = i_n (o_fg a p S n (k + 1) l c)) := fun f z => by rw [f.rI (by decide)]; exact z
        have g6 : ∀ l c, o_fg a p S n (k + 1) l c < 64 := fun l c => o_st_64 hn6
        -- the cells and looks
        have cells : k < 30 → ∀ s, s ≤ 8 * (a 0 * a 1) → ∀ h2, o_rk a h2 162 (o_fk a p S n k) → o_rk a h2 163 (o_f4 a (o_fg a p S n (k + 1)) (o_fk a p S n k) s) → (∀ c l, c < a 0 * a 1 → l < 8 → aI h2 165 (8 * c + l) = i_n (o_fg a p S n (k + 1) l c)) → (∀ j, j < n → aI h2 164 j = i_n (S j)) → i_RA a h2 → i_Fr [162, 163, 164, 165] [] h h2 → ∀ (y9 y10 y11 : Option Value), i_P i_MT i_AT L xs 298 235 [some (.ref 138), some (.int (i_n p)), some (.long y), none, some (.int (i_n n)), some (.int (i_n (2 ^ n - 1))), some (.int (i_n (512 * (a 0 * a 1)))), some (.int (i_n k)), some (.int (i_n s)), y9, y10, y11] [] h2 0 0 Q := by
          intro hk60
          refine l_up ?_ ?_
          · intro h2 hF2 hG2 _ hS2 r2 f2 y9 y10 y11
            refine d298_235 r2.1 (c248 r2 ⟨_, rfl, d298_243 r2.1 ?_⟩)
            try simp (disch := omega) only [n_lit, n_m, n_add, n_mul, n_div, n_mod, n_cl, n_lt, n_le, n_eq, n_in, n_eqm, n_meq, n_mlt, n_ltm, n_mle, n_lem, not_true_eq_false, not_false_eq_true, true_implies, false_implies, true_and, and_true, Nat.not_lt_zero, Nat.zero_le, Nat.le_refl]
            refine d298_322 r2.1 ?_
            try simp (disch := omega) only [n_lit, n_m, n_add, n_mul, n_div, n_mod, n_cl, n_lt, n_le, n_eq, n_in, n_eqm, n_meq, n_mlt, n_ltm, n_mle, n_lem, not_true_eq_false, not_false_eq_true, true_implies, false_implies, true_and, and_true, Nat.not_lt_zero, Nat.zero_le]
            exact copy _ (fun _ V c _ _ => by rw [o_fk]) 0 (Nat.zero_le _) h2 hG2 (fun i hi => absurd hi (Nat.not_lt_zero i)) hS2 r2 f2 _ _ _
          · intro s hs ih2 h2 hF2 hG2 hg2 hS2 r2 f2 y9 y10 y11
            rw [o_f4] at ih2
            have row : ∀ l, l ≤ 8 → ∀ h5, o_rk a h5 162 (o_fk a p S n k) → o_rk a h5 163 (o_f3 a (o_fg a p S n (k + 1)) s (o_fk a p S n k) l (o_f4 a (o_fg a p S n (k + 1)) (o_fk a p S n k) s)) → (∀ c l, c < a 0 * a 1 → l < 8 → aI h5 165 (8 * c + l) = i_n (o_fg a p S n (k + 1) l c)) → (∀ j, j < n → aI h5 164 j = i_n (S j)) → i_RA a h5 → i_Fr [162, 163, 164, 165] [] h h5 → ∀ (y11 : Option Value), i_P i_MT i_AT L xs 298 264 [some (.ref 138), some (.int (i_n p)), some (.long y), none, some (.int (i_n n)), some (.int (i_n (2 ^ n - 1))), some (.int (i_n (512 * (a 0 * a 1)))), some (.int (i_n k)), some (.int (i_n s)), some (.int (i_n (s / 8))), some (.int (i_n l)), y11] [] h5 0 0 Q := by
              refine l_up ?_ ?_
              · intro h5 hF5 hG5 hg5 hS5 r5 f5 y11
                refine d298_264 r5.1 ?_
                try simp (disch := omega) only [n_lit, n_m, n_add, n_mul, n_div, n_mod, n_cl, n_lt, n_le, n_eq, n_in, n_eqm, n_meq, n_mlt, n_ltm, n_mle, n_lem, not_true_eq_false, not_false_eq_true, true_implies, false_implies, true_and, and_true, Nat.not_lt_zero, Nat.zero_le, Nat.le_refl]
                exact ih2 h5 hF5 hG5 hg5 hS5 r5 f5 _ _ _
              · intro l hl ih3 h5 hF5 hG5 hg5 hS5 r5 f5 y11
                rw [o_f3] at ih3
                refine d298_264 r5.1 ?_
                try simp (disch := omega) only [n_lit, n_m, n_add, n_mul, n_div, n_mod, n_cl, n_lt, n_le, n_eq, n_in, n_eqm, n_meq, n_mlt, n_ltm, n_mle, n_lem, not_true_eq_false, not_false_eq_true, true_implies, false_implies, true_and, and_true, Nat.not_lt_zero, Nat.zero_le]
                have hsc : s / 8 < a 0 * a 1 := by omega
                refine ⟨fun e => by omega, fun _ => c296 r5 (by omega) hsc hl (hg5 _ _ hsc hl) (g6 _ _) hF5 hG5 (fun h6 r6 f6 hG6 => ⟨rfl, d298_281 r6.1 (c251 r6 hsc hl ⟨_, rfl, d298_289 r6.1 ?_⟩)⟩)⟩
                have hF6 := k162 f6 hF5
                have hg6 := k165 f6 hg5
                have hS6 := k164 f6 hS5
                have F6 := f5.trans (F3 f6)
                cases hl2 : o_lead (a 0) (a 1) (s / 8) l with
                | none =>
                  rw [hl2, o_f2o] at ih3
                  refine c250m r6 ⟨_, rfl, d298_297 r6.1 ⟨fun _ => d298_310 r6.1 ?_, fun e => absurd rfl e⟩⟩
                  try simp (disch := omega) only [n_lit, n_m, n_add, n_mul, n_div, n_mod, n_cl, n_lt, n_le, n_eq, n_in, n_eqm, n_meq, n_mlt, n_ltm, n_mle, n_lem, not_true_eq_false, not_false_eq_true, true_implies, false_implies, true_and, and_true, Nat.not_lt_zero, Nat.zero_le]
                  exact ih3 h6 hF6 hG6 hg6 hS6 r6 F6 _
                | some c =>
                  have hc := o_lead_lt hl2
                  rw [hl2, o_f2o] at ih3
                  refine c250 r6 (by omega) ⟨_, rfl, d298_297 r6.1 ?_⟩
                  rw [i_bo_0, Classical.not_not]
                  refine ⟨fun e => d298_310 r6.1 ?_, fun e => c296 r6 (by omega) hc hl (hg6 _ _ hc hl) (g6 _ _) hF6 hG6 (fun h7 r7 f7 hG7 => ⟨rfl, d298_310 r7.1 ?_⟩)⟩
                  · rw [if_neg e] at ih3
                    try simp (disch := omega) only [n_lit, n_m, n_add, n_mul, n_div, n_mod, n_cl, n_lt, n_le, n_eq, n_in, n_eqm, n_meq, n_mlt, n_ltm, n_mle, n_lem, not_true_eq_false, not_false_eq_true, true_implies, false_implies, true_and, and_true, Nat.not_lt_zero, Nat.zero_le]
                    exact ih3 h6 hF6 hG6 hg6 hS6 r6 F6 _
                  · rw [if_pos e] at ih3
                    try simp (disch := omega) only [n_lit, n_m, n_add, n_mul, n_div, n_mod, n_cl, n_lt, n_le, n_eq, n_in, n_eqm, n_meq, n_mlt, n_ltm, n_mle, n_lem, not_true_eq_false, not_false_eq_true, true_implies, false_implies, true_and, and_true, Nat.not_lt_zero, Nat.zero_le]
                    exact ih3 h7 (k162 f7 hF6) hG7 (k165 f7 hg6) (k164 f7 hS6) r7 (F6.trans (F3 f7)) _
            refine d298_235 r2.1 (c248 r2 ⟨_, rfl, d298_243 r2.1 ?_⟩)
            try simp (disch := omega) only [n_lit, n_m, n_add, n_mul, n_div, n_mod, n_cl, n_lt, n_le, n_eq, n_in, n_eqm, n_meq, n_mlt, n_ltm, n_mle, n_lem, not_true_eq_false, not_false_eq_true, true_implies, false_implies, true_and, and_true, Nat.not_lt_zero, Nat.zero_le]
            refine ⟨fun e => by omega, fun _ => ⟨fun e => by omega, fun _ => ?_⟩⟩
            exact row 0 (by omega) h2 hF2 hG2 hg2 hS2 r2 f2 _
        -- the next, cleared
        have clr : ∀ j, j ≤ 512 * (a 0 * a 1) → ∀ h2, o_rk a h2 162 (o_fk a p S n k) → (∀ i, i < j → aI h2 163 i = i_bo (false = true)) → (∀ j, j < n → aI h2 164 j = i_n (S j)) → i_RA a h2 → i_Fr [162, 163, 164, 165] [] h h2 → ∀ (y9 y10 y11 : Option Value), i_P i_MT i_AT L xs 298 193 [some (.ref 138), some (.int (i_n p)), some (.long y), none, some (.int (i_n n)), some (.int (i_n (2 ^ n - 1))), some (.int (i_n (512 * (a 0 * a 1)))), some (.int (i_n k)), some (.int (i_n j)), y9, y10, y11] [] h2 0 0 Q := by
          refine l_up ?_ ?_
          · intro h2 hF2 hz hS2 r2 f2 y9 y10 y11
            have hG2 : o_rk a h2 163 (fun _ _ => false) := fun V c hV hc => hz _ (by omega)
            refine d298_193 r2.1 ?_
            by_cases hk60 : k < 30
            · try simp (disch := omega) only [n_lit, n_m, n_add, n_mul, n_div, n_mod, n_cl, n_lt, n_le, n_eq, n_in, n_eqm, n_meq, n_mlt, n_ltm, n_mle, n_lem, not_true_eq_false, not_false_eq_true, true_implies, false_implies, true_and, and_true, Nat.not_lt_zero, Nat.zero_le, Nat.le_refl]
              refine ⟨fun e => by omega, fun _ => c295 r2 hp hn6 (by omega) (fun j hj => ⟨hS2 j hj, hSl j hj⟩) (fun h3 r3 f3 g3 => ⟨rfl, d298_232 r3.1 ?_⟩)⟩
              try simp (disch := omega) only [n_lit, n_m, n_add, n_mul, n_div, n_mod, n_cl, n_lt, n_le, n_eq, n_in, n_eqm, n_meq, n_mlt, n_ltm, n_mle, n_lem, not_true_eq_false, not_false_eq_true, true_implies, false_implies, true_and, and_true, Nat.not_lt_zero, Nat.zero_le]
              refine cells hk60 0 (Nat.zero_le _) h3 ?_ ?_ g3 ?_ r3 (f2.trans (f3.mono (by decide) (fun _ z => z))) _ _ _
              · intro V c hV hc; rw [f3.rI (by decide)]; exact hF2 V c hV hc
              · intro V c hV hc; rw [f3.rI (by decide)]; exact hG2 V c hV hc
              · rw [f3.rI (by decide)]; exact hS2
            · have e30 : k = 30 := by omega
              try simp (disch := omega) only [n_lit, n_m, n_add, n_mul, n_div, n_mod, n_cl, n_lt, n_le, n_eq, n_in, n_eqm, n_meq, n_mlt, n_ltm, n_mle, n_lem, not_true_eq_false, not_false_eq_true, true_implies, false_implies, true_and, and_true, Nat.not_lt_zero, Nat.zero_le, Nat.le_refl]
              refine ⟨fun _ => d298_232 r2.1 ?_, fun e => by omega⟩
              try simp (disch := omega) only [n_lit, n_m, n_add, n_mul, n_div, n_mod, n_cl, n_lt, n_le, n_eq, n_in, n_eqm, n_meq, n_mlt, n_ltm, n_mle, n_lem, not_true_eq_false, not_false_eq_true, true_implies, false_implies, true_and, and_true, Nat.not_lt_zero, Nat.zero_le]
              refine d298_235 r2.1 (c248 r2 ⟨_, rfl, d298_243 r2.1 ?_⟩)
              have go : ∀ (y9 y10 y11 : Option Value), i_P i_MT i_AT L xs 298 322 [some (.ref 138), some (.int (i_n p)), some (.long y), none, some (.int (i_n n)), some (.int (i_n (2 ^ n - 1))), some (.int (i_n (512 * (a 0 * a 1)))), some (.int (i_n k)), some (.int (i_n 0)), y9, y10, y11] [] h2 0 0 Q := by
                intro y9 y10 y11
                refine d298_322 r2.1 ?_
                try simp (disch := omega) only [n_lit, n_m, n_add, n_mul, n_div, n_mod, n_cl, n_lt, n_le, n_eq, n_in, n_eqm, n_meq, n_mlt, n_ltm, n_mle, n_lem, not_true_eq_false, not_false_eq_true, true_implies, false_implies, true_and, and_true, Nat.not_lt_zero, Nat.zero_le]
                exact copy _ (fun e => absurd e hk60) 0 (Nat.zero_le _) h2 hG2 (fun i hi => absurd hi (Nat.not_lt_zero i)) hS2 r2 f2 _ _ _
              try simp (disch := omega) only [n_lit, n_m, n_add, n_mul, n_div, n_mod, n_cl, n_lt, n_le, n_eq, n_in, n_eqm, n_meq, n_mlt, n_ltm, n_mle, n_lem, not_true_eq_false, not_false_eq_true, true_implies, false_implies, true_and, and_true, Nat.not_lt_zero, Nat.zero_le]
              exact ⟨fun _ => go _ _ _, fun _ => ⟨fun _ => go _ _ _, fun e => by omega⟩⟩
          · intro j hj ih2 h2 hF2 hz hS2 r2 f2 y9 y10 y11
            refine d298_193 r2.1 ?_
            try simp (disch := omega) only [n_lit, n_m, n_add, n_mul, n_div, n_mod, n_cl, n_lt, n_le, n_eq, n_in, n_eqm, n_meq, n_mlt, n_ltm, n_mle, n_lem, not_true_eq_false, not_false_eq_true, true_implies, false_implies, true_and, and_true, Nat.not_lt_zero, Nat.zero_le]
            rw [show vp_nar .boolean (i_n 0) = i_bo (false = true) from by decide]
            have Fi : i_Fr [163] [] h2 (i_siI h2 163 j (i_bo (false = true))) := i_Fr.refl.siI (by decide)
            have f3 := f2.trans (F3 Fi)
            have r3 := rfr _ r2.1.siI f3
            refine ⟨fun e => by omega, fun _ => ⟨by omega, d298_208 r3.1 ?_⟩⟩
            try simp (disch := omega) only [n_lit, n_m, n_add, n_mul, n_div, n_mod, n_cl, n_lt, n_le, n_eq, n_in, n_eqm, n_meq, n_mlt, n_ltm, n_mle, n_lem, not_true_eq_false, not_false_eq_true, true_implies, false_implies, true_and, and_true, Nat.not_lt_zero, Nat.zero_le]
            refine ih2 _ (k162 Fi hF2) (fun i hi => ?_) (k164 Fi hS2) r3 f3 _ _ _
            rw [x_aI_siI r2.1.a163, x_upd]
            by_cases e : i = j
            · rw [if_pos e]
            · rw [if_neg e]; exact hz i (by omega)
        try simp (disch := omega) only [n_lit, n_m, n_add, n_mul, n_div, n_mod, n_cl, n_lt, n_le, n_eq, n_in, n_eqm, n_meq, n_mlt, n_ltm, n_mle, n_lem, not_true_eq_false, not_false_eq_true, true_implies, false_implies, true_and, and_true, Nat.not_lt_zero, Nat.zero_le]
        exact clr 0 (Nat.zero_le _) h1 hF (fun i hi => absurd hi (Nat.not_lt_zero i)) hS1 r1 f1 _ _ _
    -- the first, cleared
    have init : ∀ j, j ≤ 512 * (a 0 * a 1) → ∀ h2, (∀ i, i < j → aI h2 162 i = i_bo (false = true)) → (∀ j, j < n → aI h2 164 j = i_n (S j)) → i_RA a h2 → i_Fr [162, 163, 164, 165] [] h h2 → ∀ (y8 y9 y10 y11 : Option Value), i_P i_MT i_AT L xs 298 112 [some (.ref 138), some (.int (i_n p)), some (.long y), none, some (.int (i_n n)), some (.int (i_n (2 ^ n - 1))), some (.int (i_n (512 * (a 0 * a 1)))), some (.int (i_n j)), y8, y9, y10, y11] [] h2 0 0 Q := by
      refine l_up ?_ ?_
      · intro h2 hz hS2 r2 f2 y8 y9 y10 y11
        refine d298_112 r2.1 ?_
        try simp (disch := omega) only [n_lit, n_m, n_add, n_mul, n_div, n_mod, n_cl, n_lt, n_le, n_eq, n_in, n_eqm, n_meq, n_mlt, n_ltm, n_mle, n_lem, not_true_eq_false, not_false_eq_true, true_implies, false_implies, true_and, and_true, Nat.not_lt_zero, Nat.zero_le, Nat.le_refl, sA h2 r2]
        have hs := hst.1
        have hl := hst.2.2.1
        refine ⟨by omega, c256 (w := 1) r2 (by omega) (by omega) ⟨_, rfl, d298_160 r2.1 ⟨_, _, r2.1.a162, ?_⟩⟩⟩
        rw [show 154 + 5 * p + 1 = 155 + 5 * p by omega]
        try simp (disch := omega) only [n_lit, n_m, n_add, n_mul, n_div, n_mod, n_cl, n_lt, n_le, n_eq, n_in, n_eqm, n_meq, n_mlt, n_ltm, n_mle, n_lem, not_true_eq_false, not_false_eq_true, true_implies, false_implies, true_and, and_true, Nat.not_lt_zero, Nat.zero_le]
        rw [show vp_nar .boolean (i_n 1) = i_bo (true = true) from by decide]
        have Fi : i_Fr [162] [] h2 (i_siI h2 162 (64 * (8 * a (154 + 5 * p) + a (155 + 5 * p))) (i_bo (true = true))) := i_Fr.refl.siI (by decide)
        have f3 := f2.trans (Fi.mono (B := [162, 163, 164, 165]) (G := []) (by decide) (fun _ z => z))
        have r3 := rfr _ r2.1.siI f3
        refine ⟨by omega, d298_164 r3.1 ?_⟩
        try simp (disch := omega) only [n_lit, n_m, n_add, n_mul, n_div, n_mod, n_cl, n_lt, n_le, n_eq, n_in, n_eqm, n_meq, n_mlt, n_ltm, n_mle, n_lem, not_true_eq_false, not_false_eq_true, true_implies, false_implies, true_and, and_true, Nat.not_lt_zero, Nat.zero_le]
        refine key 0 (by omega) _ (fun _ V c hV hc => ?_) (fun j hj => absurd hj (Nat.not_lt_zero j)) ?_ r3 f3 _ _ _ _
        · rw [x_aI_siI r2.1.a162, x_upd, o_fk]
          by_cases e : 64 * c + V = 64 * (8 * a (154 + 5 * p) + a (155 + 5 * p))
          · obtain ⟨e1, e2⟩ : V = 0 ∧ c = 8 * a (154 + 5 * p) + a (155 + 5 * p) := by omega
            rw [if_pos e]
            exact i_bo_iff (by simp [e1, e2])
          · rw [if_neg e, hz _ (by omega)]
            refine i_bo_iff ?_
            rw [Bool.and_eq_true, beq_iff_eq, beq_iff_eq]
            constructor
            · intro z; cases z
            · rintro ⟨rfl, rfl⟩; exact absurd (by omega) e
        · rw [Fi.rI (by decide)]; exact hS2
      · intro j hj ih2 h2 hz hS2 r2 f2 y8 y9 y10 y11
        refine d298_112 r2.1 ?_
        try simp (disch := omega) only [n_lit, n_m, n_add, n_mul, n_div, n_mod, n_cl, n_lt, n_le, n_eq, n_in, n_eqm, n_meq, n_mlt, n_ltm, n_mle, n_lem, not_true_eq_false, not_false_eq_true, true_implies, false_implies, true_and, and_true, Nat.not_lt_zero, Nat.zero_le]
        rw [show vp_nar .boolean (i_n 0) = i_bo (false = true) from by decide]
        have Fi : i_Fr [162] [] h2 (i_siI h2 162 j (i_bo (false = true))) := i_Fr.refl.siI (by decide)
        have f3 := f2.trans (Fi.mono (B := [162, 163, 164, 165]) (G := []) (by decide) (fun _ z => z))
        have r3 := rfr _ r2.1.siI f3
        refine ⟨fun e => by omega, fun _ => ⟨by omega, d298_127 r3.1 ?_⟩⟩
        try simp (disch := omega) only [n_lit, n_m, n_add, n_mul, n_div, n_mod, n_cl, n_lt, n_le, n_eq, n_in, n_eqm, n_meq, n_mlt, n_ltm, n_mle, n_lem, not_true_eq_false, not_false_eq_true, true_implies, false_implies, true_and, and_true, Nat.not_lt_zero, Nat.zero_le]
        refine ih2 _ (fun i hi => ?_) ?_ r3 f3 _ _ _ _
        · rw [x_aI_siI r2.1.a162, x_upd]
          by_cases e : i = j
          · rw [if_pos e]
          · rw [if_neg e]; exact hz i (by omega)
        · rw [Fi.rI (by decide)]; exact hS2
    refine d298_106 r1.1 ?_
    try simp (disch := omega) only [n_lit, n_m, n_add, n_mul, n_div, n_mod, n_cl, n_lt, n_le, n_eq, n_in, n_eqm, n_meq, n_mlt, n_ltm, n_mle, n_lem, not_true_eq_false, not_false_eq_true, true_implies, false_implies, true_and, and_true, Nat.not_lt_zero, Nat.zero_le]
    exact init 0 (Nat.zero_le _) h1 (fun i hi => absurd hi (Nat.not_lt_zero i)) hS1 r1 F1 _ _ _ _
  -- the list
  have scan : ∀ c, c ≤ a 0 * a 1 → ∀ h1, (o_skl P c).length ≤ 6 → (∀ j, j < (o_skl P c).length → aI h1 164 j = i_n ((o_skl P c).getD j 0)) → i_RA a h1 → i_Fr [164] [] h h1 → ∀ (y6 y7 y8 y9 y10 y11 : Option Value), i_P i_MT i_AT L xs 298 37 [some (.ref 138), some (.int (i_n p)), some (.long y), none, some (.int (i_n (o_skl P c).length)), some (.int (i_n c)), y6, y7, y8, y9, y10, y11] [] h1 0 0 Q := by
    refine l_up ?_ ?_
    · intro h1 hl6 hS1 r1 f1 y6 y7 y8 y9 y10 y11
      refine d298_37 r1.1 (c248 r1 ⟨_, rfl, d298_43 r1.1 ?_⟩)
      try simp (disch := omega) only [n_lit, n_m, n_add, n_mul, n_div, n_mod, n_cl, n_lt, n_le, n_eq, n_in, n_eqm, n_meq, n_mlt, n_ltm, n_mle, n_lem, not_true_eq_false, not_false_eq_true, true_implies, false_implies, true_and, and_true, Nat.not_lt_zero, Nat.zero_le, Nat.le_refl, n_shl2, n_and, Nat.shiftLeft_eq, Nat.one_mul]
      rw [o_skl_len] at hl6 hS1 ⊢
      have fl : 2 ^ o_cn0 P (a 0 * a 1) ≤ 64 := Nat.pow_le_pow_right (n := 2) (j := 6) (by omega) hl6
      have fl0 : 0 < 2 ^ o_cn0 P (a 0 * a 1) := Nat.two_pow_pos _
      rw [show i_n (2 ^ o_cn0 P (a 0 * a 1)) - i_n 1 = i_n (2 ^ o_cn0 P (a 0 * a 1) - 1) from n_sub fl0]
      exact c248 r1 ⟨_, rfl, lst hl6 h1 r1 f1 hS1 _ _ _ _ _ _⟩
    · intro c hc ih h1 hl6 hS1 r1 f1 y6 y7 y8 y9 y10 y11
      rw [o_skl] at ih
      refine d298_37 r1.1 (c248 r1 ⟨_, rfl, d298_43 r1.1 ?_⟩)
      rw [j_hass y (by omega), hP]
      try simp (disch := omega) only [n_lit, n_m, n_add, n_mul, n_div, n_mod, n_cl, n_lt, n_le, n_eq, n_in, n_eqm, n_meq, n_mlt, n_ltm, n_mle, n_lem, not_true_eq_false, not_false_eq_true, true_implies, false_implies, true_and, and_true, Nat.not_lt_zero, Nat.zero_le]
      refine ⟨fun e => by omega, fun _ => ⟨fun e => ⟨fun e6 => ⟨by omega, ?_⟩, fun e6 => m201 r1 (fun h2 g2 f2 s2 => ⟨_, rfl, d298_72 g2.1 ?_⟩)⟩, fun e => d298_85 r1.1 ?_⟩⟩
      · rw [if_pos (by simpa using e)] at ih
        rw [List.length_append, List.length_singleton] at ih
        have Fi : i_Fr [164] [] h1 (i_siI h1 164 (o_skl P c).length (i_n c)) := i_Fr.refl.siI (by decide)
        have r2 : i_RA a (i_siI h1 164 (o_skl P c).length (i_n c)) := r1.fr r1.1.siI Fi (by decide)
        refine d298_82 r2.1 ?_
        try simp (disch := omega) only [n_lit, n_m, n_add, n_mul, n_div, n_mod, n_cl, n_lt, n_le, n_eq, n_in, n_eqm, n_meq, n_mlt, n_ltm, n_mle, n_lem, not_true_eq_false, not_false_eq_true, true_implies, false_implies, true_and, and_true, Nat.not_lt_zero, Nat.zero_le]
        refine d298_85 r2.1 ?_
        try simp (disch := omega) only [n_lit, n_m, n_add, n_mul, n_div, n_mod, n_cl, n_lt, n_le, n_eq, n_in, n_eqm, n_meq, n_mlt, n_ltm, n_mle, n_lem, not_true_eq_false, not_false_eq_true, true_implies, false_implies, true_and, and_true, Nat.not_lt_zero, Nat.zero_le]
        refine ih _ (by omega) (fun j hj => ?_) r2 (f1.trans Fi) _ _ _ _ _ _
        rw [x_aI_siI r1.1.a164, x_upd]
        by_cases ej : j = (o_skl P c).length
        · rw [if_pos ej, ej, List.getD_eq_getElem?_getD, List.getElem?_append_right (Nat.le_refl _), Nat.sub_self]
          rfl
        · rw [if_neg ej, List.getD_eq_getElem?_getD, List.getElem?_append_left (by omega), ← List.getD_eq_getElem?_getD]
          exact hS1 j (by omega)
      · have nok : ¬ (v_p a (i_n p) ∧ o_mok a y = true) := by
          intro q
          have q2 := (o_mok_t.mp q.2).2
          rw [hP] at q2
          have q3 := o_cn0_mono (P := P) (a 0 * a 1) (c + 1) (by omega)
          rw [o_cn0, if_pos (by simpa using e)] at q3
          rw [o_skl_len] at e6
          omega
        rw [o_A6_f nok] at H
        exact H h2 g2 ((f1.mono (by decide) (by decide)).trans f2.s) s2
      · rw [if_neg (by simpa using e)] at ih
        try simp (disch := omega) only [n_lit, n_m, n_add, n_mul, n_div, n_mod, n_cl, n_lt, n_le, n_eq, n_in, n_eqm, n_meq, n_mlt, n_ltm, n_mle, n_lem, not_true_eq_false, not_false_eq_true, true_implies, false_implies, true_and, and_true, Nat.not_lt_zero, Nat.zero_le]
        exact ih h1 hl6 hS1 r1 f1 _ _ _ _ _ _
  try simp (disch := omega) only [n_lit, n_m, n_add, n_mul, n_div, n_mod, n_cl, n_lt, n_le, n_eq, n_in, n_eqm, n_meq, n_mlt, n_ltm, n_mle, n_lem, not_true_eq_false, not_false_eq_true, true_implies, false_implies, true_and, and_true, Nat.not_lt_zero, Nat.zero_le]
  exact scan 0 (Nat.zero_le _) h (Nat.zero_le _) (fun j hj => absurd hj (Nat.not_lt_zero j)) r i_Fr.refl _ _ _ _ _ _
end
