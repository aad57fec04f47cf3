/-! SHOWN, the class: the minutes, and the question -/
section
variable {L : Nat} {xs : Nat → Int32} {h : iH} {Q : Option Value → iH → Prop} {a : Nat → Nat} {t : Nat}
set_option maxRecDepth 20000
abbrev snA : List Nat := [99, 100, 106, 107, 110, 111, 117, 118, 119, 120]
abbrev snF : List (Nat × Nat) := [(108, 10), (108, 11)]
theorem i_CO.shw (g : i_CO a t h) {h2 : iH} (hL : i_Lay h2) (f : i_Fr [117, 118] snF h h2) : i_CO a t h2 := g.fr hL f (by decide) (by decide)
theorem o_is.emp {n : Nat} : o_is 0 n (fun _ => false) := fun c _ => by rw [j_0]; simp
set_option maxHeartbeats 2000000 in
theorem c76 (g : i_CO a t h) (sw : i_sw2 h 108 10 11 117 118) {p : Nat} (hp : p < a 5) (H : ∀ h2, i_CO a t h2 → i_Fr snA snF h h2 → i_sw2 h2 108 10 11 117 118 → Q (some (.int (o_op (o_shN a p)))) h2) : i_C i_MT i_AT L xs 76 [.ref 108, .int (i_n p)] h Q := by
  have h5 := g.w.2.2.2.2.1
  have h48 := g.w.c48
  have hs := (g.st hp).2
  have hv := (g.ct.2.2.2.2.2.2.2.1.2 p hp).2.2.2.2
  have hw8 : a (157 + 5 * p) < 256 := (g.w.2.2.2.2.2.2.2.2.2.2.1 p hp).2.2.2.2.2.1
  have hv8 : a (158 + 5 * p) < 256 := (g.w.2.2.2.2.2.2.2.2.2.2.1 p hp).2.2.2.2.2.2
  obtain ⟨B0, C0, b0⟩ := sw.nB
  have n0 := b0.ne
  have key : ∀ k, k ≤ 61 → 1 ≤ k → ∀ (B C : Nat) h1, o_nB h1 B C → o_rw a h1 B 256 (o_sh a p (k - 1)) → (∀ j, j < k → o_or (o_sh a p j (a (158 + 5 * p))) (a 0 * a 1) = false) → o_wei a h1 → i_CO a t h1 → i_Fr snA snF h h1 → ∀ (y5 : Option Value), i_P i_MT i_AT L xs 76 76 [some (.ref 108), some (.int (i_n p)), some (.int (i_n (a (158 + 5 * p)))), some (.int (i_n (a (157 + 5 * p)))), some (.int (i_n k)), y5] [] h1 0 0 Q := by
    refine l_up ?_ ?_
    · intro _ B C h1 b1 hF hno w1 g1 f1 y5
      refine d76_76 g1.l ?_
      try simp (disch := omega) only [n_lit, n_m, n_add, n_mul, n_div, n_mod, n_cl, n_lt, n_le, n_eq, n_in, n_eqm, n_meq, n_mlt, n_ltm, n_mle, n_lem, not_true_eq_false, not_false_eq_true, true_implies, false_implies, true_and, and_true, Nat.not_lt_zero, Nat.zero_le, Nat.lt_succ_self]
      have e : o_shN a p = none := o_lst_n 61 0 (fun j _ h2 => hno j (by omega))
      rw [e] at H
      exact H h1 g1 f1 b1.sw
    · intro k hk ih hk1 B C h1 b1 hF hno w1 g1 f1 y5
      have nb := b1.ne
      refine d76_76 g1.l ?_
      try simp (disch := omega) only [n_lit, n_m, n_add, n_mul, n_div, n_mod, n_cl, n_lt, n_le, n_eq, n_in, n_eqm, n_meq, n_mlt, n_ltm, n_mle, n_lem, not_true_eq_false, not_false_eq_true, true_implies, false_implies, true_and, and_true, Nat.not_lt_zero, Nat.zero_le]
      refine ⟨fun e => by omega, fun _ => c77 g1 w1 hv8 (by omega) (fun h2 g2 f2 w2 k2 => ⟨rfl, d76_90 g2.l ?_⟩)⟩
      have b2 := b1.fr f2 (by simp) (by simp)
      have r2 : o_rw a h2 B 256 (o_sh a p (k - 1)) := by unfold o_rw; rw [f2.rJ (by simp; omega)]; exact hF
      refine ⟨C, b2.f11 g2.l, c348 g2.l (b2.aB g2.l).2 (by omega) (fun h3 L3 f3 z3 => ⟨rfl, ?_⟩)⟩
      have f3b : i_Fr [117, 118] snF h2 h3 := f3.mono (fun q hq => by simp only [List.mem_cons, List.not_mem_nil, or_false] at hq ⊢; omega) (fun _ e => absurd e (by simp))
      have g3 := g2.shw L3 f3b
      have b3 := b2.fr f3 (by simp) (by simp)
      have r3 : o_rw a h3 B 256 (o_sh a p (k - 1)) := by unfold o_rw; rw [f3.rJ (by simp; omega)]; exact r2
      have s3 : o_rw a h3 C 256 (fun _ _ => false) := fun V hV => by rw [z3 V hV]; exact o_is.emp
      have w3 := w2.fr f3 (by simp; omega)
      have k3 := k2.fr f3 (by simp; omega)
      have F3 : i_Fr snA snF h h3 := (f1.trans (f2.mono (B := snA) (G := snF) (by decide) (by decide))).trans (f3b.mono (by decide) (fun _ z => z))
      -- one move
      have one : ∀ (d : Nat), (d = 0 ∨ d = 1 ∨ d = 2 ∨ d = 4) → ∀ (G : Nat → Nat → Bool) (h4 : iH) (Q3 : Option Value → iH → Prop), i_CO a t h4 → o_nB h4 B C → o_rw a h4 B 256 (o_sh a p (k - 1)) → o_rw a h4 C 256 G → o_wei a h4 → o_gok a (a (158 + 5 * p)) k h4 → i_Fr snA snF h h4 → (∀ (s : Int64) (h5 : iH), i_CO a t h5 → (∀ (Q4 : Option Value → iH → Prop), (∀ h6, i_CO a t h6 → o_nB h6 B C → o_rw a h6 B 256 (o_sh a p (k - 1)) → o_rw a h6 C 256 (fun V c => G V c || o_s1 a p k (o_sh a p (k - 1)) d V c) → o_wei a h6 → o_gok a (a (158 + 5 * p)) k h6 → i_Fr snA snF h h6 → Q4 none h6) → i_C i_MT i_AT L xs 79 [.ref 108, .int (i_n d), .long s] h5 Q4) → Q3 (some (.long s)) h5) → i_C i_MT i_AT L xs 69 [.ref 108, .int (i_n (a (157 + 5 * p))), .int (i_n d), .int (i_n k)] h4 Q3 := by
        intro d hd G h4 Q3 g4 b4 r4 s4 w4 k4 F4 H3
        refine c69 g4 w4 hw8 (by omega) (by omega) (fun s h5 hs5 g5 f5 => H3 s h5 g5 (fun Q4 H4 => ?_))
        have b5 := b4.fr f5 (by simp) (by simp)
        have r5 : o_rw a h5 B 256 (o_sh a p (k - 1)) := by unfold o_rw; rw [f5.rJ (by simp; omega)]; exact r4
        have s5 : o_rw a h5 C 256 G := by unfold o_rw; rw [f5.rJ (by simp; omega)]; exact s4
        have w5 := w4.fr f5 (by decide)
        have k5 := k4.fr f5 (by decide)
        have F5 := F4.trans (f5.mono (B := snA) (G := snF) (by decide) (fun _ z => absurd z (by simp)))
        refine c79 g5 hp b5 k5 hd hs5 r5 s5 (fun h6 g6 f6 o6 s6 => H4 h6 g6 (b5.fr f6 (by simp) (by simp)) ?_ s6 (w5.fr f6 (by decide)) (k5.fr f6 (by decide)) (F5.trans (f6.mono (by decide) (fun _ z => absurd z (by simp)))))
        unfold o_rw
        rw [o6 B nb.1]
        exact r5
      refine d76_98 g3.l ?_
      refine one 0 (by omega) _ h3 _ g3 b3 r3 s3 w3 k3 F3 (fun s4 h4 g4 c4 => ⟨_, rfl, d76_108 g4.l (c4 _ (fun h5 g5 b5 r5 s5 w5 k5 F5 => ⟨rfl, d76_111 g5.l ?_⟩))⟩)
      refine one 1 (by omega) _ h5 _ g5 b5 r5 s5 w5 k5 F5 (fun s6 h6 g6 c6 => ⟨_, rfl, d76_121 g6.l (c6 _ (fun h7 g7 b7 r7 s7 w7 k7 F7 => ⟨rfl, d76_124 g7.l ?_⟩))⟩)
      refine one 2 (by omega) _ h7 _ g7 b7 r7 s7 w7 k7 F7 (fun s8 h8 g8 c8 => ⟨_, rfl, d76_134 g8.l (c8 _ (fun h9 g9 b9 r9 s9 w9 k9 F9 => ⟨rfl, d76_137 g9.l ?_⟩))⟩)
      refine one 4 (by omega) _ h9 _ g9 b9 r9 s9 w9 k9 F9 (fun s10 h10 g10 c10 => ⟨_, rfl, d76_147 g10.l (c10 _ (fun h11 g11 b11 r11 s11 w11 k11 F11 => ⟨rfl, d76_150 g11.l ?_⟩))⟩)
      have e : o_rw a h11 C 256 (o_sh a p k) := fun V hV => (s11 V hV).congr (fun c _ => by
        obtain ⟨j, rfl⟩ : ∃ j, k = j + 1 := ⟨k - 1, by omega⟩
        rw [show j + 1 - 1 = j from rfl, o_sh]
        dsimp only
        rw [Bool.false_or, Bool.or_assoc, Bool.or_assoc])
      refine ⟨C, b11.f11 g11.l, 256, aJ h11 C, (b11.aB g11.l).2, (n_in (by omega)).mpr hv8, ?_⟩
      have eV := e (a (158 + 5 * p)) hv8
      rw [n_cl (by omega), j_cmp0, eV.s0 (by omega)]
      refine ⟨fun z => ⟨B, b11.f10 g11.l, C, b11.f11 g11.l, ⟨_, b11.f10 g11.l⟩, ?_⟩, fun z => ?_⟩
      · have F8 : i_Fr [117, 118] snF h11 (i_sf h11 108 10 (.ref C)) := i_Fr.refl.sf (by decide)
        have L3 : i_Lay (i_sf h11 108 10 (.ref C)) := g11.l.sf (b11.f10 g11.l) rfl
        have g12 := g11.shw L3 F8
        have F8b : i_Fr [] [(108, 10)] h11 (i_sf h11 108 10 (.ref C)) := i_Fr.refl.sf (by decide)
        have e8 : fR (i_sf h11 108 10 (.ref C)) 108 10 = C := x_fR_sf (b11.f10 g11.l)
        have e9 : i_fld (i_sf h11 108 10 (.ref C)) 108 6 11 = some (.ref C) := by
          have := L3.fw (q := 108) (ci := 6) (b := 11) rfl rfl rfl
          rw [F8b.vR (by decide), b11.2.1] at this
          exact this
        refine d76_178 g12.l ⟨⟨_, e9⟩, ?_⟩
        have F9 : i_Fr [117, 118] snF (i_sf h11 108 10 (.ref C)) (i_sf (i_sf h11 108 10 (.ref C)) 108 11 (.ref B)) := i_Fr.refl.sf (by decide)
        have F9b : i_Fr [] [(108, 11)] (i_sf h11 108 10 (.ref C)) (i_sf (i_sf h11 108 10 (.ref C)) 108 11 (.ref B)) := i_Fr.refl.sf (by decide)
        have L4 : i_Lay (i_sf (i_sf h11 108 10 (.ref C)) 108 11 (.ref B)) := L3.sf e9 rfl
        have g13 := g12.shw L4 F9
        have b13 : o_nB (i_sf (i_sf h11 108 10 (.ref C)) 108 11 (.ref B)) C B := by
          refine ⟨by rw [F9b.vR (by decide)]; exact e8, x_fR_sf e9, ?_⟩
          rcases b11.2.2 with e | e
          · exact Or.inr ⟨e.2, e.1⟩
          · exact Or.inl ⟨e.2, e.1⟩
        have r13 : o_rw a (i_sf (i_sf h11 108 10 (.ref C)) 108 11 (.ref B)) C 256 (o_sh a p k) := by
          unfold o_rw
          rw [F9b.rJ (by simp), F8b.rJ (by simp)]; exact e
        have w13 := (w11.fr F8b (by decide)).fr F9b (by decide)
        have F13 := F11.trans ((F8.trans F9).mono (B := snA) (G := snF) (by decide) (fun _ z => z))
        generalize i_sf (i_sf h11 108 10 (.ref C)) 108 11 (.ref B) = h13 at g13 b13 r13 w13 F13 ⊢
        refine d76_184 g13.l ?_
        try simp (disch := omega) only [n_lit, n_m, n_add, n_mul, n_div, n_mod, n_cl, n_lt, n_le, n_eq, n_in, n_eqm, n_meq, n_mlt, n_ltm, n_mle, n_lem, not_true_eq_false, not_false_eq_true, true_implies, false_implies, true_and, and_true, Nat.not_lt_zero, Nat.zero_le]
        refine ih (by omega) C B h13 b13 (by rw [show k + 1 - 1 = k by omega]; exact r13) (fun j hj => ?_) w13 g13 F13 _
        by_cases ej : j = k
        · subst ej; exact z
        · exact hno j (by omega)
      · have z2 : o_or (o_sh a p k (a (158 + 5 * p))) (a 0 * a 1) = true := by simpa using z
        have e2 : o_shN a p = some k := o_lst_s (P := fun m => o_or (o_sh a p m (a (158 + 5 * p))) (a 0 * a 1)) (j := k) z2 61 0 (by omega) (by omega) (fun j _ hj => hno j hj)
        rw [e2] at H
        exact H h11 g11 F11 b11.sw
  refine e76 (d76_0 g.l ⟨t, g.tw, g.T, ?_⟩)
  rw [n_cl (by omega), hv]
  refine ⟨(n_in (by omega)).mpr (by omega), t, g.tw, g.T, (n_in (by omega)).mpr (by omega), ?_⟩
  rw [g.wa hp]
  try simp (disch := omega) only [n_lit, n_m, i_bo01, j_cmpn, Classical.not_not, n_add, n_mul, n_div, n_mod, n_cl, n_lt, n_le, n_eq, n_in, n_eqm, n_meq, n_mlt, n_ltm, n_mle, n_lem, not_true_eq_false, not_false_eq_true, true_implies, false_implies, true_and, and_true, Nat.not_lt_zero, Nat.zero_le]
  refine ⟨fun e => ?_, fun e => ?_⟩
  · refine c67 g (fun h1 g1 f1 w1 => ⟨rfl, d76_42 g1.l ?_⟩)
    have b1 := b0.fr f1 (by simp) (by simp)
    refine ⟨B0, b1.f10 g1.l, c348 g1.l (b1.aB g1.l).1 (by omega) (fun h2 L2 f2 z2 => ⟨rfl, ?_⟩)⟩
    have f2b : i_Fr [117, 118] snF h1 h2 := f2.mono (fun q hq => by simp only [List.mem_cons, List.not_mem_nil, or_false] at hq ⊢; omega) (fun _ e => absurd e (by simp))
    have g2 := g1.shw L2 f2b
    have b2 := b1.fr f2 (by simp) (by simp)
    have w2 := w1.fr f2 (by simp; omega)
    refine d76_50 g2.l ⟨B0, b2.f10 g2.l, t, g2.tw, g2.T, ?_⟩
    rw [n_cl (by omega), (g2.st hp).1]
    refine ⟨(n_in (by omega)).mpr (by omega), 256, aJ h2 B0, (b2.aB g2.l).1, (show i_in (i_n 0) 256 from (n_in (by omega)).mpr (by omega)), ?_⟩
    rw [show ((0 : Int32).toNatClampNeg) = 0 from rfl]
    have Fi : i_Fr [B0] [] h2 (i_siJ h2 B0 0 ((1 : Int64) <<< ((i_n (a (154 + 5 * p))).toInt64 &&& (63 : Int64)))) := i_Fr.refl.siJ List.mem_cons_self
    have Fi2 : i_Fr [117, 118] snF h2 (i_siJ h2 B0 0 ((1 : Int64) <<< ((i_n (a (154 + 5 * p))).toInt64 &&& (63 : Int64)))) := Fi.mono (fun q hq => by simp only [List.mem_cons, List.not_mem_nil, or_false] at hq ⊢; omega) (fun _ e => absurd e (by simp))
    have g3 := g2.shw g2.l.siJ Fi2
    have b3 := b2.fr Fi (by simp) (by simp)
    have w3 := w2.fr Fi (by simp; omega)
    have r3 : o_rw a (i_siJ h2 B0 0 ((1 : Int64) <<< ((i_n (a (154 + 5 * p))).toInt64 &&& (63 : Int64)))) B0 256 (o_sh a p 0) := by
      intro V hV
      by_cases eV : V = 0
      · subst eV
        rw [i_siJ_at (b2.aB g2.l).1]
        exact (o_is.one hs (by omega)).congr (fun c _ => by rw [o_sh]; simp)
      · rw [i_siJ_no (b2.aB g2.l).1 eV, z2 V hV]
        exact o_is.emp.congr (fun c _ => by rw [o_sh, show (V == 0) = false by simpa using eV, Bool.false_and])
    have F3 : i_Fr snA snF h (i_siJ h2 B0 0 ((1 : Int64) <<< ((i_n (a (154 + 5 * p))).toInt64 &&& (63 : Int64)))) := (f1.mono (B := snA) (G := snF) (by decide) (by decide)).trans ((f2b.trans Fi2).mono (by decide) (fun _ z => z))
    generalize i_siJ h2 B0 0 ((1 : Int64) <<< ((i_n (a (154 + 5 * p))).toInt64 &&& (63 : Int64))) = h3 at g3 b3 w3 r3 F3 ⊢
    refine d76_73 g3.l ?_
    try simp (disch := omega) only [n_lit, n_m, n_add, n_mul, n_div, n_mod, n_cl, n_lt, n_le, n_eq, n_in, n_eqm, n_meq, n_mlt, n_ltm, n_mle, n_lem, not_true_eq_false, not_false_eq_true, true_implies, false_implies, true_and, and_true, Nat.not_lt_zero, Nat.zero_le]
    refine key 1 (by omega) (Nat.le_refl 1) B0 C0 h3 b3 r3 (fun j hj => ?_) w3 g3 F3 _
    have : j = 0 := by omega
    subst this
    rw [← Bool.not_eq_true, o_or_t]
    rintro ⟨i, -, q⟩
    rw [o_sh, Bool.and_eq_true, beq_iff_eq] at q
    exact e q.1
  · have e2 : o_shN a p = some 0 := o_lst_s (P := fun m => o_or (o_sh a p m (a (158 + 5 * p))) (a 0 * a 1)) (j := 0) (by
      rw [o_or_t]
      exact ⟨a (154 + 5 * p), hs, by rw [o_sh, e]; simp⟩) 61 0 (by omega) (by omega) (fun j _ hj => absurd hj (Nat.not_lt_zero j))
    rw [e2] at H
    exact H h g i_Fr.refl sw
set_option maxHeartbeats 400000 in
theorem c158 (g : i_ST a t h) (sw : i_SW h) {x : Int32} (H : i_KW a t h Q (o_shA a x)) : i_C i_MT i_AT L xs 158 [.ref 0, .int x] h Q := by
  have h5 := g.w.2.2.2.2.1
  unfold o_shA at H
  refine e158 (d158_0 g.l (c186 g ⟨_, rfl, d158_5 g.l ?_⟩))
  rw [i_bo_0, Classical.not_not]
  refine ⟨fun z => ?_, fun z => ?_⟩
  · have H := H.a6 z
    obtain ⟨p, hp, rfl⟩ := n_get z (by omega)
    rw [n_cl (by omega)] at H
    refine c76 g.1 sw.2.1 hp (fun h1 g1 f1 s1 => ?_)
    have fw : i_FW h h1 := f1.mono (by decide) (by decide)
    have G1 := g.fw g1 fw
    have sw1 : i_SW h1 := by
      obtain ⟨q1, q2, q3, q4⟩ := sw
      refine ⟨?_, s1, ?_, ?_⟩ <;> unfold i_sw2
      · rw [f1.vR (by decide), f1.vR (by decide)]; exact q1
      · rw [f1.vR (by decide), f1.vR (by decide)]; exact q3
      · rw [f1.vR (by decide), f1.vR (by decide)]; exact q4
    refine ⟨_, rfl, d158_23 G1.l ?_⟩
    refine m183 G1 (fun k e => by have := o_lst_g _ _ _ e; omega) (fun h2 g2 f2 s2 => ⟨_, rfl, d158_26 g2.l (H h2 g2 (fw.trans f2.s.w) (sw1.f0 f2) s2)⟩)
  · rw [o_A6_f z] at H
    exact m179 g (fun h2 g2 f2 s2 => ⟨_, rfl, d158_13 g2.l (H h2 g2 f2.s.w (sw.f0 f2) s2)⟩)
end
