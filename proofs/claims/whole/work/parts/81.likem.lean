/-! LIKELIEST, the methods -/
section
variable {L : Nat} {xs : Nat → Int32} {h : iH} {Q : Option Value → iH → Prop} {a : Nat → Nat} {t : Nat}
set_option maxRecDepth 20000
theorem i_sw2.bB (s : i_sw2 h 108 8 9 115 116) : ∃ B C, o_bB h B C := by
  rcases s with e | e
  · exact ⟨115, 116, e.1, e.2, Or.inl ⟨rfl, rfl⟩⟩
  · exact ⟨116, 115, e.1, e.2, Or.inr ⟨rfl, rfl⟩⟩
theorem o_bB.sw {B C : Nat} (b : o_bB h B C) : i_sw2 h 108 8 9 115 116 := by
  rcases b.2.2 with e | e
  · exact Or.inl ⟨b.1.trans e.1, b.2.1.trans e.2⟩
  · exact Or.inr ⟨b.1.trans e.1, b.2.1.trans e.2⟩
theorem o_bB.ne {B C : Nat} (b : o_bB h B C) : B ≠ C ∧ 114 < B ∧ B < 117 ∧ 114 < C ∧ C < 117 := by
  rcases b.2.2 with e | e <;> omega
abbrev lkA : List Nat := [99, 100, 106, 107, 115, 116]
abbrev lkF : List (Nat × Nat) := [(108, 8), (108, 9)]
theorem o_lkIn {B : Nat} (h1 : 114 < B) (h2 : B < 117) : B ∈ lkA := by
  simp only [List.mem_cons, List.not_mem_nil, or_false]; omega
theorem i_CO.lk (g : i_CO a t h) {h2 : iH} (hL : i_Lay h2) (f : i_Fr [115, 116] lkF h h2) : i_CO a t h2 := g.fr hL f (by decide) (by decide)
set_option maxHeartbeats 1000000 in
theorem c73 (g : i_CO a t h) (sw : i_sw2 h 108 8 9 115 116) {p c m : Nat} (hp : p < a 5) (hc : c < a 0 * a 1) (hm : m ≤ 60) (H : ∀ h2, i_CO a t h2 → i_Fr lkA lkF h h2 → i_sw2 h2 108 8 9 115 116 → Q (some (.int (o_zI (o_lik a p m c)))) h2) : i_C i_MT i_AT L xs 73 [.ref 108, .int (i_n p), .int (i_n c), .int (i_n m)] h Q := by
  have h5 := g.w.2.2.2.2.1
  have h48 := g.w.c48
  have hs := (g.st hp).2
  obtain ⟨B0, C0, b0⟩ := sw.bB
  have n0 := b0.ne
  have hbst : ∀ (F : Nat → Nat) c, (∀ c, F c ≤ 1000001) → o_bst a F c ≤ 1000001 := by
    intro F c hF
    unfold o_bst
    split
    · omega
    · rw [o_sup_le]
      intro i _
      unfold o_ldv
      split
      · exact hF _
      · omega
  have key : ∀ k, k ≤ m + 1 → 1 ≤ k → ∀ (B C : Nat) h1, o_bB h1 B C → (∀ c, c < a 0 * a 1 → aI h1 B c = o_zI (o_lik a p (k - 1) c)) → i_CO a t h1 → i_Fr lkA lkF h h1 → ∀ (y6 y7 y8 : Option Value), i_P i_MT i_AT L xs 73 50 [some (.ref 108), some (.int (i_n p)), some (.int (i_n c)), some (.int (i_n m)), some (.int (i_n (a (157 + 5 * p)))), some (.int (i_n k)), y6, y7, y8] [] h1 0 0 Q := by
    refine l_up ?_ ?_
    · intro _ B C h1 b1 hF g1 f1 y6 y7 y8
      refine d73_50 g1.l ?_
      try simp (disch := omega) only [n_lit, n_m, n_add, n_mul, n_div, n_mod, n_cl, n_lt, n_le, n_eq, n_in, n_eqm, n_meq, n_mlt, n_ltm, n_mle, n_lem, not_true_eq_false, not_false_eq_true, true_implies, false_implies, true_and, and_true, Nat.not_lt_zero, Nat.zero_le, Nat.lt_succ_self]
      refine ⟨B, b1.f8 g1.l, 48, aI h1 B, (b1.aB g1.l).1, by omega, ?_⟩
      have := hF c hc
      rw [show m + 1 - 1 = m by omega] at this
      rw [this]
      exact H h1 g1 f1 b1.sw
    · intro k hk ih hk1 B C h1 b1 hF g1 f1 y6 y7 y8
      have nb := b1.ne
      have hle : ∀ c, o_lik a p (k - 1) c ≤ 1000001 := o_lik_le (k - 1)
      have row : ∀ d, d ≤ a 0 * a 1 → ∀ h2, o_bB h2 B C → (∀ c, c < a 0 * a 1 → aI h2 B c = o_zI (o_lik a p (k - 1) c)) → (∀ c, c < d → aI h2 C c = o_zI (o_lik a p k c)) → i_CO a t h2 → i_Fr lkA lkF h h2 → ∀ (y7 y8 : Option Value), i_P i_MT i_AT L xs 73 59 [some (.ref 108), some (.int (i_n p)), some (.int (i_n c)), some (.int (i_n m)), some (.int (i_n (a (157 + 5 * p)))), some (.int (i_n k)), some (.int (i_n d)), y7, y8] [] h2 0 0 Q := by
        refine l_up ?_ ?_
        · intro h2 b2 hF2 hG2 g2 f2 y7 y8
          refine d73_59 g2.l ?_
          rw [g2.2.1.1.2.2]
          try simp (disch := omega) only [n_lit, n_m, n_add, n_mul, n_div, n_mod, n_cl, n_lt, n_le, n_eq, n_in, n_eqm, n_meq, n_mlt, n_ltm, n_mle, n_lem, not_true_eq_false, not_false_eq_true, true_implies, false_implies, true_and, and_true, Nat.not_lt_zero, Nat.zero_le, Nat.le_refl]
          refine ⟨B, b2.f8 g2.l, C, b2.f9 g2.l, ⟨_, b2.f8 g2.l⟩, ?_⟩
          have F8 : i_Fr [115, 116] lkF h2 (i_sf h2 108 8 (.ref C)) := i_Fr.refl.sf (by decide)
          have L3 : i_Lay (i_sf h2 108 8 (.ref C)) := g2.l.sf (b2.f8 g2.l) rfl
          have g3 := g2.lk L3 F8
          have e8 : fR (i_sf h2 108 8 (.ref C)) 108 8 = C := x_fR_sf (b2.f8 g2.l)
          have F8b : i_Fr [] [(108, 8)] h2 (i_sf h2 108 8 (.ref C)) := i_Fr.refl.sf (by decide)
          have e9 : i_fld (i_sf h2 108 8 (.ref C)) 108 6 9 = some (.ref C) := by
            have := L3.fw (q := 108) (ci := 6) (b := 9) rfl rfl rfl
            rw [F8b.vR (by decide), b2.2.1] at this
            exact this
          have A8 := F8b
          refine d73_147 g3.l ⟨⟨_, e9⟩, ?_⟩
          have F9 : i_Fr [115, 116] lkF (i_sf h2 108 8 (.ref C)) (i_sf (i_sf h2 108 8 (.ref C)) 108 9 (.ref B)) := i_Fr.refl.sf (by decide)
          have F9b : i_Fr [] [(108, 9)] (i_sf h2 108 8 (.ref C)) (i_sf (i_sf h2 108 8 (.ref C)) 108 9 (.ref B)) := i_Fr.refl.sf (by decide)
          have L4 : i_Lay (i_sf (i_sf h2 108 8 (.ref C)) 108 9 (.ref B)) := L3.sf e9 rfl
          have g4 := g3.lk L4 F9
          have b4 : o_bB (i_sf (i_sf h2 108 8 (.ref C)) 108 9 (.ref B)) C B := by
            refine ⟨by rw [F9b.vR (by decide)]; exact e8, x_fR_sf e9, ?_⟩
            rcases b2.2.2 with e | e
            · exact Or.inr ⟨e.2, e.1⟩
            · exact Or.inl ⟨e.2, e.1⟩
          have hC4 : ∀ c, c < a 0 * a 1 → aI (i_sf (i_sf h2 108 8 (.ref C)) 108 9 (.ref B)) C c = o_zI (o_lik a p k c) := by
            rw [F9b.rI (by simp), F8b.rI (by simp)]; exact hG2
          have f4 := f2.trans ((F8.trans F9).mono (B := lkA) (G := lkF) (by decide) (fun _ z => z))
          generalize i_sf (i_sf h2 108 8 (.ref C)) 108 9 (.ref B) = h4 at g4 b4 hC4 f4 ⊢
          refine d73_153 g4.l ?_
          try simp (disch := omega) only [n_lit, n_m, n_add, n_mul, n_div, n_mod, n_cl, n_lt, n_le, n_eq, n_in, n_eqm, n_meq, n_mlt, n_ltm, n_mle, n_lem, not_true_eq_false, not_false_eq_true, true_implies, false_implies, true_and, and_true, Nat.not_lt_zero, Nat.zero_le]
          exact ih (by omega) C B h4 b4 (by rw [show k + 1 - 1 = k by omega]; exact hC4) g4 f4 _ _ _
        · intro d hd ih2 h2 b2 hF2 hG2 g2 f2 y7 y8
          refine d73_59 g2.l ?_
          rw [g2.2.1.1.2.2]
          try simp (disch := omega) only [n_lit, n_m, n_add, n_mul, n_div, n_mod, n_cl, n_lt, n_le, n_eq, n_in, n_eqm, n_meq, n_mlt, n_ltm, n_mle, n_lem, not_true_eq_false, not_false_eq_true, true_implies, false_implies, true_and, and_true, Nat.not_lt_zero, Nat.zero_le]
          refine ⟨fun e => by omega, fun _ => ⟨B, b2.f8 g2.l, 48, aI h2 B, (b2.aB g2.l).1, by omega, ?_⟩⟩
          rw [hF2 d hd]
          refine c75 g2 hp hd (by omega) (by omega) (hle d) (fun h3 g3 f3 => ⟨_, rfl, d73_92 g3.l ?_⟩)
          have b3 := b2.fr f3 (by simp) (by simp)
          have eB3 : aI h3 B = aI h2 B := f3.rI (by simp; omega)
          refine c74 (F := o_lik a p (k - 1)) g3 b3 (fun c hc => ⟨by rw [eB3]; exact hF2 c hc, hle c⟩) hd ⟨_, rfl, d73_101 g3.l ?_⟩
          refine c75 (d := 2) g3 hp hd (by omega) (by omega) (hbst _ d hle) (fun h4 g4 f4 => ⟨_, rfl, d73_111 g4.l ?_⟩)
          have b4 := b3.fr f4 (by simp) (by simp)
          have eB4 : aI h4 B = aI h3 B := f4.rI (by simp; omega)
          have eC4 : aI h4 C = aI h2 C := by rw [f4.rI (by simp; omega), f3.rI (by simp; omega)]
          have q1 := Nat.le_trans (o_ch_le (a := a) (p := p) (c := d) (d := 0) (m := k) (o_lik a p (k - 1) d)) (hle d)
          have q2 := Nat.le_trans (o_ch_le (a := a) (p := p) (c := d) (d := 2) (m := k) (o_bst a (o_lik a p (k - 1)) d)) (hbst _ d hle)
          refine ⟨C, b4.f9 g4.l, c336z (by omega) (by omega) ⟨_, rfl, d73_126 g4.l ⟨48, aI h4 C, (b4.aB g4.l).2, ?_⟩⟩⟩
          have e0 : max (o_ch a p d 0 k (o_lik a p (k - 1) d)) (o_ch a p d 2 k (o_bst a (o_lik a p (k - 1)) d)) = o_lik a p k d := by
            obtain ⟨j, rfl⟩ : ∃ j, k = j + 1 := ⟨k - 1, by omega⟩
            rfl
          rw [e0]
          try simp (disch := omega) only [n_lit, n_m, n_add, n_mul, n_div, n_mod, n_cl, n_lt, n_le, n_eq, n_in, n_eqm, n_meq, n_mlt, n_ltm, n_mle, n_lem, not_true_eq_false, not_false_eq_true, true_implies, false_implies, true_and, and_true, Nat.not_lt_zero, Nat.zero_le]
          have Fi : i_Fr [C] [] h4 (i_siI h4 C d (o_zI (o_lik a p k d))) := i_Fr.refl.siI List.mem_cons_self
          have Fi2 : i_Fr [115, 116] lkF h4 (i_siI h4 C d (o_zI (o_lik a p k d))) := Fi.mono (fun p hp => by simp only [List.mem_cons, List.not_mem_nil, or_false] at hp ⊢; omega) (fun _ e => absurd e (by simp))
          have g5 := g4.lk g4.l.siI Fi2
          refine ⟨by omega, d73_127 g5.l ?_⟩
          try simp (disch := omega) only [n_lit, n_m, n_add, n_mul, n_div, n_mod, n_cl, n_lt, n_le, n_eq, n_in, n_eqm, n_meq, n_mlt, n_ltm, n_mle, n_lem, not_true_eq_false, not_false_eq_true, true_implies, false_implies, true_and, and_true, Nat.not_lt_zero, Nat.zero_le]
          refine ih2 _ (b4.fr Fi (by simp) (by simp)) (fun c hc => ?_) (fun c hc => ?_) g5 (f2.trans ((f3.mono (B := lkA) (G := lkF) (by decide) (fun _ e => absurd e (by simp))).trans ((f4.mono (B := lkA) (G := lkF) (by decide) (fun _ e => absurd e (by simp))).trans (Fi2.mono (by decide) (fun _ z => z))))) _ _
          · rw [Fi.rI (by simp; omega), eB4, eB3]; exact hF2 c hc
          · rw [x_aI_siI (b4.aB g4.l).2, x_upd]
            by_cases e : c = d
            · rw [if_pos e, e]
            · rw [if_neg e, eC4]; exact hG2 c (by omega)
      refine d73_50 g1.l ?_
      try simp (disch := omega) only [n_lit, n_m, n_add, n_mul, n_div, n_mod, n_cl, n_lt, n_le, n_eq, n_in, n_eqm, n_meq, n_mlt, n_ltm, n_mle, n_lem, not_true_eq_false, not_false_eq_true, true_implies, false_implies, true_and, and_true, Nat.not_lt_zero, Nat.zero_le]
      exact ⟨fun e => by omega, fun _ => row 0 (Nat.zero_le _) h1 b1 hF (fun c hc => absurd hc (Nat.not_lt_zero c)) g1 f1 _ _⟩
  refine e73 (d73_0 g.l ⟨B0, b0.f8 g.l, c349 g.l (b0.aB g.l).1 (by omega) (fun h1 hL1 f1 e1 => ⟨rfl, ?_⟩)⟩)
  have f1b : i_Fr [115, 116] lkF h h1 := f1.mono (fun p hp => by simp only [List.mem_cons, List.not_mem_nil, or_false] at hp ⊢; omega) (fun _ e => absurd e (by simp))
  have g1 := g.lk hL1 f1b
  have b1 := b0.fr f1 (by simp) (by simp)
  refine d73_8 g1.l ⟨B0, b1.f8 g1.l, t, g1.tw, g1.T, ?_⟩
  try simp (disch := omega) only [n_lit, n_m, n_add, n_mul, n_div, n_mod, n_cl, n_lt, n_le, n_eq, n_in, n_eqm, n_meq, n_mlt, n_ltm, n_mle, n_lem, not_true_eq_false, not_false_eq_true, true_implies, false_implies, true_and, and_true, Nat.not_lt_zero, Nat.zero_le, (g1.st hp).1]
  refine ⟨by omega, 48, aI h1 B0, (b1.aB g1.l).1, by omega, ?_⟩
  have Fi : i_Fr [B0] [] h1 (i_siI h1 B0 (a (154 + 5 * p)) (i_n 1000000)) := i_Fr.refl.siI List.mem_cons_self
  have Fi2 : i_Fr [115, 116] lkF h1 (i_siI h1 B0 (a (154 + 5 * p)) (i_n 1000000)) := Fi.mono (fun p hp => by simp only [List.mem_cons, List.not_mem_nil, or_false] at hp ⊢; omega) (fun _ e => absurd e (by simp))
  have g2 := g1.lk g1.l.siI Fi2
  have b2 := b1.fr Fi (by simp) (by simp)
  refine d73_30 g2.l ⟨t, g2.tw, g2.T, ?_⟩
  rw [n_cl (by omega), g2.wa hp]
  refine ⟨(n_in (by omega)).mpr (by omega), ?_⟩
  refine key 1 (by omega) (Nat.le_refl 1) B0 C0 _ b2 (fun c hc => ?_) g2 ((f1b.trans Fi2).mono (by decide) (fun _ z => z)) _ _ _
  rw [x_aI_siI (b1.aB g1.l).1, x_upd, o_lik]
  by_cases e : c = a (154 + 5 * p)
  · rw [if_pos e, if_pos e]; rfl
  · rw [if_neg e, if_neg e, e1 c (by omega)]; rfl
theorem i_KW.a6 {P : Prop} [Decidable P] {v : Option Nat} (H : i_KW a t h Q (o_A6 P v)) (hP : P) : ∀ h2, i_ST a t h2 → i_FW h h2 → i_SW h2 → fI h2 0 0 = o_s6 v → Q (some (.int (o_op v))) h2 := by
  intro h2 g2 f2 w2 s2
  cases v with
  | none => rw [o_A6_n hP rfl] at H; exact H h2 g2 f2 w2 s2
  | some k => rw [o_A6_t hP rfl] at H; exact H h2 g2 f2 w2 s2
theorem i_SW.f0 {h2 : iH} (s : i_SW h) (f : i_F0 h h2) : i_SW h2 := s.fr f (by decide)
theorem o_dec_lt {v k : Nat} (e : o_dec v = some k) : v = k + 1 := by
  unfold o_dec at e
  split at e
  · cases e
  · cases e; omega
theorem c157 (g : i_ST a t h) (sw : i_SW h) {x y z : Int32} (H : i_KW a t h Q (o_likA a x y z)) : i_C i_MT i_AT L xs 157 [.ref 0, .int x, .int y, .int z] h Q := by
  have h5 := g.w.2.2.2.2.1
  have h48 := g.w.c48
  unfold o_likA at H
  have bad : ¬ (v_p a x ∧ v_f a y ∧ v_mi z) → i_P i_MT i_AT L xs 157 23 [some (.ref 0), some (.int x), some (.int y), some (.int z)] [] h 0 0 Q := by
    intro z
    rw [o_A6_f z] at H
    exact d157_23 g.l (m179 g (fun h2 g2 f2 s2 => ⟨_, rfl, d157_28 g2.l (H h2 g2 f2.s.w (sw.f0 f2) s2)⟩))
  refine e157 (d157_0 g.l (c186 g ⟨_, rfl, d157_5 g.l ?_⟩))
  rw [i_bo_0, Classical.not_not]
  refine ⟨fun z => bad (fun q => z q.1), fun z => c189 g ⟨_, rfl, d157_13 g.l ?_⟩⟩
  rw [i_bo_0, Classical.not_not]
  refine ⟨fun z2 => bad (fun q => z2 q.2.1), fun z2 => c191 ⟨_, rfl, d157_20 g.l ?_⟩⟩
  rw [i_bo_0, Classical.not_not]
  refine ⟨fun z3 => ?_, fun z3 => bad (fun q => z3 q.2.2)⟩
  have H := H.a6 ⟨z, z2, z3⟩
  obtain ⟨p, hp, rfl⟩ := n_get z (by omega)
  obtain ⟨c, hc, rfl, hcw⟩ := v_f_get g.w z2
  obtain ⟨m, hm1, hm, rfl⟩ := n_g1 (j := 1) (k := 60) z3 (by omega) (by omega)
  rw [n_cl (by omega), n_cl (by omega), n_cl (by omega)] at H
  refine c73 g.1 sw.1 hp hc hm (fun h1 g1 f1 s1 => ?_)
  have fw : i_FW h h1 := f1.mono (by decide) (by decide)
  have G1 := g.fw g1 fw
  have sw1 : i_SW h1 := by
    obtain ⟨-, q2, q3, q4⟩ := sw
    refine ⟨s1, ?_, ?_, ?_⟩ <;> unfold i_sw2
    · rw [f1.vR (by decide), f1.vR (by decide)]; exact q2
    · rw [f1.vR (by decide), f1.vR (by decide)]; exact q3
    · rw [f1.vR (by decide), f1.vR (by decide)]; exact q4
  refine ⟨_, rfl, d157_40 G1.l ?_⟩
  rw [o_zI_dec]
  have hl := o_lik_le (a := a) (p := p) m c
  exact m183 G1 (fun k e => by have := o_dec_lt e; omega) (fun h2 g2 f2 s2 => ⟨_, rfl, d157_43 g2.l (H h2 g2 (fw.trans f2.s.w) (sw1.f0 f2) s2)⟩)
theorem c289 (r : i_RA a h) {p c d m v : Nat} (hp : p < a 5) (hc : c < a 0 * a 1) (hd : d ≤ 4) (hm : m ≤ 60) (hv : v ≤ 1000000) (H : Q (some (.int (i_n (o_chn a p c d m v (a 5))))) h) : i_C i_MT i_AT L xs 289 [.ref 138, .int (i_n v), .int (i_n p), .int (i_n c), .int (i_n d), .int (i_n m)] h Q := by
  have h5 := r.2.1.2.2.2.2.1
  have h48 := r.2.1.c48
  have key : ∀ k, k ≤ a 5 → i_P i_MT i_AT L xs 289 6 [some (.ref 138), some (.int (i_n v)), some (.int (i_n p)), some (.int (i_n c)), some (.int (i_n d)), some (.int (i_n m)), some (.int (i_n (o_chn a p c d m v k))), some (.int (i_n k))] [] h 0 0 Q := by
    refine l_up ?_ ?_
    · refine d289_6 r.1 ?_
      rw [r.n5]
      try simp (disch := omega) only [n_lit, n_m, n_add, n_mul, n_div, n_mod, n_cl, n_lt, n_le, n_eq, n_in, n_eqm, n_meq, n_mlt, n_ltm, n_mle, n_lem, not_true_eq_false, not_false_eq_true, true_implies, false_implies, true_and, and_true, Nat.not_lt_zero, Nat.zero_le, Nat.le_refl]
      exact H
    · intro k hk ih
      have hl := o_chn_le (a := a) (p := p) (c := c) (d := d) (m := m) (v := v) k
      have hwl := o_wgh_le r.2.1 (p := k) (c := c) (m := m) hd (by omega)
      have hml : o_chn a p c d m v k * (16 - o_wgh a k c d m) ≤ 1000000 * 16 := Nat.mul_le_mul (by omega) (by omega)
      rw [o_chn] at ih
      refine d289_6 r.1 ?_
      rw [r.n5]
      try simp (disch := omega) only [n_lit, n_m, n_add, n_mul, n_div, n_mod, n_cl, n_lt, n_le, n_eq, n_in, n_eqm, n_meq, n_mlt, n_ltm, n_mle, n_lem, not_true_eq_false, not_false_eq_true, true_implies, false_implies, true_and, and_true, Nat.not_lt_zero, Nat.zero_le]
      refine ⟨fun e => by omega, fun _ => c282 r (by omega) hp ⟨_, rfl, d289_24 r.1 ?_⟩⟩
      try simp (disch := omega) only [n_lit, n_m, i_bo01, j_cmpn, Classical.not_not, n_add, n_mul, n_div, n_mod, n_cl, n_lt, n_le, n_eq, n_in, n_eqm, n_meq, n_mlt, n_ltm, n_mle, n_lem, not_true_eq_false, not_false_eq_true, true_implies, false_implies, true_and, and_true, Nat.not_lt_zero, Nat.zero_le]
      refine ⟨fun e => d289_49 r.1 ?_, fun e => c275 r hk hc hd hm ⟨_, rfl, d289_42 r.1 (d289_49 r.1 ?_)⟩⟩
      · try simp (disch := omega) only [n_lit, n_m, n_add, n_mul, n_div, n_mod, n_cl, n_lt, n_le, n_eq, n_in, n_eqm, n_meq, n_mlt, n_ltm, n_mle, n_lem, not_true_eq_false, not_false_eq_true, true_implies, false_implies, true_and, and_true, Nat.not_lt_zero, Nat.zero_le]
        rw [if_neg e] at ih; exact ih
      · try simp (disch := omega) only [n_lit, n_m, n_add, n_mul, n_div, n_mod, n_cl, n_lt, n_le, n_eq, n_in, n_eqm, n_meq, n_mlt, n_ltm, n_mle, n_lem, not_true_eq_false, not_false_eq_true, true_implies, false_implies, true_and, and_true, Nat.not_lt_zero, Nat.zero_le, n_sub]
        rw [if_pos e] at ih; exact ih
  refine e289 (d289_0 r.1 ?_)
  try simp (disch := omega) only [n_lit, n_m, n_add, n_mul, n_div, n_mod, n_cl, n_lt, n_le, n_eq, n_in, n_eqm, n_meq, n_mlt, n_ltm, n_mle, n_lem, not_true_eq_false, not_false_eq_true, true_implies, false_implies, true_and, and_true, Nat.not_lt_zero, Nat.zero_le]
  exact key 0 (Nat.zero_le _)
/-- behind a minute, as the reference has it -/
theorem o_lik_r (w : o_WF a) {p m c : Nat} (hc : c < a 0 * a 1) : o_lik a p (m + 1) c = (if o_sup (fun b => if o_far (a 0) b c = 1 then o_lik a p m b else 0) (a 0 * a 1) ≠ 0 ∧ o_wall a c = false then max (o_ch a p c 0 (m + 1) (o_lik a p m c)) (max (o_ch a p c 2 (m + 1) (o_sup (fun b => if o_far (a 0) b c = 1 then o_lik a p m b else 0) (a 0 * a 1))) (o_ch a p c 1 (m + 1) (o_sup (fun b => if o_far (a 0) b c = 1 then o_lik a p m b else 0) (a 0 * a 1)))) else o_ch a p c 0 (m + 1) (o_lik a p m c)) := by
  rw [o_lik]
  unfold o_bst
  rw [o_bst_nb w hc]
  generalize o_sup (fun b => if o_far (a 0) b c = 1 then o_lik a p m b else 0) (a 0 * a 1) = S
  cases hw : o_wall a c with
  | true =>
    rw [if_pos rfl, if_neg (fun q => by cases q.2)]
    exact Nat.max_zero _
  | false =>
    rw [if_neg (fun q => by cases q)]
    cases S with
    | zero => rw [if_neg (fun q => q.1 rfl)]; exact Nat.max_zero _
    | succ v =>
      rw [if_pos ⟨Nat.succ_ne_zero v, rfl⟩]
      have := o_chn_mono w (p := p) (c := c) (m := m + 1) (v := v) (a 5)
      unfold o_ch
      rw [Nat.max_eq_left (a := o_chn a p c 2 (m + 1) v (a 5) + 1) (b := o_chn a p c 1 (m + 1) v (a 5) + 1) (by omega)]
set_option maxHeartbeats 2000000 in
theorem c290 (r : i_RA a h) {x y z : Int32} (H : i_RS a h Q (o_likA a x y z)) : i_C i_MT i_AT L xs 290 [.ref 138, .int x, .int y, .int z] h Q := by
  have h5 := r.2.1.2.2.2.2.1
  have h48 := r.2.1.c48
  unfold o_likA at H
  have bad : ¬ (v_p a x ∧ v_f a y ∧ v_mi z) → ∀ (y4 y5 y6 y7 y8 y9 : Option Value), i_P i_MT i_AT L xs 290 37 [some (.ref 138), some (.int x), some (.int y), some (.int z), y4, y5, y6, y7, y8, y9] [] h 0 0 Q := by
    intro z y4 y5 y6 y7 y8 y9
    rw [o_A6_f z] at H
    exact d290_37 r.1 (m201 r (fun h2 g2 f2 s2 => ⟨_, rfl, d290_42 g2.1 (H h2 g2 f2.s s2)⟩))
  refine e290 (d290_0 r.1 (c254 r ⟨_, rfl, d290_5 r.1 ?_⟩))
  rw [i_bo_0, Classical.not_not]
  refine ⟨fun z => bad (fun q => z q.1) _ _ _ _ _ _, fun z1 => c249 r ⟨_, rfl, d290_14 r.1 ?_⟩⟩
  rw [i_bo_0, Classical.not_not]
  refine ⟨fun z2 => bad (fun q => z2 q.2.1.1) _ _ _ _ _ _, fun z2 => ?_⟩
  obtain ⟨c, hc, hc48, rfl, hop⟩ := r_open (n := 0) (pc1 := 0) (pc2 := 0) r z2
  refine c250 r hc48 ⟨_, rfl, d290_22 r.1 ?_⟩
  rw [i_bo_0, Classical.not_not]
  rw [← hop]
  refine ⟨fun z3 => bad (fun q => z3 q.2.1) _ _ _ _ _ _, fun z3 => c212i (y := 1) (z := 60) r.1 rfl rfl ⟨_, rfl, d290_34 r.1 ?_⟩⟩
  rw [i_bo_0, Classical.not_not]
  refine ⟨fun z4 => c248 r ⟨_, rfl, d290_47 r.1 ?_⟩, fun z4 => bad (fun q => z4 q.2.2) _ _ _ _ _ _⟩
  have H := H.a6 ⟨z1, z3, z4⟩
  obtain ⟨p, hp, rfl⟩ := n_get z1 (by omega)
  obtain ⟨m, hm1, hm, rfl⟩ := n_g1 (j := 1) (k := 60) z4 (by omega) (by omega)
  rw [n_cl (by omega), n_cl (by omega), n_cl (by omega)] at H
  have hst := r.st hp
  have rfr : ∀ h2, i_Lay h2 → i_Fr [158, 159] [] h h2 → i_RA a h2 := fun h2 hL2 f => r.fr hL2 f (by decide)
  have sA : ∀ h1, i_RA a h1 → aI h1 139 (154 + 5 * p) = i_n (a (154 + 5 * p)) := fun h1 r1 => r1.2.2.1 _ (by omega)
  have key : ∀ k, k ≤ m + 1 → 1 ≤ k → ∀ h1, (∀ c, c < a 0 * a 1 → aI h1 158 c = o_zI (o_lik a p (k - 1) c)) → i_RA a h1 → i_Fr [158, 159] [] h h1 → ∀ (y6 y7 y8 y9 : Option Value), i_P i_MT i_AT L xs 290 99 [some (.ref 138), some (.int (i_n p)), some (.int (i_n c)), some (.int (i_n m)), some (.int (i_n (a 0 * a 1))), some (.int (i_n k)), y6, y7, y8, y9] [] h1 0 0 Q := by
    refine l_up ?_ ?_
    · intro _ h1 hF r1 f1 y6 y7 y8 y9
      have hv := hF c hc
      rw [show m + 1 - 1 = m by omega] at hv
      have hl := o_lik_le (a := a) (p := p) m c
      refine d290_99 r1.1 ?_
      try simp (disch := omega) only [n_lit, n_m, n_add, n_mul, n_div, n_mod, n_cl, n_lt, n_le, n_eq, n_in, n_eqm, n_meq, n_mlt, n_ltm, n_mle, n_lem, not_true_eq_false, not_false_eq_true, true_implies, false_implies, true_and, and_true, Nat.not_lt_zero, Nat.zero_le, Nat.lt_succ_self]
      rw [hv]
      refine ⟨by omega, ?_⟩
      cases hL : o_lik a p m c with
      | zero =>
        refine ⟨fun e => absurd rfl e, fun _ => m201 r1 (fun h2 g2 f2 s2 => ⟨_, rfl, d290_309 g2.1 (d290_322 g2.1 ?_)⟩)⟩
        exact H.2 (by unfold o_dec; rw [hL]; rfl) h2 g2 ((f1.mono (by decide) (by decide)).trans f2.s) s2
      | succ v =>
        refine ⟨fun _ => ⟨by omega, m202 r1 (fun h2 g2 f2 s2 => ⟨_, rfl, d290_322 g2.1 ?_⟩)⟩, fun e => ?_⟩
        · exact H.1 v (by unfold o_dec; rw [hL]; rfl) h2 g2 ((f1.mono (by decide) (by decide)).trans f2.s) s2
        · have e2 := Classical.not_not.mp e
          rw [show o_zI (v + 1) = i_n v from rfl, n_eqm (by omega)] at e2
          exact e2.elim
    · intro k hk ih hk1 h1 hF r1 f1 y6 y7 y8 y9
      have hle : ∀ c, o_lik a p (k - 1) c ≤ 1000001 := o_lik_le (k - 1)
      have cop : ∀ d, d ≤ a 0 * a 1 → ∀ h2, (∀ c, c < a 0 * a 1 → aI h2 158 c = o_zI (o_lik a p (k - 1) c)) → (∀ c, c < d → aI h2 159 c = o_zI (o_lik a p (k - 1) c)) → i_RA a h2 → i_Fr [158, 159] [] h h2 → ∀ (y7 y8 y9 : Option Value), i_P i_MT i_AT L xs 290 108 [some (.ref 138), some (.int (i_n p)), some (.int (i_n c)), some (.int (i_n m)), some (.int (i_n (a 0 * a 1))), some (.int (i_n k)), some (.int (i_n d)), y7, y8, y9] [] h2 0 0 Q := by
        refine l_up ?_ ?_
        · intro h2 hF2 hG2 r2 f2 y7 y8 y9
          refine d290_108 r2.1 ?_
          try simp (disch := omega) only [n_lit, n_m, n_add, n_mul, n_div, n_mod, n_cl, n_lt, n_le, n_eq, n_in, n_eqm, n_meq, n_mlt, n_ltm, n_mle, n_lem, not_true_eq_false, not_false_eq_true, true_implies, false_implies, true_and, and_true, Nat.not_lt_zero, Nat.zero_le, Nat.le_refl]
          have row : ∀ d, d ≤ a 0 * a 1 → ∀ h3, (∀ c, c < a 0 * a 1 → aI h3 159 c = o_zI (o_lik a p (k - 1) c)) → (∀ c, c < d → aI h3 158 c = o_zI (o_lik a p k c)) → i_RA a h3 → i_Fr [158, 159] [] h h3 → ∀ (y7 y8 y9 : Option Value), i_P i_MT i_AT L xs 290 138 [some (.ref 138), some (.int (i_n p)), some (.int (i_n c)), some (.int (i_n m)), some (.int (i_n (a 0 * a 1))), some (.int (i_n k)), some (.int (i_n d)), y7, y8, y9] [] h3 0 0 Q := by
            refine l_up ?_ ?_
            · intro h3 hF3 hG3 r3 f3 y7 y8 y9
              refine d290_138 r3.1 ?_
              try simp (disch := omega) only [n_lit, n_m, n_add, n_mul, n_div, n_mod, n_cl, n_lt, n_le, n_eq, n_in, n_eqm, n_meq, n_mlt, n_ltm, n_mle, n_lem, not_true_eq_false, not_false_eq_true, true_implies, false_implies, true_and, and_true, Nat.not_lt_zero, Nat.zero_le, Nat.le_refl]
              exact ih (by omega) h3 (by rw [show k + 1 - 1 = k by omega]; exact hG3) r3 f3 _ _ _ _
            · intro d hd ih3 h3 hF3 hG3 r3 f3 y7 y8 y9
              -- the end of a cell
              have fin : ∀ (v : Nat), v = o_lik a p k d → ∀ (y8 y9 : Int32), i_P i_MT i_AT L xs 290 272 [some (.ref 138), some (.int (i_n p)), some (.int (i_n c)), some (.int (i_n m)), some (.int (i_n (a 0 * a 1))), some (.int (i_n k)), some (.int (i_n d)), some (.int (o_zI v)), some (.int y8), some (.int y9)] [] h3 0 0 Q := by
                intro v hv y8 y9
                subst hv
                refine d290_272 r3.1 ?_
                try simp (disch := omega) only [n_lit, n_m, n_add, n_mul, n_div, n_mod, n_cl, n_lt, n_le, n_eq, n_in, n_eqm, n_meq, n_mlt, n_ltm, n_mle, n_lem, not_true_eq_false, not_false_eq_true, true_implies, false_implies, true_and, and_true, Nat.not_lt_zero, Nat.zero_le]
                have Fi : i_Fr [158] [] h3 (i_siI h3 158 d (o_zI (o_lik a p k d))) := i_Fr.refl.siI (by decide)
                have f4 := f3.trans (Fi.mono (B := [158, 159]) (G := []) (by decide) (fun _ z => z))
                have r4 := rfr _ r3.1.siI f4
                refine ⟨by omega, d290_281 r4.1 ?_⟩
                try simp (disch := omega) only [n_lit, n_m, n_add, n_mul, n_div, n_mod, n_cl, n_lt, n_le, n_eq, n_in, n_eqm, n_meq, n_mlt, n_ltm, n_mle, n_lem, not_true_eq_false, not_false_eq_true, true_implies, false_implies, true_and, and_true, Nat.not_lt_zero, Nat.zero_le]
                refine ih3 _ (fun c hc => ?_) (fun c hc => ?_) r4 f4 _ _ _
                · rw [Fi.rI (by decide)]; exact hF3 c hc
                · rw [x_aI_siI r3.1.a158, x_upd]
                  by_cases e : c = d
                  · rw [if_pos e, e]
                  · rw [if_neg e]; exact hG3 c (by omega)
              have e0 : o_lik a p k d = (if o_sup (fun b => if o_far (a 0) b d = 1 then o_lik a p (k - 1) b else 0) (a 0 * a 1) ≠ 0 ∧ o_wall a d = false then max (o_ch a p d 0 k (o_lik a p (k - 1) d)) (max (o_ch a p d 2 k (o_sup (fun b => if o_far (a 0) b d = 1 then o_lik a p (k - 1) b else 0) (a 0 * a 1))) (o_ch a p d 1 k (o_sup (fun b => if o_far (a 0) b d = 1 then o_lik a p (k - 1) b else 0) (a 0 * a 1)))) else o_ch a p d 0 k (o_lik a p (k - 1) d)) := by
                obtain ⟨j, rfl⟩ : ∃ j, k = j + 1 := ⟨k - 1, by omega⟩
                exact o_lik_r r.2.1 hd
              have stay := Nat.le_trans (o_ch_le (a := a) (p := p) (c := d) (d := 0) (m := k) (o_lik a p (k - 1) d)) (hle d)
              generalize hV0 : o_ch a p d 0 k (o_lik a p (k - 1) d) = V0 at e0 stay
              have sup_le : ∀ b, o_sup (fun b => if o_far (a 0) b d = 1 then o_lik a p (k - 1) b else 0) b ≤ 1000001 := by
                intro b
                rw [o_sup_le]
                intro i _
                split
                · exact hle i
                · omega
              have near : ∀ b, b ≤ a 0 * a 1 → i_P i_MT i_AT L xs 290 185 [some (.ref 138), some (.int (i_n p)), some (.int (i_n c)), some (.int (i_n m)), some (.int (i_n (a 0 * a 1))), some (.int (i_n k)), some (.int (i_n d)), some (.int (o_zI V0)), some (.int (o_zI (o_sup (fun b => if o_far (a 0) b d = 1 then o_lik a p (k - 1) b else 0) b))), some (.int (i_n b))] [] h3 0 0 Q := by
                refine l_up ?_ ?_
                · have hSl := sup_le (a 0 * a 1)
                  generalize o_sup (fun b => if o_far (a 0) b d = 1 then o_lik a p (k - 1) b else 0) (a 0 * a 1) = S at e0 hSl ⊢
                  refine d290_185 r3.1 ?_
                  try simp (disch := omega) only [n_lit, n_m, n_add, n_mul, n_div, n_mod, n_cl, n_lt, n_le, n_eq, n_in, n_eqm, n_meq, n_mlt, n_ltm, n_mle, n_lem, not_true_eq_false, not_false_eq_true, true_implies, false_implies, true_and, and_true, Nat.not_lt_zero, Nat.zero_le, Nat.le_refl]
                  cases S with
                  | zero =>
                    rw [if_neg (fun q => q.1 rfl)] at e0
                    exact ⟨fun _ => fin V0 e0.symm _ _, fun e => absurd rfl e⟩
                  | succ v =>
                    refine ⟨fun e => ?_, fun _ => c250 r3 (by omega) ⟨_, rfl, d290_235 r3.1 ?_⟩⟩
                    · rw [show o_zI (v + 1) = i_n v from rfl, n_eqm (by omega)] at e
                      exact e.elim
                    · try simp (disch := omega) only [n_lit, n_m, i_bo01, j_cmpn, Classical.not_not, n_add, n_mul, n_div, n_mod, n_cl, n_lt, n_le, n_eq, n_in, n_eqm, n_meq, n_mlt, n_ltm, n_mle, n_lem, not_true_eq_false, not_false_eq_true, true_implies, false_implies, true_and, and_true, Nat.not_lt_zero, Nat.zero_le]
                      refine ⟨fun e => fin V0 ?_ _ _, fun e => ?_⟩
                      · rw [if_neg (fun q => e q.2)] at e0
                        exact e0.symm
                      · rw [if_pos ⟨Nat.succ_ne_zero v, e⟩] at e0
                        have l2 := o_chn_le (a := a) (p := p) (c := d) (d := 2) (m := k) (v := v) (a 5)
                        have l1 := o_chn_le (a := a) (p := p) (c := d) (d := 1) (m := k) (v := v) (a 5)
                        rw [show o_zI (v + 1) = i_n v from rfl]
                        refine c289 (d := 2) r3 hp hd (by omega) (by omega) (by omega) ⟨_, rfl, d290_252 r3.1 (c289 (d := 1) r3 hp hd (by omega) (by omega) (by omega) ⟨_, rfl, d290_264 r3.1 ?_⟩)⟩
                        refine c336n (by omega) (by omega) ⟨_, rfl, d290_267 r3.1 ?_⟩
                        rw [show i_n (max (o_chn a p d 2 k v (a 5)) (o_chn a p d 1 k v (a 5))) = o_zI (max (o_ch a p d 2 k (v + 1)) (o_ch a p d 1 k (v + 1))) by
                          unfold o_ch
                          rw [show max (o_chn a p d 2 k v (a 5) + 1) (o_chn a p d 1 k v (a 5) + 1) = max (o_chn a p d 2 k v (a 5)) (o_chn a p d 1 k v (a 5)) + 1 by omega]
                          rfl]
                        refine c336z (by omega) ?_ ⟨_, rfl, d290_270 r3.1 (fin _ e0.symm _ _)⟩
                        show max (o_chn a p d 2 k v (a 5) + 1) (o_chn a p d 1 k v (a 5) + 1) < 2147483648
                        omega
                · intro b hb ih4
                  rw [o_sup] at ih4
                  have hS := sup_le b
                  generalize o_sup (fun b => if o_far (a 0) b d = 1 then o_lik a p (k - 1) b else 0) b = S at ih4 hS ⊢
                  refine d290_185 r3.1 ?_
                  try simp (disch := omega) only [n_lit, n_m, n_add, n_mul, n_div, n_mod, n_cl, n_lt, n_le, n_eq, n_in, n_eqm, n_meq, n_mlt, n_ltm, n_mle, n_lem, not_true_eq_false, not_false_eq_true, true_implies, false_implies, true_and, and_true, Nat.not_lt_zero, Nat.zero_le]
                  refine ⟨fun e => by omega, fun _ => c285 r3 hb hd ⟨_, rfl, d290_200 r3.1 ?_⟩⟩
                  have hb1 := hle b
                  try simp (disch := omega) only [n_lit, n_m, i_bo01, j_cmpn, Classical.not_not, n_add, n_mul, n_div, n_mod, n_cl, n_lt, n_le, n_eq, n_in, n_eqm, n_meq, n_mlt, n_ltm, n_mle, n_lem, not_true_eq_false, not_false_eq_true, true_implies, false_implies, true_and, and_true, Nat.not_lt_zero, Nat.zero_le]
                  refine ⟨fun e => d290_217 r3.1 ?_, fun e => ⟨by omega, ?_⟩⟩
                  · try simp (disch := omega) only [n_lit, n_m, n_add, n_mul, n_div, n_mod, n_cl, n_lt, n_le, n_eq, n_in, n_eqm, n_meq, n_mlt, n_ltm, n_mle, n_lem, not_true_eq_false, not_false_eq_true, true_implies, false_implies, true_and, and_true, Nat.not_lt_zero, Nat.zero_le]
                    rw [if_neg e, Nat.max_zero] at ih4
                    exact ih4
                  · rw [hF3 b hb]
                    refine c336z (by omega) (by omega) ⟨_, rfl, d290_215 r3.1 (d290_217 r3.1 ?_)⟩
                    try simp (disch := omega) only [n_lit, n_m, n_add, n_mul, n_div, n_mod, n_cl, n_lt, n_le, n_eq, n_in, n_eqm, n_meq, n_mlt, n_ltm, n_mle, n_lem, not_true_eq_false, not_false_eq_true, true_implies, false_implies, true_and, and_true, Nat.not_lt_zero, Nat.zero_le]
                    rw [if_pos e] at ih4
                    exact ih4
              have go : ∀ (y7 y8 y9 : Option Value), i_P i_MT i_AT L xs 290 177 [some (.ref 138), some (.int (i_n p)), some (.int (i_n c)), some (.int (i_n m)), some (.int (i_n (a 0 * a 1))), some (.int (i_n k)), some (.int (i_n d)), y7, y8, y9] [.int (o_zI V0)] h3 0 0 Q := by
                intro y7 y8 y9
                refine d290_177 r3.1 ?_
                try simp (disch := omega) only [n_lit, n_m, n_add, n_mul, n_div, n_mod, n_cl, n_lt, n_le, n_eq, n_in, n_eqm, n_meq, n_mlt, n_ltm, n_mle, n_lem, not_true_eq_false, not_false_eq_true, true_implies, false_implies, true_and, and_true, Nat.not_lt_zero, Nat.zero_le]
                exact near 0 (Nat.zero_le _)
              refine d290_138 r3.1 ?_
              try simp (disch := omega) only [n_lit, n_m, n_add, n_mul, n_div, n_mod, n_cl, n_lt, n_le, n_eq, n_in, n_eqm, n_meq, n_mlt, n_ltm, n_mle, n_lem, not_true_eq_false, not_false_eq_true, true_implies, false_implies, true_and, and_true, Nat.not_lt_zero, Nat.zero_le]
              rw [hF3 d hd]
              refine ⟨fun e => by omega, fun _ => ⟨by omega, ?_⟩⟩
              cases hL : o_lik a p (k - 1) d with
              | zero =>
                rw [hL] at hV0
                subst hV0
                exact ⟨fun e => absurd rfl e, fun _ => go _ _ _⟩
              | succ v =>
                rw [hL] at hV0
                have hv := hle d
                rw [hL] at hv
                subst hV0
                refine ⟨fun _ => ⟨by omega, c289 r3 hp hd (by omega) (by omega) (by omega) ⟨_, rfl, go _ _ _⟩⟩, fun e => ?_⟩
                have e2 := Classical.not_not.mp e
                rw [show o_zI (v + 1) = i_n v from rfl, n_eqm (by omega)] at e2
                exact e2.elim
          exact row 0 (Nat.zero_le _) h2 hG2 (fun c hc => absurd hc (Nat.not_lt_zero c)) r2 f2 _ _ _
        · intro d hd ih2 h2 hF2 hG2 r2 f2 y7 y8 y9
          refine d290_108 r2.1 ?_
          try simp (disch := omega) only [n_lit, n_m, n_add, n_mul, n_div, n_mod, n_cl, n_lt, n_le, n_eq, n_in, n_eqm, n_meq, n_mlt, n_ltm, n_mle, n_lem, not_true_eq_false, not_false_eq_true, true_implies, false_implies, true_and, and_true, Nat.not_lt_zero, Nat.zero_le, hF2]
          have Fi : i_Fr [159] [] h2 (i_siI h2 159 d (o_zI (o_lik a p (k - 1) d))) := i_Fr.refl.siI (by decide)
          have f3 := f2.trans (Fi.mono (B := [158, 159]) (G := []) (by decide) (fun _ z => z))
          have r3 := rfr _ r2.1.siI f3
          refine ⟨fun e => by omega, fun _ => ⟨by omega, by omega, d290_129 r3.1 ?_⟩⟩
          try simp (disch := omega) only [n_lit, n_m, n_add, n_mul, n_div, n_mod, n_cl, n_lt, n_le, n_eq, n_in, n_eqm, n_meq, n_mlt, n_ltm, n_mle, n_lem, not_true_eq_false, not_false_eq_true, true_implies, false_implies, true_and, and_true, Nat.not_lt_zero, Nat.zero_le]
          refine ih2 _ (fun c hc => ?_) (fun c hc => ?_) r3 f3 _ _ _
          · rw [Fi.rI (by decide)]; exact hF2 c hc
          · rw [x_aI_siI r2.1.a159, x_upd]
            by_cases e : c = d
            · rw [if_pos e, e]
            · rw [if_neg e]; exact hG2 c (by omega)
      refine d290_99 r1.1 ?_
      try simp (disch := omega) only [n_lit, n_m, n_add, n_mul, n_div, n_mod, n_cl, n_lt, n_le, n_eq, n_in, n_eqm, n_meq, n_mlt, n_ltm, n_mle, n_lem, not_true_eq_false, not_false_eq_true, true_implies, false_implies, true_and, and_true, Nat.not_lt_zero, Nat.zero_le]
      exact ⟨fun e => by omega, fun _ => cop 0 (Nat.zero_le _) h1 hF (fun c hc => absurd hc (Nat.not_lt_zero c)) r1 f1 _ _ _⟩
  have init : ∀ d, d ≤ a 0 * a 1 → ∀ h1, (∀ c, c < d → aI h1 158 c = o_zI (o_lik a p 0 c)) → i_RA a h1 → i_Fr [158, 159] [] h h1 → ∀ (y6 y7 y8 y9 : Option Value), i_P i_MT i_AT L xs 290 52 [some (.ref 138), some (.int (i_n p)), some (.int (i_n c)), some (.int (i_n m)), some (.int (i_n (a 0 * a 1))), some (.int (i_n d)), y6, y7, y8, y9] [] h1 0 0 Q := by
    refine l_up ?_ ?_
    · intro h1 hF r1 f1 y6 y7 y8 y9
      refine d290_52 r1.1 ?_
      try simp (disch := omega) only [n_lit, n_m, n_add, n_mul, n_div, n_mod, n_cl, n_lt, n_le, n_eq, n_in, n_eqm, n_meq, n_mlt, n_ltm, n_mle, n_lem, not_true_eq_false, not_false_eq_true, true_implies, false_implies, true_and, and_true, Nat.not_lt_zero, Nat.zero_le, Nat.le_refl]
      exact key 1 (by omega) (Nat.le_refl 1) h1 hF r1 f1 _ _ _ _
    · intro d hd ih h1 hF r1 f1 y6 y7 y8 y9
      have nx : ∀ v : Nat, v = o_lik a p 0 d → ∀ (y6 y7 y8 y9 : Option Value), i_P i_MT i_AT L xs 290 89 [some (.ref 138), some (.int (i_n p)), some (.int (i_n c)), some (.int (i_n m)), some (.int (i_n (a 0 * a 1))), some (.int (i_n d)), y6, y7, y8, y9] [.int (o_zI v), .int (i_n d), .ref 158] h1 0 0 Q := by
        intro v hv y6 y7 y8 y9
        subst hv
        refine d290_89 r1.1 ⟨48, aI h1 158, r1.1.a158, ?_⟩
        try simp (disch := omega) only [n_lit, n_m, n_add, n_mul, n_div, n_mod, n_cl, n_lt, n_le, n_eq, n_in, n_eqm, n_meq, n_mlt, n_ltm, n_mle, n_lem, not_true_eq_false, not_false_eq_true, true_implies, false_implies, true_and, and_true, Nat.not_lt_zero, Nat.zero_le]
        have Fi : i_Fr [158] [] h1 (i_siI h1 158 d (o_zI (o_lik a p 0 d))) := i_Fr.refl.siI (by decide)
        have f2 := f1.trans (Fi.mono (B := [158, 159]) (G := []) (by decide) (fun _ z => z))
        have r2 := rfr _ r1.1.siI f2
        refine ⟨by omega, d290_90 r2.1 ?_⟩
        try simp (disch := omega) only [n_lit, n_m, n_add, n_mul, n_div, n_mod, n_cl, n_lt, n_le, n_eq, n_in, n_eqm, n_meq, n_mlt, n_ltm, n_mle, n_lem, not_true_eq_false, not_false_eq_true, true_implies, false_implies, true_and, and_true, Nat.not_lt_zero, Nat.zero_le]
        refine ih _ (fun c hc => ?_) r2 f2 _ _ _ _
        rw [x_aI_siI r1.1.a158, x_upd]
        by_cases e : c = d
        · rw [if_pos e, e]
        · rw [if_neg e]; exact hF c (by omega)
      refine d290_52 r1.1 ?_
      try simp (disch := omega) only [n_lit, n_m, i_bo01, j_cmpn, Classical.not_not, n_add, n_mul, n_div, n_mod, n_cl, n_lt, n_le, n_eq, n_in, n_eqm, n_meq, n_mlt, n_ltm, n_mle, n_lem, not_true_eq_false, not_false_eq_true, true_implies, false_implies, true_and, and_true, Nat.not_lt_zero, Nat.zero_le, sA h1 r1]
      exact ⟨fun e => by omega, fun _ => ⟨by omega, fun e => nx 0 (by rw [o_lik, if_neg e]) _ _ _ _, fun e => nx 1000001 (by rw [o_lik, if_pos e]) _ _ _ _⟩⟩
  try simp (disch := omega) only [n_lit, n_m, n_add, n_mul, n_div, n_mod, n_cl, n_lt, n_le, n_eq, n_in, n_eqm, n_meq, n_mlt, n_ltm, n_mle, n_lem, not_true_eq_false, not_false_eq_true, true_implies, false_implies, true_and, and_true, Nat.not_lt_zero, Nat.zero_le]
  exact init 0 (Nat.zero_le _) h (fun c hc => absurd hc (Nat.not_lt_zero c)) r i_Fr.refl _ _ _ _
end
