/-! THE COURSE FOLLOWED, the class: the grid -/
section
variable {L : Nat} {xs : Nat → Int32} {h : iH} {Q : Option Value → iH → Prop} {a : Nat → Nat} {t : Nat}
set_option maxRecDepth 20000
/-- what the grid keeps of W and H alone -/
def i_GQ (W H : Nat) (h : iH) : Prop := (fI h 96 0 = i_n W ∧ fI h 96 1 = i_n H ∧ fI h 96 2 = i_n (W * H)) ∧
  (o_is (fJ h 96 3) (W * H) (fun _ => true) ∧ o_is (fJ h 96 5) (W * H) (fun c => c % W == 0) ∧ o_is (fJ h 96 6) (W * H) (fun c => c % W + 1 == W)) ∧
  (∀ c, c < W * H → aI h 97 c = i_n (c % W) ∧ aI h 98 c = i_n (c / W)) ∧
  (∀ b c, b < W * H → c < W * H → aJ h 99 (b * 48 + c) = -1 ∨ o_is (aJ h 99 (b * 48 + c)) (W * H) (o_onl W b c)) ∧
  (∀ b w, b < W * H → w < 8 → aJ h 100 (b * 8 + w) = -1 ∨ o_is (aJ h 100 (b * 8 + w)) (W * H) (o_cone W b w))
theorem i_GR.q (g : i_GR a h) : i_GQ (a 0) (a 1) h := ⟨g.1, ⟨g.2.1.1, g.2.1.2.2.1, g.2.1.2.2.2⟩, g.2.2.1, g.2.2.2.1, g.2.2.2.2⟩
theorem i_GQ.r (g : i_GQ (a 0) (a 1) h) (e : o_is (fJ h 96 4) (a 0 * a 1) (fun c => !o_wall a c)) : i_GR a h := ⟨g.1, ⟨g.2.1.1, e, g.2.1.2.1, g.2.1.2.2⟩, g.2.2.1, g.2.2.2.1, g.2.2.2.2⟩
/-- the grid's sets and coordinates, as far as k cells -/
def o_gk (h : iH) (W k : Nat) : Prop := o_is (fJ h 96 3) k (fun _ => true) ∧ o_is (fJ h 96 5) k (fun c => c % W == 0) ∧ o_is (fJ h 96 6) k (fun c => c % W + 1 == W) ∧ ∀ c, c < k → aI h 97 c = i_n (c % W) ∧ aI h 98 c = i_n (c / W)
abbrev gkF : List (Nat × Nat) := [(96, 3), (96, 5), (96, 6)]
set_option maxHeartbeats 1000000 in
theorem c22 (hL : i_Lay h) {W H : Nat} (hW : W ≤ 8) (hH : H ≤ 6) (e0 : fI h 96 0 = i_n W) (e1 : fI h 96 1 = i_n H) (K : ∀ h2, i_Lay h2 → i_Fr [97, 98] gkF h h2 → o_gk h2 W (W * H) → Q none h2) : i_C i_MT i_AT L xs 22 [.ref 96] h Q := by
  have rows : ∀ y, y ≤ H → ∀ h1, i_Lay h1 → i_Fr [97, 98] gkF h h1 → o_gk h1 W (W * y) → ∀ (y2 y3 : Option Value), i_P i_MT i_AT L xs 22 17 [some (.ref 96), some (.int (i_n y)), y2, y3] [] h1 0 0 Q := by
    refine l_up ?_ ?_
    · intro h1 L1 f1 z1 y2 y3
      refine d22_17 L1 ?_
      rw [f1.vI (by decide), e1]
      try simp (disch := omega) only [n_lit, n_m, n_add, n_mul, n_div, n_mod, n_cl, n_lt, n_le, n_eq, n_in, n_eqm, n_meq, n_mlt, n_ltm, n_mle, n_lem, not_true_eq_false, not_false_eq_true, true_implies, false_implies, true_and, and_true, Nat.not_lt_zero, Nat.zero_le, Nat.le_refl]
      exact K h1 L1 f1 z1
    · intro y hy ih h1 L1 f1 z1 y2 y3
      have hWy : W * y ≤ 40 := by
        have := Nat.mul_le_mul hW (show y ≤ 5 by omega)
        omega
      have row : ∀ x, x ≤ W → ∀ h2, i_Lay h2 → i_Fr [97, 98] gkF h h2 → o_gk h2 W (W * y + x) → ∀ (y3 : Option Value), i_P i_MT i_AT L xs 22 27 [some (.ref 96), some (.int (i_n y)), some (.int (i_n x)), y3] [] h2 0 0 Q := by
        refine l_up ?_ ?_
        · intro h2 L2 f2 z2 y3
          refine d22_27 L2 ?_
          rw [f2.vI (by decide), e0]
          try simp (disch := omega) only [n_lit, n_m, n_add, n_mul, n_div, n_mod, n_cl, n_lt, n_le, n_eq, n_in, n_eqm, n_meq, n_mlt, n_ltm, n_mle, n_lem, not_true_eq_false, not_false_eq_true, true_implies, false_implies, true_and, and_true, Nat.not_lt_zero, Nat.zero_le, Nat.le_refl]
          exact ih h2 L2 f2 (by rw [Nat.mul_succ]; exact z2) _ _
        · intro x hx ih2 h2 L2 f2 z2 y3
          obtain ⟨m1, m2⟩ := z_rq (W := W) (q := y) (r := x) hx
          refine d22_27 L2 ?_
          rw [f2.vI (by decide), e0]
          have ec : y * W + x = W * y + x := by rw [Nat.mul_comm]
          try simp (disch := omega) only [n_lit, n_m, n_add, n_mul, n_div, n_mod, n_cl, n_lt, n_le, n_eq, n_in, n_eqm, n_meq, n_mlt, n_ltm, n_mle, n_lem, not_true_eq_false, not_false_eq_true, true_implies, false_implies, true_and, and_true, Nat.not_lt_zero, Nat.zero_le, ec]
          refine ⟨fun q => by omega, fun _ => ⟨by omega, ?_⟩⟩
          generalize hk : W * y + x = k at z2 ih2 m1 m2 ⊢
          have hk48 : k < 48 := by omega
          have Fi : i_Fr [97] [] h2 (i_siI h2 97 k (i_n x)) := i_Fr.refl.siI (by decide)
          have L3 := L2.siI (q := 97) (i := k) (x := i_n x)
          have a97 : ∀ c, aI (i_siI h2 97 k (i_n x)) 97 c = if c = k then i_n x else aI h2 97 c := fun c => by rw [x_aI_siI L2.a97, x_upd]
          generalize i_siI h2 97 k (i_n x) = h3 at Fi L3 a97 ⊢
          refine d22_51 L3 ?_
          try simp (disch := omega) only [n_lit, n_m, n_add, n_mul, n_div, n_mod, n_cl, n_lt, n_le, n_eq, n_in, n_eqm, n_meq, n_mlt, n_ltm, n_mle, n_lem, not_true_eq_false, not_false_eq_true, true_implies, false_implies, true_and, and_true, Nat.not_lt_zero, Nat.zero_le]
          refine ⟨by omega, ?_⟩
          have Fj : i_Fr [98] [] h3 (i_siI h3 98 k (i_n y)) := i_Fr.refl.siI (by decide)
          have L4 := L3.siI (q := 98) (i := k) (x := i_n y)
          have a98 : ∀ c, aI (i_siI h3 98 k (i_n y)) 98 c = if c = k then i_n y else aI h3 98 c := fun c => by rw [x_aI_siI L3.a98, x_upd]
          generalize i_siI h3 98 k (i_n y) = h4 at Fj L4 a98 ⊢
          have F4 : i_Fr [97, 98] [] h2 h4 := (Fi.mono (by decide) (fun _ z => z)).trans (Fj.mono (by decide) (fun _ z => z))
          have A97 : ∀ c, aI h4 97 c = if c = k then i_n x else aI h2 97 c := fun c => by rw [Fj.rI (by decide)]; exact a97 c
          have A98 : ∀ c, aI h4 98 c = if c = k then i_n y else aI h2 98 c := fun c => by rw [a98 c, Fi.rI (by decide)]
          refine d22_58 L4 ?_
          rw [F4.vJ (by simp)]
          have s3 := z2.1.t (k := k) (by omega) rfl
          have s5 : ∀ b : Bool, b = (k % W == 0) → o_is (fJ h2 96 5 ||| (if b = true then (1 : Int64) <<< ((i_n k).toInt64 &&& (63 : Int64)) else 0)) (k + 1) (fun c => c % W == 0) := by
            intro b hb
            cases b with
            | true => rw [if_pos rfl]; exact z2.2.1.t (by omega) hb.symm
            | false => rw [if_neg (by decide), j_or0]; exact z2.2.1.f hb.symm
          have s6 : ∀ b : Bool, b = (k % W + 1 == W) → o_is (fJ h2 96 6 ||| (if b = true then (1 : Int64) <<< ((i_n k).toInt64 &&& (63 : Int64)) else 0)) (k + 1) (fun c => c % W + 1 == W) := by
            intro b hb
            cases b with
            | true => rw [if_pos rfl]; exact z2.2.2.1.t (by omega) hb.symm
            | false => rw [if_neg (by decide), j_or0]; exact z2.2.2.1.f hb.symm
          have J5 : fJ h4 96 5 = fJ h2 96 5 := F4.vJ (by simp)
          have J6 : fJ h4 96 6 = fJ h2 96 6 := F4.vJ (by simp)
          rw [← J5] at s5
          rw [← J6] at s6
          generalize (fJ h2 96 3 ||| ((1 : Int64) <<< ((i_n k).toInt64 &&& (63 : Int64)))) = v at s3 ⊢
          have Fs : i_Fr [] [(96, 3)] h4 (i_sf h4 96 3 (.long v)) := i_Fr.refl.sf (by decide)
          have L5 : i_Lay (i_sf h4 96 3 (.long v)) := L4.sf L4.q96_3 rfl
          have S3 : fJ (i_sf h4 96 3 (.long v)) 96 3 = v := x_fJ_sf L4.q96_3
          generalize i_sf h4 96 3 (.long v) = h5 at Fs L5 S3 ⊢
          have J55 : fJ h5 96 5 = fJ h4 96 5 := Fs.vJ (by decide)
          have J65 : fJ h5 96 6 = fJ h4 96 6 := Fs.vJ (by decide)
          -- the last
          have fin : ∀ h6, i_Lay h6 → i_Fr [] [(96, 5)] h5 h6 → o_is (fJ h6 96 5) (k + 1) (fun c => c % W == 0) → ∀ b : Bool, b = (k % W + 1 == W) →  i_P i_MT i_AT L xs 22 112 [some (.ref 96), some (.int (i_n y)), some (.int (i_n x)), some (.int (i_n k))] [.long (if b = true then (1 : Int64) <<< ((i_n k).toInt64 &&& (63 : Int64)) else 0), .long (fJ h6 96 6), .ref 96] h6 0 0 Q := by
            intro h6 L6 F6 t5 b hb 
            refine d22_112 L6 ?_
            have t6 := s6 b hb
            rw [← J65, ← F6.vJ (show ((96, 6) : Nat × Nat) ∉ [(96, 5)] by decide)] at t6
            generalize (fJ h6 96 6 ||| (if b = true then (1 : Int64) <<< ((i_n k).toInt64 &&& (63 : Int64)) else 0)) = w at t6 ⊢
            have Fw : i_Fr [] [(96, 6)] h6 (i_sf h6 96 6 (.long w)) := i_Fr.refl.sf (by decide)
            have L7 : i_Lay (i_sf h6 96 6 (.long w)) := L6.sf L6.q96_6 rfl
            have S6 : fJ (i_sf h6 96 6 (.long w)) 96 6 = w := x_fJ_sf L6.q96_6
            generalize i_sf h6 96 6 (.long w) = h7 at Fw L7 S6 ⊢
            refine d22_116 L7 ?_
            try simp (disch := omega) only [n_lit, n_m, n_add, n_mul, n_div, n_mod, n_cl, n_lt, n_le, n_eq, n_in, n_eqm, n_meq, n_mlt, n_ltm, n_mle, n_lem, not_true_eq_false, not_false_eq_true, true_implies, false_implies, true_and, and_true, Nat.not_lt_zero, Nat.zero_le]
            have Ft : i_Fr [97, 98] gkF h2 h7 := (F4.mono (fun _ z => z) (fun _ z => absurd z (by simp))).trans ((Fs.mono (fun _ z => absurd z (by simp)) (by decide)).trans ((F6.mono (fun _ z => absurd z (by simp)) (by decide)).trans (Fw.mono (fun _ z => absurd z (by simp)) (by decide))))
            have gk : o_gk h7 W (k + 1) := by
              refine ⟨?_, ?_, ?_, fun c hc => ?_⟩
              · rw [Fw.vJ (by decide), F6.vJ (by decide), S3]; exact s3
              · rw [Fw.vJ (by decide)]; exact t5
              · rw [S6]; exact t6
              · rw [Fw.rI (by decide), F6.rI (by decide), Fs.rI (by decide), Fw.rI (by decide), F6.rI (by decide), Fs.rI (by decide), A97, A98]
                by_cases q : c = k
                · rw [if_pos q, if_pos q, q, m1, m2]; exact ⟨rfl, rfl⟩
                · rw [if_neg q, if_neg q]; exact z2.2.2.2 c (by omega)
            exact ih2 h7 L7 (f2.trans Ft) (by rw [show W * y + (x + 1) = k + 1 by omega]; exact gk) _
          have mid : ∀ b : Bool, b = (k % W == 0) →  i_P i_MT i_AT L xs 22 86 [some (.ref 96), some (.int (i_n y)), some (.int (i_n x)), some (.int (i_n k))] [.long (if b = true then (1 : Int64) <<< ((i_n k).toInt64 &&& (63 : Int64)) else 0), .long (fJ h5 96 5), .ref 96] h5 0 0 Q := by
            intro b hb 
            refine d22_86 L5 ?_
            have t5 := s5 b hb
            rw [← J55] at t5
            generalize (fJ h5 96 5 ||| (if b = true then (1 : Int64) <<< ((i_n k).toInt64 &&& (63 : Int64)) else 0)) = w at t5 ⊢
            have Fw : i_Fr [] [(96, 5)] h5 (i_sf h5 96 5 (.long w)) := i_Fr.refl.sf (by decide)
            have L6 : i_Lay (i_sf h5 96 5 (.long w)) := L5.sf L5.q96_5 rfl
            have S5 : fJ (i_sf h5 96 5 (.long w)) 96 5 = w := x_fJ_sf L5.q96_5
            generalize i_sf h5 96 5 (.long w) = h6 at Fw L6 S5 ⊢
            rw [← S5] at t5
            refine d22_90 L6 ?_
            have W0 : fI h6 96 0 = i_n W := by rw [Fw.vI (by decide), Fs.vI (by decide), F4.vI (by simp), f2.vI (by decide), e0]
            rw [W0, show (1 : Int32) = i_n 1 from rfl, n_sub (by omega), n_eq (by omega) (by omega)]
            refine ⟨fun q => ?_, fun q => ?_⟩
            · have := fin h6 L6 Fw t5 false (by rw [m1]; symm; simp; omega) 
              exact this
            · have := fin h6 L6 Fw t5 true (by rw [m1]; symm; simp; omega) 
              exact this
          refine d22_70 L5 ?_
          rw [show (0 : Int32) = i_n 0 from rfl, n_eq (by omega) (by omega)]
          refine ⟨fun q => ?_, fun q => ?_⟩
          · have := mid false (by rw [m1]; symm; simp; omega) 
            exact this
          · have := mid true (by rw [m1]; symm; simp; omega) 
            exact this
      refine d22_17 L1 ?_
      rw [f1.vI (by decide), e1]
      try simp (disch := omega) only [n_lit, n_m, n_add, n_mul, n_div, n_mod, n_cl, n_lt, n_le, n_eq, n_in, n_eqm, n_meq, n_mlt, n_ltm, n_mle, n_lem, not_true_eq_false, not_false_eq_true, true_implies, false_implies, true_and, and_true, Nat.not_lt_zero, Nat.zero_le]
      exact ⟨fun q => by omega, fun _ => row 0 (Nat.zero_le _) h1 L1 f1 z1 _⟩
  refine e22 (d22_0 hL ?_)
  have F0 : i_Fr [97, 98] gkF h (i_sf h 96 3 (.long 0)) := i_Fr.refl.sf (by decide)
  have L0 : i_Lay (i_sf h 96 3 (.long 0)) := hL.sf hL.q96_3 rfl
  have S0 : fJ (i_sf h 96 3 (.long 0)) 96 3 = 0 := x_fJ_sf hL.q96_3
  generalize i_sf h 96 3 (.long 0) = h0 at F0 L0 S0 ⊢
  refine d22_5 L0 ?_
  have F1 : i_Fr [] [(96, 5)] h0 (i_sf h0 96 5 (.long 0)) := i_Fr.refl.sf (by decide)
  have L1 : i_Lay (i_sf h0 96 5 (.long 0)) := L0.sf L0.q96_5 rfl
  have S1 : fJ (i_sf h0 96 5 (.long 0)) 96 5 = 0 := x_fJ_sf L0.q96_5
  generalize i_sf h0 96 5 (.long 0) = h1 at F1 L1 S1 ⊢
  refine d22_10 L1 ?_
  have F2 : i_Fr [] [(96, 6)] h1 (i_sf h1 96 6 (.long 0)) := i_Fr.refl.sf (by decide)
  have L2 : i_Lay (i_sf h1 96 6 (.long 0)) := L1.sf L1.q96_6 rfl
  have S2 : fJ (i_sf h1 96 6 (.long 0)) 96 6 = 0 := x_fJ_sf L1.q96_6
  generalize i_sf h1 96 6 (.long 0) = h2 at F2 L2 S2 ⊢
  refine d22_15 L2 ?_
  try simp (disch := omega) only [n_lit, n_m, n_add, n_mul, n_div, n_mod, n_cl, n_lt, n_le, n_eq, n_in, n_eqm, n_meq, n_mlt, n_ltm, n_mle, n_lem, not_true_eq_false, not_false_eq_true, true_implies, false_implies, true_and, and_true, Nat.not_lt_zero, Nat.zero_le]
  refine rows 0 (Nat.zero_le _) h2 L2 (F0.trans ((F1.mono (fun _ z => absurd z (by simp)) (by decide)).trans (F2.mono (fun _ z => absurd z (by simp)) (by decide)))) ⟨?_, ?_, ?_, fun c hc => absurd hc (Nat.not_lt_zero c)⟩ _ _
  · rw [F2.vJ (by decide), F1.vJ (by decide), S0]; exact o_is.zero
  · rw [F2.vJ (by decide), S1]; exact o_is.zero
  · rw [S2]; exact o_is.zero
abbrev grF : List (Nat × Nat) := [(96, 0), (96, 1), (96, 2), (96, 3), (96, 4), (96, 5), (96, 6)]
theorem o_WF.wh (w : o_WF a) : a 0 ≤ 8 ∧ a 1 ≤ 6 := ⟨w.c48.2.1, w.c48.2.2⟩
set_option maxHeartbeats 1000000 in
theorem c21 (hL : i_Lay h) (w : o_WF a) (hT : i_T2 t) (ct : i_CT a t h) {W H : Nat} (hW : W ≤ 8) (hH : H ≤ 6) (gq : i_GQ W H h) (K : ∀ h2, i_Lay h2 → i_Fr [97, 98, 99, 100] grF h h2 → i_GR a h2 → Q none h2) : i_C i_MT i_AT L xs 21 [.ref 96, .ref t] h Q := by
  have wh := w.wh
  have h48 := w.c48
  have nT : t ≠ 96 := by unfold i_T2 at hT; omega
  have tF : ∀ {F : List (Nat × Nat)}, (∀ q, q ∈ F → q.1 = 96) → ∀ b, (t, b) ∉ F := fun z b q => nT (z _ q)
  -- the walls
  have fin : ∀ h1, i_Lay h1 → i_Fr [97, 98, 99, 100] grF h h1 → i_GQ (a 0) (a 1) h1 → i_P i_MT i_AT L xs 21 75 [some (.ref 96), some (.ref t)] [] h1 0 0 Q := by
    intro h1 L1 f1 g1
    refine d21_75 L1 hT.T ?_
    have e2 : fJ h1 t 2 = fJ h t 2 := f1.vJ (tF (by decide) 2)
    rw [e2]
    have v4 := g1.2.1.1.andn ct.2.1
    generalize fJ h1 96 3 &&& (fJ h t 2 ^^^ (-1 : Int64)) = v at v4 ⊢
    have Fs : i_Fr [] [(96, 4)] h1 (i_sf h1 96 4 (.long v)) := i_Fr.refl.sf (by decide)
    have L2 : i_Lay (i_sf h1 96 4 (.long v)) := L1.sf L1.q96_4 rfl
    have S4 : fJ (i_sf h1 96 4 (.long v)) 96 4 = v := x_fJ_sf L1.q96_4
    generalize i_sf h1 96 4 (.long v) = h2 at Fs L2 S4 ⊢
    refine d21_92 L2 hT.T (K h2 L2 (f1.trans (Fs.mono (fun _ z => absurd z (by simp)) (by decide))) (i_GQ.r ?_ ?_))
    · unfold i_GQ at g1 ⊢
      rw [Fs.vI (by decide), Fs.vI (by decide), Fs.vI (by decide), Fs.vJ (by decide), Fs.vJ (by decide), Fs.vJ (by decide), Fs.rI (by decide), Fs.rI (by decide), Fs.rJ (by decide), Fs.rJ (by decide)]
      exact g1
    · rw [S4]
      exact v4.congr (fun c _ => by rw [Bool.true_and])
  have new : i_P i_MT i_AT L xs 21 22 [some (.ref 96), some (.ref t)] [] h 0 0 Q := by
    refine d21_22 hL hT.T ?_
    rw [ct.1.1]
    have F1 : i_Fr [] [(96, 0)] h (i_sf h 96 0 (.int (i_n (a 0)))) := i_Fr.refl.sf (by decide)
    have L1 : i_Lay (i_sf h 96 0 (.int (i_n (a 0)))) := hL.sf hL.q96_0 rfl
    have S1 : fI (i_sf h 96 0 (.int (i_n (a 0)))) 96 0 = i_n (a 0) := x_fI_sf hL.q96_0
    generalize i_sf h 96 0 (.int (i_n (a 0))) = h1 at F1 L1 S1 ⊢
    refine d21_30 L1 hT.T ?_
    rw [F1.vI (tF (by decide) 1), ct.1.2]
    have F2 : i_Fr [] [(96, 1)] h1 (i_sf h1 96 1 (.int (i_n (a 1)))) := i_Fr.refl.sf (by decide)
    have L2 : i_Lay (i_sf h1 96 1 (.int (i_n (a 1)))) := L1.sf L1.q96_1 rfl
    have S2 : fI (i_sf h1 96 1 (.int (i_n (a 1)))) 96 1 = i_n (a 1) := x_fI_sf L1.q96_1
    generalize i_sf h1 96 1 (.int (i_n (a 1))) = h2 at F2 L2 S2 ⊢
    have S12 : fI h2 96 0 = i_n (a 0) := by rw [F2.vI (by decide)]; exact S1
    refine d21_38 L2 hT.T ?_
    rw [S12, S2, n_mul]
    have F3 : i_Fr [] [(96, 2)] h2 (i_sf h2 96 2 (.int (i_n (a 0 * a 1)))) := i_Fr.refl.sf (by decide)
    have L3 : i_Lay (i_sf h2 96 2 (.int (i_n (a 0 * a 1)))) := L2.sf L2.q96_2 rfl
    have S3 : fI (i_sf h2 96 2 (.int (i_n (a 0 * a 1)))) 96 2 = i_n (a 0 * a 1) := x_fI_sf L2.q96_2
    generalize i_sf h2 96 2 (.int (i_n (a 0 * a 1))) = h3 at F3 L3 S3 ⊢
    refine d21_51 L3 hT.T (c348 L3 L3.a99 (by omega) (fun h4 L4 f4 z4 => ⟨rfl, d21_61 L4 hT.T (c348 L4 L4.a100 (by omega) (fun h5 L5 f5 z5 => ⟨rfl, d21_71 L5 hT.T ?_⟩))⟩))
    have E0 : fI h5 96 0 = i_n (a 0) := by rw [f5.vI (by decide), f4.vI (by decide), F3.vI (by decide)]; exact S12
    have E1 : fI h5 96 1 = i_n (a 1) := by rw [f5.vI (by decide), f4.vI (by decide), F3.vI (by decide)]; exact S2
    have E2 : fI h5 96 2 = i_n (a 0 * a 1) := by rw [f5.vI (by decide), f4.vI (by decide)]; exact S3
    refine c22 L5 wh.1 wh.2 E0 E1 (fun h6 L6 f6 g6 => ⟨rfl, fin h6 L6 ?_ ⟨⟨?_, ?_, ?_⟩, ⟨g6.1, g6.2.1, g6.2.2.1⟩, g6.2.2.2, fun b c hb hc => Or.inl ?_, fun b c hb hc => Or.inl ?_⟩⟩)
    · refine (F1.mono (fun _ z => absurd z (by simp)) (by decide)).trans ((F2.mono (fun _ z => absurd z (by simp)) (by decide)).trans ((F3.mono (fun _ z => absurd z (by simp)) (by decide)).trans ((f4.mono (by decide) (fun _ z => absurd z (by simp))).trans ((f5.mono (by decide) (fun _ z => absurd z (by simp))).trans (f6.mono (by decide) (by decide))))))
    · rw [f6.vI (by decide)]; exact E0
    · rw [f6.vI (by decide)]; exact E1
    · rw [f6.vI (by decide)]; exact E2
    · rw [f6.rJ (by decide), f5.rJ (by decide), z4 _ (by omega)]
    · rw [f6.rJ (by decide), z5 _ (by omega)]
  refine e21 (d21_0 hL hT.T ?_)
  rw [ct.1.1, ct.1.2, gq.1.1, gq.1.2.1, n_eq (by omega) (by omega), n_eq (by omega) (by omega)]
  refine ⟨fun _ => new, fun z => ⟨fun z2 => fin h hL i_Fr.refl ?_, fun _ => new⟩⟩
  have z := Classical.not_not.mp z
  rw [z, z2]; exact gq
end
