/-! THE CLASS: cones and views -/
section
variable {L : Nat} {xs : Nat → Int32} {h : iH} {Q : Option Value → iH → Prop} {a : Nat → Nat}
set_option maxRecDepth 20000
theorem o_fs_bd {W H b w c : Nat} (hW : 0 < W ∧ W ≤ 8) (hH : H ≤ 6) (hb : b < W * H) (hc : c < W * H) : (-2000 < o_fx W b w c ∧ o_fx W b w c < 2000) ∧ (-2000 < o_sx W b w c ∧ o_sx W b w c < 2000) := by
  have m1 := Nat.mod_lt b hW.1
  have m2 := Nat.mod_lt c hW.1
  have d1 : b / W < H := by rw [Nat.div_lt_iff_lt_mul hW.1, Nat.mul_comm]; exact hb
  have d2 : c / W < H := by rw [Nat.div_lt_iff_lt_mul hW.1, Nat.mul_comm]; exact hc
  have e5 := o_ex_le w
  have e6 := o_sy_le w
  have b1 := o_bd (u := b % W) (v := c % W) (e := o_ex w) (by omega) (by omega) (by omega)
  have b2 := o_bd (u := b / W) (v := c / W) (e := o_sy w) (by omega) (by omega) (by omega)
  have b3 := o_bd (u := b % W) (v := c % W) (e := o_sy w) (by omega) (by omega) (by omega)
  have b4 := o_bd (u := b / W) (v := c / W) (e := o_ex w) (by omega) (by omega) (by omega)
  constructor
  · unfold o_fx; omega
  · unfold o_sx; omega
theorem o_fx_e {W b w c : Nat} : (i_n (c % W) - i_n (b % W)) * (i_n (o_ex w) - i_n 1) + (i_n (c / W) - i_n (b / W)) * (i_n (o_sy w) - i_n 1) = Int32.ofInt (o_fx W b w c) := by
  rw [n_sz, n_sz, n_sz, n_sz, ← Int32.ofInt_mul, ← Int32.ofInt_mul, ← Int32.ofInt_add]
  rfl
theorem o_sx_e {W b w c : Nat} : (i_n (c % W) - i_n (b % W)) * (i_n (o_sy w) - i_n 1) - (i_n (c / W) - i_n (b / W)) * (i_n (o_ex w) - i_n 1) = Int32.ofInt (o_sx W b w c) := by
  rw [n_sz, n_sz, n_sz, n_sz, ← Int32.ofInt_mul, ← Int32.ofInt_mul, ← Int32.ofInt_sub]
  rfl
set_option maxHeartbeats 2000000 in
theorem c30 (hL : i_Lay h) (w : o_WF a) (g : i_GR a h) {b k : Nat} (hb : b < a 0 * a 1) (hk : k < 8) (H : ∀ (s : Int64) (h2 : iH), o_is s (a 0 * a 1) (o_cone (a 0) b k) → i_Lay h2 → i_GR a h2 → i_Fr [100] [] h h2 → Q (some (.long s)) h2) : i_C i_MT i_AT L xs 30 [.ref 96, .int (i_n b), .int (i_n k)] h Q := by
  have h48 := w.c48
  have hp := w.pos hb
  have hX : ∀ c, c < a 0 * a 1 → aI h 97 c = i_n (c % a 0) := fun c hc => (g.2.2.1 c hc).1
  have hY : ∀ c, c < a 0 * a 1 → aI h 98 c = i_n (c / a 0) := fun c hc => (g.2.2.1 c hc).2
  have hN : fI h 96 2 = i_n (a 0 * a 1) := g.1.2.2
  refine e30 (d30_0 hL ?_)
  try simp (disch := omega) only [n_lit, n_m, i_bo01, j_cmpn, Classical.not_not, n_add, n_mul, n_div, n_mod, n_cl, n_lt, n_le, n_eq, n_in, n_eqm, n_meq, n_mlt, n_ltm, n_mle, n_lem, not_true_eq_false, not_false_eq_true, true_implies, false_implies, true_and, and_true, Nat.not_lt_zero, Nat.zero_le]
  refine ⟨by omega, fun z => d30_148 hL ?_, fun z => ?_⟩
  · try simp (disch := omega) only [n_lit, n_m, i_bo01, j_cmpn, Classical.not_not, n_add, n_mul, n_div, n_mod, n_cl, n_lt, n_le, n_eq, n_in, n_eqm, n_meq, n_mlt, n_ltm, n_mle, n_lem, not_true_eq_false, not_false_eq_true, true_implies, false_implies, true_and, and_true, Nat.not_lt_zero, Nat.zero_le]
    refine ⟨by omega, ?_⟩
    rcases g.2.2.2.2 b k hb hk with q | q
    · exact absurd q z
    · exact H _ h q hL g i_Fr.refl
  · have key : ∀ c, c ≤ a 0 * a 1 → ∀ (s : Int64) (y7 y8 y9 y10 : Option Value), o_is s c (o_cone (a 0) b k) → i_P i_MT i_AT L xs 30 26 [some (.ref 96), some (.int (i_n b)), some (.int (i_n k)), some (.int (i_n (b * 8 + k))), some (.long s), none, some (.int (i_n c)), y7, y8, y9, y10] [] h 0 0 Q := by
      refine l_up ?_ ?_
      · intro s y7 y8 y9 y10 hs
        refine d30_26 hL ?_
        try simp (disch := omega) only [n_lit, n_m, i_bo01, j_cmpn, Classical.not_not, n_add, n_mul, n_div, n_mod, n_cl, n_lt, n_le, n_eq, n_in, n_eqm, n_meq, n_mlt, n_ltm, n_mle, n_lem, not_true_eq_false, not_false_eq_true, true_implies, false_implies, true_and, and_true, Nat.not_lt_zero, Nat.zero_le, hN, Nat.le_refl]
        refine ⟨by omega, d30_148 hL.siJ ?_⟩
        try simp (disch := omega) only [n_lit, n_m, i_bo01, j_cmpn, Classical.not_not, n_add, n_mul, n_div, n_mod, n_cl, n_lt, n_le, n_eq, n_in, n_eqm, n_meq, n_mlt, n_ltm, n_mle, n_lem, not_true_eq_false, not_false_eq_true, true_implies, false_implies, true_and, and_true, Nat.not_lt_zero, Nat.zero_le]
        refine ⟨by omega, ?_⟩
        rw [i_siJ_at hL.a100]
        have fr : i_Fr [100] [] h (i_siJ h 100 (b * 8 + k) s) := i_Fr.refl.siJ (by decide)
        refine H _ _ hs hL.siJ ⟨?_, ?_, ?_, ?_, ?_⟩ fr
        · rw [fr.vI (by decide), fr.vI (by decide), fr.vI (by decide)]; exact g.1
        · rw [fr.vJ (by decide), fr.vJ (by decide), fr.vJ (by decide), fr.vJ (by decide)]; exact g.2.1
        · rw [fr.rI (by decide), fr.rI (by decide)]; exact g.2.2.1
        · rw [fr.rJ (by decide)]; exact g.2.2.2.1
        · intro b2 c2 hb2 hc2
          by_cases e : b2 * 8 + c2 = b * 8 + k
          · have eb : b2 = b := by omega
            have ec : c2 = k := by omega
            subst eb; subst ec
            rw [i_siJ_at hL.a100]
            exact Or.inr hs
          · rw [i_siJ_no hL.a100 e]
            exact g.2.2.2.2 b2 c2 hb2 hc2
      · intro c hc ih s y7 y8 y9 y10 hs
        have bd := o_fs_bd (w := k) (by omega) (by omega) hb hc
        have no : o_cone (a 0) b k c = false → ∀ (u1 u2 u3 u4 : Int32), i_P i_MT i_AT L xs 30 134 [some (.ref 96), some (.int (i_n b)), some (.int (i_n k)), some (.int (i_n (b * 8 + k))), some (.long s), none, some (.int (i_n c)), some (.int u1), some (.int u2), some (.int u3), some (.int u4)] [] h 0 0 Q := by
          intro q u1 u2 u3 u4
          refine d30_134 hL ?_
          try simp (disch := omega) only [n_lit, n_m, i_bo01, j_cmpn, Classical.not_not, n_add, n_mul, n_div, n_mod, n_cl, n_lt, n_le, n_eq, n_in, n_eqm, n_meq, n_mlt, n_ltm, n_mle, n_lem, not_true_eq_false, not_false_eq_true, true_implies, false_implies, true_and, and_true, Nat.not_lt_zero, Nat.zero_le]
          exact ih _ _ _ _ _ (hs.f q)
        refine d30_26 hL ?_
        try simp (disch := omega) only [n_lit, n_m, i_bo01, j_cmpn, Classical.not_not, n_add, n_mul, n_div, n_mod, n_cl, n_lt, n_le, n_eq, n_in, n_eqm, n_meq, n_mlt, n_ltm, n_mle, n_lem, not_true_eq_false, not_false_eq_true, true_implies, false_implies, true_and, and_true, Nat.not_lt_zero, Nat.zero_le, hN, hX, hY, i_EASTn, i_SOUTHn, o_fx_e, o_sx_e]
        rw [show i_n 0 = Int32.ofInt 0 from rfl, ← Int32.ofInt_neg, n_zle (by omega) (by omega), n_zlt (by omega) (by omega), n_zlt (by omega) (by omega)]
        unfold o_cone at no
        refine ⟨fun q => by omega, fun _ => ⟨by omega, by omega, by omega, by omega, hk, hk, hk, hk, fun q => no (by simp; omega) _ _ _ _, fun q => ⟨fun q2 => no (by simp; omega) _ _ _ _, fun q2 => ⟨fun q3 => no (by simp; omega) _ _ _ _, fun q3 => ?_⟩⟩⟩⟩
        refine d30_134 hL ?_
        try simp (disch := omega) only [n_lit, n_m, i_bo01, j_cmpn, Classical.not_not, n_add, n_mul, n_div, n_mod, n_cl, n_lt, n_le, n_eq, n_in, n_eqm, n_meq, n_mlt, n_ltm, n_mle, n_lem, not_true_eq_false, not_false_eq_true, true_implies, false_implies, true_and, and_true, Nat.not_lt_zero, Nat.zero_le]
        exact ih _ _ _ _ _ (hs.t (by omega) (by unfold o_cone; simp; omega))
    exact key 0 (Nat.zero_le _) _ _ _ _ _ o_is.zero
/-- bits in common -/
theorem o_free_and {W n : Nat} {bl : Nat → Bool} {b c : Nat} {s x : Int64} (hs : o_is s n (o_onl W b c)) (hx : o_is x n bl) (hm : ∀ k, 1 ≤ k → k < o_far W b c → o_mid W (o_far W b c) k b c < n) (hn : n ≤ 48) : s &&& x = 0 ↔ o_free W bl b c = true := by
  rw [j_eq0, o_free_t]
  constructor
  · intro z k h1 h2
    have h3 := hm k h1 h2
    have := z (o_mid W (o_far W b c) k b c) (by omega)
    rw [j_and, hs.b h3 (by omega), hx.b h3 (by omega), show o_onl W b c (o_mid W (o_far W b c) k b c) = true from o_onl_t.mpr ⟨k, h1, h2, rfl⟩] at this
    simpa using this
  · intro z c2 hc2
    rw [j_and, hs c2 hc2, hx c2 hc2]
    by_cases h1 : c2 < n
    · cases h2 : o_onl W b c c2 with
      | false => simp
      | true =>
        obtain ⟨k, q1, q2, q3⟩ := o_onl_t.mp h2
        have := z k q1 q2
        rw [q3] at this
        simp [this]
    · simp [h1]
set_option maxHeartbeats 2000000 in
theorem c31 (hL : i_Lay h) (w : o_WF a) (g : i_GR a h) {b k f : Nat} {x : Int64} {bl : Nat → Bool} (hb : b < a 0 * a 1) (hk : k < 8) (hf : f < 100) (hx : o_is x (a 0 * a 1) bl) (H : ∀ (s : Int64) (h2 : iH), o_is s (a 0 * a 1) (fun c => o_seen (a 0) bl b k f c) → i_Lay h2 → i_GR a h2 → i_Fr [99, 100] [] h h2 → Q (some (.long s)) h2) : i_C i_MT i_AT L xs 31 [.ref 96, .int (i_n b), .int (i_n k), .int (i_n f), .long x] h Q := by
  have h48 := w.c48
  have hp := w.pos hb
  refine e31 (d31_0 hL (c30 hL w g hb hk ?_))
  intro wt h1 hwt hL1 g1 fr1
  refine ⟨_, rfl, d31_6 hL1 ?_⟩
  have fr1b : i_Fr [99, 100] [] h h1 := fr1.mono (by decide) (by decide)
  have key : ∀ c, c ≤ a 0 * a 1 → ∀ (s : Int64) (y11 : Option Value) (h2 : iH), i_Lay h2 → i_GR a h2 → i_Fr [99, 100] [] h h2 → o_is s c (fun c => o_seen (a 0) bl b k f c) → i_P i_MT i_AT L xs 31 14 [some (.ref 96), some (.int (i_n b)), some (.int (i_n k)), some (.int (i_n f)), some (.long x), none, some (.long wt), none, some (.long s), none, some (.int (i_n c)), y11] [] h2 0 0 Q := by
    refine l_up ?_ ?_
    · intro s y11 h2 hL2 g2 fr2 hs
      refine d31_14 hL2 ?_
      try simp (disch := omega) only [n_lit, n_m, i_bo01, j_cmpn, Classical.not_not, n_add, n_mul, n_div, n_mod, n_cl, n_lt, n_le, n_eq, n_in, n_eqm, n_meq, n_mlt, n_ltm, n_mle, n_lem, not_true_eq_false, not_false_eq_true, true_implies, false_implies, true_and, and_true, Nat.not_lt_zero, Nat.zero_le, g2.1.2.2, Nat.le_refl]
      exact H _ _ hs hL2 g2 fr2
    · intro c hc ih s y11 h2 hL2 g2 fr2 hs
      have hn := o_far_lt (show 0 < a 0 by omega) hb hc
      have nx : ∀ (u : Int32) (s2 : Int64) (h3 : iH), i_Lay h3 → i_GR a h3 → i_Fr [99, 100] [] h h3 → o_is s2 (c + 1) (fun c => o_seen (a 0) bl b k f c) → i_P i_MT i_AT L xs 31 74 [some (.ref 96), some (.int (i_n b)), some (.int (i_n k)), some (.int (i_n f)), some (.long x), none, some (.long wt), none, some (.long s2), none, some (.int (i_n c)), some (.int u)] [] h3 0 0 Q := by
        intro u s2 h3 hL3 g3 fr3 hs3
        refine d31_74 hL3 ?_
        try simp (disch := omega) only [n_lit, n_m, i_bo01, j_cmpn, Classical.not_not, n_add, n_mul, n_div, n_mod, n_cl, n_lt, n_le, n_eq, n_in, n_eqm, n_meq, n_mlt, n_ltm, n_mle, n_lem, not_true_eq_false, not_false_eq_true, true_implies, false_implies, true_and, and_true, Nat.not_lt_zero, Nat.zero_le]
        exact ih _ _ _ hL3 g3 fr3 hs3
      refine d31_14 hL2 ?_
      try simp (disch := omega) only [n_lit, n_m, i_bo01, j_cmpn, Classical.not_not, n_add, n_mul, n_div, n_mod, n_cl, n_lt, n_le, n_eq, n_in, n_eqm, n_meq, n_mlt, n_ltm, n_mle, n_lem, not_true_eq_false, not_false_eq_true, true_implies, false_implies, true_and, and_true, Nat.not_lt_zero, Nat.zero_le, g2.1.2.2]
      refine ⟨fun q => by omega, fun _ => c27 hL2 w g2 hb hc ⟨_, rfl, d31_30 hL2 (c193 (by omega) ⟨_, rfl, d31_39 hL2 ?_⟩)⟩⟩
      rw [hwt.b hc (by omega)]
      try simp (disch := omega) only [n_lit, n_m, i_bo01, j_cmpn, Classical.not_not, n_add, n_mul, n_div, n_mod, n_cl, n_lt, n_le, n_eq, n_in, n_eqm, n_meq, n_mlt, n_ltm, n_mle, n_lem, not_true_eq_false, not_false_eq_true, true_implies, false_implies, true_and, and_true, Nat.not_lt_zero, Nat.zero_le]
      refine ⟨fun q => nx _ _ _ hL2 g2 fr2 (hs.f ?_), fun q => ⟨fun q2 => nx _ _ _ hL2 g2 fr2 (hs.f ?_), fun q2 => c29 hL2 w g2 hb hc ?_⟩⟩
      · unfold o_seen; simp [q]
      · unfold o_seen
        rw [show decide (o_far (a 0) b c ≤ f) = false from by simp; omega]
        simp
      · intro ln h3 hln hL3 g3 fr3
        have fr4 : i_Fr [99, 100] [] h h3 := fr2.trans (fr3.mono (by decide) (by decide))
        refine ⟨_, rfl, d31_57 hL3 ?_⟩
        have hfree := o_free_and hln hx (fun k h1 h2 => (o_mid_lt (by omega) (by omega) hb hc).1) h48.1
        try simp (disch := omega) only [n_lit, n_m, i_bo01, j_cmpn, Classical.not_not, n_add, n_mul, n_div, n_mod, n_cl, n_lt, n_le, n_eq, n_in, n_eqm, n_meq, n_mlt, n_ltm, n_mle, n_lem, not_true_eq_false, not_false_eq_true, true_implies, false_implies, true_and, and_true, Nat.not_lt_zero, Nat.zero_le]
        rw [hfree]
        refine ⟨fun q3 => nx _ _ _ hL3 g3 fr4 (hs.f ?_), fun q3 => nx _ _ _ hL3 g3 fr4 (hs.t (by omega) ?_)⟩
        · unfold o_seen
          simp at q3
          simp [q3]
        · unfold o_seen
          rw [q, q3]
          simp; omega
  exact key 0 (Nat.zero_le _) _ _ _ hL1 g1 fr1b o_is.zero
end
