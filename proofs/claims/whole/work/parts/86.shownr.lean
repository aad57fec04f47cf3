/-! SHOWN, the reference -/
section
variable {L : Nat} {xs : Nat → Int32} {h : iH} {Q : Option Value → iH → Prop} {a : Nat → Nat} {t : Nat}
set_option maxRecDepth 20000
/-- rows of bits of cells, as the reference keeps them -/
def o_rn (a : Nat → Nat) (h : iH) (q : Nat) (F : Nat → Nat → Bool) : Prop := ∀ V c, V < 256 → c < a 0 * a 1 → aI h q (256 * c + V) = i_bo (F V c = true)
theorem o_rn.congr {q : Nat} {F G : Nat → Nat → Bool} (x : o_rn a h q F) (e : ∀ V c, V < 256 → c < a 0 * a 1 → F V c = G V c) : o_rn a h q G := fun V c hV hc => by rw [x V c hV hc, e V c hV hc]
theorem c291 (r : i_RA a h) {W c d m : Nat} (hW : W < 256) (hc : c < a 0 * a 1) (hd : d ≤ 4) (hm : m ≤ 60) (H : Q (some (.int (i_n (o_gn a W d m c)))) h) : i_C i_MT i_AT L xs 291 [.ref 138, .int (i_n W), .int (i_n c), .int (i_n d), .int (i_n m)] h Q := by
  have h5 := r.2.1.2.2.2.2.1
  have h48 := r.2.1.c48
  have key : ∀ k, k ≤ a 5 → i_P i_MT i_AT L xs 291 6 [some (.ref 138), some (.int (i_n W)), some (.int (i_n c)), some (.int (i_n d)), some (.int (i_n m)), some (.int (i_n (o_st (fun b => W.testBit b && decide (16 ≤ o_wgh a b c d m)) k))), some (.int (i_n k))] [] h 0 0 Q := by
    refine l_up ?_ ?_
    · refine d291_6 r.1 ?_
      rw [r.n5]
      try simp (disch := omega) only [n_lit, n_m, n_add, n_mul, n_div, n_mod, n_cl, n_lt, n_le, n_eq, n_in, n_eqm, n_meq, n_mlt, n_ltm, n_mle, n_lem, not_true_eq_false, not_false_eq_true, true_implies, false_implies, true_and, and_true, Nat.not_lt_zero, Nat.zero_le, Nat.le_refl]
      exact H
    · intro k hk ih
      have h8 := o_st_8 (P := fun b => W.testBit b && decide (16 ≤ o_wgh a b c d m)) (n := k) (by omega)
      have hwl := o_wgh_le r.2.1 (p := k) (c := c) (m := m) hd (by omega)
      have pk : (1 : Nat) <<< k < 256 := by
        rw [Nat.shiftLeft_eq, Nat.one_mul]
        exact Nat.pow_lt_pow_right (a := 2) (m := k) (n := 8) (by omega) (by omega)
      rw [o_st] at ih
      generalize o_st (fun b => W.testBit b && decide (16 ≤ o_wgh a b c d m)) k = S at ih h8 ⊢
      have no : ¬ (W.testBit k && decide (16 ≤ o_wgh a k c d m)) = true → i_P i_MT i_AT L xs 291 51 [some (.ref 138), some (.int (i_n W)), some (.int (i_n c)), some (.int (i_n d)), some (.int (i_n m)), some (.int (i_n S)), some (.int (i_n k))] [.int (i_n S)] h 0 0 Q := by
        intro e
        rw [if_neg e] at ih
        refine d291_51 r.1 (d291_52 r.1 ?_)
        try simp (disch := omega) only [n_lit, n_m, n_add, n_mul, n_div, n_mod, n_cl, n_lt, n_le, n_eq, n_in, n_eqm, n_meq, n_mlt, n_ltm, n_mle, n_lem, not_true_eq_false, not_false_eq_true, true_implies, false_implies, true_and, and_true, Nat.not_lt_zero, Nat.zero_le, n_or0]
        exact ih
      refine d291_6 r.1 ?_
      rw [r.n5]
      try simp (disch := omega) only [n_lit, n_m, n_add, n_mul, n_div, n_mod, n_cl, n_lt, n_le, n_eq, n_in, n_eqm, n_meq, n_mlt, n_ltm, n_mle, n_lem, not_true_eq_false, not_false_eq_true, true_implies, false_implies, true_and, and_true, Nat.not_lt_zero, Nat.zero_le, n_tb]
      refine ⟨fun e => by omega, fun _ => ⟨fun e => no (by simp [e]), fun e => c275 r hk hc hd hm ⟨_, rfl, d291_39 r.1 ?_⟩⟩⟩
      try simp (disch := omega) only [n_lit, n_m, n_add, n_mul, n_div, n_mod, n_cl, n_lt, n_le, n_eq, n_in, n_eqm, n_meq, n_mlt, n_ltm, n_mle, n_lem, not_true_eq_false, not_false_eq_true, true_implies, false_implies, true_and, and_true, Nat.not_lt_zero, Nat.zero_le]
      refine ⟨fun e2 => no (by
        rw [Bool.and_eq_true, decide_eq_true_eq]
        intro q
        omega), fun e2 => d291_52 r.1 ?_⟩
      try simp (disch := omega) only [n_lit, n_m, n_add, n_mul, n_div, n_mod, n_cl, n_lt, n_le, n_eq, n_in, n_eqm, n_meq, n_mlt, n_ltm, n_mle, n_lem, not_true_eq_false, not_false_eq_true, true_implies, false_implies, true_and, and_true, Nat.not_lt_zero, Nat.zero_le, n_shl, n_or]
      have e3 := Classical.not_not.mp e2
      rw [if_pos (by
        rw [Bool.and_eq_true, decide_eq_true_eq]
        refine ⟨?_, by omega⟩
        simpa using e)] at ih
      exact ih
  refine e291 (d291_0 r.1 ?_)
  try simp (disch := omega) only [n_lit, n_m, n_add, n_mul, n_div, n_mod, n_cl, n_lt, n_le, n_eq, n_in, n_eqm, n_meq, n_mlt, n_ltm, n_mle, n_lem, not_true_eq_false, not_false_eq_true, true_implies, false_implies, true_and, and_true, Nat.not_lt_zero, Nat.zero_le]
  exact key 0 (Nat.zero_le _)
end
