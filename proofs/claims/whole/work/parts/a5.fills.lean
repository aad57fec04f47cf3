/-! THE REFERENCE FILLS IN WHAT ONE DOES -/
section
variable {L : Nat} {xs : Nat → Int32} {h : iH} {Q : Option Value → iH → Prop} {a : Nat → Nat} {t : Nat} {n m k c d p pl N : Nat} {T s z : Nat → Nat} {A : Nat → List Nat} {V : Nat → Nat × Nat × Nat}
set_option maxRecDepth 20000
/-- the moves as they are noted -/
def i_OP (N : Nat) (V : Nat → Nat × Nat × Nat) (h : iH) : Prop := ∀ j, j < N → aI h 148 (3 * j) = i_n (V j).1 ∧ aI h 148 (3 * j + 1) = i_n (V j).2.1 ∧ ((V j).1 = 32 → aI h 148 (3 * j + 2) = i_n (V j).2.2) ∧ (V j).1 < 40 ∧ (V j).2.1 ≤ 60 ∧ (V j).2.2 < 100
set_option maxHeartbeats 2000000 in
theorem c245 (hL : i_Lay h) (hp : p < 8) (hN : N < 100) (eN : fI h 138 26 = i_n N) (ops : i_OP N V h) (h0 : ∀ x, x < 60 → aI h 139 (2914 + 60 * p + x) = i_n 0) {l : List Nat} (sg : o_sg V 0 N l)
    (K : ∀ h2, i_Lay h2 → i_Fr [139, 150] [] h h2 → (∀ i, aI h2 139 i = if 2914 + 60 * p ≤ i ∧ i < 2974 + 60 * p then i_n (l.getD (i - (2914 + 60 * p)) 0) else aI h 139 i) → Q none h2) : i_C i_MT i_AT L xs 245 [.ref 138, .int (i_n p)] h Q := by
  have walk : ∀ (st k m : Nat) (r : Nat → Int32) (o : Nat → Nat), (N ≤ (o_rin V N st (k, m, r, o)).1 ∨ 60 ≤ (o_rin V N st (k, m, r, o)).2.1) → (o_rin V N st (k, m, r, o)).2.2.2 = o_ppt (fun _ => 0) 0 l → k ≤ 100 → m ≤ 60 → ∀ h1, i_Lay h1 → i_Fr [139, 150] [] h h1 → (∀ i, aI h1 139 i = if 2914 + 60 * p ≤ i ∧ i < 2974 + 60 * p then i_n (o (i - (2914 + 60 * p))) else aI h 139 i) → (∀ i, i < 100 → aI h1 150 i = r i) → ∀ (y5 y6 y7 y8 : Option Value), i_P i_MT i_AT L xs 245 14 [some (.ref 138), some (.int (i_n p)), some (.int (i_n m)), some (.int (i_n k)), some (.int (i_n (2914 + 60 * p))), y5, y6, y7, y8] [] h1 0 0 Q := by
    have exit : ∀ (k m : Nat) (o : Nat → Nat), (N ≤ k ∨ 60 ≤ m) → o = o_ppt (fun _ => 0) 0 l → k ≤ 100 → m ≤ 60 → ∀ h1, i_Lay h1 → i_Fr [139, 150] [] h h1 → (∀ i, aI h1 139 i = if 2914 + 60 * p ≤ i ∧ i < 2974 + 60 * p then i_n (o (i - (2914 + 60 * p))) else aI h 139 i) → ∀ (y5 y6 y7 y8 : Option Value), i_P i_MT i_AT L xs 245 14 [some (.ref 138), some (.int (i_n p)), some (.int (i_n m)), some (.int (i_n k)), some (.int (i_n (2914 + 60 * p))), y5, y6, y7, y8] [] h1 0 0 Q := by
      intro k m o hs ho hk hm h1 L1 F1 E1 y5 y6 y7 y8
      have out : ∀ (y5 y6 y7 y8 : Option Value), i_P i_MT i_AT L xs 245 235 [some (.ref 138), some (.int (i_n p)), some (.int (i_n m)), some (.int (i_n k)), some (.int (i_n (2914 + 60 * p))), y5, y6, y7, y8] [] h1 0 0 Q := fun y5 y6 y7 y8 => d245_235 L1 (K h1 L1 F1 (fun i => by
        rw [E1, ho]
        by_cases q : 2914 + 60 * p ≤ i ∧ i < 2974 + 60 * p
        · rw [if_pos q, if_pos q]
          unfold o_ppt
          by_cases q2 : i - (2914 + 60 * p) < l.length
          · rw [if_pos ⟨Nat.zero_le _, by omega, by omega⟩, Nat.sub_zero]
          · rw [if_neg (by omega), List.getD_eq_getElem?_getD, List.getElem?_eq_none (by omega)]
            rfl
        · rw [if_neg q, if_neg q]))
      refine d245_14 L1 ?_
      rw [F1.vI (by simp), eN]
      try simp (disch := omega) only [n_lit, n_m, n_add, n_mul, n_div, n_mod, n_cl, n_lt, n_le, n_eq, n_in, n_eqm, n_meq, n_mlt, n_ltm, n_mle, n_lem, not_true_eq_false, not_false_eq_true, true_implies, false_implies, true_and, and_true, Nat.not_lt_zero, Nat.zero_le]
      exact ⟨fun _ => out _ _ _ _, fun q => ⟨fun _ => out _ _ _ _, fun q2 => by omega⟩⟩
    intro st
    induction st with
    | zero =>
      intro k m r o hs ho hk hm h1 L1 F1 E1 R1
      exact exit k m o hs ho hk hm h1 L1 F1 E1
    | succ st ih =>
      intro k m r o hs ho hk hm h1 L1 F1 E1 R1
      by_cases hst : N ≤ k ∨ 60 ≤ m
      · rw [o_rin_stop (s := (k, m, r, o)) hst] at ho
        exact exit k m o hst ho hk hm h1 L1 F1 E1
      rw [o_rin_s (s := (k, m, r, o)) hst] at hs ho
      intro y5 y6 y7 y8
      obtain ⟨v1, v2, v3, b1, b2, b3⟩ := ops k (by omega)
      have w1 : aI h1 148 (3 * k) = i_n (V k).1 := by rw [F1.rI (by simp)]; exact v1
      have w2 : aI h1 148 (3 * k + 1) = i_n (V k).2.1 := by rw [F1.rI (by simp)]; exact v2
      have w3 : (V k).1 = 32 → aI h1 148 (3 * k + 2) = i_n (V k).2.2 := by rw [F1.rI (by simp)]; exact v3
      have es : o_ste V (k, m, r, o) = (if (V k).1 = 32 then (if 0 < r (V k).2.2 then ((V k).2.2 + 1, m, upd r (V k).2.2 (r (V k).2.2 - 1), o) else (k + 1, m, r, o)) else if (V k).1 = 31 then (k + 1, m, upd r k (i_n (V k).2.1 - 1), o) else if (V k).1 = 30 then (k + 1, min 60 (m + (V k).2.1), r, o) else (k + 1, m + 1, r, o_su o m (8 * o_kx (V k).1 + (V k).2.1))) := rfl
      rw [es] at hs ho
      clear es v1 v2 v3
      generalize hW : (V k).1 = W at *
      generalize (V k).2.1 = q at *
      generalize (V k).2.2 = op at *
      refine d245_14 L1 ?_
      rw [F1.vI (by simp), eN]
      try simp (disch := omega) only [n_lit, n_m, n_add, n_mul, n_div, n_mod, n_cl, n_lt, n_le, n_eq, n_in, n_eqm, n_meq, n_mlt, n_ltm, n_mle, n_lem, not_true_eq_false, not_false_eq_true, true_implies, false_implies, true_and, and_true, Nat.not_lt_zero, Nat.zero_le, w1, w2]
      refine ⟨fun y => by omega, fun _ => ⟨fun y => by omega, fun _ => ⟨by omega, by omega, fun y => ?_, fun y => ⟨by omega, ?_⟩⟩⟩⟩
      · -- no loop
        refine d245_67 L1 ?_
        try simp (disch := omega) only [n_lit, n_m, n_add, n_mul, n_div, n_mod, n_cl, n_lt, n_le, n_eq, n_in, n_eqm, n_meq, n_mlt, n_ltm, n_mle, n_lem, not_true_eq_false, not_false_eq_true, true_implies, false_implies, true_and, and_true, Nat.not_lt_zero, Nat.zero_le]
        refine ⟨fun y2 => ⟨fun y3 => ?_, fun y3 => ?_⟩, fun y2 => ?_⟩
        · -- a move
          rw [if_neg y2, if_neg y, if_neg y3] at hs ho
          have put : ∀ kx, kx = o_kx W → i_P i_MT i_AT L xs 245 207 [some (.ref 138), some (.int (i_n p)), some (.int (i_n m)), some (.int (i_n k)), some (.int (i_n (2914 + 60 * p))), some (.int (i_n W)), some (.int (i_n q)), y7, y8] [.int (i_n kx)] h1 0 0 Q := by
            intro kx hkx
            have kl : kx ≤ 4 := by rw [hkx]; unfold o_kx; split <;> (try split) <;> (try split) <;> omega
            refine d245_207 L1 ?_
            try simp (disch := omega) only [n_lit, n_m, n_add, n_mul, n_div, n_mod, n_cl, n_lt, n_le, n_eq, n_in, n_eqm, n_meq, n_mlt, n_ltm, n_mle, n_lem, not_true_eq_false, not_false_eq_true, true_implies, false_implies, true_and, and_true, Nat.not_lt_zero, Nat.zero_le]
            refine ⟨by omega, ?_⟩
            refine w_siI (R := fun u => i_P i_MT i_AT L xs 245 226 [some (.ref 138), some (.int (i_n p)), some (.int (i_n m)), some (.int (i_n k)), some (.int (i_n (2914 + 60 * p))), some (.int (i_n W)), some (.int (i_n q)), some (.int (i_n kx)), y8] [] u 0 0 Q) L1 L1.a139 (fun h2 L2 F2 E2 => d245_226 L2 (d245_229 L2 ?_))
            try simp (disch := omega) only [n_lit, n_m, n_add, n_mul, n_div, n_mod, n_cl, n_lt, n_le, n_eq, n_in, n_eqm, n_meq, n_mlt, n_ltm, n_mle, n_lem, not_true_eq_false, not_false_eq_true, true_implies, false_implies, true_and, and_true, Nat.not_lt_zero, Nat.zero_le]
            refine ih (k + 1) (m + 1) r _ hs ho (by omega) (by omega) h2 L2 (F1.trans (F2.mono (by simp) (fun _ u => u))) (fun i => ?_) (fun i hi => by rw [F2.rI (by simp)]; exact R1 i hi) _ _ _ _
            rw [E2]
            by_cases u : i = 2914 + 60 * p + m
            · subst u
              rw [if_pos rfl, if_pos ⟨by omega, by omega⟩, show 2914 + 60 * p + m - (2914 + 60 * p) = m by omega, o_su_t, hkx]
            · rw [if_neg u, E1]
              by_cases u2 : 2914 + 60 * p ≤ i ∧ i < 2974 + 60 * p
              · rw [if_pos u2, if_pos u2, o_su_f (by omega)]
              · rw [if_neg u2, if_neg u2]
          refine d245_159 L1 ?_
          try simp (disch := omega) only [n_lit, n_m, n_add, n_mul, n_div, n_mod, n_cl, n_lt, n_le, n_eq, n_in, n_eqm, n_meq, n_mlt, n_ltm, n_mle, n_lem, not_true_eq_false, not_false_eq_true, true_implies, false_implies, true_and, and_true, Nat.not_lt_zero, Nat.zero_le]
          refine ⟨fun u => absurd u y, fun _ => ⟨fun u => absurd u y3, fun _ => ⟨fun u1 => ⟨fun u2 => ⟨fun u3 => put 4 ?_, fun u3 => put 3 ?_⟩, fun u2 => put 2 ?_⟩, fun u1 => put 1 ?_⟩⟩⟩
          · unfold o_kx; rw [if_neg u1, if_neg u2, if_neg u3]
          · unfold o_kx; rw [if_neg u1, if_neg u2, if_pos (Classical.not_not.mp u3)]
          · unfold o_kx; rw [if_neg u1, if_pos (Classical.not_not.mp u2)]
          · unfold o_kx; rw [if_pos (Classical.not_not.mp u1)]
        · -- still
          have y3 := Classical.not_not.mp y3
          rw [if_neg y2, if_neg y, if_pos y3] at hs ho
          refine c337n (by omega) (by omega) ⟨_, rfl, d245_158 L1 (d245_159 L1 ?_)⟩
          try simp (disch := omega) only [n_lit, n_m, n_add, n_mul, n_div, n_mod, n_cl, n_lt, n_le, n_eq, n_in, n_eqm, n_meq, n_mlt, n_ltm, n_mle, n_lem, not_true_eq_false, not_false_eq_true, true_implies, false_implies, true_and, and_true, Nat.not_lt_zero, Nat.zero_le]
          refine ⟨fun u => absurd u y, fun _ => ⟨fun _ => d245_229 L1 ?_, fun u => absurd y3 u⟩⟩
          try simp (disch := omega) only [n_lit, n_m, n_add, n_mul, n_div, n_mod, n_cl, n_lt, n_le, n_eq, n_in, n_eqm, n_meq, n_mlt, n_ltm, n_mle, n_lem, not_true_eq_false, not_false_eq_true, true_implies, false_implies, true_and, and_true, Nat.not_lt_zero, Nat.zero_le]
          exact ih (k + 1) (min 60 (m + q)) r o hs ho (by omega) (by omega) h1 L1 F1 E1 R1 _ _ _ _
        · -- the end of a loop
          have y2 := Classical.not_not.mp y2
          rw [if_pos y2] at hs ho
          have w3 := w3 y2
          try simp (disch := omega) only [n_lit, n_m, n_add, n_mul, n_div, n_mod, n_cl, n_lt, n_le, n_eq, n_in, n_eqm, n_meq, n_mlt, n_ltm, n_mle, n_lem, not_true_eq_false, not_false_eq_true, true_implies, false_implies, true_and, and_true, Nat.not_lt_zero, Nat.zero_le, w3]
          rw [R1 op (by omega)]
          have go : ∀ (b : Nat), b ≤ 1 → (b = 1 ↔ 0 < r op) → ∀ (y8 : Option Value), i_P i_MT i_AT L xs 245 101 [some (.ref 138), some (.int (i_n p)), some (.int (i_n m)), some (.int (i_n k)), some (.int (i_n (2914 + 60 * p))), some (.int (i_n W)), some (.int (i_n q)), some (.int (i_n op)), y8] [.int (i_n b)] h1 0 0 Q := by
            intro b hb hb2 y8
            refine d245_101 L1 ?_
            try simp (disch := omega) only [n_lit, n_m, n_add, n_mul, n_div, n_mod, n_cl, n_lt, n_le, n_eq, n_in, n_eqm, n_meq, n_mlt, n_ltm, n_mle, n_lem, not_true_eq_false, not_false_eq_true, true_implies, false_implies, true_and, and_true, Nat.not_lt_zero, Nat.zero_le]
            rw [R1 op (by omega)]
            refine ⟨by omega, fun u => ?_, fun u => ?_⟩
            · have hb0 : ¬ 0 < r op := fun u2 => by have := hb2.mpr u2; omega
              rw [if_neg hb0] at hs ho
              refine d245_121 L1 ⟨100, aI h1 150, L1.a150, ?_⟩
              rw [n_cl (by omega)]
              refine ⟨(n_in (by omega)).mpr (by omega), ?_⟩
              refine w_siI (R := fun u => i_P i_MT i_AT L xs 245 123 [some (.ref 138), some (.int (i_n p)), some (.int (i_n m)), some (.int (i_n k)), some (.int (i_n (2914 + 60 * p))), some (.int (i_n W)), some (.int (i_n q)), some (.int (i_n op)), some (.int (i_n b))] [] u 0 0 Q) L1 L1.a150 (fun h2 L2 F2 E2 => d245_123 L2 ⟨fun _ => d245_138 L2 ?_, fun u3 => absurd (by rw [u]; rfl) u3⟩)
              try simp (disch := omega) only [n_lit, n_m, n_add, n_mul, n_div, n_mod, n_cl, n_lt, n_le, n_eq, n_in, n_eqm, n_meq, n_mlt, n_ltm, n_mle, n_lem, not_true_eq_false, not_false_eq_true, true_implies, false_implies, true_and, and_true, Nat.not_lt_zero, Nat.zero_le]
              refine ih (k + 1) m r o hs ho (by omega) hm h2 L2 (F1.trans (F2.mono (by simp) (fun _ u => u))) (fun i => by rw [F2.rI (by simp)]; exact E1 i) (fun i hi => ?_) _ _ _ _
              rw [E2]
              by_cases u4 : i = op
              · subst u4; rw [if_pos rfl]; exact Int32.sub_zero _
              · rw [if_neg u4]; exact R1 i hi
            · have hb0 : 0 < r op := hb2.mp (by omega)
              rw [if_pos hb0] at hs ho
              refine d245_121 L1 ⟨100, aI h1 150, L1.a150, ?_⟩
              rw [n_cl (by omega)]
              refine ⟨(n_in (by omega)).mpr (by omega), ?_⟩
              refine w_siI (R := fun u => i_P i_MT i_AT L xs 245 123 [some (.ref 138), some (.int (i_n p)), some (.int (i_n m)), some (.int (i_n k)), some (.int (i_n (2914 + 60 * p))), some (.int (i_n W)), some (.int (i_n q)), some (.int (i_n op)), some (.int (i_n b))] [] u 0 0 Q) L1 L1.a150 (fun h2 L2 F2 E2 => d245_123 L2 ⟨fun u3 => absurd u3 ?_, fun _ => d245_138 L2 ?_⟩)
              · rw [show (0 : Int32) = i_n 0 from rfl, n_eq (by omega) (by omega)]; omega
              try simp (disch := omega) only [n_lit, n_m, n_add, n_mul, n_div, n_mod, n_cl, n_lt, n_le, n_eq, n_in, n_eqm, n_meq, n_mlt, n_ltm, n_mle, n_lem, not_true_eq_false, not_false_eq_true, true_implies, false_implies, true_and, and_true, Nat.not_lt_zero, Nat.zero_le]
              refine ih (op + 1) m (upd r op (r op - 1)) o hs ho (by omega) hm h2 L2 (F1.trans (F2.mono (by simp) (fun _ u => u))) (fun i => by rw [F2.rI (by simp)]; exact E1 i) (fun i hi => ?_) _ _ _ _
              rw [E2, x_upd]
              by_cases u4 : i = op
              · rw [if_pos u4, if_pos u4]; rfl
              · rw [if_neg u4, if_neg u4]; exact R1 i hi
          refine ⟨by omega, by omega, fun u => go 0 (by omega) ⟨fun u2 => by omega, fun u2 => absurd u (Int32.not_le.mpr u2)⟩ _, fun u => go 1 (by omega) ⟨fun _ => Int32.not_le.mp u, fun _ => rfl⟩ _⟩
      · -- a loop begins
        have y := Classical.not_not.mp y
        rw [if_neg (by omega), if_pos y] at hs ho
        refine w_siI (R := fun u => ∀ (y7 y8 : Option Value), i_P i_MT i_AT L xs 245 67 [some (.ref 138), some (.int (i_n p)), some (.int (i_n m)), some (.int (i_n k)), some (.int (i_n (2914 + 60 * p))), some (.int (i_n W)), some (.int (i_n q)), y7, y8] [] u 0 0 Q) L1 L1.a150 (fun h2 L2 F2 E2 => fun y7 y8 => d245_67 L2 ?_) _ _
        try simp (disch := omega) only [n_lit, n_m, n_add, n_mul, n_div, n_mod, n_cl, n_lt, n_le, n_eq, n_in, n_eqm, n_meq, n_mlt, n_ltm, n_mle, n_lem, not_true_eq_false, not_false_eq_true, true_implies, false_implies, true_and, and_true, Nat.not_lt_zero, Nat.zero_le]
        refine ⟨fun _ => ⟨fun _ => d245_159 L2 ?_, fun u => absurd y (by omega)⟩, fun u => absurd y (by omega)⟩
        try simp (disch := omega) only [n_lit, n_m, n_add, n_mul, n_div, n_mod, n_cl, n_lt, n_le, n_eq, n_in, n_eqm, n_meq, n_mlt, n_ltm, n_mle, n_lem, not_true_eq_false, not_false_eq_true, true_implies, false_implies, true_and, and_true, Nat.not_lt_zero, Nat.zero_le]
        refine ⟨fun _ => d245_229 L2 ?_, fun u => absurd y u⟩
        try simp (disch := omega) only [n_lit, n_m, n_add, n_mul, n_div, n_mod, n_cl, n_lt, n_le, n_eq, n_in, n_eqm, n_meq, n_mlt, n_ltm, n_mle, n_lem, not_true_eq_false, not_false_eq_true, true_implies, false_implies, true_and, and_true, Nat.not_lt_zero, Nat.zero_le]
        refine ih (k + 1) m (upd r k (i_n q - 1)) o hs ho (by omega) hm h2 L2 (F1.trans (F2.mono (by simp) (fun _ u => u))) (fun i => by rw [F2.rI (by simp)]; exact E1 i) (fun i hi => ?_) _ _ _ _
        rw [E2, x_upd]
        by_cases u4 : i = k
        · rw [if_pos u4, if_pos u4]; rfl
        · rw [if_neg u4, if_neg u4]; exact R1 i hi
  obtain ⟨st, k2, m2, r2, e1, e2⟩ := sg.fin (aI h 150)
  refine e245 (d245_0 hL ?_)
  try simp (disch := omega) only [n_lit, n_m, n_add, n_mul, n_div, n_mod, n_cl, n_lt, n_le, n_eq, n_in, n_eqm, n_meq, n_mlt, n_ltm, n_mle, n_lem, not_true_eq_false, not_false_eq_true, true_implies, false_implies, true_and, and_true, Nat.not_lt_zero, Nat.zero_le]
  refine walk st 0 0 (aI h 150) (fun _ => 0) ?_ ?_ (by omega) (by omega) h hL i_Fr.refl (fun i => ?_) (fun i _ => rfl) _ _ _ _
  · rw [e1]; exact e2
  · rw [e1]
  · by_cases q : 2914 + 60 * p ≤ i ∧ i < 2974 + 60 * p
    · rw [if_pos q]
      have := h0 (i - (2914 + 60 * p)) (by omega)
      rw [show 2914 + 60 * p + (i - (2914 + 60 * p)) = i by omega] at this
      exact this
    · rw [if_neg q]
end
