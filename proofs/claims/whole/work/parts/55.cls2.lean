/-! THE CLASS: lines, cones, views of its grid -/
section
variable {L : Nat} {xs : Nat → Int32} {h : iH} {Q : Option Value → iH → Prop} {a : Nat → Nat}
set_option maxRecDepth 20000
theorem i_GR.fr {h2 : iH} {A : List Nat} {F : List (Nat × Nat)} (g : i_GR a h) (f : i_Fr A F h h2) (hA : ∀ p, p ∈ [97, 98, 99, 100] → p ∉ A) (hF : ∀ b, b ≤ 6 → (96, b) ∉ F) : i_GR a h2 := by
  obtain ⟨g1, g2, g3, g4, g5⟩ := g
  refine ⟨?_, ?_, ?_, ?_, ?_⟩
  · rw [f.vI (hF 0 (by omega)), f.vI (hF 1 (by omega)), f.vI (hF 2 (by omega))]; exact g1
  · rw [f.vJ (hF 3 (by omega)), f.vJ (hF 4 (by omega)), f.vJ (hF 5 (by omega)), f.vJ (hF 6 (by omega))]; exact g2
  · rw [f.rI (hA 97 (by decide)), f.rI (hA 98 (by decide))]; exact g3
  · rw [f.rJ (hA 99 (by decide))]; exact g4
  · rw [f.rJ (hA 100 (by decide))]; exact g5
theorem o_is.u {s : Int64} {P : Nat → Bool} {n k : Nat} (hk : k < 64) (x : ∀ c, c < 64 → i_b s c = P c) (c : Nat) (hc : c < 64) : i_b (s ||| ((1 : Int64) <<< ((i_n k).toInt64 &&& (63 : Int64)))) c = (P c || decide (c = k)) := by
  rw [j_or, j_one hk, x c hc]
theorem o_onl_t {W b c z : Nat} : o_onl W b c z = true ↔ ∃ k, 1 ≤ k ∧ k < o_far W b c ∧ o_mid W (o_far W b c) k b c = z := by
  unfold o_onl
  simp only [List.any_eq_true, List.mem_range, Bool.and_eq_true, bne_iff_ne, ne_eq, beq_iff_eq]
  constructor
  · rintro ⟨k, h1, h2, h3⟩; exact ⟨k, by omega, h1, h3⟩
  · rintro ⟨k, h1, h2, h3⟩; exact ⟨k, h2, by omega, h3⟩
theorem o_pt_e {n k u v : Nat} (hk : k ≤ n) : i_n (2 * n * u) + i_n (2 * k) * (i_n v - i_n u) + i_n n = i_n (2 * ((n - k) * u + k * v) + n) := by
  rw [n_sz]
  simp only [n_z]
  rw [← Int32.ofInt_mul, ← Int32.ofInt_add, ← Int32.ofInt_add]
  congr 1
  obtain ⟨d, rfl⟩ : ∃ d, n = k + d := ⟨n - k, by omega⟩
  rw [show k + d - k = d by omega]
  push_cast
  rw [Int.mul_sub, Int.mul_assoc, Int.mul_assoc, Int.mul_assoc, Int.add_mul]
  omega
theorem i_siJ_at {q i n : Nat} {s : Int64} {f : Nat → Int64} (e : i_arJ h q = some (n, f)) : aJ (i_siJ h q i s) q i = s := by
  rw [x_aJ_siJ e, x_updJ, if_pos rfl]
theorem i_siJ_no {q i j n : Nat} {s : Int64} {f : Nat → Int64} (e : i_arJ h q = some (n, f)) (hj : j ≠ i) : aJ (i_siJ h q i s) q j = aJ h q j := by
  rw [x_aJ_siJ e, x_updJ, if_neg hj]
set_option maxHeartbeats 2000000 in
theorem c29 (hL : i_Lay h) (w : o_WF a) (g : i_GR a h) {b c : Nat} (hb : b < a 0 * a 1) (hc : c < a 0 * a 1) (H : ∀ (s : Int64) (h2 : iH), o_is s (a 0 * a 1) (o_onl (a 0) b c) → i_Lay h2 → i_GR a h2 → i_Fr [99] [] h h2 → Q (some (.long s)) h2) : i_C i_MT i_AT L xs 29 [.ref 96, .int (i_n b), .int (i_n c), .int (i_n (o_far (a 0) b c))] h Q := by
  have h48 := w.c48
  have hp := w.pos hb
  have hn := o_far_lt (show 0 < a 0 by omega) hb hc
  have hX : ∀ c, c < a 0 * a 1 → aI h 97 c = i_n (c % a 0) := fun c hc => (g.2.2.1 c hc).1
  have hY : ∀ c, c < a 0 * a 1 → aI h 98 c = i_n (c / a 0) := fun c hc => (g.2.2.1 c hc).2
  have hW : fI h 96 0 = i_n (a 0) := g.1.1
  have e1 : b % a 0 < 8 := by have := Nat.mod_lt b (show a 0 > 0 by omega); omega
  have e2 : c % a 0 < 8 := by have := Nat.mod_lt c (show a 0 > 0 by omega); omega
  have e3 : b / a 0 < 48 := by have := Nat.div_le_self b (a 0); omega
  have q3 := z_dv b (a 0)
  have e4 : c / a 0 < 48 := by have := Nat.div_le_self c (a 0); omega
  have q4 := z_dv c (a 0)
  generalize hN : o_far (a 0) b c = n at hn
  refine e29 (d29_0 hL ?_)
  try simp (disch := omega) only [n_lit, n_m, i_bo01, j_cmpn, Classical.not_not, n_add, n_mul, n_div, n_mod, n_cl, n_lt, n_le, n_eq, n_in, n_eqm, n_meq, n_mlt, n_ltm, n_mle, n_lem, not_true_eq_false, not_false_eq_true, true_implies, false_implies, true_and, and_true, Nat.not_lt_zero, Nat.zero_le, hX, hY]
  refine ⟨by omega, fun z => d29_148 hL ?_, fun z => ⟨by omega, by omega, by omega, by omega, ?_⟩⟩
  · try simp (disch := omega) only [n_lit, n_m, i_bo01, j_cmpn, Classical.not_not, n_add, n_mul, n_div, n_mod, n_cl, n_lt, n_le, n_eq, n_in, n_eqm, n_meq, n_mlt, n_ltm, n_mle, n_lem, not_true_eq_false, not_false_eq_true, true_implies, false_implies, true_and, and_true, Nat.not_lt_zero, Nat.zero_le]
    refine ⟨by omega, ?_⟩
    rcases g.2.2.2.1 b c hb hc with q | q
    · exact absurd q z
    · exact H _ h q hL g i_Fr.refl
  · have fin : ∀ (k : Nat) (s : Int64) (y10 y11 : Option Value), n ≤ k → k < 1000 → (∀ z, z < 64 → (i_b s z = true ↔ ∃ j, 1 ≤ j ∧ j < n ∧ o_mid (a 0) n j b c = z)) → i_P i_MT i_AT L xs 29 58 [some (.ref 96), some (.int (i_n b)), some (.int (i_n c)), some (.int (i_n n)), some (.int (i_n (b * 48 + c))), some (.int (i_n (c % a 0) - i_n (b % a 0))), some (.int (i_n (c / a 0) - i_n (b / a 0))), some (.long s), none, some (.int (i_n k)), y10, y11] [] h 0 0 Q := by
      intro k s y10 y11 hnk hk1 hs
      have his : o_is s (a 0 * a 1) (o_onl (a 0) b c) := by
        intro z hz
        rw [Bool.eq_iff_iff, hs z hz, Bool.and_eq_true, decide_eq_true_eq, o_onl_t, hN]
        constructor
        · rintro ⟨j, q1, q2, q3⟩
          have := o_mid_lt (k := j) (n := n) (b := b) (c := c) (W := a 0) (H := a 1) (by omega) (by omega) hb hc
          exact ⟨by omega, j, q1, q2, q3⟩
        · rintro ⟨-, q⟩; exact q
      refine d29_58 hL ?_
      try simp (disch := omega) only [n_lit, n_m, i_bo01, j_cmpn, Classical.not_not, n_add, n_mul, n_div, n_mod, n_cl, n_lt, n_le, n_eq, n_in, n_eqm, n_meq, n_mlt, n_ltm, n_mle, n_lem, not_true_eq_false, not_false_eq_true, true_implies, false_implies, true_and, and_true, Nat.not_lt_zero, Nat.zero_le]
      refine ⟨fun _ => ⟨by omega, d29_148 hL.siJ ?_⟩, fun q => absurd hnk q⟩
      try simp (disch := omega) only [n_lit, n_m, i_bo01, j_cmpn, Classical.not_not, n_add, n_mul, n_div, n_mod, n_cl, n_lt, n_le, n_eq, n_in, n_eqm, n_meq, n_mlt, n_ltm, n_mle, n_lem, not_true_eq_false, not_false_eq_true, true_implies, false_implies, true_and, and_true, Nat.not_lt_zero, Nat.zero_le]
      refine ⟨by omega, ?_⟩
      rw [i_siJ_at hL.a99]
      have fr : i_Fr [99] [] h (i_siJ h 99 (b * 48 + c) s) := i_Fr.refl.siJ (by decide)
      refine H _ _ his hL.siJ ⟨?_, ?_, ?_, ?_, ?_⟩ fr
      · rw [fr.vI (by decide), fr.vI (by decide), fr.vI (by decide)]; exact g.1
      · rw [fr.vJ (by decide), fr.vJ (by decide), fr.vJ (by decide), fr.vJ (by decide)]; exact g.2.1
      · rw [fr.rI (by decide), fr.rI (by decide)]; exact g.2.2.1
      · intro b2 c2 hb2 hc2
        by_cases e : b2 * 48 + c2 = b * 48 + c
        · have eb : b2 = b := by omega
          have ec : c2 = c := by omega
          subst eb; subst ec
          rw [i_siJ_at hL.a99]
          exact Or.inr his
        · rw [i_siJ_no hL.a99 e]
          exact g.2.2.2.1 b2 c2 hb2 hc2
      · rw [fr.rJ (by decide)]; exact g.2.2.2.2
    have key : ∀ k, k ≤ n → ∀ (s : Int64) (y10 y11 : Option Value), 1 ≤ k → (∀ z, z < 64 → (i_b s z = true ↔ ∃ j, 1 ≤ j ∧ j < k ∧ o_mid (a 0) n j b c = z)) → i_P i_MT i_AT L xs 29 58 [some (.ref 96), some (.int (i_n b)), some (.int (i_n c)), some (.int (i_n n)), some (.int (i_n (b * 48 + c))), some (.int (i_n (c % a 0) - i_n (b % a 0))), some (.int (i_n (c / a 0) - i_n (b / a 0))), some (.long s), none, some (.int (i_n k)), y10, y11] [] h 0 0 Q := by
      refine l_up ?_ ?_
      · intro s y10 y11 h1 hs
        exact fin n s y10 y11 (Nat.le_refl n) (by omega) hs
      · intro k hk ih s y10 y11 h1 hs
        have hmid := o_mid_lt (k := k) (n := n) (b := b) (c := c) (W := a 0) (H := a 1) (by omega) (by omega) hb hc
        have m1 : (n - k) * (b / a 0) ≤ 8 * 48 := Nat.mul_le_mul (by omega) (by omega)
        have m2 : k * (c / a 0) ≤ 8 * 48 := Nat.mul_le_mul (by omega) (by omega)
        have m3 : (n - k) * (b % a 0) ≤ 8 * 48 := Nat.mul_le_mul (by omega) (by omega)
        have m4 : k * (c % a 0) ≤ 8 * 48 := Nat.mul_le_mul (by omega) (by omega)
        refine d29_58 hL ?_
        try simp (disch := omega) only [n_lit, n_m, i_bo01, j_cmpn, Classical.not_not, n_add, n_mul, n_div, n_mod, n_cl, n_lt, n_le, n_eq, n_in, n_eqm, n_meq, n_mlt, n_ltm, n_mle, n_lem, not_true_eq_false, not_false_eq_true, true_implies, false_implies, true_and, and_true, Nat.not_lt_zero, Nat.zero_le, hX, hY, hW]
        refine ⟨fun q => by omega, fun _ => ⟨by omega, by omega, by omega, by omega, ?_⟩⟩
        rw [o_pt_e (by omega), o_pt_e (by omega)]
        try simp (disch := omega) only [n_lit, n_m, i_bo01, j_cmpn, Classical.not_not, n_add, n_mul, n_div, n_mod, n_cl, n_lt, n_le, n_eq, n_in, n_eqm, n_meq, n_mlt, n_ltm, n_mle, n_lem, not_true_eq_false, not_false_eq_true, true_implies, false_implies, true_and, and_true, Nat.not_lt_zero, Nat.zero_le]
        rw [show (2 * ((n - k) * (b / a 0) + k * (c / a 0)) + n) / (2 * n) * a 0 + (2 * ((n - k) * (b % a 0) + k * (c % a 0)) + n) / (2 * n) = o_mid (a 0) n k b c by unfold o_mid o_pt; rw [Nat.mul_comm]]
        refine ih _ _ _ (by omega) (fun z hz => ?_)
        rw [j_or, j_one (by omega), Bool.or_eq_true, hs z hz, decide_eq_true_eq]
        constructor
        · rintro (⟨j, q1, q2, q3⟩ | q)
          · exact ⟨j, q1, by omega, q3⟩
          · exact ⟨k, h1, by omega, q.symm⟩
        · rintro ⟨j, q1, q2, q3⟩
          by_cases e : j = k
          · subst e; exact Or.inr q3.symm
          · exact Or.inl ⟨j, q1, by omega, q3⟩
    by_cases hn1 : 1 ≤ n
    · exact key 1 hn1 0 _ _ (Nat.le_refl 1) (fun z _ => by
        rw [j_0]
        constructor
        · intro q; cases q
        · rintro ⟨j, q1, q2, -⟩; omega)
    · exact fin 1 0 _ _ (by omega) (by omega) (fun z _ => by
        rw [j_0]
        constructor
        · intro q; cases q
        · rintro ⟨j, q1, q2, -⟩; omega)
end
