/-! THE REFERENCE'S GEOMETRY: who sees what -/
section
variable {L : Nat} {xs : Nat → Int32} {h : iH} {Q : Option Value → iH → Prop} {a : Nat → Nat}
set_option maxRecDepth 20000
theorem z_div {t : Int} {n : Nat} (hn : 0 < n) : -(((2 * (n : Int)) - 1 - t) / (2 * n)) = t / (2 * n) := by
  have hp : (0 : Int) < 2 * n := by omega
  have e1 := Int.mul_ediv_add_emod t (2 * n)
  have e2 := Int.emod_nonneg t (show (2 * (n : Int)) ≠ 0 by omega)
  have e3 := Int.emod_lt_of_pos t hp
  rw [show (2 * (n : Int)) - 1 - t = ((2 * (n : Int)) - 1 - t % (2 * n)) + (2 * n) * (-(t / (2 * n))) by rw [Int.mul_neg]; omega]
  rw [Int.add_mul_ediv_left _ _ (by omega), Int.ediv_eq_zero_of_lt (by omega) (by omega)]
  omega
theorem z_tdiv {a b : Int} (ha : 0 ≤ a ∧ a < 1000000000) (hb : 0 < b ∧ b < 1000000000) : Int32.ofInt a / Int32.ofInt b = Int32.ofInt (a / b) := by
  rw [← Int.tdiv_eq_ediv_of_nonneg ha.1, Int32.ofInt_tdiv]
  · show -2147483648 ≤ a; omega
  · show a ≤ 2147483647; omega
  · show -2147483648 ≤ b; omega
  · show b ≤ 2147483647; omega
theorem c267 (hL : i_Lay h) {z : Int} {n : Nat} (hz : -10000 < z ∧ z < 10000) (hn : 0 < n ∧ n < 10000) (H : Q (some (.int (Int32.ofInt ((2 * z + n) / (2 * n))))) h) : i_C i_MT i_AT L xs 267 [.int (Int32.ofInt z), .int (i_n n)] h Q := by
  have e2 : ∀ k : Nat, (k : Int) = Int.ofNat k := fun _ => rfl
  have l2 : (2 : Int32) = Int32.ofInt 2 := rfl
  have l1 : (1 : Int32) = Int32.ofInt 1 := rfl
  have l0 : (0 : Int32) = Int32.ofInt 0 := rfl
  refine e267 (d267_0 hL ?_)
  rw [n_z, l2, l1, l0]
  simp only [← Int32.ofInt_mul, ← Int32.ofInt_add, ← Int32.ofInt_sub]
  have hne : ¬ Int32.ofInt (2 * (n : Int)) = Int32.ofInt 0 := by
    intro hh
    have := congrArg Int32.toInt hh
    rw [Int32.toInt_ofInt_of_le (by omega) (by omega), Int32.toInt_ofInt_of_le (by omega) (by omega)] at this
    omega
  refine ⟨fun h1 => ⟨hne, d267_30 hL ?_⟩, fun h1 => ⟨hne, d267_30 hL ?_⟩⟩
  · rw [n_zlt (by omega) (by omega)] at h1
    rw [z_tdiv (by omega) (by omega), ← Int32.ofInt_neg, z_div (by omega)]
    exact H
  · rw [n_zlt (by omega) (by omega)] at h1
    rw [z_tdiv (by omega) (by omega)]
    exact H
theorem o_pt_z {n k u v : Nat} (hk : k ≤ n) (hn : 0 < n) : (2 * ((k : Int) * ((v : Int) - u)) + n) / (2 * n) = (o_pt n k u v : Int) - u := by
  obtain ⟨d, rfl⟩ : ∃ d, n = k + d := ⟨n - k, by omega⟩
  unfold o_pt
  rw [show k + d - k = d by omega]
  have : ((2 * (d * u + k * v) + (k + d) : Nat) : Int) = (2 * ((k : Int) * ((v : Int) - u)) + (k + d : Nat)) + (2 * ((k + d : Nat) : Int)) * u := by
    push_cast
    rw [Int.mul_sub]
    have e1 : (2 * ((k : Int) + d)) * u = 2 * ((k : Int) * u) + 2 * ((d : Int) * u) := by
      rw [Int.mul_assoc, Int.add_mul]; omega
    omega
  rw [Int.natCast_ediv, this]
  push_cast
  rw [Int.add_mul_ediv_left _ _ (by omega)]
  omega
theorem o_pt_le {n k u v : Nat} (hk : k ≤ n) (hn : 0 < n) : o_pt n k u v ≤ max u v := by
  unfold o_pt
  have h1 : (n - k) * u ≤ (n - k) * max u v := Nat.mul_le_mul_left _ (Nat.le_max_left _ _)
  have h2 : k * v ≤ k * max u v := Nat.mul_le_mul_left _ (Nat.le_max_right _ _)
  have h3 : (n - k) * max u v + k * max u v = n * max u v := by rw [← Nat.add_mul]; congr 1; omega
  have h5 : (2 * n) * (max u v + 1) = 2 * (n * max u v) + 2 * n := by rw [Nat.mul_add (2 * n), Nat.mul_one, Nat.mul_assoc]
  have h4 : 2 * ((n - k) * u + k * v) + n < (2 * n) * (max u v + 1) := by
    rw [h5]; omega
  have := (Nat.div_lt_iff_lt_mul (show 0 < 2 * n by omega)).mpr (show 2 * ((n - k) * u + k * v) + n < (max u v + 1) * (2 * n) by rw [Nat.mul_comm (max u v + 1)]; exact h4)
  omega
theorem o_mid_lt {W H n k b c : Nat} (hk : k ≤ n) (hn : 0 < n) (hb : b < W * H) (hc : c < W * H) : o_mid W n k b c < W * H ∧ o_pt n k (b % W) (c % W) < W ∧ o_pt n k (b / W) (c / W) < H := by
  have hW : 0 < W := by
    cases W with
    | zero => simp at hb
    | succ w => omega
  have e1 := o_pt_le (u := b % W) (v := c % W) hk hn
  have e2 := o_pt_le (u := b / W) (v := c / W) hk hn
  have m1 := Nat.mod_lt b hW
  have m2 := Nat.mod_lt c hW
  have d1 : b / W < H := by rw [Nat.div_lt_iff_lt_mul hW, Nat.mul_comm]; exact hb
  have d2 : c / W < H := by rw [Nat.div_lt_iff_lt_mul hW, Nat.mul_comm]; exact hc
  have x1 : o_pt n k (b % W) (c % W) < W := by omega
  have x2 : o_pt n k (b / W) (c / W) < H := by omega
  refine ⟨?_, x1, x2⟩
  unfold o_mid
  have : W * o_pt n k (b / W) (c / W) + W ≤ W * H := by
    rw [← Nat.mul_succ]; exact Nat.mul_le_mul_left _ x2
  omega
theorem o_mid_z {W n k b c : Nat} : ((o_pt n k (b % W) (c % W) : Int) - ((b % W : Nat) : Int)) + b + W * ((o_pt n k (b / W) (c / W) : Int) - ((b / W : Nat) : Int)) = (o_mid W n k b c : Int) := by
  have hb2 := Nat.div_add_mod b W
  unfold o_mid
  generalize b / W = yb at hb2 ⊢
  generalize b % W = xb at hb2 ⊢
  generalize o_pt n k xb (c % W) = X
  generalize o_pt n k yb (c / W) = Y
  rw [Int.mul_sub, ← Int.natCast_mul, ← Int.natCast_mul]
  omega
theorem o_far_lt {W H b c : Nat} (hW : 0 < W) (hb : b < W * H) (hc : c < W * H) : o_far W b c < max W H := by
  have q3 := z_dv b W
  have q4 := z_dv c W
  unfold o_far
  have m1 := Nat.mod_lt b hW
  have m2 := Nat.mod_lt c hW
  have d1 : b / W < H := by rw [Nat.div_lt_iff_lt_mul hW, Nat.mul_comm]; exact hb
  have d2 : c / W < H := by rw [Nat.div_lt_iff_lt_mul hW, Nat.mul_comm]; exact hc
  omega
theorem o_bl_t {m c : Nat} : o_bl a m c = true ↔ o_wall a c = true ∨ ∃ k, k < a 3 ∧ o_cart a k m = c := by
  unfold o_bl
  simp [List.any_eq_true, List.mem_range]
theorem o_free_t {W : Nat} {bl : Nat → Bool} {b c : Nat} : o_free W bl b c = true ↔ ∀ k, 1 ≤ k → k < o_far W b c → bl (o_mid W (o_far W b c) k b c) = false := by
  unfold o_free
  simp only [List.all_eq_true, List.mem_range, Bool.or_eq_true, beq_iff_eq, Bool.not_eq_true']
  constructor
  · intro h k h1 h2
    rcases h k h2 with h3 | h3
    · omega
    · exact h3
  · intro h k h1
    by_cases h0 : k = 0
    · exact Or.inl h0
    · exact Or.inr (h k (by omega) h1)
theorem c269 (r : i_RA a h) {b c m : Nat} (hb : b < a 0 * a 1) (hc : c < a 0 * a 1) (hm : m ≤ 60) (H : Q (some (.int (i_bo (o_free (a 0) (o_bl a m) b c = true)))) h) : i_C i_MT i_AT L xs 269 [.ref 138, .int (i_n b), .int (i_n c), .int (i_n m)] h Q := by
  have hA := r.2.2.1
  have hK := r.2.2.2.2.2
  have hp := r.2.1.pos hb
  have h48 := r.2.1.c48
  have h3 := r.2.1.2.2.1
  have e1 : b % a 0 < 8 := by have := Nat.mod_lt b (show a 0 > 0 by omega); omega
  have e2 : c % a 0 < 8 := by have := Nat.mod_lt c (show a 0 > 0 by omega); omega
  have e3 : b / a 0 < 48 := by have := Nat.div_le_self b (a 0); omega
  have q3 := z_dv b (a 0)
  have e4 : c / a 0 < 48 := by have := Nat.div_le_self c (a 0); omega
  have q4 := z_dv c (a 0)
  have hn := o_far_lt (show 0 < a 0 by omega) hb hc
  generalize hN : o_far (a 0) b c = n at hn
  have hn8 : n < 8 := by omega
  refine e269 (d269_0 r.1 ?_)
  try simp (disch := omega) only [n_lit, n_m, n_add, n_mul, n_div, n_mod, n_cl, n_lt, n_le, n_eq, n_in, n_eqm, n_meq, n_mlt, n_ltm, n_mle, n_lem, not_true_eq_false, not_false_eq_true, true_implies, false_implies, true_and, and_true, Nat.not_lt_zero, Nat.zero_le, hA]
  refine c268 r hb hc ⟨_, rfl, d269_14 r.1 ?_⟩
  rw [hN]
  try simp (disch := omega) only [n_lit, n_m, n_add, n_mul, n_div, n_mod, n_cl, n_lt, n_le, n_eq, n_in, n_eqm, n_meq, n_mlt, n_ltm, n_mle, n_lem, not_true_eq_false, not_false_eq_true, true_implies, false_implies, true_and, and_true, Nat.not_lt_zero, Nat.zero_le]
  refine ⟨by omega, by omega, by omega, by omega, ?_⟩
  have key : ∀ k, k ≤ n → (∀ y9 y10 : Option Value, (∀ j, 1 ≤ j → j < k → o_bl a m (o_mid (a 0) n j b c) = false) → 1 ≤ k → i_P i_MT i_AT L xs 269 41 [some (.ref 138), some (.int (i_n b)), some (.int (i_n c)), some (.int (i_n m)), some (.int (i_n (a 0))), some (.int (i_n n)), some (.int (i_n (c % a 0) - i_n (b % a 0))), some (.int (i_n (c / a 0) - i_n (b / a 0))), some (.int (i_n k)), y9, y10] [] h 0 0 Q) := by
    refine l_up ?_ ?_
    · intro y9 y10 hj h1
      refine d269_41 r.1 ?_
      try simp (disch := omega) only [n_lit, n_m, n_add, n_mul, n_div, n_mod, n_cl, n_lt, n_le, n_eq, n_in, n_eqm, n_meq, n_mlt, n_ltm, n_mle, n_lem, not_true_eq_false, not_false_eq_true, true_implies, false_implies, true_and, and_true, Nat.not_lt_zero, Nat.zero_le, Nat.le_refl]
      rw [i_bo_t (o_free_t.mpr (by rw [hN]; exact hj))] at H
      exact H
    · intro k hk ih y9 y10 hj h1
      have hmid := o_mid_lt (k := k) (n := n) (b := b) (c := c) (W := a 0) (H := a 1) (by omega) (by omega) hb hc
      have t1 := o_pt_z (n := n) (k := k) (u := b % a 0) (v := c % a 0) (by omega) (by omega)
      have t2 := o_pt_z (n := n) (k := k) (u := b / a 0) (v := c / a 0) (by omega) (by omega)
      have bd : ∀ u v : Nat, u < 48 → v < 48 → -10000 < (k : Int) * ((v : Int) - u) ∧ (k : Int) * ((v : Int) - u) < 10000 := by
        intro u v hu hv
        have : k = 0 ∨ k = 1 ∨ k = 2 ∨ k = 3 ∨ k = 4 ∨ k = 5 ∨ k = 6 ∨ k = 7 := by omega
        rcases this with h | h | h | h | h | h | h | h <;> rw [h] <;> omega
      refine d269_41 r.1 ?_
      try simp (disch := omega) only [n_lit, n_m, n_add, n_mul, n_div, n_mod, n_cl, n_lt, n_le, n_eq, n_in, n_eqm, n_meq, n_mlt, n_ltm, n_mle, n_lem, not_true_eq_false, not_false_eq_true, true_implies, false_implies, true_and, and_true, Nat.not_lt_zero, Nat.zero_le]
      refine ⟨fun h2 => by omega, fun _ => ?_⟩
      rw [n_sz, n_sz, n_z k, ← Int32.ofInt_mul]
      refine c267 r.1 (bd _ _ (by omega) (by omega)) (by omega) ⟨_, rfl, d269_59 r.1 ?_⟩
      rw [← Int32.ofInt_mul]
      refine c267 r.1 (bd _ _ (by omega) (by omega)) (by omega) ⟨_, rfl, d269_72 r.1 ?_⟩
      have em : Int32.ofInt ((2 * ((k : Int) * (((c % a 0 : Nat) : Int) - ((b % a 0 : Nat) : Int))) + n) / (2 * n)) + i_n b + i_n (a 0) * Int32.ofInt ((2 * ((k : Int) * (((c / a 0 : Nat) : Int) - ((b / a 0 : Nat) : Int))) + n) / (2 * n)) = i_n (o_mid (a 0) n k b c) := by
        rw [t1, t2, n_z b, n_z (a 0), n_z (o_mid _ _ _ _ _), ← Int32.ofInt_mul, ← Int32.ofInt_add, ← Int32.ofInt_add, o_mid_z]
      have em2 : i_n b + Int32.ofInt ((2 * ((k : Int) * (((c % a 0 : Nat) : Int) - ((b % a 0 : Nat) : Int))) + n) / (2 * n)) + i_n (a 0) * Int32.ofInt ((2 * ((k : Int) * (((c / a 0 : Nat) : Int) - ((b / a 0 : Nat) : Int))) + n) / (2 * n)) = i_n (o_mid (a 0) n k b c) := by
        rw [← em, Int32.add_comm (i_n b)]
      rw [← n_z k]
      first | rw [em] | rw [em2] | skip
      generalize hM : o_mid (a 0) n k b c = mid at *
      have hwb := o_wall_f r.2.1 (c := mid) (by omega)
      try simp (disch := omega) only [n_lit, n_m, n_add, n_mul, n_div, n_mod, n_cl, n_lt, n_le, n_eq, n_in, n_eqm, n_meq, n_mlt, n_ltm, n_mle, n_lem, not_true_eq_false, not_false_eq_true, true_implies, false_implies, true_and, and_true, Nat.not_lt_zero, Nat.zero_le, hA]
      have nxt : ∀ (ca : Int32), o_bl a m mid = false → i_P i_MT i_AT L xs 269 136 [some (.ref 138), some (.int (i_n b)), some (.int (i_n c)), some (.int (i_n m)), some (.int (i_n (a 0))), some (.int (i_n n)), some (.int (i_n (c % a 0) - i_n (b % a 0))), some (.int (i_n (c / a 0) - i_n (b / a 0))), some (.int (i_n k)), some (.int (i_n mid)), some (.int ca)] [] h 0 0 Q := by
        intro ca hb0
        refine d269_136 r.1 ?_
        try simp (disch := omega) only [n_lit, n_m, n_add, n_mul, n_div, n_mod, n_cl, n_lt, n_le, n_eq, n_in, n_eqm, n_meq, n_mlt, n_ltm, n_mle, n_lem, not_true_eq_false, not_false_eq_true, true_implies, false_implies, true_and, and_true, Nat.not_lt_zero, Nat.zero_le]
        refine ih _ _ (fun j h1 h2 => ?_) (by omega)
        by_cases hjk : j = k
        · rw [hjk, hM]; exact hb0
        · exact hj j h1 (by omega)
      have bad : o_bl a m mid = true → Q (some (.int 0)) h := by
        intro hb1
        rw [i_bo_f (fun z => by have := o_free_t.mp z k h1 (by rw [hN]; exact hk); rw [hN, hM, hb1] at this; cases this)] at H
        exact H
      rw [← n_sz, ← n_sz]
      refine ⟨by omega, fun hw => ?_, fun hw => bad (o_bl_t.mpr (Or.inl (by unfold o_wall; simp; omega)))⟩
      have hwall : o_wall a mid = false := by unfold o_wall; simpa using hw
      have cart : ∀ i, i ≤ a 3 → ((∀ j, j < i → o_cart a j m ≠ mid) → i_P i_MT i_AT L xs 269 95 [some (.ref 138), some (.int (i_n b)), some (.int (i_n c)), some (.int (i_n m)), some (.int (i_n (a 0))), some (.int (i_n n)), some (.int (i_n (c % a 0) - i_n (b % a 0))), some (.int (i_n (c / a 0) - i_n (b / a 0))), some (.int (i_n k)), some (.int (i_n mid)), some (.int (i_n i))] [] h 0 0 Q) := by
        refine l_up ?_ ?_
        · intro hj2
          refine d269_95 r.1 ?_
          try simp (disch := omega) only [n_lit, n_m, n_add, n_mul, n_div, n_mod, n_cl, n_lt, n_le, n_eq, n_in, n_eqm, n_meq, n_mlt, n_ltm, n_mle, n_lem, not_true_eq_false, not_false_eq_true, true_implies, false_implies, true_and, and_true, Nat.not_lt_zero, Nat.zero_le, hA, Nat.le_refl]
          refine nxt _ ?_
          cases hbl : o_bl a m mid with
          | false => rfl
          | true =>
            rcases o_bl_t.mp hbl with z | ⟨j, z1, z2⟩
            · rw [hwall] at z; cases z
            · exact absurd z2 (hj2 j z1)
        · intro i hi ih2 hj2
          have hcl := o_cart_ok r.2.1 hi m
          refine d269_95 r.1 ?_
          try simp (disch := omega) only [n_lit, n_m, n_add, n_mul, n_div, n_mod, n_cl, n_lt, n_le, n_eq, n_in, n_eqm, n_meq, n_mlt, n_ltm, n_mle, n_lem, not_true_eq_false, not_false_eq_true, true_implies, false_implies, true_and, and_true, Nat.not_lt_zero, Nat.zero_le, hA, hK]
          refine ⟨fun z => by omega, fun _ => ⟨by omega, fun z => ih2 (fun j hj3 => ?_), fun z => bad (o_bl_t.mpr (Or.inr ⟨i, hi, Classical.not_not.mp z⟩))⟩⟩
          by_cases hji : j = i
          · rw [hji]; exact z
          · exact hj2 j (by omega)
      exact cart 0 (Nat.zero_le _) (fun j hj2 => absurd hj2 (Nat.not_lt_zero j))
  by_cases hn1 : 1 ≤ n
  · exact key 1 hn1 _ _ (fun j z1 z2 => by omega) (Nat.le_refl 1)
  · refine d269_41 r.1 ?_
    try simp (disch := omega) only [n_lit, n_m, n_add, n_mul, n_div, n_mod, n_cl, n_lt, n_le, n_eq, n_in, n_eqm, n_meq, n_mlt, n_ltm, n_mle, n_lem, not_true_eq_false, not_false_eq_true, true_implies, false_implies, true_and, and_true, Nat.not_lt_zero, Nat.zero_le]
    refine ⟨fun _ => ?_, fun z => by omega⟩
    rw [i_bo_t (o_free_t.mpr (fun j z1 z2 => by omega))] at H
    exact H
end
