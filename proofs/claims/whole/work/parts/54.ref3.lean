/-! THE REFERENCE: sight, weights, what may be -/
section
variable {L : Nat} {xs : Nat → Int32} {h : iH} {Q : Option Value → iH → Prop} {a : Nat → Nat}
set_option maxRecDepth 20000
theorem c270 (r : i_RA a h) {b c f m : Nat} (hb : b < a 0 * a 1) (hc : c < a 0 * a 1) (hf : f < 100) (hm : m ≤ 60) (H : Q (some (.int (i_bo (b ≠ c ∧ o_far (a 0) b c ≤ f ∧ o_free (a 0) (o_bl a m) b c = true)))) h) : i_C i_MT i_AT L xs 270 [.ref 138, .int (i_n b), .int (i_n c), .int (i_n f), .int (i_n m)] h Q := by
  have h48 := r.2.1.c48
  have hp := r.2.1.pos hb
  have hn := o_far_lt (show 0 < a 0 by omega) hb hc
  have no : ¬ (b ≠ c ∧ o_far (a 0) b c ≤ f ∧ o_free (a 0) (o_bl a m) b c = true) → i_P i_MT i_AT L xs 270 30 [some (.ref 138), some (.int (i_n b)), some (.int (i_n c)), some (.int (i_n f)), some (.int (i_n m))] [] h 0 0 Q := by
    intro z
    rw [i_bo_f z] at H
    exact d270_30 r.1 (d270_31 r.1 ⟨rfl, H⟩)
  refine e270 (d270_0 r.1 ?_)
  try simp (disch := omega) only [n_lit, n_m, n_add, n_mul, n_div, n_mod, n_cl, n_lt, n_le, n_eq, n_in, n_eqm, n_meq, n_mlt, n_ltm, n_mle, n_lem, not_true_eq_false, not_false_eq_true, true_implies, false_implies, true_and, and_true, Nat.not_lt_zero, Nat.zero_le]
  refine ⟨fun z => no (fun q => q.1 z), fun z => c268 r hb hc ⟨_, rfl, d270_11 r.1 ?_⟩⟩
  try simp (disch := omega) only [n_lit, n_m, n_add, n_mul, n_div, n_mod, n_cl, n_lt, n_le, n_eq, n_in, n_eqm, n_meq, n_mlt, n_ltm, n_mle, n_lem, not_true_eq_false, not_false_eq_true, true_implies, false_implies, true_and, and_true, Nat.not_lt_zero, Nat.zero_le]
  refine ⟨fun z2 => no (fun q => by omega), fun z2 => c269 r hb hc hm ⟨_, rfl, d270_23 r.1 ?_⟩⟩
  try simp (disch := omega) only [n_lit, n_m, n_add, n_mul, n_div, n_mod, n_cl, n_lt, n_le, n_eq, n_in, n_eqm, n_meq, n_mlt, n_ltm, n_mle, n_lem, not_true_eq_false, not_false_eq_true, true_implies, false_implies, true_and, and_true, Nat.not_lt_zero, Nat.zero_le, i_bo01, Classical.not_not]
  refine ⟨fun z3 => no (fun q => z3 q.2.2), fun z3 => d270_31 r.1 ⟨rfl, ?_⟩⟩
  rw [i_bo_t ⟨z, by omega, z3⟩] at H
  exact H
theorem n_zabs {z : Int} (hz : -100000 < z ∧ z < 100000) : (if (0 : Int32) ≤ Int32.ofInt z then Int32.ofInt z else -(Int32.ofInt z)) = Int32.ofInt (z.natAbs : Int) := by
  rw [show (0 : Int32) = Int32.ofInt 0 from rfl]
  by_cases h0 : 0 ≤ z
  · rw [if_pos ((n_zle (by omega) (by omega)).mpr h0), Int.natAbs_of_nonneg h0]
  · rw [if_neg (fun q => h0 ((n_zle (by omega) (by omega)).mp q)), ← Int32.ofInt_neg]
    congr 1
    omega
theorem o_bd {u v : Nat} {e : Nat} (hu : u < 48) (hv : v < 48) (he : e ≤ 2) : -1000 < ((v : Int) - u) * ((e : Int) - 1) ∧ ((v : Int) - u) * ((e : Int) - 1) < 1000 := by
  have : e = 0 ∨ e = 1 ∨ e = 2 := by omega
  rcases this with h | h | h <;> rw [h] <;> omega
theorem o_far0 {W b : Nat} : o_far W b b = 0 := by unfold o_far; omega
theorem c271 (r : i_RA a h) {b w f c m : Nat} (hb : b < a 0 * a 1) (hw : w < 8) (hf : f < 100) (hc : c < a 0 * a 1) (hm : m ≤ 60) (H : Q (some (.int (i_bo (o_seen (a 0) (o_bl a m) b w f c = true)))) h) : i_C i_MT i_AT L xs 271 [.ref 138, .int (i_n b), .int (i_n w), .int (i_n f), .int (i_n c), .int (i_n m)] h Q := by
  have hA := r.2.2.1
  have hE := r.2.2.2.1
  have hE1 : ∀ k, k < 8 → aI h 141 k = i_n (o_ex k) - i_n 1 := fun k hk => (hE k hk).1
  have hE2 : ∀ k, k < 8 → aI h 142 k = i_n (o_sy k) - i_n 1 := fun k hk => (hE k hk).2
  have h48 := r.2.1.c48
  have hp := r.2.1.pos hb
  have e1 : b % a 0 < 8 := by have := Nat.mod_lt b (show a 0 > 0 by omega); omega
  have e2 : c % a 0 < 8 := by have := Nat.mod_lt c (show a 0 > 0 by omega); omega
  have e3 : b / a 0 < 48 := by have := Nat.div_le_self b (a 0); omega
  have q3 := z_dv b (a 0)
  have e4 : c / a 0 < 48 := by have := Nat.div_le_self c (a 0); omega
  have q4 := z_dv c (a 0)
  have e5 := o_ex_le w
  have e6 := o_sy_le w
  have b1 := o_bd (u := b % a 0) (v := c % a 0) (e := o_ex w) (by omega) (by omega) (by omega)
  have b2 := o_bd (u := b / a 0) (v := c / a 0) (e := o_sy w) (by omega) (by omega) (by omega)
  have b3 := o_bd (u := b % a 0) (v := c % a 0) (e := o_sy w) (by omega) (by omega) (by omega)
  have b4 := o_bd (u := b / a 0) (v := c / a 0) (e := o_ex w) (by omega) (by omega) (by omega)
  have one : i_n 1 = Int32.ofInt 1 := rfl
  have f1 : (i_n (c % a 0) - i_n (b % a 0)) * (i_n (o_ex w) - i_n 1) + (i_n (c / a 0) - i_n (b / a 0)) * (i_n (o_sy w) - i_n 1) = Int32.ofInt (o_fx (a 0) b w c) := by
    rw [n_sz, n_sz, n_sz, n_sz, ← Int32.ofInt_mul, ← Int32.ofInt_mul, ← Int32.ofInt_add]
    rfl
  have f2 : (i_n (c % a 0) - i_n (b % a 0)) * (i_n (o_sy w) - i_n 1) - (i_n (c / a 0) - i_n (b / a 0)) * (i_n (o_ex w) - i_n 1) = Int32.ofInt (o_sx (a 0) b w c) := by
    rw [n_sz, n_sz, n_sz, n_sz, ← Int32.ofInt_mul, ← Int32.ofInt_mul, ← Int32.ofInt_sub]
    rfl
  have g1 : -2000 < o_fx (a 0) b w c ∧ o_fx (a 0) b w c < 2000 := by unfold o_fx; omega
  have g2 : -2000 < o_sx (a 0) b w c ∧ o_sx (a 0) b w c < 2000 := by unfold o_sx; omega
  have no : ¬ o_seen (a 0) (o_bl a m) b w f c = true → ∀ u1 u2 u3 u4 : Int32, i_P i_MT i_AT L xs 271 114 [some (.ref 138), some (.int (i_n b)), some (.int (i_n w)), some (.int (i_n f)), some (.int (i_n c)), some (.int (i_n m)), some (.int u1), some (.int u2), some (.int u3), some (.int u4)] [] h 0 0 Q := by
    intro z u1 u2 u3 u4
    rw [i_bo_f z] at H
    exact d271_114 r.1 (d271_115 r.1 ⟨rfl, H⟩)
  refine e271 (d271_0 r.1 ?_)
  try simp (disch := omega) only [n_lit, n_m, n_add, n_mul, n_div, n_mod, n_cl, n_lt, n_le, n_eq, n_in, n_eqm, n_meq, n_mlt, n_ltm, n_mle, n_lem, not_true_eq_false, not_false_eq_true, true_implies, false_implies, true_and, and_true, Nat.not_lt_zero, Nat.zero_le, hA, hE1, hE2]
  rw [f1, f2]
  refine ⟨by omega, by omega, by omega, by omega, hw, hw, hw, hw, c335 ⟨_, rfl, d271_83 r.1 ?_⟩⟩
  rw [n_zabs (by omega)]
  rw [show (0 : Int32) = Int32.ofInt 0 from rfl, n_zle (by omega) (by omega), n_zlt (by omega) (by omega)]
  unfold o_seen o_cone at no H
  refine ⟨fun z => no (fun q => ?_) _ _ _ _, fun z => ⟨fun z2 => no (fun q => ?_) _ _ _ _, fun z2 => c270 r hb hc hf hm ⟨_, rfl, d271_107 r.1 ?_⟩⟩⟩
  · simp only [Bool.and_eq_true, decide_eq_true_eq] at q
    omega
  · simp only [Bool.and_eq_true, decide_eq_true_eq] at q
    omega
  try simp (disch := omega) only [n_lit, n_m, n_add, n_mul, n_div, n_mod, n_cl, n_lt, n_le, n_eq, n_in, n_eqm, n_meq, n_mlt, n_ltm, n_mle, n_lem, not_true_eq_false, not_false_eq_true, true_implies, false_implies, true_and, and_true, Nat.not_lt_zero, Nat.zero_le, i_bo01, Classical.not_not]
  refine ⟨fun z3 => no (fun q => z3 ?_) _ _ _ _, fun z3 => d271_115 r.1 ⟨rfl, ?_⟩⟩
  · simp only [Bool.and_eq_true, decide_eq_true_eq] at q
    refine ⟨fun e => ?_, q.1.2, q.2⟩
    subst e
    have : o_fx (a 0) b w b = 0 := by unfold o_fx; simp
    omega
  · rw [i_bo_t (by simp only [Bool.and_eq_true, decide_eq_true_eq]; exact ⟨⟨⟨by omega, by omega⟩, z3.2.1⟩, z3.2.2⟩)] at H
    exact H
theorem i_RA.p (r : i_RA a h) {p m : Nat} (hp : p < a 5) (hm : m ≤ 60) : o_cell a p m < a 0 * a 1 ∧ o_cell a p m < 48 ∧ o_look a p m < 8 ∧ o_did a p m ≤ 4 := by
  have := o_cr_ok r.2.1 hp m hm
  have := r.2.1.c48
  omega
theorem c272 (r : i_RA a h) {p c m : Nat} (hp : p < a 5) (hc : c < a 0 * a 1) (hm : m ≤ 60) (H : Q (some (.int (i_bo (o_sees a p c m = true)))) h) : i_C i_MT i_AT L xs 272 [.ref 138, .int (i_n p), .int (i_n c), .int (i_n m)] h Q := by
  have h5 := r.2.1.2.2.2.2.1
  have hC : ∀ p m, p < a 5 → m ≤ 60 → aI h 151 (61 * p + m) = i_n (o_cell a p m) := fun p m x y => (r.2.2.2.2.1 p m x y).1
  have hK : ∀ p m, p < a 5 → m ≤ 60 → aI h 152 (61 * p + m) = i_n (o_look a p m) := fun p m x y => (r.2.2.2.2.1 p m x y).2.1
  have hpp := r.p hp hm
  have hfar := (r.2.1.2.2.2.2.2.2.2.2.2.2.1 p hp).2.2.2.2.1
  refine e272 (d272_0 r.1 ?_)
  try simp (disch := omega) only [n_lit, n_m, n_add, n_mul, n_div, n_mod, n_cl, n_lt, n_le, n_eq, n_in, n_eqm, n_meq, n_mlt, n_ltm, n_mle, n_lem, not_true_eq_false, not_false_eq_true, true_implies, false_implies, true_and, and_true, Nat.not_lt_zero, Nat.zero_le, hC, hK]
  refine ⟨by omega, by omega, c256 r (by omega) (by omega) ⟨_, rfl, d272_29 r.1 ?_⟩⟩
  rw [show 154 + 5 * p + 2 = 156 + 5 * p by omega]
  exact c271 r hpp.1 hpp.2.2.1 (by omega) hc hm ⟨_, rfl, d272_34 r.1 ⟨i_bo_ret, H⟩⟩
theorem c274 (r : i_RA a h) {p m : Nat} (hp : p < a 5) (hm : m ≤ 60) (H : Q (some (.int (i_bo (o_moved a p m = true)))) h) : i_C i_MT i_AT L xs 274 [.ref 138, .int (i_n p), .int (i_n m)] h Q := by
  have h5 := r.2.1.2.2.2.2.1
  have hD : ∀ p m, p < a 5 → m ≤ 60 → aI h 153 (61 * p + m) = i_n (o_did a p m) := fun p m x y => (r.2.2.2.2.1 p m x y).2.2
  have hpp := r.p hp hm
  have yes : o_moved a p m = true → ∀ u : Int32, i_P i_MT i_AT L xs 274 27 [some (.ref 138), some (.int (i_n p)), some (.int (i_n m)), some (.int u)] [] h 0 0 Q := by
    intro z u
    rw [i_bo_t z] at H
    exact d274_27 r.1 (d274_32 r.1 ⟨rfl, H⟩)
  refine e274 (d274_0 r.1 ?_)
  try simp (disch := omega) only [n_lit, n_m, n_add, n_mul, n_div, n_mod, n_cl, n_lt, n_le, n_eq, n_in, n_eqm, n_meq, n_mlt, n_ltm, n_mle, n_lem, not_true_eq_false, not_false_eq_true, true_implies, false_implies, true_and, and_true, Nat.not_lt_zero, Nat.zero_le, hD]
  refine ⟨by omega, fun z => yes (by unfold o_moved; simp [z]) _, fun z => ⟨fun z2 => yes (by unfold o_moved; simp [z2]) _, fun z2 => ⟨fun z3 => d274_32 r.1 ⟨rfl, ?_⟩, fun z3 => yes (by unfold o_moved; simp [Classical.not_not.mp z3]) _⟩⟩⟩
  rw [i_bo_f (by unfold o_moved; simp; omega)] at H
  exact H
theorem c275 (r : i_RA a h) {p c d m : Nat} (hp : p < a 5) (hc : c < a 0 * a 1) (hd : d ≤ 4) (hm : m ≤ 60) (H : Q (some (.int (i_n (o_wgh a p c d m)))) h) : i_C i_MT i_AT L xs 275 [.ref 138, .int (i_n p), .int (i_n c), .int (i_n d), .int (i_n m)] h Q := by
  have hA := r.2.2.1
  have h48 := r.2.1.c48
  have h5 := r.2.1.2.2.2.2.1
  have hsw := o_sway_le r.2.1 (c := c) (by omega)
  have h9 := r.2.1.2.2.2.2.2.1
  have fin : o_sees a p c m = true → ∀ (i : Nat) (u : Option Value), i = o_its a p d m → i_P i_MT i_AT L xs 275 62 [some (.ref 138), some (.int (i_n p)), some (.int (i_n c)), some (.int (i_n d)), some (.int (i_n m)), u] [.int (i_n i)] h 0 0 Q := by
    intro z i u hi
    have hi16 := o_its_le r.2.1 (p := p) (m := m) hd
    rw [← hi] at hi16
    have hml : i * (16 - o_sway a c) ≤ 16 * 16 := Nat.mul_le_mul hi16 (by omega)
    refine d275_62 r.1 (c259 r (by omega) ⟨_, rfl, d275_73 r.1 ?_⟩)
    try simp (disch := omega) only [n_lit, n_m, n_add, n_mul, n_div, n_mod, n_cl, n_lt, n_le, n_eq, n_in, n_eqm, n_meq, n_mlt, n_ltm, n_mle, n_lem, not_true_eq_false, not_false_eq_true, true_implies, false_implies, true_and, and_true, Nat.not_lt_zero, Nat.zero_le, n_sub]
    unfold o_wgh at H
    rw [if_pos z, ← hi] at H
    exact H
  refine e275 (d275_0 r.1 (c272 r hp hc hm ⟨_, rfl, d275_8 r.1 ?_⟩))
  try simp (disch := omega) only [n_lit, n_m, n_add, n_mul, n_div, n_mod, n_cl, n_lt, n_le, n_eq, n_in, n_eqm, n_meq, n_mlt, n_ltm, n_mle, n_lem, not_true_eq_false, not_false_eq_true, true_implies, false_implies, true_and, and_true, Nat.not_lt_zero, Nat.zero_le, i_bo01, Classical.not_not]
  refine ⟨fun z => ⟨fun z1 => ⟨fun z2 => ⟨?_, ?_⟩, fun z2 => ?_⟩, fun z1 => fin z 16 _ (by unfold o_its; rw [if_pos z1])⟩, fun z => ?_⟩
  · try simp (disch := omega) only [n_lit, n_m, n_add, n_mul, n_div, n_mod, n_cl, n_lt, n_le, n_eq, n_in, n_eqm, n_meq, n_mlt, n_ltm, n_mle, n_lem, not_true_eq_false, not_false_eq_true, true_implies, false_implies, true_and, and_true, Nat.not_lt_zero, Nat.zero_le, n_sub]
    omega
  · try simp (disch := omega) only [n_lit, n_m, n_add, n_mul, n_div, n_mod, n_cl, n_lt, n_le, n_eq, n_in, n_eqm, n_meq, n_mlt, n_ltm, n_mle, n_lem, not_true_eq_false, not_false_eq_true, true_implies, false_implies, true_and, and_true, Nat.not_lt_zero, Nat.zero_le, n_sub, hA]
    refine fin z _ _ ?_
    unfold o_its
    rw [if_neg z1, if_neg z2]
    congr 1
    omega
  · subst z2
    refine c274 r hp hm ⟨_, rfl, d275_34 r.1 ?_⟩
    try simp (disch := omega) only [n_lit, n_m, n_add, n_mul, n_div, n_mod, n_cl, n_lt, n_le, n_eq, n_in, n_eqm, n_meq, n_mlt, n_ltm, n_mle, n_lem, not_true_eq_false, not_false_eq_true, true_implies, false_implies, true_and, and_true, Nat.not_lt_zero, Nat.zero_le, i_bo01, Classical.not_not, hA]
    refine ⟨fun z3 => fin z _ _ ?_, fun z3 => fin z _ _ ?_⟩
    · unfold o_its
      rw [if_neg (by omega), if_pos rfl, if_neg z3]
    · unfold o_its
      rw [if_neg (by omega), if_pos rfl, if_pos z3]
  · unfold o_wgh at H
    rw [if_neg z] at H
    exact H
theorem c276 (r : i_RA a h) {p q m : Nat} (hp : p < a 5) (hq : q < a 5) (hm : m ≤ 60) (H : Q (some (.int (i_n (o_wt a p q m)))) h) : i_C i_MT i_AT L xs 276 [.ref 138, .int (i_n p), .int (i_n q), .int (i_n m)] h Q := by
  have h5 := r.2.1.2.2.2.2.1
  have hC : ∀ p m, p < a 5 → m ≤ 60 → aI h 151 (61 * p + m) = i_n (o_cell a p m) := fun p m x y => (r.2.2.2.2.1 p m x y).1
  have hD : ∀ p m, p < a 5 → m ≤ 60 → aI h 153 (61 * p + m) = i_n (o_did a p m) := fun p m x y => (r.2.2.2.2.1 p m x y).2.2
  have hqq := r.p hq hm
  refine e276 (d276_0 r.1 ?_)
  try simp (disch := omega) only [n_lit, n_m, n_add, n_mul, n_div, n_mod, n_cl, n_lt, n_le, n_eq, n_in, n_eqm, n_meq, n_mlt, n_ltm, n_mle, n_lem, not_true_eq_false, not_false_eq_true, true_implies, false_implies, true_and, and_true, Nat.not_lt_zero, Nat.zero_le, hC, hD]
  exact ⟨by omega, by omega, c275 r hp hqq.1 hqq.2.2.2 hm ⟨_, rfl, d276_28 r.1 H⟩⟩
theorem c282 (r : i_RA a h) {b p : Nat} (hb : b < 8) (hp : p < a 5) (H : Q (some (.int (i_bo (o_wat a b p = true)))) h) : i_C i_MT i_AT L xs 282 [.ref 138, .int (i_n b), .int (i_n p)] h Q := by
  have h5 := r.2.1.2.2.2.2.1
  have hw := (r.2.1.2.2.2.2.2.2.2.2.2.2.1 p hp).2.2.2.2.2.1
  have hlt := n_bitlt (a (157 + 5 * p)) b
  unfold o_wat at H
  refine e282 (d282_0 r.1 (c256 (w := 3) r (by omega) (by omega) ⟨_, rfl, d282_6 r.1 ?_⟩))
  rw [show 154 + 5 * p + 3 = 157 + 5 * p by omega]
  try simp (disch := omega) only [n_lit, n_m, n_add, n_mul, n_div, n_mod, n_cl, n_lt, n_le, n_eq, n_in, n_eqm, n_meq, n_mlt, n_ltm, n_mle, n_lem, not_true_eq_false, not_false_eq_true, true_implies, false_implies, true_and, and_true, Nat.not_lt_zero, Nat.zero_le, n_shr2, n_and, n_bit1, Classical.not_not]
  refine ⟨fun z => d282_19 r.1 ⟨rfl, ?_⟩, fun z => d282_19 r.1 ⟨rfl, ?_⟩⟩
  · rw [i_bo_f z] at H; exact H
  · rw [i_bo_t z] at H; exact H
theorem c285 (r : i_RA a h) {b c : Nat} (hb : b < a 0 * a 1) (hc : c < a 0 * a 1) (H : Q (some (.int (i_bo (o_far (a 0) b c = 1)))) h) : i_C i_MT i_AT L xs 285 [.ref 138, .int (i_n b), .int (i_n c)] h Q := by
  have hp := r.2.1.pos hb
  have hn := o_far_lt (show 0 < a 0 by omega) hb hc
  refine e285 (d285_0 r.1 (c268 r hb hc ⟨_, rfl, d285_6 r.1 ?_⟩))
  try simp (disch := omega) only [n_lit, n_m, n_add, n_mul, n_div, n_mod, n_cl, n_lt, n_le, n_eq, n_in, n_eqm, n_meq, n_mlt, n_ltm, n_mle, n_lem, not_true_eq_false, not_false_eq_true, true_implies, false_implies, true_and, and_true, Nat.not_lt_zero, Nat.zero_le, Classical.not_not]
  refine ⟨fun z => d285_15 r.1 ⟨rfl, ?_⟩, fun z => d285_15 r.1 ⟨rfl, ?_⟩⟩
  · rw [i_bo_f z] at H; exact H
  · rw [i_bo_t z] at H; exact H
/-- nobody who watches p sees such a move on c -/
def o_uns (a : Nat → Nat) (p c d m : Nat) : Bool := (List.range (a 5)).all (fun b => !(o_wat a b p) || o_wgh a b c d m == 0)
theorem o_uns_t {p c d m : Nat} : o_uns a p c d m = true ↔ ∀ b, b < a 5 → o_wat a b p = true → o_wgh a b c d m = 0 := by
  unfold o_uns
  simp only [List.all_eq_true, List.mem_range, Bool.or_eq_true, beq_iff_eq, Bool.not_eq_true']
  constructor
  · intro h b hb hw
    rcases h b hb with z | z
    · rw [hw] at z; cases z
    · exact z
  · intro h b hb
    cases hw : o_wat a b p with
    | false => exact Or.inl rfl
    | true => exact Or.inr (h b hb hw)
theorem c284 (r : i_RA a h) {p c d m : Nat} (hp : p < a 5) (hc : c < a 0 * a 1) (hd : d ≤ 4) (hm : m ≤ 60) (H : Q (some (.int (i_bo (o_uns a p c d m = true)))) h) : i_C i_MT i_AT L xs 284 [.ref 138, .int (i_n p), .int (i_n c), .int (i_n d), .int (i_n m)] h Q := by
  have hA := r.2.2.1
  have h48 := r.2.1.c48
  have h5 := r.2.1.2.2.2.2.1
  have key : ∀ k, k ≤ a 5 → ((∀ j, j < k → o_wat a j p = true → o_wgh a j c d m = 0) → i_P i_MT i_AT L xs 284 3 [some (.ref 138), some (.int (i_n p)), some (.int (i_n c)), some (.int (i_n d)), some (.int (i_n m)), some (.int (i_n k))] [] h 0 0 Q) := by
    refine l_up ?_ ?_
    · intro hj
      refine d284_3 r.1 ?_
      try simp (disch := omega) only [n_lit, n_m, n_add, n_mul, n_div, n_mod, n_cl, n_lt, n_le, n_eq, n_in, n_eqm, n_meq, n_mlt, n_ltm, n_mle, n_lem, not_true_eq_false, not_false_eq_true, true_implies, false_implies, true_and, and_true, Nat.not_lt_zero, Nat.zero_le, hA, Nat.le_refl]
      rw [i_bo_t (o_uns_t.mpr hj)] at H
      exact H
    · intro k hk ih hj
      have hg := o_wgh_le r.2.1 (p := k) (c := c) (m := m) hd (by omega)
      have nx : (o_wat a k p = true → o_wgh a k c d m = 0) → i_P i_MT i_AT L xs 284 39 [some (.ref 138), some (.int (i_n p)), some (.int (i_n c)), some (.int (i_n d)), some (.int (i_n m)), some (.int (i_n k))] [] h 0 0 Q := by
        intro z
        refine d284_39 r.1 ?_
        try simp (disch := omega) only [n_lit, n_m, n_add, n_mul, n_div, n_mod, n_cl, n_lt, n_le, n_eq, n_in, n_eqm, n_meq, n_mlt, n_ltm, n_mle, n_lem, not_true_eq_false, not_false_eq_true, true_implies, false_implies, true_and, and_true, Nat.not_lt_zero, Nat.zero_le]
        refine ih (fun j hj2 => ?_)
        by_cases e : j = k
        · subst e; exact z
        · exact hj j (by omega)
      refine d284_3 r.1 ?_
      try simp (disch := omega) only [n_lit, n_m, n_add, n_mul, n_div, n_mod, n_cl, n_lt, n_le, n_eq, n_in, n_eqm, n_meq, n_mlt, n_ltm, n_mle, n_lem, not_true_eq_false, not_false_eq_true, true_implies, false_implies, true_and, and_true, Nat.not_lt_zero, Nat.zero_le, hA]
      refine ⟨fun z => by omega, fun _ => c282 r (by omega) hp ⟨_, rfl, d284_21 r.1 ?_⟩⟩
      try simp (disch := omega) only [n_lit, n_m, n_add, n_mul, n_div, n_mod, n_cl, n_lt, n_le, n_eq, n_in, n_eqm, n_meq, n_mlt, n_ltm, n_mle, n_lem, not_true_eq_false, not_false_eq_true, true_implies, false_implies, true_and, and_true, Nat.not_lt_zero, Nat.zero_le, i_bo01, Classical.not_not]
      refine ⟨fun z => nx (fun z2 => absurd z2 z), fun z => c275 r hk hc hd hm ⟨_, rfl, d284_34 r.1 ?_⟩⟩
      try simp (disch := omega) only [n_lit, n_m, n_add, n_mul, n_div, n_mod, n_cl, n_lt, n_le, n_eq, n_in, n_eqm, n_meq, n_mlt, n_ltm, n_mle, n_lem, not_true_eq_false, not_false_eq_true, true_implies, false_implies, true_and, and_true, Nat.not_lt_zero, Nat.zero_le]
      refine ⟨fun z2 => nx (fun _ => by omega), fun z2 => ?_⟩
      rw [i_bo_f (fun q => by have := o_uns_t.mp q k hk z; omega)] at H
      exact H
  refine e284 (d284_0 r.1 ?_)
  try simp (disch := omega) only [n_lit, n_m, n_add, n_mul, n_div, n_mod, n_cl, n_lt, n_le, n_eq, n_in, n_eqm, n_meq, n_mlt, n_ltm, n_mle, n_lem, not_true_eq_false, not_false_eq_true, true_implies, false_implies, true_and, and_true, Nat.not_lt_zero, Nat.zero_le]
  exact key 0 (Nat.zero_le _) (fun j hj => absurd hj (Nat.not_lt_zero j))
end
