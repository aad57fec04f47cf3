/-! THE REFERENCE'S SMALL METHODS -/
section
variable {L : Nat} {xs : Nat → Int32} {h : iH} {Q : Option Value → iH → Prop} {a : Nat → Nat}
set_option maxRecDepth 20000
theorem n_shr2 {x k : Nat} (hx : x < 2147483648) (hk : k < 32) : i_n x >>> i_n (k &&& 31) = i_n (x >>> k) := by
  rw [← n_and]; exact n_shr hx hk
theorem n_shl2 (x : Nat) {k : Nat} (hk : k < 32) : i_n x <<< i_n (k &&& 31) = i_n (x <<< k) := by
  rw [← n_and]; exact n_shl x hk
theorem z_dv (x y : Nat) : (0 : Int) ≤ (x : Int) / (y : Int) := Int.ediv_nonneg (Int.natCast_nonneg x) (Int.natCast_nonneg y)
theorem n_prd (x y : Nat) : i_n x + (i_n y - i_n 1) = if x + y = 0 then i_m else i_n (x + y - 1) := by
  by_cases h0 : x + y = 0
  · rw [if_pos h0, show x = 0 by omega, show y = 0 by omega]
    rfl
  · rw [if_neg h0, ← n_sub (by omega), ← n_add, Int32.sub_eq_add_neg, Int32.sub_eq_add_neg, Int32.add_assoc]
theorem n_z (x : Nat) : i_n x = Int32.ofInt x := rfl
theorem n_sz (x y : Nat) : i_n x - i_n y = Int32.ofInt ((x : Int) - y) := by rw [n_z, n_z, ← Int32.ofInt_sub]
theorem n_zlt {x y : Int} (hx : -1000000000 < x ∧ x < 1000000000) (hy : -1000000000 < y ∧ y < 1000000000) : Int32.ofInt x < Int32.ofInt y ↔ x < y := by
  rw [Int32.lt_iff_toInt_lt, Int32.toInt_ofInt_of_le (by omega) (by omega), Int32.toInt_ofInt_of_le (by omega) (by omega)]
theorem n_zle {x y : Int} (hx : -1000000000 < x ∧ x < 1000000000) (hy : -1000000000 < y ∧ y < 1000000000) : Int32.ofInt x ≤ Int32.ofInt y ↔ x ≤ y := by
  rw [Int32.le_iff_toInt_le, Int32.toInt_ofInt_of_le (by omega) (by omega), Int32.toInt_ofInt_of_le (by omega) (by omega)]
/-! Math.abs, max, min -/
theorem c335 {x : Int32} (H : Q (some (.int (if 0 ≤ x then x else -x))) h) : i_C i_MT i_AT L xs 335 [.int x] h Q := by
  refine e335 (b335_0 ⟨fun hc => b335_10 ?_, fun hc => b335_10 ?_⟩)
  · rw [if_pos hc] at H; exact H
  · rw [if_neg hc] at H; exact H
theorem c336 {x y : Int32} (H : Q (some (.int (if x < y then y else x))) h) : i_C i_MT i_AT L xs 336 [.int x, .int y] h Q := by
  refine e336 (b336_0 ⟨fun hc => b336_10 ?_, fun hc => b336_10 ?_⟩)
  · rw [if_pos hc] at H; exact H
  · rw [if_neg hc] at H; exact H
theorem c337 {x y : Int32} (H : Q (some (.int (if y < x then y else x))) h) : i_C i_MT i_AT L xs 337 [.int x, .int y] h Q := by
  refine e337 (b337_0 ⟨fun hc => b337_10 ?_, fun hc => b337_10 ?_⟩)
  · rw [if_pos hc] at H; exact H
  · rw [if_neg hc] at H; exact H
theorem n_abs {u v : Nat} (hu : u < 1000) (hv : v < 1000) : (if (0 : Int32) ≤ i_n u - i_n v then i_n u - i_n v else -(i_n u - i_n v)) = i_n ((u - v) + (v - u)) := by
  rw [n_sz, show (0 : Int32) = Int32.ofInt 0 from rfl]
  by_cases h0 : v ≤ u
  · rw [if_pos ((n_zle (by omega) (by omega)).mpr (by omega)), n_z]
    congr 1; omega
  · rw [if_neg (fun z => by rw [n_zle (by omega) (by omega)] at z; omega), ← Int32.ofInt_neg, n_z]
    congr 1; omega
theorem c336n {x y : Nat} (hx : x < 2147483648) (hy : y < 2147483648) (H : Q (some (.int (i_n (max x y)))) h) : i_C i_MT i_AT L xs 336 [.int (i_n x), .int (i_n y)] h Q := by
  refine c336 ?_
  try simp (disch := omega) only [n_lit, n_m, n_add, n_mul, n_div, n_mod, n_cl, n_lt, n_le, n_eq, n_in, n_eqm, n_meq, n_mlt, n_ltm, n_mle, n_lem, not_true_eq_false, not_false_eq_true, true_implies, false_implies, true_and, and_true, Nat.not_lt_zero, Nat.zero_le]
  by_cases h0 : x < y
  · rw [if_pos h0]; rw [Nat.max_eq_right (by omega)] at H; exact H
  · rw [if_neg h0]; rw [Nat.max_eq_left (by omega)] at H; exact H
theorem c337n {x y : Nat} (hx : x < 2147483648) (hy : y < 2147483648) (H : Q (some (.int (i_n (min x y)))) h) : i_C i_MT i_AT L xs 337 [.int (i_n x), .int (i_n y)] h Q := by
  refine c337 ?_
  try simp (disch := omega) only [n_lit, n_m, n_add, n_mul, n_div, n_mod, n_cl, n_lt, n_le, n_eq, n_in, n_eqm, n_meq, n_mlt, n_ltm, n_mle, n_lem, not_true_eq_false, not_false_eq_true, true_implies, false_implies, true_and, and_true, Nat.not_lt_zero, Nat.zero_le]
  by_cases h0 : y < x
  · rw [if_pos h0]; rw [Nat.min_eq_right (by omega)] at H; exact H
  · rw [if_neg h0]; rw [Nat.min_eq_left (by omega)] at H; exact H
/-! cells, persons -/
theorem c248 (r : i_RA a h) (H : Q (some (.int (i_n (a 0 * a 1)))) h) : i_C i_MT i_AT L xs 248 [.ref 138] h Q := by
  have hA := r.2.2.1
  refine e248 (d248_0 r.1 ?_)
  try simp (disch := omega) only [n_lit, n_m, n_add, n_mul, n_div, n_mod, n_cl, n_lt, n_le, n_eq, n_in, n_eqm, n_meq, n_mlt, n_ltm, n_mle, n_lem, not_true_eq_false, not_false_eq_true, true_implies, false_implies, true_and, and_true, Nat.not_lt_zero, Nat.zero_le, hA]
  exact H
theorem c250 (r : i_RA a h) {c : Nat} (hc : c < 48) (H : Q (some (.int (i_bo (o_wall a c = false)))) h) : i_C i_MT i_AT L xs 250 [.ref 138, .int (i_n c)] h Q := by
  have hA := r.2.2.1
  have hw := o_wall_f r.2.1 hc
  refine e250 (d250_0 r.1 ?_)
  try simp (disch := omega) only [n_lit, n_m, n_add, n_mul, n_div, n_mod, n_cl, n_lt, n_le, n_eq, n_in, n_eqm, n_meq, n_mlt, n_ltm, n_mle, n_lem, not_true_eq_false, not_false_eq_true, true_implies, false_implies, true_and, and_true, Nat.not_lt_zero, Nat.zero_le, hA]
  refine ⟨by omega, fun h1 => d250_21 r.1 (d250_22 r.1 ⟨rfl, ?_⟩), fun h1 => d250_22 r.1 ⟨rfl, ?_⟩⟩
  · rw [i_bo_f (by unfold o_wall; simp; omega)] at H; exact H
  · rw [i_bo_t (by unfold o_wall; simp; omega)] at H; exact H
theorem c250m (r : i_RA a h) (H : Q (some (.int 0)) h) : i_C i_MT i_AT L xs 250 [.ref 138, .int i_m] h Q := by
  refine e250 (d250_0 r.1 ⟨fun _ => d250_21 r.1 (d250_22 r.1 ⟨rfl, H⟩), fun z => absurd rfl z⟩)
theorem c254 (r : i_RA a h) {x : Int32} (H : Q (some (.int (i_bo (0 ≤ x ∧ x < i_n (a 5))))) h) : i_C i_MT i_AT L xs 254 [.ref 138, .int x] h Q := by
  have hA := r.2.2.1
  refine e254 (d254_0 r.1 ?_)
  try simp (disch := omega) only [n_lit, n_m, n_add, n_mul, n_div, n_mod, n_cl, n_lt, n_le, n_eq, n_in, n_eqm, n_meq, n_mlt, n_ltm, n_mle, n_lem, not_true_eq_false, not_false_eq_true, true_implies, false_implies, true_and, and_true, Nat.not_lt_zero, Nat.zero_le, hA]
  refine ⟨fun h1 => d254_18 r.1 (d254_19 r.1 ⟨rfl, ?_⟩), fun h1 => ⟨fun h2 => d254_18 r.1 (d254_19 r.1 ⟨rfl, ?_⟩), fun h2 => d254_19 r.1 ⟨rfl, ?_⟩⟩⟩
  · rw [i_bo_f (fun z => absurd z.1 (Int32.not_le.mpr h1))] at H; exact H
  · rw [i_bo_f (fun z => absurd z.2 (Int32.not_lt.mpr h2))] at H; exact H
  · rw [i_bo_t ⟨Int32.not_lt.mp h1, Int32.not_le.mp h2⟩] at H; exact H
theorem c255 {x : Int32} (hL : i_Lay h) (H : Q (some (.int (i_bo (0 ≤ x ∧ x ≤ i_n 60)))) h) : i_C i_MT i_AT L xs 255 [.int x] h Q := by
  refine e255 (d255_0 hL ?_)
  try simp (disch := omega) only [n_lit, n_m, n_add, n_mul, n_div, n_mod, n_cl, n_lt, n_le, n_eq, n_in, n_eqm, n_meq, n_mlt, n_ltm, n_mle, n_lem, not_true_eq_false, not_false_eq_true, true_implies, false_implies, true_and, and_true, Nat.not_lt_zero, Nat.zero_le]
  refine ⟨fun h1 => d255_14 hL (d255_15 hL ⟨rfl, ?_⟩), fun h1 => ⟨fun h2 => d255_14 hL (d255_15 hL ⟨rfl, ?_⟩), fun h2 => d255_15 hL ⟨rfl, ?_⟩⟩⟩
  · rw [i_bo_f (fun z => absurd z.1 (Int32.not_le.mpr h1))] at H; exact H
  · rw [i_bo_f (fun z => absurd z.2 (Int32.not_le.mpr h2))] at H; exact H
  · rw [i_bo_t ⟨Int32.not_lt.mp h1, Int32.not_lt.mp h2⟩] at H; exact H
theorem c256 (r : i_RA a h) {p w : Nat} (hp : p < 8) (hw : w < 5) (H : Q (some (.int (i_n (a (154 + 5 * p + w))))) h) : i_C i_MT i_AT L xs 256 [.ref 138, .int (i_n p), .int (i_n w)] h Q := by
  have hA := r.2.2.1
  refine e256 (d256_0 r.1 ?_)
  try simp (disch := omega) only [n_lit, n_m, n_add, n_mul, n_div, n_mod, n_cl, n_lt, n_le, n_eq, n_in, n_eqm, n_meq, n_mlt, n_ltm, n_mle, n_lem, not_true_eq_false, not_false_eq_true, true_implies, false_implies, true_and, and_true, Nat.not_lt_zero, Nat.zero_le, hA]
  exact ⟨by omega, H⟩
theorem c277 (r : i_RA a h) {x y : Int32} (H : Q (some (.int (i_bo ((0 ≤ x ∧ x < i_n (a 5)) ∧ (0 ≤ y ∧ y < i_n (a 5)) ∧ x ≠ y)))) h) : i_C i_MT i_AT L xs 277 [.ref 138, .int x, .int y] h Q := by
  have z0 : ∀ {P : Prop} [Decidable P], i_bo P = 0 ↔ ¬ P := fun {P} _ => i_bo_0
  refine e277 (d277_0 r.1 (c254 r ⟨_, rfl, d277_5 r.1 ⟨fun h1 => d277_25 r.1 (d277_26 r.1 ⟨rfl, ?_⟩), fun h1 => c254 r ⟨_, rfl, d277_13 r.1 ⟨fun h2 => d277_25 r.1 (d277_26 r.1 ⟨rfl, ?_⟩), fun h2 => ⟨fun h3 => d277_25 r.1 (d277_26 r.1 ⟨rfl, ?_⟩), fun h3 => d277_26 r.1 ⟨rfl, ?_⟩⟩⟩⟩⟩⟩))
  · rw [i_bo_f (fun z => z0.mp h1 z.1)] at H; exact H
  · rw [i_bo_f (fun z => z0.mp h2 z.2.1)] at H; exact H
  · rw [i_bo_f (fun z => z.2.2 h3)] at H; exact H
  · rw [i_bo_t ⟨Classical.not_not.mp (fun z => h1 (z0.mpr z)), Classical.not_not.mp (fun z => h2 (z0.mpr z)), h3⟩] at H; exact H
theorem n_NEG : i_n 4294967295 = i_m := rfl
theorem c259 (r : i_RA a h) {c : Nat} (hc : c < 48) (H : Q (some (.int (i_n (o_sway a c)))) h) : i_C i_MT i_AT L xs 259 [.ref 138, .int (i_n c)] h Q := by
  have hA := r.2.2.1
  have hw := r.2.1.2.2.2.2.2.2.2.1 c hc
  unfold o_sway at H
  refine e259 (d259_0 r.1 ?_)
  try simp (disch := omega) only [n_lit, n_m, n_add, n_mul, n_div, n_mod, n_cl, n_lt, n_le, n_eq, n_in, n_eqm, n_meq, n_mlt, n_ltm, n_mle, n_lem, not_true_eq_false, not_false_eq_true, true_implies, false_implies, true_and, and_true, Nat.not_lt_zero, Nat.zero_le, hA]
  refine ⟨by omega, ?_⟩
  rcases hw with hw | hw
  · rw [if_neg (by omega)] at H
    refine c336n (by omega) (by omega) ⟨_, rfl, d259_13 r.1 ?_⟩
    rw [Nat.max_eq_right (by omega)]; exact H
  · rw [if_pos hw] at H
    rw [hw]
    exact c336 ⟨_, rfl, d259_13 r.1 H⟩
theorem c268 (r : i_RA a h) {b c : Nat} (hb : b < a 0 * a 1) (hc : c < a 0 * a 1) (H : Q (some (.int (i_n (o_far (a 0) b c)))) h) : i_C i_MT i_AT L xs 268 [.ref 138, .int (i_n b), .int (i_n c)] h Q := by
  have hA := r.2.2.1
  have hp := r.2.1.pos hb
  have h48 := r.2.1.c48
  have e1 : b % a 0 < 8 := by have := Nat.mod_lt b (show a 0 > 0 by omega); omega
  have e2 : c % a 0 < 8 := by have := Nat.mod_lt c (show a 0 > 0 by omega); omega
  have e3 : b / a 0 < 48 := by have := Nat.div_le_self b (a 0); omega
  have q3 := z_dv b (a 0)
  have e4 : c / a 0 < 48 := by have := Nat.div_le_self c (a 0); omega
  have q4 := z_dv c (a 0)
  refine e268 (d268_0 r.1 ?_)
  try simp (disch := omega) only [n_lit, n_m, n_add, n_mul, n_div, n_mod, n_cl, n_lt, n_le, n_eq, n_in, n_eqm, n_meq, n_mlt, n_ltm, n_mle, n_lem, not_true_eq_false, not_false_eq_true, true_implies, false_implies, true_and, and_true, Nat.not_lt_zero, Nat.zero_le, hA]
  refine ⟨by omega, by omega, c335 ⟨_, rfl, d268_20 r.1 ?_⟩⟩
  rw [n_abs (by omega) (by omega)]
  try simp (disch := omega) only [n_lit, n_m, n_add, n_mul, n_div, n_mod, n_cl, n_lt, n_le, n_eq, n_in, n_eqm, n_meq, n_mlt, n_ltm, n_mle, n_lem, not_true_eq_false, not_false_eq_true, true_implies, false_implies, true_and, and_true, Nat.not_lt_zero, Nat.zero_le, hA]
  refine ⟨by omega, by omega, c335 ⟨_, rfl, d268_40 r.1 ?_⟩⟩
  rw [n_abs (by omega) (by omega)]
  exact c336n (by omega) (by omega) ⟨_, rfl, d268_43 r.1 H⟩
theorem c251 (r : i_RA a h) {c w : Nat} (hc : c < a 0 * a 1) (hw : w < 8) (H : Q (some (.int (o_op (o_lead (a 0) (a 1) c w)))) h) : i_C i_MT i_AT L xs 251 [.ref 138, .int (i_n c), .int (i_n w)] h Q := by
  have hA := r.2.2.1
  have hE := r.2.2.2.1
  have hE1 : ∀ k, k < 8 → aI h 141 k = i_n (o_ex k) - i_n 1 := fun k hk => (hE k hk).1
  have hE2 : ∀ k, k < 8 → aI h 142 k = i_n (o_sy k) - i_n 1 := fun k hk => (hE k hk).2
  have hp := r.2.1.pos hc
  have h48 := r.2.1.c48
  have e1 : c % a 0 < 8 := by have := Nat.mod_lt c (show a 0 > 0 by omega); omega
  have e3 : c / a 0 < 48 := by have := Nat.div_le_self c (a 0); omega
  have q3 := z_dv c (a 0)
  have e5 := o_ex_le w
  have e6 := o_sy_le w
  refine e251 (d251_0 r.1 ?_)
  try simp (disch := omega) only [n_lit, n_m, n_add, n_mul, n_div, n_mod, n_cl, n_lt, n_le, n_eq, n_in, n_eqm, n_meq, n_mlt, n_ltm, n_mle, n_lem, not_true_eq_false, not_false_eq_true, true_implies, false_implies, true_and, and_true, Nat.not_lt_zero, Nat.zero_le, hA, hE1, hE2, n_prd]
  have bad : ¬ (1 ≤ c % a 0 + o_ex w ∧ c % a 0 + o_ex w ≤ a 0 ∧ 1 ≤ c / a 0 + o_sy w ∧ c / a 0 + o_sy w ≤ a 1) → ∀ u v, i_P i_MT i_AT L xs 251 63 [some (.ref 138), some (.int (i_n c)), some (.int (i_n w)), some (.int u), some (.int v)] [] h 0 0 Q := by
    intro hn u v
    unfold o_lead at H
    rw [if_neg hn] at H
    exact d251_63 r.1 (d251_78 r.1 H)
  by_cases hx : c % a 0 + o_ex w = 0
  · simp only [if_pos hx]
    try simp (disch := omega) only [n_lit, n_m, n_add, n_mul, n_div, n_mod, n_cl, n_lt, n_le, n_eq, n_in, n_eqm, n_meq, n_mlt, n_ltm, n_mle, n_lem, not_true_eq_false, not_false_eq_true, true_implies, false_implies, true_and, and_true, Nat.not_lt_zero, Nat.zero_le]
    exact ⟨by omega, by omega, by omega, by omega, bad (by omega) _ _⟩
  simp only [if_neg hx]
  try simp (disch := omega) only [n_lit, n_m, n_add, n_mul, n_div, n_mod, n_cl, n_lt, n_le, n_eq, n_in, n_eqm, n_meq, n_mlt, n_ltm, n_mle, n_lem, not_true_eq_false, not_false_eq_true, true_implies, false_implies, true_and, and_true, Nat.not_lt_zero, Nat.zero_le]
  by_cases hy : c / a 0 + o_sy w = 0
  · simp only [if_pos hy]
    try simp (disch := omega) only [n_lit, n_m, n_add, n_mul, n_div, n_mod, n_cl, n_lt, n_le, n_eq, n_in, n_eqm, n_meq, n_mlt, n_ltm, n_mle, n_lem, not_true_eq_false, not_false_eq_true, true_implies, false_implies, true_and, and_true, Nat.not_lt_zero, Nat.zero_le]
    exact ⟨by omega, by omega, by omega, by omega, bad (by omega) _ _⟩
  simp only [if_neg hy]
  try simp (disch := omega) only [n_lit, n_m, n_add, n_mul, n_div, n_mod, n_cl, n_lt, n_le, n_eq, n_in, n_eqm, n_meq, n_mlt, n_ltm, n_mle, n_lem, not_true_eq_false, not_false_eq_true, true_implies, false_implies, true_and, and_true, Nat.not_lt_zero, Nat.zero_le]
  have h4 : a 0 * (c / a 0 + o_sy w - 1) ≤ 8 * 50 := Nat.mul_le_mul (by omega) (by omega)
  refine ⟨by omega, by omega, by omega, by omega, fun h1 => bad (by omega) _ _, fun h1 => ⟨fun h2 => d251_78 r.1 ?_, fun h2 => bad (by omega) _ _⟩⟩
  unfold o_lead at H
  rw [if_pos (by omega)] at H
  exact H
end
