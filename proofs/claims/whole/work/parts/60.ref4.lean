/-! THE REFERENCE: plain questions -/
section
variable {L : Nat} {xs : Nat → Int32} {h : iH} {Q : Option Value → iH → Prop} {a : Nat → Nat}
set_option maxRecDepth 20000
abbrev i_G0 (h h2 : iH) : Prop := i_Fr [] [(138, 4)] h h2
theorem i_RA.s0 (r : i_RA a h) (y : Int32) : i_RA a (i_sf h 138 4 (.int y)) ∧ i_G0 h (i_sf h 138 4 (.int y)) ∧ fI (i_sf h 138 4 (.int y)) 138 4 = y := by
  have f : i_Fr [] [(138, 4)] h (i_sf h 138 4 (.int y)) := i_Fr.refl.sf (by decide)
  exact ⟨r.fr (r.1.sf r.1.q138_4 rfl) f (fun _ _ z => by cases z), f, x_fI_sf r.1.q138_4⟩
theorem m200 (r : i_RA a h) {y : Int32} (H : ∀ h2, i_RA a h2 → i_G0 h h2 → fI h2 138 4 = y → Q (some (.int (i_bo (y = 0)))) h2) : i_C i_MT i_AT L xs 200 [.ref 138, .int y] h Q := by
  have H := H _ (r.s0 y).1 (r.s0 y).2.1 (r.s0 y).2.2
  refine e200 (b200_0 ⟨⟨_, r.1.q138_4⟩, b200_5 ⟨fun hc => b200_14 ⟨rfl, ?_⟩, fun hc => b200_14 ⟨rfl, ?_⟩⟩⟩)
  · rw [i_bo_f hc] at H
    exact H
  · rw [i_bo_t (Classical.not_not.mp hc)] at H
    exact H
theorem m201 (r : i_RA a h) {y : Int32} (H : ∀ h2, i_RA a h2 → i_G0 h h2 → fI h2 138 4 = y → Q (some (.int (-1))) h2) : i_C i_MT i_AT L xs 201 [.ref 138, .int y] h Q := e201 (b201_0 ⟨⟨_, r.1.q138_4⟩, b201_5 (H _ (r.s0 y).1 (r.s0 y).2.1 (r.s0 y).2.2)⟩)
theorem m202 (r : i_RA a h) {y : Int32} (H : ∀ h2, i_RA a h2 → i_G0 h h2 → fI h2 138 4 = 0 → Q (some (.int y)) h2) : i_C i_MT i_AT L xs 202 [.ref 138, .int y] h Q := e202 (b202_0 ⟨⟨_, r.1.q138_4⟩, b202_5 (H _ (r.s0 0).1 (r.s0 0).2.1 (r.s0 0).2.2)⟩)
theorem m203 (r : i_RA a h) {y : Int64} (H : ∀ h2, i_RA a h2 → i_G0 h h2 → fI h2 138 4 = 0 → Q (some (.long y)) h2) : i_C i_MT i_AT L xs 203 [.ref 138, .long y] h Q := e203 (b203_0 ⟨⟨_, r.1.q138_4⟩, b203_5 (H _ (r.s0 0).1 (r.s0 0).2.1 (r.s0 0).2.2)⟩)
/-- an answer of the reference that leaves but its status -/
def i_R0 (a : Nat → Nat) (h : iH) (Q : Option Value → iH → Prop) (z : Int32 × Int32) : Prop := ∀ h2, i_RA a h2 → i_G0 h h2 → fI h2 138 4 = z.2 → Q (some (.int z.1)) h2
theorem j_lt (x y : Int64) : lg_cmp x y < 0 ↔ x < y := by
  unfold lg_cmp
  by_cases h : x > y
  · rw [if_pos h]
    constructor
    · intro z; exact absurd z (by decide)
    · intro z; exact absurd z (fun q => Int64.lt_irrefl (Int64.lt_trans q h))
  · rw [if_neg h]
    by_cases h2 : x = y
    · rw [if_pos h2, h2]
      exact ⟨fun z => absurd z (by decide), fun z => absurd z Int64.lt_irrefl⟩
    · rw [if_neg h2]
      refine ⟨fun _ => ?_, fun _ => by decide⟩
      rcases Int64.lt_or_eq_of_le (Int64.not_lt.mp h) with z | z
      · exact z
      · exact absurd z h2
theorem j_ge0 (x y : Int64) : 0 ≤ lg_cmp x y ↔ y ≤ x := by
  rw [← Int32.not_lt, j_lt, Int64.not_lt]
theorem j_le0 (x y : Int64) : lg_cmp x y ≤ 0 ↔ x ≤ y := by
  unfold lg_cmp
  by_cases h : x > y
  · rw [if_pos h]
    constructor
    · intro z; exact absurd z (by decide)
    · intro z; exact absurd h (Int64.not_lt.mpr z)
  · rw [if_neg h]
    have hle : x ≤ y := Int64.not_lt.mp h
    by_cases h2 : x = y
    · rw [if_pos h2]; exact ⟨fun _ => hle, fun _ => by decide⟩
    · rw [if_neg h2]; exact ⟨fun _ => hle, fun _ => by decide⟩
theorem j_gt0 (x y : Int64) : 0 < lg_cmp x y ↔ y < x := by
  rw [← Int32.not_le, j_le0, Int64.not_le]
theorem j32lt (x y : Int32) : x.toInt64 < y.toInt64 ↔ x < y := by
  rw [Int64.lt_iff_toInt_lt, Int32.lt_iff_toInt_lt, Int32.toInt_toInt64, Int32.toInt_toInt64]
theorem j32le (x y : Int32) : x.toInt64 ≤ y.toInt64 ↔ x ≤ y := by
  rw [Int64.le_iff_toInt_le, Int32.le_iff_toInt_le, Int32.toInt_toInt64, Int32.toInt_toInt64]
theorem c249 (r : i_RA a h) {x : Int32} (H : Q (some (.int (i_bo (v_c a x)))) h) : i_C i_MT i_AT L xs 249 [.ref 138, .long x.toInt64] h Q := by
  have no : ¬ v_c a x → i_P i_MT i_AT L xs 249 20 [some (.ref 138), some (.long x.toInt64), none] [] h 0 0 Q := by
    intro z
    rw [i_bo_f z] at H
    exact d249_20 r.1 (d249_21 r.1 ⟨rfl, H⟩)
  refine e249 (d249_0 r.1 ⟨fun z => no (fun q => ?_), fun z => c248 r ⟨_, rfl, d249_11 r.1 ⟨fun z2 => no (fun q => ?_), fun z2 => d249_21 r.1 ⟨rfl, ?_⟩⟩⟩⟩)
  · rw [j_lt, show (0 : Int64) = (0 : Int32).toInt64 from rfl, j32lt] at z
    exact absurd q.1 (Int32.not_le.mpr z)
  · rw [j_ge0, j32le] at z2
    exact absurd q.2 (Int32.not_lt.mpr z2)
  · rw [j_lt, show (0 : Int64) = (0 : Int32).toInt64 from rfl, j32lt] at z
    rw [j_ge0, j32le] at z2
    rw [i_bo_t ⟨Int32.not_lt.mp z, Int32.not_le.mp z2⟩] at H
    exact H
theorem c258 (r : i_RA a h) {x : Int32} (H : i_R0 a h Q (o_wallA a x)) : i_C i_MT i_AT L xs 258 [.ref 138, .int x] h Q := by
  have hA := r.2.2.1
  have h48 := r.2.1.c48
  unfold o_wallA at H
  refine e258 (d258_0 r.1 (c249 r ⟨_, rfl, d258_6 r.1 ?_⟩))
  rw [i_bo_0, Classical.not_not]
  refine ⟨fun z => m201 r (fun h2 g2 f2 s2 => ⟨_, rfl, d258_30 g2.1 ?_⟩), fun z => ?_⟩
  · rw [o_A_f z] at H
    exact H h2 g2 f2 s2
  · rw [o_A_t z] at H
    obtain ⟨c, hc, rfl⟩ := n_get z (by omega)
    rw [n_cl (by omega)] at H
    have hw := o_wall_f r.2.1 (c := c) (by omega)
    try simp (disch := omega) only [n_lit, n_m, n_add, n_mul, n_div, n_mod, n_cl, n_lt, n_le, n_eq, n_in, n_eqm, n_meq, n_mlt, n_ltm, n_mle, n_lem, not_true_eq_false, not_false_eq_true, true_implies, false_implies, true_and, and_true, Nat.not_lt_zero, Nat.zero_le, hA]
    refine ⟨by omega, m202 r (fun h2 g2 f2 s2 => ⟨_, rfl, d258_22 g2.1 (d258_30 g2.1 ?_)⟩)⟩
    have := H h2 g2 f2 s2
    unfold o_wall at this
    rcases hw with hw | hw <;> rw [hw] at this ⊢ <;> exact this
theorem c260 (r : i_RA a h) {x : Int32} (H : i_R0 a h Q (o_swayA a x)) : i_C i_MT i_AT L xs 260 [.ref 138, .int x] h Q := by
  have h48 := r.2.1.c48
  unfold o_swayA at H
  refine e260 (d260_0 r.1 (c249 r ⟨_, rfl, d260_6 r.1 ?_⟩))
  rw [i_bo_0, Classical.not_not]
  refine ⟨fun z => m201 r (fun h2 g2 f2 s2 => ⟨_, rfl, d260_26 g2.1 ?_⟩), fun z => ?_⟩
  · rw [o_A_f z] at H
    exact H h2 g2 f2 s2
  · rw [o_A_t z] at H
    obtain ⟨c, hc, rfl⟩ := n_get z (by omega)
    rw [n_cl (by omega)] at H
    exact c259 r (by omega) ⟨_, rfl, d260_15 r.1 (m202 r (fun h2 g2 f2 s2 => ⟨_, rfl, d260_18 g2.1 (d260_26 g2.1 (H h2 g2 f2 s2))⟩))⟩
theorem c261 (r : i_RA a h) {x y : Int32} (H : i_R0 a h Q (o_cartA a x y)) : i_C i_MT i_AT L xs 261 [.ref 138, .int x, .int y] h Q := by
  have hA := r.2.2.1
  have h3 := r.2.1.2.2.1
  unfold o_cartA at H
  have bad : ¬ ((0 ≤ x ∧ x < i_n (a 3)) ∧ v_t y) → i_P i_MT i_AT L xs 261 39 [some (.ref 138), some (.int x), some (.int y)] [] h 0 0 Q := by
    intro z
    rw [o_A_f z] at H
    exact d261_39 r.1 (m201 r (fun h2 g2 f2 s2 => ⟨_, rfl, d261_44 g2.1 (H h2 g2 f2 s2)⟩))
  refine e261 (d261_0 r.1 ⟨fun z => bad (fun q => absurd q.1.1 (Int32.not_le.mpr z)), fun z => ?_⟩)
  rw [show (3 : Int32).toNatClampNeg = 3 from rfl, hA 3 (by omega)]
  refine ⟨fun z2 => bad (fun q => absurd q.1.2 (Int32.not_lt.mpr z2)), fun z2 => c255 r.1 ⟨_, rfl, d261_18 r.1 ?_⟩⟩
  rw [i_bo_0, Classical.not_not]
  refine ⟨fun z3 => bad (fun q => z3 q.2), fun z3 => ?_⟩
  have z1 : 0 ≤ x ∧ x < i_n (a 3) := ⟨Int32.not_lt.mp z, Int32.not_le.mp z2⟩
  rw [o_A_t ⟨z1, z3⟩] at H
  obtain ⟨k, hk, rfl⟩ := n_get z1 (by omega)
  obtain ⟨m, hm, rfl⟩ := n_gle z3 (by omega)
  rw [n_cl (by omega), n_cl (by omega)] at H
  have hC := r.2.2.2.2.2
  try simp (disch := omega) only [n_lit, n_m, n_add, n_mul, n_div, n_mod, n_cl, n_lt, n_le, n_eq, n_in, n_eqm, n_meq, n_mlt, n_ltm, n_mle, n_lem, not_true_eq_false, not_false_eq_true, true_implies, false_implies, true_and, and_true, Nat.not_lt_zero, Nat.zero_le, hC]
  exact ⟨by omega, m202 r (fun h2 g2 f2 s2 => ⟨_, rfl, d261_36 g2.1 (d261_44 g2.1 (H h2 g2 f2 s2))⟩)⟩
theorem c262 (r : i_RA a h) {x : Int32} (H : i_R0 a h Q (o_lampA a x)) : i_C i_MT i_AT L xs 262 [.ref 138, .int x] h Q := by
  have hA := r.2.2.1
  have h4 := r.2.1.2.2.2.1
  unfold o_lampA at H
  have bad : ¬ (0 ≤ x ∧ x < i_n (a 4)) → i_P i_MT i_AT L xs 262 30 [some (.ref 138), some (.int x)] [] h 0 0 Q := by
    intro z
    rw [o_A_f z] at H
    exact d262_30 r.1 (m201 r (fun h2 g2 f2 s2 => ⟨_, rfl, d262_35 g2.1 (H h2 g2 f2 s2)⟩))
  refine e262 (d262_0 r.1 ⟨fun z => bad (fun q => absurd q.1 (Int32.not_le.mpr z)), fun z => ?_⟩)
  rw [show (4 : Int32).toNatClampNeg = 4 from rfl, hA 4 (by omega)]
  refine ⟨fun z2 => bad (fun q => absurd q.2 (Int32.not_lt.mpr z2)), fun z2 => ?_⟩
  have z1 : 0 ≤ x ∧ x < i_n (a 4) := ⟨Int32.not_lt.mp z, Int32.not_le.mp z2⟩
  rw [o_A_t z1] at H
  obtain ⟨k, hk, rfl⟩ := n_get z1 (by omega)
  rw [n_cl (by omega)] at H
  try simp (disch := omega) only [n_lit, n_m, n_add, n_mul, n_div, n_mod, n_cl, n_lt, n_le, n_eq, n_in, n_eqm, n_meq, n_mlt, n_ltm, n_mle, n_lem, not_true_eq_false, not_false_eq_true, true_implies, false_implies, true_and, and_true, Nat.not_lt_zero, Nat.zero_le, hA]
  exact ⟨by omega, m202 r (fun h2 g2 f2 s2 => ⟨_, rfl, d262_27 g2.1 (d262_35 g2.1 (H h2 g2 f2 s2))⟩)⟩
theorem c263 (r : i_RA a h) {x y : Int32} (H : i_R0 a h Q (o_persA a x y)) : i_C i_MT i_AT L xs 263 [.ref 138, .int x, .int y] h Q := by
  have h5 := r.2.1.2.2.2.2.1
  unfold o_persA at H
  have bad : ¬ (v_p a x ∧ 0 ≤ y ∧ y ≤ 2) → i_P i_MT i_AT L xs 263 32 [some (.ref 138), some (.int x), some (.int y)] [] h 0 0 Q := by
    intro z
    rw [o_A_f z] at H
    exact d263_32 r.1 (m201 r (fun h2 g2 f2 s2 => ⟨_, rfl, d263_37 g2.1 (H h2 g2 f2 s2)⟩))
  refine e263 (d263_0 r.1 (c254 r ⟨_, rfl, d263_5 r.1 ?_⟩))
  rw [i_bo_0, Classical.not_not]
  refine ⟨fun z => bad (fun q => z q.1), fun z => ⟨fun z2 => bad (fun q => absurd q.2.1 (Int32.not_le.mpr z2)), fun z2 => ⟨fun z3 => bad (fun q => absurd q.2.2 (Int32.not_le.mpr z3)), fun z3 => ?_⟩⟩⟩
  have z4 : 0 ≤ y ∧ y ≤ 2 := ⟨Int32.not_lt.mp z2, Int32.not_lt.mp z3⟩
  rw [o_A_t ⟨z, z4⟩] at H
  obtain ⟨p, hp, rfl⟩ := n_get z (by omega)
  obtain ⟨k, hk, rfl⟩ := n_gle (k := 2) z4 (by omega)
  rw [n_cl (by omega), n_cl (by omega)] at H
  try simp (disch := omega) only [n_lit, n_m, n_add, n_mul, n_div, n_mod, n_cl, n_lt, n_le, n_eq, n_in, n_eqm, n_meq, n_mlt, n_ltm, n_mle, n_lem, not_true_eq_false, not_false_eq_true, true_implies, false_implies, true_and, and_true, Nat.not_lt_zero, Nat.zero_le]
  refine c256 r (by omega) (by omega) ⟨_, rfl, d263_26 r.1 (m202 r (fun h2 g2 f2 s2 => ⟨_, rfl, d263_29 g2.1 (d263_37 g2.1 ?_)⟩))⟩
  rw [show 154 + 5 * p + (2 + k) = 156 + 5 * p + k by omega]
  exact H h2 g2 f2 s2
theorem c264 (r : i_RA a h) {x y : Int32} (H : i_R0 a h Q (o_atA a x y)) : i_C i_MT i_AT L xs 264 [.ref 138, .int x, .int y] h Q := by
  have h5 := r.2.1.2.2.2.2.1
  have hC : ∀ p m, p < a 5 → m ≤ 60 → aI h 151 (61 * p + m) = i_n (o_cell a p m) := fun p m x y => (r.2.2.2.2.1 p m x y).1
  unfold o_atA at H
  have bad : ¬ (v_p a x ∧ v_t y) → i_P i_MT i_AT L xs 264 33 [some (.ref 138), some (.int x), some (.int y)] [] h 0 0 Q := by
    intro z
    rw [o_A_f z] at H
    exact d264_33 r.1 (m201 r (fun h2 g2 f2 s2 => ⟨_, rfl, d264_38 g2.1 (H h2 g2 f2 s2)⟩))
  refine e264 (d264_0 r.1 (c254 r ⟨_, rfl, d264_5 r.1 ?_⟩))
  rw [i_bo_0, Classical.not_not]
  refine ⟨fun z => bad (fun q => z q.1), fun z => c255 r.1 ⟨_, rfl, d264_12 r.1 ?_⟩⟩
  rw [i_bo_0, Classical.not_not]
  refine ⟨fun z2 => bad (fun q => z2 q.2), fun z2 => ?_⟩
  rw [o_A_t ⟨z, z2⟩] at H
  obtain ⟨p, hp, rfl⟩ := n_get z (by omega)
  obtain ⟨m, hm, rfl⟩ := n_gle z2 (by omega)
  rw [n_cl (by omega), n_cl (by omega)] at H
  try simp (disch := omega) only [n_lit, n_m, n_add, n_mul, n_div, n_mod, n_cl, n_lt, n_le, n_eq, n_in, n_eqm, n_meq, n_mlt, n_ltm, n_mle, n_lem, not_true_eq_false, not_false_eq_true, true_implies, false_implies, true_and, and_true, Nat.not_lt_zero, Nat.zero_le, hC]
  exact ⟨by omega, m202 r (fun h2 g2 f2 s2 => ⟨_, rfl, d264_30 g2.1 (d264_38 g2.1 (H h2 g2 f2 s2))⟩)⟩
theorem c265 (r : i_RA a h) {x y : Int32} (H : i_R0 a h Q (o_lookA a x y)) : i_C i_MT i_AT L xs 265 [.ref 138, .int x, .int y] h Q := by
  have h5 := r.2.1.2.2.2.2.1
  have hC : ∀ p m, p < a 5 → m ≤ 60 → aI h 152 (61 * p + m) = i_n (o_look a p m) := fun p m x y => (r.2.2.2.2.1 p m x y).2.1
  unfold o_lookA at H
  have bad : ¬ (v_p a x ∧ v_t y) → i_P i_MT i_AT L xs 265 33 [some (.ref 138), some (.int x), some (.int y)] [] h 0 0 Q := by
    intro z
    rw [o_A_f z] at H
    exact d265_33 r.1 (m201 r (fun h2 g2 f2 s2 => ⟨_, rfl, d265_38 g2.1 (H h2 g2 f2 s2)⟩))
  refine e265 (d265_0 r.1 (c254 r ⟨_, rfl, d265_5 r.1 ?_⟩))
  rw [i_bo_0, Classical.not_not]
  refine ⟨fun z => bad (fun q => z q.1), fun z => c255 r.1 ⟨_, rfl, d265_12 r.1 ?_⟩⟩
  rw [i_bo_0, Classical.not_not]
  refine ⟨fun z2 => bad (fun q => z2 q.2), fun z2 => ?_⟩
  rw [o_A_t ⟨z, z2⟩] at H
  obtain ⟨p, hp, rfl⟩ := n_get z (by omega)
  obtain ⟨m, hm, rfl⟩ := n_gle z2 (by omega)
  rw [n_cl (by omega), n_cl (by omega)] at H
  try simp (disch := omega) only [n_lit, n_m, n_add, n_mul, n_div, n_mod, n_cl, n_lt, n_le, n_eq, n_in, n_eqm, n_meq, n_mlt, n_ltm, n_mle, n_lem, not_true_eq_false, not_false_eq_true, true_implies, false_implies, true_and, and_true, Nat.not_lt_zero, Nat.zero_le, hC]
  exact ⟨by omega, m202 r (fun h2 g2 f2 s2 => ⟨_, rfl, d265_30 g2.1 (d265_38 g2.1 (H h2 g2 f2 s2))⟩)⟩
theorem n_pos {m : Nat} (hm : m < 2147483648) : ¬ i_n m ≤ 0 ↔ 1 ≤ m := by
  rw [show (0 : Int32) = i_n 0 from rfl, n_le hm (by omega)]
  omega
theorem v_mi_of {y : Int32} (h1 : v_t y) (h2 : ¬ y ≤ 0) : v_mi y := by
  obtain ⟨m, hm, rfl⟩ := n_gle (k := 60) h1 (by omega)
  rw [n_pos (by omega)] at h2
  exact ⟨by rw [show (1 : Int32) = i_n 1 from rfl, n_le (by omega) (by omega)]; exact h2, h1.2⟩
theorem v_mi_t {y : Int32} (h : v_mi y) : v_t y ∧ ¬ y ≤ 0 := by
  obtain ⟨m, hm1, hm, rfl⟩ := n_g1 (j := 1) (k := 60) h (by omega) (by omega)
  refine ⟨⟨?_, h.2⟩, ?_⟩
  · rw [show (0 : Int32) = i_n 0 from rfl, n_le (by omega) (by omega)]; omega
  · rw [n_pos (by omega)]; exact hm1
theorem c266 (r : i_RA a h) {x y : Int32} (H : i_R0 a h Q (o_didA a x y)) : i_C i_MT i_AT L xs 266 [.ref 138, .int x, .int y] h Q := by
  have h5 := r.2.1.2.2.2.2.1
  have hC : ∀ p m, p < a 5 → m ≤ 60 → aI h 153 (61 * p + m) = i_n (o_did a p m) := fun p m x y => (r.2.2.2.2.1 p m x y).2.2
  unfold o_didA at H
  have bad : ¬ (v_p a x ∧ v_mi y) → i_P i_MT i_AT L xs 266 37 [some (.ref 138), some (.int x), some (.int y)] [] h 0 0 Q := by
    intro z
    rw [o_A_f z] at H
    exact d266_37 r.1 (m201 r (fun h2 g2 f2 s2 => ⟨_, rfl, d266_42 g2.1 (H h2 g2 f2 s2)⟩))
  refine e266 (d266_0 r.1 (c254 r ⟨_, rfl, d266_5 r.1 ?_⟩))
  rw [i_bo_0, Classical.not_not]
  refine ⟨fun z => bad (fun q => z q.1), fun z => c255 r.1 ⟨_, rfl, d266_12 r.1 ?_⟩⟩
  rw [i_bo_0, Classical.not_not]
  refine ⟨fun z2 => bad (fun q => z2 (v_mi_t q.2).1), fun z2 => ⟨fun z3 => bad (fun q => (v_mi_t q.2).2 z3), fun z3 => ?_⟩⟩
  have z4 := v_mi_of z2 z3
  rw [o_A_t ⟨z, z4⟩] at H
  obtain ⟨p, hp, rfl⟩ := n_get z (by omega)
  obtain ⟨m, hm, rfl⟩ := n_gle z2 (by omega)
  rw [n_cl (by omega), n_cl (by omega)] at H
  try simp (disch := omega) only [n_lit, n_m, n_add, n_mul, n_div, n_mod, n_cl, n_lt, n_le, n_eq, n_in, n_eqm, n_meq, n_mlt, n_ltm, n_mle, n_lem, not_true_eq_false, not_false_eq_true, true_implies, false_implies, true_and, and_true, Nat.not_lt_zero, Nat.zero_le, hC]
  exact ⟨by omega, m202 r (fun h2 g2 f2 s2 => ⟨_, rfl, d266_34 g2.1 (d266_42 g2.1 (H h2 g2 f2 s2))⟩)⟩
theorem c273 (r : i_RA a h) {x y : Int32} (H : ∀ h2, i_RA a h2 → i_G0 h h2 → fI h2 138 4 = (o_sightA a x y).2 → Q (some (.long (o_sightA a x y).1)) h2) : i_C i_MT i_AT L xs 273 [.ref 138, .int x, .int y] h Q := by
  have h5 := r.2.1.2.2.2.2.1
  have h48 := r.2.1.c48
  unfold o_sightA at H
  have bad : ¬ (v_p a x ∧ v_t y) → ∀ u v w : Option Value, i_P i_MT i_AT L xs 273 15 [some (.ref 138), some (.int x), some (.int y), u, v, w] [] h 0 0 Q := by
    intro z u v w
    rw [o_AJ_f z] at H
    exact d273_15 r.1 (m201 r (fun h2 g2 f2 s2 => ⟨_, rfl, d273_20 g2.1 (H h2 g2 f2 s2)⟩))
  refine e273 (d273_0 r.1 (c254 r ⟨_, rfl, d273_5 r.1 ?_⟩))
  rw [i_bo_0, Classical.not_not]
  refine ⟨fun z => bad (fun q => z q.1) _ _ _, fun z => c255 r.1 ⟨_, rfl, d273_12 r.1 ?_⟩⟩
  rw [i_bo_0, Classical.not_not]
  refine ⟨fun z2 => ?_, fun z2 => bad (fun q => z2 q.2) _ _ _⟩
  rw [o_AJ_t ⟨z, z2⟩] at H
  obtain ⟨p, hp, rfl⟩ := n_get z (by omega)
  obtain ⟨m, hm, rfl⟩ := n_gle z2 (by omega)
  rw [n_cl (by omega), n_cl (by omega)] at H
  have key : ∀ c, c ≤ a 0 * a 1 → ∀ s : Int64, o_is s c (fun c => o_sees a p c m) → i_P i_MT i_AT L xs 273 27 [some (.ref 138), some (.int (i_n p)), some (.int (i_n m)), some (.long s), none, some (.int (i_n c))] [] h 0 0 Q := by
    refine l_up ?_ ?_
    · intro s hs
      refine d273_27 r.1 (c248 r ⟨_, rfl, d273_33 r.1 ?_⟩)
      try simp (disch := omega) only [n_lit, n_m, n_add, n_mul, n_div, n_mod, n_cl, n_lt, n_le, n_eq, n_in, n_eqm, n_meq, n_mlt, n_ltm, n_mle, n_lem, not_true_eq_false, not_false_eq_true, true_implies, false_implies, true_and, and_true, Nat.not_lt_zero, Nat.zero_le, Nat.le_refl]
      refine m203 r (fun h2 g2 f2 s2 => ⟨_, rfl, d273_69 g2.1 ?_⟩)
      rw [hs.eq (by omega)]
      exact H h2 g2 f2 s2
    · intro c hc ih s hs
      refine d273_27 r.1 (c248 r ⟨_, rfl, d273_33 r.1 ?_⟩)
      try simp (disch := omega) only [n_lit, n_m, n_add, n_mul, n_div, n_mod, n_cl, n_lt, n_le, n_eq, n_in, n_eqm, n_meq, n_mlt, n_ltm, n_mle, n_lem, not_true_eq_false, not_false_eq_true, true_implies, false_implies, true_and, and_true, Nat.not_lt_zero, Nat.zero_le]
      refine ⟨fun q => by omega, fun _ => c272 r hp hc hm ⟨_, rfl, d273_45 r.1 ?_⟩⟩
      try simp (disch := omega) only [n_lit, n_m, i_bo01, j_cmpn, Classical.not_not, n_add, n_mul, n_div, n_mod, n_cl, n_lt, n_le, n_eq, n_in, n_eqm, n_meq, n_mlt, n_ltm, n_mle, n_lem, not_true_eq_false, not_false_eq_true, true_implies, false_implies, true_and, and_true, Nat.not_lt_zero, Nat.zero_le]
      refine ⟨fun q => d273_56 r.1 ?_, fun q => d273_56 r.1 ?_⟩
      · try simp (disch := omega) only [n_lit, n_m, i_bo01, j_cmpn, Classical.not_not, n_add, n_mul, n_div, n_mod, n_cl, n_lt, n_le, n_eq, n_in, n_eqm, n_meq, n_mlt, n_ltm, n_mle, n_lem, not_true_eq_false, not_false_eq_true, true_implies, false_implies, true_and, and_true, Nat.not_lt_zero, Nat.zero_le]
        refine ih _ ?_
        have e : s ||| 0 = s := j_ext (fun c _ => by rw [j_or, j_0, Bool.or_false])
        rw [e]
        exact hs.f (by simpa using q)
      · try simp (disch := omega) only [n_lit, n_m, i_bo01, j_cmpn, Classical.not_not, n_add, n_mul, n_div, n_mod, n_cl, n_lt, n_le, n_eq, n_in, n_eqm, n_meq, n_mlt, n_ltm, n_mle, n_lem, not_true_eq_false, not_false_eq_true, true_implies, false_implies, true_and, and_true, Nat.not_lt_zero, Nat.zero_le]
        exact ih _ (hs.t (by omega) q)
  exact key 0 (Nat.zero_le _) 0 o_is.zero
theorem c278 (r : i_RA a h) {x y z : Int32} (H : i_R0 a h Q (o_wtA a x y z)) : i_C i_MT i_AT L xs 278 [.ref 138, .int x, .int y, .int z] h Q := by
  have h5 := r.2.1.2.2.2.2.1
  unfold o_wtA at H
  have bad : ¬ (v_2 a x y ∧ v_mi z) → i_P i_MT i_AT L xs 278 34 [some (.ref 138), some (.int x), some (.int y), some (.int z)] [] h 0 0 Q := by
    intro z
    rw [o_A_f z] at H
    exact d278_34 r.1 (m201 r (fun h2 g2 f2 s2 => ⟨_, rfl, d278_39 g2.1 (H h2 g2 f2 s2)⟩))
  refine e278 (d278_0 r.1 (c277 r ⟨_, rfl, d278_6 r.1 ?_⟩))
  rw [i_bo_0, Classical.not_not]
  refine ⟨fun z => bad (fun q => z q.1), fun z => c255 r.1 ⟨_, rfl, d278_13 r.1 ?_⟩⟩
  rw [i_bo_0, Classical.not_not]
  refine ⟨fun z2 => bad (fun q => z2 (v_mi_t q.2).1), fun z2 => ⟨fun z3 => bad (fun q => (v_mi_t q.2).2 z3), fun z3 => ?_⟩⟩
  have z4 := v_mi_of z2 z3
  rw [o_A_t ⟨z, z4⟩] at H
  obtain ⟨p, hp, rfl⟩ := n_get z.1 (by omega)
  obtain ⟨q, hq, rfl⟩ := n_get z.2.1 (by omega)
  obtain ⟨m, hm, rfl⟩ := n_gle z2 (by omega)
  rw [n_cl (by omega), n_cl (by omega), n_cl (by omega)] at H
  exact c276 r hp hq hm ⟨_, rfl, d278_28 r.1 (m202 r (fun h2 g2 f2 s2 => ⟨_, rfl, d278_31 g2.1 (d278_39 g2.1 (H h2 g2 f2 s2))⟩))⟩
end
