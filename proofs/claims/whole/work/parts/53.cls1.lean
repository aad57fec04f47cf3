/-! THE CLASS: its answers, its small methods, its grid -/
section
variable {L : Nat} {xs : Nat → Int32} {h : iH} {Q : Option Value → iH → Prop} {a : Nat → Nat}
set_option maxRecDepth 20000
theorem c179 {x : Nat} {y : Int32} {o : Value} (e : i_fld h x 11 0 = some o) (H : Q (some (.int (-1))) (i_sf h x 0 (.int y))) : i_C i_MT i_AT L xs 179 [.ref x, .int y] h Q := e179 (b179_0 ⟨⟨o, e⟩, b179_5 H⟩)
theorem c180 {x : Nat} {y : Int32} {o : Value} (e : i_fld h x 11 0 = some o) (H : Q (some (.int 0)) (i_sf h x 0 (.int y))) : i_C i_MT i_AT L xs 180 [.ref x, .int y] h Q := e180 (b180_0 ⟨⟨o, e⟩, b180_5 H⟩)
theorem c181 {x : Nat} {y : Int32} {o : Value} (e : i_fld h x 11 0 = some o) (H : Q (some (.int y)) (i_sf h x 0 (.int 0))) : i_C i_MT i_AT L xs 181 [.ref x, .int y] h Q := e181 (b181_0 ⟨⟨o, e⟩, b181_5 H⟩)
theorem c182 {x : Nat} {y : Int64} {o : Value} (e : i_fld h x 11 0 = some o) (H : Q (some (.long y)) (i_sf h x 0 (.int 0))) : i_C i_MT i_AT L xs 182 [.ref x, .long y] h Q := e182 (b182_0 ⟨⟨o, e⟩, b182_5 H⟩)
theorem c184 {x : Nat} {o : Value} (e : i_fld h x 11 0 = some o) (H : Q (some (.int 1)) (i_sf h x 0 (.int 0))) : i_C i_MT i_AT L xs 184 [.ref x] h Q := e184 (b184_0 ⟨⟨o, e⟩, b184_5 H⟩)
theorem c183 {x : Nat} {y : Int32} {o : Value} (e : i_fld h x 11 0 = some o) (H : Q (some (.int y)) (i_sf h x 0 (.int (if y = -1 then 6 else 0)))) : i_C i_MT i_AT L xs 183 [.ref x, .int y] h Q := by
  refine e183 (b183_0 ⟨fun hc => ⟨w_obj_fld e, c181 e ⟨y, rfl, b183_19 ?_⟩⟩, fun hc => ⟨w_obj_fld e, c179 e ⟨-1, rfl, b183_11 (b183_19 ?_)⟩⟩⟩)
  · rw [if_neg hc] at H
    exact H
  · have hy : y = -1 := Classical.not_not.mp hc
    rw [if_pos hy, hy] at H
    exact H
theorem c192 {x y z : Int32} (H : Q (some (.int (i_bo (y ≤ x ∧ x ≤ z)))) h) : i_C i_MT i_AT L xs 192 [.int x, .int y, .int z] h Q := by
  refine e192 (b192_0 ⟨fun hc => b192_14 (b192_15 ⟨rfl, ?_⟩), fun hc => ⟨fun hd => b192_14 (b192_15 ⟨rfl, ?_⟩), fun hd => b192_15 ⟨rfl, ?_⟩⟩⟩)
  · rw [i_bo_f (fun q => absurd q.1 (Int32.not_le.mpr hc))] at H
    exact H
  · rw [i_bo_f (fun q => absurd q.2 (Int32.not_le.mpr hd))] at H
    exact H
  · rw [i_bo_t ⟨Int32.not_lt.mp hc, Int32.not_lt.mp hd⟩] at H
    exact H
theorem c190 {x : Int32} (H : Q (some (.int (i_bo (0 ≤ x ∧ x ≤ 60)))) h) : i_C i_MT i_AT L xs 190 [.int x] h Q := e190 (b190_0 (c192 ⟨_, rfl, b190_7 ⟨i_bo_ret, H⟩⟩))
theorem c191 {x : Int32} (H : Q (some (.int (i_bo (1 ≤ x ∧ x ≤ 60)))) h) : i_C i_MT i_AT L xs 191 [.int x] h Q := e191 (b191_0 (c192 ⟨_, rfl, b191_7 ⟨i_bo_ret, H⟩⟩))
theorem c194 {x y : Int32} (H : Q (some (.int ((x * (16 - y)) / 16))) h) : i_C i_MT i_AT L xs 194 [.int x, .int y] h Q := e194 (b194_0 ⟨by decide, H⟩)
theorem c193 {x : Int64} {k : Nat} (hk : k < 64) (H : Q (some (.int (i_bo (i_b x k = true)))) h) : i_C i_MT i_AT L xs 193 [.long x, .int (i_n k)] h Q := by
  refine e193 (b193_0 ⟨fun hc => b193_15 ⟨rfl, ?_⟩, fun hc => b193_15 ⟨rfl, ?_⟩⟩)
  · rw [j_cmp0, j_has x hk] at hc
    rw [i_bo_f (by rw [hc]; exact fun z => by cases z)] at H
    exact H
  · rw [j_cmp0, j_has x hk] at hc
    rw [i_bo_t (by simpa using hc)] at H
    exact H
/-! sets that a loop lays -/
def o_is (s : Int64) (n : Nat) (P : Nat → Bool) : Prop := ∀ c, c < 64 → i_b s c = (decide (c < n) && P c)
theorem o_is.ext {s s2 : Int64} {n : Nat} {P : Nat → Bool} (x : o_is s n P) (y : o_is s2 n P) : s = s2 := j_ext (fun c hc => (x c hc).trans (y c hc).symm)
theorem o_is.congr {s : Int64} {n : Nat} {P P2 : Nat → Bool} (x : o_is s n P) (e : ∀ c, c < n → P c = P2 c) : o_is s n P2 := fun c hc => by
  rw [x c hc]
  by_cases h : c < n
  · simp [h, e c h]
  · simp [h]
theorem o_is.zero {P : Nat → Bool} : o_is 0 0 P := fun c _ => by rw [j_0]; simp
theorem o_is.t {s : Int64} {k : Nat} {P : Nat → Bool} (x : o_is s k P) (hk : k < 64) (hp : P k = true) : o_is (s ||| ((1 : Int64) <<< ((i_n k).toInt64 &&& (63 : Int64)))) (k + 1) P := fun c hc => by
  rw [j_or, j_one hk, x c hc]
  by_cases h : c = k
  · subst h; simp [hp]
  · by_cases h2 : c < k
    · simp [h2, h, show c < k + 1 by omega]
    · simp [h2, h, show ¬ c < k + 1 by omega]
theorem o_is.f {s : Int64} {k : Nat} {P : Nat → Bool} (x : o_is s k P) (hp : P k = false) : o_is s (k + 1) P := fun c hc => by
  rw [x c hc]
  by_cases h : c = k
  · subst h; simp [hp]
  · by_cases h2 : c < k
    · simp [h2, show c < k + 1 by omega]
    · simp [h2, show ¬ c < k + 1 by omega]
theorem o_is.b {s : Int64} {n c : Nat} {P : Nat → Bool} (x : o_is s n P) (hc : c < n) (h64 : c < 64) : i_b s c = P c := by
  rw [x c h64]; simp [hc]
theorem o_is.ne {s : Int64} {n : Nat} {P : Nat → Bool} (x : o_is s n P) (hn : n ≤ 48) : s ≠ -1 := by
  intro e
  have := x 63 (by omega)
  rw [e] at this
  simp [show ¬ 63 < n by omega] at this
  revert this
  decide
/-- the grid holds the town's cells -/
def o_onl (W b c z : Nat) : Bool := (List.range (o_far W b c)).any (fun k => k != 0 && o_mid W (o_far W b c) k b c == z)
def i_GR (a : Nat → Nat) (h : iH) : Prop := (fI h 96 0 = i_n (a 0) ∧ fI h 96 1 = i_n (a 1) ∧ fI h 96 2 = i_n (a 0 * a 1)) ∧
  (o_is (fJ h 96 3) (a 0 * a 1) (fun _ => true) ∧ o_is (fJ h 96 4) (a 0 * a 1) (fun c => !o_wall a c) ∧ o_is (fJ h 96 5) (a 0 * a 1) (fun c => c % a 0 == 0) ∧ o_is (fJ h 96 6) (a 0 * a 1) (fun c => c % a 0 + 1 == a 0)) ∧
  (∀ c, c < a 0 * a 1 → aI h 97 c = i_n (c % a 0) ∧ aI h 98 c = i_n (c / a 0)) ∧
  (∀ b c, b < a 0 * a 1 → c < a 0 * a 1 → aJ h 99 (b * 48 + c) = -1 ∨ o_is (aJ h 99 (b * 48 + c)) (a 0 * a 1) (o_onl (a 0) b c)) ∧
  (∀ b w, b < a 0 * a 1 → w < 8 → aJ h 100 (b * 8 + w) = -1 ∨ o_is (aJ h 100 (b * 8 + w)) (a 0 * a 1) (o_cone (a 0) b w))
theorem i_EASTn {k : Nat} (hk : k < 8) : i_EAST k = i_n (o_ex k) - i_n 1 := by
  have : ∀ j : Fin 8, i_EAST j.val = i_n (o_ex j.val) - i_n 1 := by decide
  exact this ⟨k, hk⟩
theorem i_SOUTHn {k : Nat} (hk : k < 8) : i_SOUTH k = i_n (o_sy k) - i_n 1 := by
  have : ∀ j : Fin 8, i_SOUTH j.val = i_n (o_sy j.val) - i_n 1 := by decide
  exact this ⟨k, hk⟩
theorem j_cmpn (x y : Int64) : lg_cmp x y = i_n 0 ↔ x = y := j_cmp x y
theorem i_bo01 {P : Prop} [Decidable P] : i_bo P = i_n 0 ↔ ¬ P := i_bo_0
theorem c25 (hL : i_Lay h) (w : o_WF a) (g : i_GR a h) {c k : Nat} (hc : c < a 0 * a 1) (hk : k < 8) (H : Q (some (.int (o_op (o_lead (a 0) (a 1) c k)))) h) : i_C i_MT i_AT L xs 25 [.ref 96, .int (i_n c), .int (i_n k)] h Q := by
  have hp := w.pos hc
  have h48 := w.c48
  have hW : fI h 96 0 = i_n (a 0) := g.1.1
  have hH : fI h 96 1 = i_n (a 1) := g.1.2.1
  have hX : ∀ c, c < a 0 * a 1 → aI h 97 c = i_n (c % a 0) := fun c hc => (g.2.2.1 c hc).1
  have hY : ∀ c, c < a 0 * a 1 → aI h 98 c = i_n (c / a 0) := fun c hc => (g.2.2.1 c hc).2
  have e1 : c % a 0 < 8 := by have := Nat.mod_lt c (show a 0 > 0 by omega); omega
  have e3 : c / a 0 < 48 := by have := Nat.div_le_self c (a 0); omega
  have q3 := z_dv c (a 0)
  have e5 := o_ex_le k
  have e6 := o_sy_le k
  have bad : ¬ (1 ≤ c % a 0 + o_ex k ∧ c % a 0 + o_ex k ≤ a 0 ∧ 1 ≤ c / a 0 + o_sy k ∧ c / a 0 + o_sy k ≤ a 1) → ∀ u v, i_P i_MT i_AT L xs 25 68 [some (.ref 96), some (.int (i_n c)), some (.int (i_n k)), some (.int u), some (.int v)] [] h 0 0 Q := by
    intro hn u v
    unfold o_lead at H
    rw [if_neg hn] at H
    exact d25_68 hL (d25_69 hL H)
  refine e25 (d25_0 hL ?_)
  try simp (disch := omega) only [n_lit, n_m, n_add, n_mul, n_div, n_mod, n_cl, n_lt, n_le, n_eq, n_in, n_eqm, n_meq, n_mlt, n_ltm, n_mle, n_lem, not_true_eq_false, not_false_eq_true, true_implies, false_implies, true_and, and_true, Nat.not_lt_zero, Nat.zero_le, hW, hX, hY, i_EASTn, i_SOUTHn, n_prd, n_sub]
  by_cases hx : c % a 0 + o_ex k = 0
  · simp only [if_pos hx]
    refine ⟨by omega, by omega, by omega, by omega, c192 ⟨_, rfl, d25_38 hL ⟨fun _ => bad (by omega) _ _, fun z => ?_⟩⟩⟩
    exact absurd (i_bo_f (fun q => absurd q.1 (by decide))) z
  simp only [if_neg hx]
  refine ⟨by omega, by omega, by omega, by omega, c192 ⟨_, rfl, d25_38 hL ⟨fun z => ?_, fun z => ?_⟩⟩⟩
  · try simp (disch := omega) only [n_lit, n_m, n_add, n_mul, n_div, n_mod, n_cl, n_lt, n_le, n_eq, n_in, n_eqm, n_meq, n_mlt, n_ltm, n_mle, n_lem, not_true_eq_false, not_false_eq_true, true_implies, false_implies, true_and, and_true, Nat.not_lt_zero, Nat.zero_le, i_bo01] at z
    exact bad (by omega) _ _
  try simp (disch := omega) only [n_lit, n_m, n_add, n_mul, n_div, n_mod, n_cl, n_lt, n_le, n_eq, n_in, n_eqm, n_meq, n_mlt, n_ltm, n_mle, n_lem, not_true_eq_false, not_false_eq_true, true_implies, false_implies, true_and, and_true, Nat.not_lt_zero, Nat.zero_le, i_bo01, Classical.not_not] at z
  rw [hH]
  by_cases hy : c / a 0 + o_sy k = 0
  · simp only [if_pos hy]
    refine c192 ⟨_, rfl, d25_53 hL ⟨fun _ => bad (by omega) _ _, fun z => ?_⟩⟩
    exact absurd (i_bo_f (fun q => absurd q.1 (by decide))) z
  simp only [if_neg hy]
  try simp (disch := omega) only [n_lit, n_m, n_add, n_mul, n_div, n_mod, n_cl, n_lt, n_le, n_eq, n_in, n_eqm, n_meq, n_mlt, n_ltm, n_mle, n_lem, not_true_eq_false, not_false_eq_true, true_implies, false_implies, true_and, and_true, Nat.not_lt_zero, Nat.zero_le, n_sub]
  refine c192 ⟨_, rfl, d25_53 hL ⟨fun z => ?_, fun z2 => ?_⟩⟩
  · try simp (disch := omega) only [n_lit, n_m, n_add, n_mul, n_div, n_mod, n_cl, n_lt, n_le, n_eq, n_in, n_eqm, n_meq, n_mlt, n_ltm, n_mle, n_lem, not_true_eq_false, not_false_eq_true, true_implies, false_implies, true_and, and_true, Nat.not_lt_zero, Nat.zero_le, i_bo01] at z
    exact bad (by omega) _ _
  try simp (disch := omega) only [n_lit, n_m, n_add, n_mul, n_div, n_mod, n_cl, n_lt, n_le, n_eq, n_in, n_eqm, n_meq, n_mlt, n_ltm, n_mle, n_lem, not_true_eq_false, not_false_eq_true, true_implies, false_implies, true_and, and_true, Nat.not_lt_zero, Nat.zero_le, i_bo01, Classical.not_not] at z2
  rw [hW]
  try simp (disch := omega) only [n_lit, n_m, n_add, n_mul, n_div, n_mod, n_cl, n_lt, n_le, n_eq, n_in, n_eqm, n_meq, n_mlt, n_ltm, n_mle, n_lem, not_true_eq_false, not_false_eq_true, true_implies, false_implies, true_and, and_true, Nat.not_lt_zero, Nat.zero_le]
  unfold o_lead at H
  rw [if_pos (by omega)] at H
  rw [Nat.mul_comm] at H
  exact d25_69 hL H
theorem c26 (hL : i_Lay h) (w : o_WF a) (g : i_GR a h) {c k : Nat} (hc : c < a 0 * a 1) (hk : k < 8) (H : Q (some (.int (i_n (match o_lead (a 0) (a 1) c k with
  | some t => if o_wall a t then c else t
  | none => c)))) h) : i_C i_MT i_AT L xs 26 [.ref 96, .int (i_n c), .int (i_n k)] h Q := by
  have h48 := w.c48
  refine e26 (d26_0 hL (c25 hL w g hc hk ⟨_, rfl, d26_6 hL ?_⟩))
  cases hl : o_lead (a 0) (a 1) c k with
  | none =>
    rw [hl] at H
    exact ⟨fun _ => d26_27 hL (d26_28 hL H), fun z => absurd rfl z⟩
  | some t =>
    have ht := o_lead_lt hl
    rw [hl] at H
    dsimp only [o_op] at H ⊢
    try simp (disch := omega) only [n_lit, n_m, n_add, n_mul, n_div, n_mod, n_cl, n_lt, n_le, n_eq, n_in, n_eqm, n_meq, n_mlt, n_ltm, n_mle, n_lem, not_true_eq_false, not_false_eq_true, true_implies, false_implies, true_and, and_true, Nat.not_lt_zero, Nat.zero_le]
    refine c193 (by omega) ⟨_, rfl, d26_20 hL ⟨fun z => ?_, fun z => ?_⟩⟩
    · rw [i_bo_0, g.2.1.2.1.b ht (by omega)] at z
      rw [if_pos (by simpa using z)] at H
      exact d26_27 hL (d26_28 hL H)
    · rw [i_bo_0, g.2.1.2.1.b ht (by omega), Classical.not_not] at z
      rw [if_neg (by simpa using z)] at H
      exact d26_28 hL H
theorem c27 (hL : i_Lay h) (w : o_WF a) (g : i_GR a h) {b c : Nat} (hb : b < a 0 * a 1) (hc : c < a 0 * a 1) (H : Q (some (.int (i_n (o_far (a 0) b c)))) h) : i_C i_MT i_AT L xs 27 [.ref 96, .int (i_n b), .int (i_n c)] h Q := by
  have hp := w.pos hc
  have h48 := w.c48
  have hX : ∀ c, c < a 0 * a 1 → aI h 97 c = i_n (c % a 0) := fun c hc => (g.2.2.1 c hc).1
  have hY : ∀ c, c < a 0 * a 1 → aI h 98 c = i_n (c / a 0) := fun c hc => (g.2.2.1 c hc).2
  have e1 : b % a 0 < 8 := by have := Nat.mod_lt b (show a 0 > 0 by omega); omega
  have e2 : c % a 0 < 8 := by have := Nat.mod_lt c (show a 0 > 0 by omega); omega
  have e3 : b / a 0 < 48 := by have := Nat.div_le_self b (a 0); omega
  have q3 := z_dv b (a 0)
  have e4 : c / a 0 < 48 := by have := Nat.div_le_self c (a 0); omega
  have q4 := z_dv c (a 0)
  have ab : ∀ u v : Nat, u < 1000 → v < 1000 → ((0 : Int32) ≤ i_n u - i_n v → i_n u - i_n v = i_n ((v - u) + (u - v))) ∧ (¬ (0 : Int32) ≤ i_n u - i_n v → -(i_n u - i_n v) = i_n ((v - u) + (u - v))) := by
    intro u v hu hv
    have := n_abs hu hv
    rw [Nat.add_comm] at this
    exact ⟨fun q => by rw [if_pos q] at this; exact this, fun q => by rw [if_neg q] at this; exact this⟩
  have fin : ∀ u v : Int32, i_P i_MT i_AT L xs 27 54 [some (.ref 96), some (.int (i_n b)), some (.int (i_n c)), some (.int u), some (.int v), some (.int (i_n ((b % a 0 - c % a 0) + (c % a 0 - b % a 0)))), none] [.int (i_n ((b / a 0 - c / a 0) + (c / a 0 - b / a 0)))] h 0 0 Q := by
    intro u v
    refine d27_54 hL ?_
    try simp (disch := omega) only [n_lit, n_m, n_add, n_mul, n_div, n_mod, n_cl, n_lt, n_le, n_eq, n_in, n_eqm, n_meq, n_mlt, n_ltm, n_mle, n_lem, not_true_eq_false, not_false_eq_true, true_implies, false_implies, true_and, and_true, Nat.not_lt_zero, Nat.zero_le]
    unfold o_far at H
    refine ⟨fun z => d27_70 hL ?_, fun z => d27_70 hL ?_⟩
    · rw [Nat.max_eq_right (by omega)] at H; exact H
    · rw [Nat.max_eq_left (by omega)] at H; exact H
  have mid : ∀ u : Int32, i_P i_MT i_AT L xs 27 39 [some (.ref 96), some (.int (i_n b)), some (.int (i_n c)), some (.int u), some (.int (i_n (c / a 0) - i_n (b / a 0))), none, none] [.int (i_n ((b % a 0 - c % a 0) + (c % a 0 - b % a 0)))] h 0 0 Q := by
    intro u
    refine d27_39 hL ⟨fun z => ?_, fun z => ?_⟩
    · have e := (ab _ _ (by omega) (by omega)).1 z
      have := fin u (i_n (c / a 0) - i_n (b / a 0))
      rw [← e] at this
      exact this
    · have e := (ab _ _ (by omega) (by omega)).2 z
      have := fin u (i_n (c / a 0) - i_n (b / a 0))
      rw [← e] at this
      exact this
  refine e27 (d27_0 hL ?_)
  simp (disch := omega) only [n_cl, hX, hY]
  refine ⟨(n_in (by omega)).mpr (by omega), (n_in (by omega)).mpr (by omega), (n_in (by omega)).mpr (by omega), (n_in (by omega)).mpr (by omega), fun z => ?_, fun z => ?_⟩
  · have := mid (i_n (c % a 0) - i_n (b % a 0))
    rw [← (ab _ _ (by omega) (by omega)).1 z] at this
    exact this
  · have := mid (i_n (c % a 0) - i_n (b % a 0))
    rw [← (ab _ _ (by omega) (by omega)).2 z] at this
    exact this
end
