/-! WHAT IS TAKEN FROM THE TEXT, the reference -/
section
variable {L : Nat} {xs : Nat → Int32} {h : iH} {Q : Option Value → iH → Prop} {a : Nat → Nat} {t : Nat} {n k : Nat} {T : Nat → Nat}
set_option maxRecDepth 20000
/-- a name's code of 8 bits a letter, out of the one of 5 -/
def o_58 : Nat → Nat → Nat
  | 0, _ => 0
  | f + 1, v => if v = 0 then 0 else o_58 f (v / 32) * 256 + (v % 32 + 96)
def o_w8 (T : Nat → Nat) (s : Nat) : Nat → Nat
  | 0 => 0
  | m + 1 => o_w8 T s m * 256 + T (s + m)
theorem o_58_w5 {s : Nat} : ∀ f m, m ≤ f → (∀ i, i < m → 97 ≤ T (s + i) ∧ T (s + i) ≤ 122) → o_58 f (o_w5 T s m) = o_w8 T s m
  | 0, 0, _, _ => rfl
  | 0, m + 1, hm, _ => absurd hm (by omega)
  | f + 1, 0, _, _ => by rw [o_58, o_w5, if_pos rfl, o_w8]
  | f + 1, m + 1, hm, z => by
    have h1 := z m (by omega)
    rw [o_58, o_w5, if_neg (by omega), o_w8]
    rw [show (o_w5 T s m * 32 + (T (s + m) - 96)) / 32 = o_w5 T s m by omega, show (o_w5 T s m * 32 + (T (s + m) - 96)) % 32 = T (s + m) - 96 by omega, o_58_w5 f m (by omega) (fun i hi => z i (by omega))]
    omega
theorem o_58_inj : ∀ f v w, v < 32 ^ f → w < 32 ^ f → o_58 f v = o_58 f w → v = w
  | 0, v, w, h1, h2, _ => by
    rw [Nat.pow_zero] at h1 h2
    omega
  | f + 1, v, w, h1, h2, e => by
    rw [Nat.pow_succ] at h1 h2
    rw [o_58, o_58] at e
    by_cases q1 : v = 0
    · by_cases q2 : w = 0
      · omega
      · rw [if_pos q1, if_neg q2] at e; omega
    · by_cases q2 : w = 0
      · rw [if_neg q1, if_pos q2] at e; omega
      · rw [if_neg q1, if_neg q2] at e
        have := o_58_inj f (v / 32) (w / 32) (by omega) (by omega) (by omega)
        omega
theorem o_58_lt : ∀ f v, o_58 f v < 256 ^ f
  | 0, _ => (by show 0 < 1; decide)
  | f + 1, v => by
    have := o_58_lt f (v / 32)
    rw [o_58, Nat.pow_succ]
    split
    · have : 0 < 256 ^ f := Nat.pow_pos (by omega)
      omega
    · omega
theorem jj_inj {x y : Nat} (hx : x < 18446744073709551616) (hy : y < 18446744073709551616) : i_j x = i_j y ↔ x = y := by
  constructor
  · intro e
    refine Nat.eq_of_testBit_eq (fun c => ?_)
    by_cases q : c < 64
    · rw [← jj_b q, ← jj_b q, e]
    · rw [Nat.testBit_lt_two_pow (Nat.lt_of_lt_of_le hx (Nat.pow_le_pow_right (n := 2) (i := 64) (j := c) (by omega) (by omega))), Nat.testBit_lt_two_pow (Nat.lt_of_lt_of_le hy (Nat.pow_le_pow_right (n := 2) (i := 64) (j := c) (by omega) (by omega)))]
  · intro e; rw [e]
theorem o_58c {v w : Nat} (hv : v < 1099511627776) (hw : w < 1099511627776) : i_j (o_58 8 v) = i_j (o_58 8 w) ↔ v = w := by
  have h1 := o_58_lt 8 v
  have h2 := o_58_lt 8 w
  rw [jj_inj h1 h2]
  exact ⟨fun e => o_58_inj 8 v w hv hw e, fun e => by rw [e]⟩
/-- the names of the town a, of the class, of the reference from b on -/
def i_NC (a : Nat → Nat) (t : Nat) (h : iH) : Prop := ∀ p, p < a 5 → aJ h (t + 8) p = i_j (a (800 + p))
def i_NR (a : Nat → Nat) (b : Nat) (h : iH) : Prop := ∀ p, p < a 5 → aJ h 140 (b + p) = i_j (o_58 8 (a (800 + p)))
def o_NW (a : Nat → Nat) : Prop := ∀ p, p < a 5 → a (800 + p) < 1099511627776
/-- the first of the names from i on that is v -/
def o_fu (a : Nat → Nat) (v : Nat) : Nat → Nat → Option Nat
  | 0, _ => none
  | f + 1, i => if a (800 + i) = v then some i else o_fu a v f (i + 1)
theorem o_fu_lt {v : Nat} : ∀ f i p, o_fu a v f i = some p → p < i + f
  | 0, i, p, e => by rw [o_fu] at e; cases e
  | f + 1, i, p, e => by
    rw [o_fu] at e
    split at e
    · cases e; omega
    · have := o_fu_lt f (i + 1) p e; omega
def o_fnd (a : Nat → Nat) (v : Nat) : Option Nat := o_fu a v (a 5) 0
theorem o_fd_lt {v p : Nat} (e : o_fnd a v = some p) : p < a 5 := by
  have := o_fu_lt _ _ _ e
  omega
theorem c34 (hL : i_Lay h) (ht : i_T t) (h5 : a 5 ≤ 8) (e5 : fI h (t + 7) 0 = i_n (a 5)) (nc : i_NC a t h) (nw : o_NW a) {v : Nat} (hv : v < 1099511627776) (H : Q (some (.int (o_op (o_fnd a v)))) h) : i_C i_MT i_AT L xs 34 [.ref (t + 7), .long (i_j v)] h Q := by
  have loop : ∀ i, i ≤ a 5 → Q (some (.int (o_op (o_fu a v (a 5 - i) i)))) h → i_P i_MT i_AT L xs 34 2 [some (.ref (t + 7)), some (.long (i_j v)), none, some (.int (i_n i))] [] h 0 0 Q := by
    refine l_up ?_ ?_
    · intro H
      refine d34_2 hL ht ?_
      rw [e5]
      try simp (disch := omega) only [n_lit, n_m, n_add, n_mul, n_div, n_mod, n_cl, n_lt, n_le, n_eq, n_in, n_eqm, n_meq, n_mlt, n_ltm, n_mle, n_lem, not_true_eq_false, not_false_eq_true, true_implies, false_implies, true_and, and_true, Nat.not_lt_zero, Nat.zero_le, Nat.le_refl]
      rw [Nat.sub_self] at H
      exact H
    · intro i hi ih H
      have w1 := nw i hi
      refine d34_2 hL ht ?_
      rw [e5]
      try simp (disch := omega) only [n_lit, n_m, n_add, n_mul, n_div, n_mod, n_cl, n_lt, n_le, n_eq, n_in, n_eqm, n_meq, n_mlt, n_ltm, n_mle, n_lem, not_true_eq_false, not_false_eq_true, true_implies, false_implies, true_and, and_true, Nat.not_lt_zero, Nat.zero_le, nc i hi]
      rw [show a 5 - i = (a 5 - (i + 1)) + 1 by omega, o_fu] at H
      refine ⟨fun q => by omega, fun _ => ⟨by omega, ?_⟩⟩
      try simp (disch := omega) only [n_lit, n_m, n_add, n_mul, n_div, n_mod, n_cl, n_lt, n_le, n_eq, n_in, n_eqm, n_meq, n_mlt, n_ltm, n_mle, n_lem, not_true_eq_false, not_false_eq_true, true_implies, false_implies, true_and, and_true, Nat.not_lt_zero, Nat.zero_le, j_cmpn]
      rw [jj_eq (by omega) (by omega)]
      refine ⟨fun q => ih ?_, fun q => ?_⟩
      · rw [if_neg q] at H; exact H
      · rw [if_pos (Classical.not_not.mp q)] at H; exact H
  exact e34 (d34_0 hL ht (loop 0 (Nat.zero_le _) H))
theorem o_tkc_58 (e : o_tkk T n k = 2) (l8 : o_tke T n k - o_tks T n k ≤ 8) : o_58 8 (o_tkc T n k) = o_w8 T (o_tks T n k) (o_tke T n k - o_tks T n k) := by
  obtain ⟨-, h1, h3⟩ := o_tkk2 e
  unfold o_tkc
  rw [if_pos ⟨e, l8⟩]
  exact o_58_w5 8 _ l8 (fun i hi => h3 _ (by omega) (by omega))
theorem c227 (hL : i_Lay h) (x : i_TXr h n T) (z : i_RK h T n k) (hk : k ≤ n) (e : o_tkk T n k = 2) (l8 : o_tke T n k - o_tks T n k ≤ 8) (H : Q (some (.long (i_j (o_58 8 (o_tkc T n k))))) h) : i_C i_MT i_AT L xs 227 [.ref 138] h Q := by
  have tl := o_tk_le (T := T) hk
  have hn := x.2.1
  rw [o_tkc_58 e l8] at H
  have loop : ∀ m, m ≤ o_tke T n k - o_tks T n k → i_P i_MT i_AT L xs 227 7 [some (.ref 138), some (.long (i_j (o_w8 T (o_tks T n k) m))), none, some (.int (i_n (o_tks T n k + m)))] [] h 0 0 Q := by
    refine l_up ?_ ?_
    · refine d227_7 hL ?_
      rw [z.2.2.1]
      try simp (disch := omega) only [n_lit, n_m, n_add, n_mul, n_div, n_mod, n_cl, n_lt, n_le, n_eq, n_in, n_eqm, n_meq, n_mlt, n_ltm, n_mle, n_lem, not_true_eq_false, not_false_eq_true, true_implies, false_implies, true_and, and_true, Nat.not_lt_zero, Nat.zero_le]
      exact ⟨fun _ => H, fun q => by omega⟩
    · intro m hm ih
      have T5 := (x.2.2 (o_tks T n k + m) (by omega)).1
      refine d227_7 hL ?_
      rw [z.2.2.1]
      try simp (disch := omega) only [n_lit, n_m, n_add, n_mul, n_div, n_mod, n_cl, n_lt, n_le, n_eq, n_in, n_eqm, n_meq, n_mlt, n_ltm, n_mle, n_lem, not_true_eq_false, not_false_eq_true, true_implies, false_implies, true_and, and_true, Nat.not_lt_zero, Nat.zero_le]
      refine ⟨fun q => by omega, fun _ => c215 hL x (by omega) ⟨_, rfl, d227_24 hL ?_⟩⟩
      rw [o_bt_t (by omega), show (i_n 8).toInt64 = (i_n 8).toInt64 from rfl, jj_shl (by omega), jj_n (by omega), jj_or]
      try simp (disch := omega) only [n_lit, n_m, n_add, n_mul, n_div, n_mod, n_cl, n_lt, n_le, n_eq, n_in, n_eqm, n_meq, n_mlt, n_ltm, n_mle, n_lem, not_true_eq_false, not_false_eq_true, true_implies, false_implies, true_and, and_true, Nat.not_lt_zero, Nat.zero_le]
      have := Nat.shiftLeft_add_eq_or_of_lt (show T (o_tks T n k + m) < 2 ^ 8 by omega) (o_w8 T (o_tks T n k) m)
      rw [← this, Nat.shiftLeft_eq]
      exact ih
  refine e227 (d227_0 hL ?_)
  rw [z.2.1]
  exact loop 0 (Nat.zero_le _)
theorem c228 (hL : i_Lay h) (x : i_TXr h n T) (z : i_RK h T n k) (hk : k ≤ n) (e : o_tkk T n k = 2) (l8 : o_tke T n k - o_tks T n k ≤ 8) (h5 : a 5 ≤ 8) {b : Nat} (hb : b ≤ 32) (nr : i_NR a b h) (nw : o_NW a) (H : Q (some (.int (o_op (o_fnd a (o_tkc T n k))))) h) : i_C i_MT i_AT L xs 228 [.ref 138, .int (i_n b), .int (i_n (a 5))] h Q := by
  have cl := o_tkc_lt (T := T) (n := n) (k := k)
  have loop : ∀ i, i ≤ a 5 → Q (some (.int (o_op (o_fu a (o_tkc T n k) (a 5 - i) i)))) h → i_P i_MT i_AT L xs 228 2 [some (.ref 138), some (.int (i_n b)), some (.int (i_n (a 5))), some (.int (i_n i))] [] h 0 0 Q := by
    refine l_up ?_ ?_
    · intro H
      refine d228_2 hL ?_
      try simp (disch := omega) only [n_lit, n_m, n_add, n_mul, n_div, n_mod, n_cl, n_lt, n_le, n_eq, n_in, n_eqm, n_meq, n_mlt, n_ltm, n_mle, n_lem, not_true_eq_false, not_false_eq_true, true_implies, false_implies, true_and, and_true, Nat.not_lt_zero, Nat.zero_le, Nat.le_refl]
      rw [Nat.sub_self] at H
      exact H
    · intro i hi ih H
      have w1 := nw i hi
      refine d228_2 hL ?_
      try simp (disch := omega) only [n_lit, n_m, n_add, n_mul, n_div, n_mod, n_cl, n_lt, n_le, n_eq, n_in, n_eqm, n_meq, n_mlt, n_ltm, n_mle, n_lem, not_true_eq_false, not_false_eq_true, true_implies, false_implies, true_and, and_true, Nat.not_lt_zero, Nat.zero_le]
      rw [show a 5 - i = (a 5 - (i + 1)) + 1 by omega, o_fu] at H
      refine ⟨fun q => by omega, fun _ => ⟨by omega, c227 hL x z hk e l8 ⟨_, rfl, d228_19 hL ?_⟩⟩⟩
      rw [nr i hi, show (0 : Int32) = i_n 0 from rfl, j_cmpn, o_58c w1 cl]
      try simp (disch := omega) only [n_lit, n_m, n_add, n_mul, n_div, n_mod, n_cl, n_lt, n_le, n_eq, n_in, n_eqm, n_meq, n_mlt, n_ltm, n_mle, n_lem, not_true_eq_false, not_false_eq_true, true_implies, false_implies, true_and, and_true, Nat.not_lt_zero, Nat.zero_le]
      refine ⟨fun q => ih ?_, fun q => ?_⟩
      · rw [if_neg q] at H; exact H
      · rw [if_pos (Classical.not_not.mp q)] at H; exact H
  exact e228 (d228_0 hL (loop 0 (Nat.zero_le _) H))
theorem c226 (hL : i_Lay h) (x : i_TXr h n T) (z : i_RK h T n k) (hk : k ≤ n) (H : Q (some (.int (i_bo (o_nm T n k)))) h) : i_C i_MT i_AT L xs 226 [.ref 138, .retAddr 7] h Q := by
  have k4 := o_tkk4 (T := T) (n := n) (k := k)
  have rl := o_rk_le (show o_tkk T n k ≤ 5 by omega)
  have tl := o_tk_le (T := T) hk
  have hn := x.2.1
  have no : ¬ o_nm T n k → i_P i_MT i_AT L xs 226 35 [some (.ref 138), some (.retAddr 7)] [] h 0 0 Q := fun q => by
    rw [i_bo_f q] at H
    exact d226_35 hL (d226_36 hL ⟨rfl, H⟩)
  refine e226 (d226_0 hL ?_)
  rw [z.1, z.2.1, z.2.2.1, show i_n (o_tke T n k) - i_n (o_tks T n k) = i_n (o_tke T n k - o_tks T n k) from n_sub (by omega)]
  try simp (disch := omega) only [n_lit, n_m, n_add, n_mul, n_div, n_mod, n_cl, n_lt, n_le, n_eq, n_in, n_eqm, n_meq, n_mlt, n_ltm, n_mle, n_lem, not_true_eq_false, not_false_eq_true, true_implies, false_implies, true_and, and_true, Nat.not_lt_zero, Nat.zero_le]
  rw [o_rk_2 k4]
  refine ⟨fun q => no (fun y => q y.1), fun q => ⟨fun q2 => no (fun y => by omega), fun q2 => c220 hL x z hk ⟨_, rfl, d226_27 hL ?_⟩⟩⟩
  rw [show (-1 : Int32) = i_m from rfl, o_ri_m]
  refine ⟨fun q3 => no (fun y => q3 y.2.2), fun q3 => ?_⟩
  rw [i_bo_t ⟨Classical.not_not.mp q, by omega, Classical.not_not.mp q3⟩] at H
  exact d226_36 hL ⟨rfl, H⟩
abbrev flF : List (Nat × Nat) := [(138, 19), (138, 20)]
abbrev rbF : List (Nat × Nat) := [(138, 14), (138, 15), (138, 16), (138, 17), (138, 19), (138, 20)]
def i_RBL (h : iH) (x p : Nat) : Prop := fI h 138 20 = i_n x ∧ fI h 138 19 = i_n p
theorem c221 (hL : i_Lay h) (z : i_RK h T n k) (e : fI h 138 20 = 0) {x : Nat} (H : ∀ h2, i_Lay h2 → i_Fr [] flF h h2 → i_RBL h2 (if o_tkk T n k = 4 then 1 else x) (o_tks T n k) → Q (some (.int 0)) h2) : i_C i_MT i_AT L xs 221 [.ref 138, .int (i_n x)] h Q := by
  have k4 := o_tkk4 (T := T) (n := n) (k := k)
  have rl := o_rk_le (show o_tkk T n k ≤ 5 by omega)
  have go : ∀ v, v = i_n (if o_tkk T n k = 4 then 1 else x) → i_P i_MT i_AT L xs 221 21 [some (.ref 138), some (.int (i_n x))] [.int v, .ref 138] h 0 0 Q := fun v hv => by
    refine d221_21 hL ?_
    refine w_sfI (R := fun z => i_P i_MT i_AT L xs 221 24 [some (.ref 138), some (.int (i_n x))] [] z 0 0 Q) hL hL.q138_20 (fun h1 L1 F1 E1 => d221_24 L1 ?_)
    refine w_sfI (R := fun z => i_P i_MT i_AT L xs 221 32 [some (.ref 138), some (.int (i_n x))] [] z 0 0 Q) L1 L1.q138_19 (fun h2 L2 F2 E2 => d221_32 L2 ?_)
    refine H h2 L2 ((F1.mono (fun _ z => z) (by decide)).trans (F2.mono (fun _ z => z) (by decide))) ⟨?_, ?_⟩
    · rw [F2.vI (by decide), E1, hv]
    · rw [E2, F1.vI (by decide)]; exact z.2.1
  refine e221 (d221_0 hL ⟨fun q => absurd e q, fun _ => ?_⟩)
  rw [z.1]
  try simp (disch := omega) only [n_lit, n_m, n_add, n_mul, n_div, n_mod, n_cl, n_lt, n_le, n_eq, n_in, n_eqm, n_meq, n_mlt, n_ltm, n_mle, n_lem, not_true_eq_false, not_false_eq_true, true_implies, false_implies, true_and, and_true, Nat.not_lt_zero, Nat.zero_le]
  rw [o_rk_1 k4]
  exact ⟨fun q => go _ (by rw [if_neg q]), fun q => go _ (by rw [if_pos (Classical.not_not.mp q)])⟩
/-- fails(2): what can't stand there -/
theorem c221b (hL : i_Lay h) (z : i_RK h T n k) (e : fI h 138 20 = 0) (H : ∀ h2, i_Lay h2 → i_Fr [] flF h h2 → i_RBL h2 (o_bad T n k) (o_tks T n k) → Q (some (.int 0)) h2) : i_C i_MT i_AT L xs 221 [.ref 138, .int 2] h Q := c221 (x := 2) hL z e H
/-- fails(x) at a token that can stand there -/
theorem c221g (hL : i_Lay h) (z : i_RK h T n k) (e : fI h 138 20 = 0) {x : Nat} (q : o_tkk T n k ≠ 4) (H : ∀ h2, i_Lay h2 → i_Fr [] flF h h2 → i_RBL h2 x (o_tks T n k) → Q (some (.int 0)) h2) : i_C i_MT i_AT L xs 221 [.ref 138, .int (i_n x)] h Q := c221 hL z e (fun h2 L2 f2 z2 => H h2 L2 f2 (by rw [if_neg q] at z2; exact z2))
theorem c219 (hL : i_Lay h) (z : i_RK h T n k) (H : Q (some (.int (i_bo (o_tkk T n k = 3)))) h) : i_C i_MT i_AT L xs 219 [.ref 138, .int 59] h Q := by
  have k4 := o_tkk4 (T := T) (n := n) (k := k)
  have rl := o_rk_le (show o_tkk T n k ≤ 5 by omega)
  refine e219 (d219_0 hL ?_)
  rw [z.1]
  try simp (disch := omega) only [n_lit, n_m, n_add, n_mul, n_div, n_mod, n_cl, n_lt, n_le, n_eq, n_in, n_eqm, n_meq, n_mlt, n_ltm, n_mle, n_lem, not_true_eq_false, not_false_eq_true, true_implies, false_implies, true_and, and_true, Nat.not_lt_zero, Nat.zero_le]
  rw [o_rk_4 k4]
  refine ⟨fun q => d219_20 hL (d219_21 hL ⟨rfl, ?_⟩), fun q => ?_⟩
  · rw [i_bo_f q] at H; exact H
  · have q := Classical.not_not.mp q
    rw [z.2.2.2.2 q]
    refine ⟨fun y => absurd rfl y, fun _ => d219_21 hL ⟨rfl, ?_⟩⟩
    rw [i_bo_t q] at H; exact H
/-- the next token is read -/
theorem c218n (hL : i_Lay h) (x : i_TXr h n T) (hk : k ≤ n) (z : i_RK h T n k) (H : ∀ h2, i_Lay h2 → i_Fr [] rkF h h2 → i_RK h2 T n (o_tke T n k) → Q none h2) : i_C i_MT i_AT L xs 218 [.ref 138] h Q := c218 hL x (o_tk_le (T := T) hk).2.2 z.2.2.1 H
theorem c223 (hL : i_Lay h) (x : i_TXr h n T) (hk : k ≤ n) (z : i_RK h T n k) (e : fI h 138 20 = 0) (H1 : o_tkk T n k = 3 → ∀ h2, i_Lay h2 → i_Fr [] rkF h h2 → i_RK h2 T n (o_tke T n k) → Q (some (.int 1)) h2) (H0 : o_tkk T n k ≠ 3 → ∀ h2, i_Lay h2 → i_Fr [] flF h h2 → i_RBL h2 (o_bad T n k) (o_tks T n k) → Q (some (.int 0)) h2) : i_C i_MT i_AT L xs 223 [.ref 138, .int 59] h Q := by
  refine e223 (d223_0 hL (c219 hL z ⟨_, rfl, d223_5 hL ?_⟩))
  rw [i_bo_0]
  exact ⟨fun q => c218n hL x hk z (fun h2 L2 f2 z2 => ⟨rfl, d223_18 L2 (H1 (Classical.not_not.mp q) h2 L2 f2 z2)⟩), fun q => c221b hL z e (fun h2 L2 f2 z2 => ⟨_, rfl, d223_13 L2 ⟨rfl, H0 (Classical.not_not.mp q) h2 L2 f2 z2⟩⟩)⟩
theorem c224 (hL : i_Lay h) (x : i_TXr h n T) (hk : k ≤ n) (z : i_RK h T n k) (e : fI h 138 20 = 0) {r w : Nat} (hr : r < 33) (hw : o_cw r = w) (H1 : o_wy T n k = w → ∀ h2, i_Lay h2 → i_Fr [] rkF h h2 → i_RK h2 T n (o_tke T n k) → Q (some (.int 1)) h2) (H0 : o_wy T n k ≠ w → ∀ h2, i_Lay h2 → i_Fr [] flF h h2 → i_RBL h2 (o_bad T n k) (o_tks T n k) → Q (some (.int 0)) h2) : i_C i_MT i_AT L xs 224 [.ref 138, .retAddr 7, .int (i_n r)] h Q := by
  refine e224 (d224_0 hL (c220 hL x z hk ⟨_, rfl, d224_5 hL ?_⟩))
  rw [o_ri_is hr, hw]
  exact ⟨fun q => c218n hL x hk z (fun h2 L2 f2 z2 => ⟨rfl, d224_19 L2 (H1 q h2 L2 f2 z2)⟩), fun q => c221b hL z e (fun h2 L2 f2 z2 => ⟨_, rfl, d224_14 L2 ⟨rfl, H0 q h2 L2 f2 z2⟩⟩)⟩
theorem o_nf_t {lo hi : Nat} (e : o_tkk T n k = 1) (q : lo ≤ o_tkv T n k ∧ o_tkv T n k ≤ hi) : o_nf T n k lo hi = 0 := by unfold o_nf; rw [if_pos e, if_pos q]
theorem o_nf_4 {lo hi : Nat} (e : o_tkk T n k = 1) (q : ¬ (lo ≤ o_tkv T n k ∧ o_tkv T n k ≤ hi)) : o_nf T n k lo hi = 4 := by unfold o_nf; rw [if_pos e, if_neg q]
theorem o_nf_b {lo hi : Nat} (e : o_tkk T n k ≠ 1) : o_nf T n k lo hi = o_bad T n k := by unfold o_nf; rw [if_neg e]
theorem o_nf_b0 {lo hi : Nat} (e : o_tkk T n k ≠ 1) : o_nf T n k lo hi ≠ 0 := by rw [o_nf_b e]; have := o_bad_0 (T := T) (n := n) (k := k); omega
theorem c225 (hL : i_Lay h) (x : i_TXr h n T) (hk : k ≤ n) (z : i_RK h T n k) (e : fI h 138 20 = 0) {to lo hi : Nat} (ht : to < 3400) (hl : lo < 1000) (hh : hi < 1000) (H1 : o_nf T n k lo hi = 0 → ∀ h2, i_Lay h2 → i_Fr [139] rkF h h2 → (∀ i, aI h2 139 i = if i = to then i_n (o_tkv T n k) else aI h 139 i) → i_RK h2 T n (o_tke T n k) → Q (some (.int 1)) h2) (H0 : o_nf T n k lo hi ≠ 0 → ∀ h2, i_Lay h2 → i_Fr [] flF h h2 → i_RBL h2 (o_nf T n k lo hi) (o_tks T n k) → Q (some (.int 0)) h2) : i_C i_MT i_AT L xs 225 [.ref 138, .int (i_n to), .int (i_n lo), .int (i_n hi)] h Q := by
  have k4 := o_tkk4 (T := T) (n := n) (k := k)
  have rl := o_rk_le (show o_tkk T n k ≤ 5 by omega)
  have vl := o_tkv_lt (T := T) (n := n) (k := k)
  refine e225 (d225_0 hL ?_)
  rw [z.1]
  try simp (disch := omega) only [n_lit, n_m, n_add, n_mul, n_div, n_mod, n_cl, n_lt, n_le, n_eq, n_in, n_eqm, n_meq, n_mlt, n_ltm, n_mle, n_lem, not_true_eq_false, not_false_eq_true, true_implies, false_implies, true_and, and_true, Nat.not_lt_zero, Nat.zero_le]
  rw [o_rk_3 k4]
  refine ⟨fun q => ?_, fun q => c221b hL z e (fun h2 L2 f2 z2 => ⟨_, rfl, d225_13 L2 ⟨rfl, H0 (o_nf_b0 q) h2 L2 f2 (by rw [o_nf_b q]; exact z2)⟩⟩)⟩
  have bad : ¬ (lo ≤ o_tkv T n k ∧ o_tkv T n k ≤ hi) → i_P i_MT i_AT L xs 225 30 [some (.ref 138), some (.int (i_n to)), some (.int (i_n lo)), some (.int (i_n hi))] [] h 0 0 Q := fun y => by
    have e4 := o_nf_4 q y
    exact d225_30 hL (c221g hL z e (x := 4) (by omega) (fun h2 L2 f2 z2 => ⟨_, rfl, d225_35 L2 ⟨rfl, H0 (by omega) h2 L2 f2 (by rw [e4]; exact z2)⟩⟩))
  rw [z.2.2.2.1 q]
  try simp (disch := omega) only [n_lit, n_m, n_add, n_mul, n_div, n_mod, n_cl, n_lt, n_le, n_eq, n_in, n_eqm, n_meq, n_mlt, n_ltm, n_mle, n_lem, not_true_eq_false, not_false_eq_true, true_implies, false_implies, true_and, and_true, Nat.not_lt_zero, Nat.zero_le]
  refine ⟨fun y => bad (by omega), fun y => ⟨fun y2 => ⟨by omega, ?_⟩, fun y2 => bad (by omega)⟩⟩
  have Fi : i_Fr [139] [] h (i_siI h 139 to (i_n (o_tkv T n k))) := i_Fr.refl.siI (by decide)
  have ea : ∀ i, aI (i_siI h 139 to (i_n (o_tkv T n k))) 139 i = if i = to then i_n (o_tkv T n k) else aI h 139 i := fun i => by rw [x_aI_siI hL.a139, x_upd]
  have L2 := hL.siI (q := 139) (i := to) (x := i_n (o_tkv T n k))
  generalize i_siI h 139 to (i_n (o_tkv T n k)) = h2 at Fi ea L2 ⊢
  refine d225_46 L2 (c218n L2 (x.fr Fi (by decide) (by simp)) hk (z.fr Fi (fun _ _ => by simp)) (fun h3 L3 f3 z3 => ⟨rfl, d225_50 L3 (H1 (o_nf_t q (by omega)) h3 L3 ((Fi.mono (fun _ z => z) (fun _ z => absurd z (by simp))).trans (f3.mono (fun _ z => absurd z (by simp)) (fun _ z => z))) (fun i => ?_) z3)⟩))
  rw [f3.rI (by simp)]
  exact ea i
/-- two numbers, a cell -/
abbrev clF : List (Nat × Nat) := [(138, 14), (138, 15), (138, 16), (138, 17), (138, 22)]
abbrev cbF : List (Nat × Nat) := [(138, 14), (138, 15), (138, 16), (138, 17), (138, 19), (138, 20), (138, 22)]
theorem c231 (hL : i_Lay h) (x : i_TXr h n T) (hk : k ≤ n) (z : i_RK h T n k) (e : fI h 138 20 = 0) {W H : Nat} (eW : aI h 139 2720 = i_n W) (eH : aI h 139 2721 = i_n H) (hW : 2 ≤ W ∧ W ≤ 8) (hH : 2 ≤ H ∧ H ≤ 6)
    (H1 : o_nf T n k 0 (W - 1) = 0 → o_nf T n (o_tke T n k) 0 (H - 1) = 0 → ∀ h2, i_Lay h2 → i_Fr [] clF h h2 → fI h2 138 22 = i_n (W * o_tkv T n (o_tke T n k) + o_tkv T n k) → i_RK h2 T n (o_tke T n k) → Q (some (.int 1)) h2)
    (H0 : o_nf T n k 0 (W - 1) ≠ 0 → ∀ h2, i_Lay h2 → i_Fr [] cbF h h2 → i_RBL h2 (o_nf T n k 0 (W - 1)) (o_tks T n k) → Q (some (.int 0)) h2)
    (H2 : o_nf T n k 0 (W - 1) = 0 → o_nf T n (o_tke T n k) 0 (H - 1) ≠ 0 → ∀ h2, i_Lay h2 → i_Fr [] cbF h h2 → i_RBL h2 (o_nf T n (o_tke T n k) 0 (H - 1)) (o_tks T n (o_tke T n k)) → Q (some (.int 0)) h2) : i_C i_MT i_AT L xs 231 [.ref 138] h Q := by
  have k4 := o_tkk4 (T := T) (n := n) (k := k)
  have rl := o_rk_le (show o_tkk T n k ≤ 5 by omega)
  have vl := o_tkv_lt (T := T) (n := n) (k := k)
  have tl := o_tk_le (T := T) hk
  refine e231 (d231_0 hL ?_)
  rw [z.1]
  try simp (disch := omega) only [n_lit, n_m, n_add, n_mul, n_div, n_mod, n_cl, n_lt, n_le, n_eq, n_in, n_eqm, n_meq, n_mlt, n_ltm, n_mle, n_lem, not_true_eq_false, not_false_eq_true, true_implies, false_implies, true_and, and_true, Nat.not_lt_zero, Nat.zero_le, eW]
  rw [o_rk_3 k4]
  refine ⟨fun q => ?_, fun q => c221b hL z e (fun h2 L2 f2 z2 => ⟨_, rfl, d231_13 L2 ⟨rfl, H0 (o_nf_b0 q) h2 L2 (f2.mono (fun _ z => z) (by decide)) (by rw [o_nf_b q]; exact z2)⟩⟩)⟩
  rw [z.2.2.2.1 q]
  try simp (disch := omega) only [n_lit, n_m, n_add, n_mul, n_div, n_mod, n_cl, n_lt, n_le, n_eq, n_in, n_eqm, n_meq, n_mlt, n_ltm, n_mle, n_lem, not_true_eq_false, not_false_eq_true, true_implies, false_implies, true_and, and_true, Nat.not_lt_zero, Nat.zero_le]
  refine ⟨fun q2 => ?_, fun q2 => ?_⟩
  · have nf := o_nf_t (lo := 0) (hi := W - 1) q ⟨by omega, by omega⟩
    refine c218n hL x hk z (fun h1 L1 f1 z1 => ⟨rfl, d231_44 L1 ?_⟩)
    have eW1 : aI h1 139 2720 = i_n W := by rw [f1.rI (by simp)]; exact eW
    have eH1 : aI h1 139 2721 = i_n H := by rw [f1.rI (by simp)]; exact eH
    have e1 : fI h1 138 20 = 0 := by rw [f1.vI (by decide)]; exact e
    have k41 := o_tkk4 (T := T) (n := n) (k := o_tke T n k)
    have rl1 := o_rk_le (show o_tkk T n (o_tke T n k) ≤ 5 by omega)
    have vl1 := o_tkv_lt (T := T) (n := n) (k := o_tke T n k)
    rw [z1.1]
    try simp (disch := omega) only [n_lit, n_m, n_add, n_mul, n_div, n_mod, n_cl, n_lt, n_le, n_eq, n_in, n_eqm, n_meq, n_mlt, n_ltm, n_mle, n_lem, not_true_eq_false, not_false_eq_true, true_implies, false_implies, true_and, and_true, Nat.not_lt_zero, Nat.zero_le, eW1, eH1]
    rw [o_rk_3 k41]
    refine ⟨fun p => ?_, fun p => c221b L1 z1 e1 (fun h2 L2 f2 z2 => ⟨_, rfl, d231_57 L2 ⟨rfl, H2 nf (o_nf_b0 p) h2 L2 ((f1.mono (fun _ z => z) (by decide)).trans (f2.mono (fun _ z => z) (by decide))) (by rw [o_nf_b p]; exact z2)⟩⟩)⟩
    have vW : W * o_tkv T n (o_tke T n k) < 80000 := by
      have := Nat.mul_le_mul hW.2 (show o_tkv T n (o_tke T n k) ≤ 9999 by omega)
      omega
    rw [z1.2.2.2.1 p]
    try simp (disch := omega) only [n_lit, n_m, n_add, n_mul, n_div, n_mod, n_cl, n_lt, n_le, n_eq, n_in, n_eqm, n_meq, n_mlt, n_ltm, n_mle, n_lem, not_true_eq_false, not_false_eq_true, true_implies, false_implies, true_and, and_true, Nat.not_lt_zero, Nat.zero_le]
    refine ⟨fun p2 => ?_, fun p2 => ?_⟩
    · have nf2 := o_nf_t (lo := 0) (hi := H - 1) p ⟨by omega, by omega⟩
      refine w_sfI (R := fun z => i_P i_MT i_AT L xs 231 98 [some (.ref 138), some (.int (i_n (o_tkv T n k)))] [] z 0 0 Q) L1 L1.q138_22 (fun h2 L2 F2 E2 => d231_98 L2 ?_)
      exact H1 nf nf2 h2 L2 ((f1.mono (fun _ z => z) (by decide)).trans (F2.mono (fun _ z => z) (by decide))) E2 (z1.fr F2 (by decide))
    · have nf2 := o_nf_4 (lo := 0) (hi := H - 1) p (by omega)
      exact c221g L1 z1 e1 (x := 4) (by omega) (fun h2 L2 f2 z2 => ⟨_, rfl, d231_78 L2 ⟨rfl, H2 nf (by omega) h2 L2 ((f1.mono (fun _ z => z) (by decide)).trans (f2.mono (fun _ z => z) (by decide))) (by rw [nf2]; exact z2)⟩⟩)
  · have nf := o_nf_4 (lo := 0) (hi := W - 1) q (by omega)
    exact c221g hL z e (x := 4) (by omega) (fun h2 L2 f2 z2 => ⟨_, rfl, d231_34 L2 ⟨rfl, H0 (by omega) h2 L2 (f2.mono (fun _ z => z) (by decide)) (by rw [nf]; exact z2)⟩⟩)
end
