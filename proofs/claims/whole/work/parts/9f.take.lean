/-! WHAT IS TAKEN FROM THE TEXT, the class -/
section
variable {L : Nat} {xs : Nat → Int32} {h : iH} {Q : Option Value → iH → Prop} {a : Nat → Nat} {t : Nat} {n k : Nat} {T : Nat → Nat}
set_option maxRecDepth 20000
/-- which word it is, 99: none -/
def o_wy (T : Nat → Nat) (n k : Nat) : Nat := (o_tkw T n k).getD 99
/-- what is wrong with a token that can't stand there -/
def o_bad (T : Nat → Nat) (n k : Nat) : Nat := if o_tkk T n k = 4 then 1 else 2
/-- a name -/
abbrev o_nm (T : Nat → Nat) (n k : Nat) : Prop := o_tkk T n k = 2 ∧ o_tke T n k - o_tks T n k ≤ 8 ∧ o_wy T n k = 99
abbrev blF : List (Nat × Nat) := [(10, 11), (10, 12)]
abbrev tbF : List (Nat × Nat) := [(10, 5), (10, 6), (10, 7), (10, 8), (10, 9), (10, 10), (10, 11), (10, 12)]
def i_BL (h : iH) (x p : Nat) : Prop := fI h 10 11 = i_n x ∧ fI h 10 12 = i_n p
theorem o_kw_lt {v : Nat} : ∀ m w, o_kw v m = some w → w < m
  | 0, w, e => by rw [o_kw] at e; cases e
  | m + 1, w, e => by
    rw [o_kw] at e
    split at e
    · cases e; omega
    · have := o_kw_lt m w e; omega
theorem o_tkw_lt {w : Nat} (e : o_tkw T n k = some w) : w < 33 := by
  unfold o_tkw at e
  split at e
  · exact o_kw_lt _ _ e
  · cases e
theorem o_wy_cases : (o_tkw T n k = none ∧ o_wy T n k = 99) ∨ (∃ w, w < 33 ∧ o_tkw T n k = some w ∧ o_wy T n k = w) := by
  unfold o_wy
  cases e : o_tkw T n k with
  | none => exact Or.inl ⟨rfl, rfl⟩
  | some w => exact Or.inr ⟨w, o_tkw_lt e, rfl, rfl⟩
theorem o_wy_le : o_wy T n k ≤ 99 := by rcases o_wy_cases (T := T) (n := n) (k := k) with h | ⟨w, h⟩ <;> omega
theorem o_wy_kind (e : o_wy T n k ≠ 99) : o_tkk T n k = 2 := by
  rcases o_wy_cases (T := T) (n := n) (k := k) with h | ⟨w, hw, h, -⟩
  · exact absurd h.2 e
  · unfold o_tkw at h
    split at h
    · rename_i q; exact q.1
    · cases h
theorem o_tkk_le : o_tkk T n k ≤ 5 := by
  have : o_tk0 T n k ≤ 5 := by
    unfold o_tk0
    split
    · exact (o_cc_le _).1
    · omega
  unfold o_tkk
  split <;> omega
theorem o_tkk2 (e : o_tkk T n k = 2) : o_tk0 T n k = 2 ∧ o_tks T n k < o_tke T n k ∧ ∀ i, o_tks T n k ≤ i → i < o_tke T n k → 97 ≤ T i ∧ T i ≤ 122 := by
  have e0 : o_tk0 T n k = 2 := by
    unfold o_tkk at e
    split at e
    · omega
    · exact e
  have hs : o_tks T n k < n := by
    by_cases z : o_tks T n k < n
    · exact z
    · unfold o_tk0 at e0; rw [if_neg z] at e0; omega
  have hc : o_cc (T (o_tks T n k)) = 2 := by unfold o_tk0 at e0; rw [if_pos hs] at e0; exact e0
  have ee : o_tke T n k = o_rn2 (fun i => o_cc (T i) == 2) n (n - o_tks T n k) (o_tks T n k) := by
    conv => lhs; unfold o_tke
    rw [e0, if_pos (by omega)]
  refine ⟨e0, ?_, fun i h1 h2 => ?_⟩
  · rw [ee, o_rn2_s hs (by simp [hc])]
    have := o_rn2_le (P := fun i => o_cc (T i) == 2) (n := n) (n - (o_tks T n k + 1)) (o_tks T n k + 1) (by omega)
    omega
  · rw [ee] at h2
    have := o_rn2_all _ _ _ h1 h2
    exact o_cc2.mp (by simpa using this)
theorem o_tkk1 (e : o_tkk T n k = 1) : o_tks T n k < o_tke T n k ∧ o_tke T n k - o_tks T n k ≤ 4 ∧ ∀ i, o_tks T n k ≤ i → i < o_tke T n k → 48 ≤ T i ∧ T i ≤ 57 := by
  have e0 : o_tk0 T n k = 1 ∧ o_tke T n k - o_tks T n k ≤ 4 := by
    unfold o_tkk at e
    split at e
    · omega
    · exact ⟨e, by omega⟩
  obtain ⟨e0, e4⟩ := e0
  have hs : o_tks T n k < n := by
    by_cases z : o_tks T n k < n
    · exact z
    · unfold o_tk0 at e0; rw [if_neg z] at e0; omega
  have hc : o_cc (T (o_tks T n k)) = 1 := by unfold o_tk0 at e0; rw [if_pos hs] at e0; exact e0
  have ee : o_tke T n k = o_rn2 (fun i => o_cc (T i) == 1) n (n - o_tks T n k) (o_tks T n k) := by
    conv => lhs; unfold o_tke
    rw [e0, if_pos (by omega)]
  refine ⟨?_, e4, fun i h1 h2 => ?_⟩
  · rw [ee, o_rn2_s hs (by simp [hc])]
    have := o_rn2_le (P := fun i => o_cc (T i) == 1) (n := n) (n - (o_tks T n k + 1)) (o_tks T n k + 1) (by omega)
    omega
  · rw [ee] at h2
    have := o_rn2_all _ _ _ h1 h2
    exact o_cc1.mp (by simpa using this)
theorem o_tkv_lt : o_tkv T n k < 10000 := by
  unfold o_tkv
  split
  · rename_i e
    obtain ⟨h1, h2, h3⟩ := o_tkk1 e
    have z := o_num_lt (T := T) (s := o_tks T n k) (o_tke T n k - o_tks T n k) (fun i hi => by have := h3 (o_tks T n k + i) (by omega) (by omega); omega)
    exact Nat.lt_of_lt_of_le z (Nat.pow_le_pow_right (n := 10) (i := o_tke T n k - o_tks T n k) (j := 4) (by omega) h2)
  · omega
theorem o_tkc_lt : o_tkc T n k < 1099511627776 := by
  unfold o_tkc
  split
  · rename_i e
    obtain ⟨-, h1, h3⟩ := o_tkk2 e.1
    have z := o_w5_lt (T := T) (s := o_tks T n k) (o_tke T n k - o_tks T n k) (fun i hi => by have := h3 (o_tks T n k + i) (by omega) (by omega); omega)
    exact Nat.lt_of_lt_of_le z (Nat.pow_le_pow_right (n := 32) (i := o_tke T n k - o_tks T n k) (j := 8) (by omega) e.2)
  · omega
theorem o_tkc_0 (e : o_tkk T n k = 2) : o_tkc T n k ≠ 0 ↔ o_tke T n k - o_tks T n k ≤ 8 := by
  obtain ⟨-, h1, h3⟩ := o_tkk2 e
  unfold o_tkc
  by_cases q : o_tke T n k - o_tks T n k ≤ 8
  · rw [if_pos ⟨e, q⟩]
    refine ⟨fun _ => q, fun _ => ?_⟩
    obtain ⟨m, hm⟩ : ∃ m, o_tke T n k - o_tks T n k = m + 1 := ⟨o_tke T n k - o_tks T n k - 1, by omega⟩
    rw [hm, o_w5]
    have := h3 (o_tks T n k + m) (by omega) (by omega)
    omega
  · rw [if_neg (by omega)]
    exact ⟨fun z => absurd rfl z, fun z => absurd z q⟩
/-- a token goes on -/
theorem o_tk_on (hk : k ≤ n) (e : o_tkk T n k ≠ 0) : k < o_tke T n k := by
  have h := o_tk_le (T := T) hk
  by_cases q1 : o_tkk T n k = 1
  · have := (o_tkk1 q1).1; omega
  by_cases q2 : o_tkk T n k = 2
  · have := (o_tkk2 q2).2.1; omega
  have h1 : o_tk0 T n k ≠ 0 := by
    unfold o_tkk at e
    split at e
    · rename_i q; omega
    · exact e
  by_cases z : o_tk0 T n k = 1
  · have : ¬ o_tke T n k - o_tks T n k = 0 := by
      intro y
      apply q1
      unfold o_tkk
      rw [if_neg (by omega)]
      exact z
    omega
  · have : o_tk0 T n k ≠ 2 := by
      intro y
      apply q2
      unfold o_tkk
      rw [if_neg (by omega)]
      exact y
    have : o_tke T n k = o_tks T n k + 1 := by
      unfold o_tke
      rw [if_neg (by omega), if_neg h1]
    omega
theorem i_TK.fr {h2 : iH} {A : List Nat} {F : List (Nat × Nat)} (x : i_TK h T n k) (f : i_Fr A F h h2) (hF : ∀ p, p ∈ tkF → p ∉ F) : i_TK h2 T n k := by
  unfold i_TK
  rw [f.vI (hF (10, 5) (by decide)), f.vI (hF (10, 6) (by decide)), f.vI (hF (10, 7) (by decide)), f.vI (hF (10, 8) (by decide)), f.vJ (hF (10, 9) (by decide)), f.vI (hF (10, 10) (by decide))]
  exact x
theorem i_TK.w (z : i_TK h T n k) {w : Nat} (hw : w < 33) : fI h 10 10 = i_n w ↔ o_wy T n k = w := by
  rw [z.2.2.2.2.2]
  rcases o_wy_cases (T := T) (n := n) (k := k) with ⟨e, q⟩ | ⟨u, hu, e, q⟩
  · rw [e, q]
    show i_m = i_n w ↔ 99 = w
    rw [n_meq (by omega)]
    constructor
    · intro y; exact y.elim
    · intro y; omega
  · rw [e, q]
    exact n_eq (by omega) (by omega)
theorem i_TK.nw (z : i_TK h T n k) : fI h 10 10 = i_m ↔ o_wy T n k = 99 := by
  rw [z.2.2.2.2.2]
  rcases o_wy_cases (T := T) (n := n) (k := k) with ⟨e, q⟩ | ⟨u, hu, e, q⟩
  · rw [e, q]
    exact ⟨fun _ => rfl, fun _ => rfl⟩
  · rw [e, q]
    show i_n u = i_m ↔ _
    rw [n_eqm (by omega)]
    constructor
    · intro y; exact y.elim
    · intro y; omega
theorem i_TK.way (z : i_TK h T n k) (e : o_wy T n k < 8) : fI h 10 10 = i_n (o_wy T n k) := (z.w (by omega)).mpr rfl
theorem c87 (hL : i_Lay h) (z : i_TK h T n k) (H : ∀ h2, i_Lay h2 → i_Fr [] blF h h2 → i_BL h2 (o_bad T n k) (o_tks T n k) → Q (some (.int 0)) h2) : i_C i_MT i_AT L xs 87 [.ref 10] h Q := by
  have k5 := o_tkk_le (T := T) (n := n) (k := k)
  have go : ∀ v, v = i_n (o_bad T n k) → i_P i_MT i_AT L xs 87 14 [some (.ref 10)] [.int v, .ref 10] h 0 0 Q := fun v hv => by
    refine d87_14 hL ?_
    refine w_sfI (R := fun z => i_P i_MT i_AT L xs 87 17 [some (.ref 10)] [] z 0 0 Q) hL hL.q10_11 (fun h1 L1 F1 E1 => d87_17 L1 ?_)
    refine w_sfI (R := fun z => i_P i_MT i_AT L xs 87 25 [some (.ref 10)] [] z 0 0 Q) L1 L1.q10_12 (fun h2 L2 F2 E2 => d87_25 L2 ?_)
    refine H h2 L2 ((F1.mono (fun _ z => z) (by decide)).trans (F2.mono (fun _ z => z) (by decide))) ⟨?_, ?_⟩
    · rw [F2.vI (by decide), E1, hv]
    · rw [E2, F1.vI (by decide)]; exact z.2.2.1
  refine e87 (d87_0 hL ?_)
  rw [z.2.1]
  try simp (disch := omega) only [n_lit, n_m, n_add, n_mul, n_div, n_mod, n_cl, n_lt, n_le, n_eq, n_in, n_eqm, n_meq, n_mlt, n_ltm, n_mle, n_lem, not_true_eq_false, not_false_eq_true, true_implies, false_implies, true_and, and_true, Nat.not_lt_zero, Nat.zero_le]
  refine ⟨fun q => go _ ?_, fun q => go _ ?_⟩
  · unfold o_bad; rw [if_neg q]
  · unfold o_bad; rw [if_pos (Classical.not_not.mp q)]
theorem c86 (hL : i_Lay h) (z : i_TK h T n k) {x : Nat} (H : ∀ h2, i_Lay h2 → i_Fr [] blF h h2 → i_BL h2 x (o_tks T n k) → Q (some (.int 0)) h2) : i_C i_MT i_AT L xs 86 [.ref 10, .int (i_n x)] h Q := by
  refine e86 (d86_0 hL ?_)
  refine w_sfI (R := fun z => i_P i_MT i_AT L xs 86 5 [some (.ref 10), some (.int (i_n x))] [] z 0 0 Q) hL hL.q10_11 (fun h1 L1 F1 E1 => d86_5 L1 ?_)
  refine w_sfI (R := fun z => i_P i_MT i_AT L xs 86 13 [some (.ref 10), some (.int (i_n x))] [] z 0 0 Q) L1 L1.q10_12 (fun h2 L2 F2 E2 => d86_13 L2 ?_)
  refine H h2 L2 ((F1.mono (fun _ z => z) (by decide)).trans (F2.mono (fun _ z => z) (by decide))) ⟨?_, ?_⟩
  · rw [F2.vI (by decide), E1]
  · rw [E2, F1.vI (by decide)]; exact z.2.2.1
theorem c89 (hL : i_Lay h) (z : i_TK h T n k) (H : Q (some (.int (i_bo (o_wy T n k < 8)))) h) : i_C i_MT i_AT L xs 89 [.ref 10] h Q := by
  have yes : o_wy T n k < 8 → i_P i_MT i_AT L xs 89 21 [some (.ref 10)] [.int 1] h 0 0 Q := fun q => by
    rw [i_bo_t q] at H
    exact d89_21 hL ⟨rfl, H⟩
  have no : ¬ o_wy T n k < 8 → i_P i_MT i_AT L xs 89 20 [some (.ref 10)] [] h 0 0 Q := fun q => by
    rw [i_bo_f q] at H
    exact d89_20 hL (d89_21 hL ⟨rfl, H⟩)
  refine e89 (d89_0 hL ?_)
  rw [z.2.2.2.2.2]
  rcases o_wy_cases (T := T) (n := n) (k := k) with ⟨e, q⟩ | ⟨u, hu, e, q⟩
  · rw [e]
    exact ⟨fun _ => no (by omega), fun y => absurd (show o_op none < 0 by decide) y⟩
  · rw [e, show o_op (some u) = i_n u from rfl]
    try simp (disch := omega) only [n_lit, n_m, n_add, n_mul, n_div, n_mod, n_cl, n_lt, n_le, n_eq, n_in, n_eqm, n_meq, n_mlt, n_ltm, n_mle, n_lem, not_true_eq_false, not_false_eq_true, true_implies, false_implies, true_and, and_true, Nat.not_lt_zero, Nat.zero_le]
    exact ⟨fun y => no (by omega), fun y => yes (by omega)⟩
theorem c90 (hL : i_Lay h) (z : i_TK h T n k) (H : Q (some (.int (i_bo (o_nm T n k)))) h) : i_C i_MT i_AT L xs 90 [.ref 10] h Q := by
  have yes : o_nm T n k → i_P i_MT i_AT L xs 90 30 [some (.ref 10)] [.int 1] h 0 0 Q := fun q => by
    rw [i_bo_t q] at H
    exact d90_30 hL ⟨rfl, H⟩
  have no : ¬ o_nm T n k → i_P i_MT i_AT L xs 90 29 [some (.ref 10)] [] h 0 0 Q := fun q => by
    rw [i_bo_f q] at H
    exact d90_29 hL (d90_30 hL ⟨rfl, H⟩)
  have k5 := o_tkk_le (T := T) (n := n) (k := k)
  have cl := o_tkc_lt (T := T) (n := n) (k := k)
  refine e90 (d90_0 hL ?_)
  rw [z.2.1, z.2.2.2.2.1, show (-1 : Int32) = i_m from rfl, z.nw, jj_0]
  try simp (disch := omega) only [n_lit, n_m, n_add, n_mul, n_div, n_mod, n_cl, n_lt, n_le, n_eq, n_in, n_eqm, n_meq, n_mlt, n_ltm, n_mle, n_lem, not_true_eq_false, not_false_eq_true, true_implies, false_implies, true_and, and_true, Nat.not_lt_zero, Nat.zero_le, j_cmpn]
  rw [jj_eq (by omega) (by omega)]
  refine ⟨fun q => no (fun y => q y.1), fun q => ⟨fun q2 => no (fun y => q2 y.2.2), fun q2 => ⟨fun q3 => no (fun y => ?_), fun q3 => yes ?_⟩⟩⟩
  · exact (o_tkc_0 y.1).mpr y.2.1 q3
  · have q := Classical.not_not.mp q
    exact ⟨q, (o_tkc_0 q).mp q3, Classical.not_not.mp q2⟩
theorem c91 (hL : i_Lay h) (x : i_TX h n T) (hk : k ≤ n) (e : fI h 10 5 = i_n k) {w : Nat} (hw : w < 33) (H1 : o_wy T n k = w → ∀ h2, i_Lay h2 → i_Fr [] tkF h h2 → i_TK h2 T n k → Q (some (.int 1)) h2) (H0 : o_wy T n k ≠ w → ∀ h2, i_Lay h2 → i_Fr [] tbF h h2 → i_BL h2 (o_bad T n k) (o_tks T n k) → Q (some (.int 0)) h2) : i_C i_MT i_AT L xs 91 [.ref 10, .int (i_n w)] h Q := by
  refine e91 (d91_0 hL (c88 hL x hk e (fun h1 L1 f1 z1 => ⟨rfl, d91_4 L1 ?_⟩)))
  rw [z1.w hw]
  refine ⟨fun q => d91_19 L1 (d91_24 L1 ⟨rfl, H1 q h1 L1 f1 z1⟩), fun q => c87 L1 z1 (fun h2 L2 f2 z2 => ⟨_, rfl, d91_16 L2 ⟨fun _ => d91_24 L2 ⟨rfl, H0 q h2 L2 ?_ z2⟩, fun y => absurd rfl y⟩⟩)⟩
  exact (f1.mono (fun _ z => z) (by decide)).trans (f2.mono (fun _ z => z) (by decide))
theorem c92 (hL : i_Lay h) (x : i_TX h n T) (hk : k ≤ n) (e : fI h 10 5 = i_n k) (H1 : o_wy T n k < 8 → ∀ h2, i_Lay h2 → i_Fr [] tkF h h2 → i_TK h2 T n k → Q (some (.int 1)) h2) (H0 : ¬ o_wy T n k < 8 → ∀ h2, i_Lay h2 → i_Fr [] tbF h h2 → i_BL h2 (o_bad T n k) (o_tks T n k) → Q (some (.int 0)) h2) : i_C i_MT i_AT L xs 92 [.ref 10] h Q := by
  refine e92 (d92_0 hL (c88 hL x hk e (fun h1 L1 f1 z1 => ⟨rfl, d92_4 L1 (c89 L1 z1 ⟨_, rfl, d92_8 L1 ?_⟩)⟩)))
  rw [i_bo_0, Classical.not_not]
  refine ⟨fun q => d92_18 L1 (d92_23 L1 ⟨rfl, H1 q h1 L1 f1 z1⟩), fun q => c87 L1 z1 (fun h2 L2 f2 z2 => ⟨_, rfl, d92_15 L2 ⟨fun _ => d92_23 L2 ⟨rfl, H0 q h2 L2 ?_ z2⟩, fun y => absurd rfl y⟩⟩)⟩
  exact (f1.mono (fun _ z => z) (by decide)).trans (f2.mono (fun _ z => z) (by decide))
theorem c93 (hL : i_Lay h) (x : i_TX h n T) (hk : k ≤ n) (e : fI h 10 5 = i_n k) (H1 : o_nm T n k → ∀ h2, i_Lay h2 → i_Fr [] tkF h h2 → i_TK h2 T n k → Q (some (.int 1)) h2) (H0 : ¬ o_nm T n k → ∀ h2, i_Lay h2 → i_Fr [] tbF h h2 → i_BL h2 (o_bad T n k) (o_tks T n k) → Q (some (.int 0)) h2) : i_C i_MT i_AT L xs 93 [.ref 10] h Q := by
  refine e93 (d93_0 hL (c88 hL x hk e (fun h1 L1 f1 z1 => ⟨rfl, d93_4 L1 (c90 L1 z1 ⟨_, rfl, d93_8 L1 ?_⟩)⟩)))
  rw [i_bo_0, Classical.not_not]
  refine ⟨fun q => d93_18 L1 (d93_23 L1 ⟨rfl, H1 q h1 L1 f1 z1⟩), fun q => c87 L1 z1 (fun h2 L2 f2 z2 => ⟨_, rfl, d93_15 L2 ⟨fun _ => d93_23 L2 ⟨rfl, H0 q h2 L2 ?_ z2⟩, fun y => absurd rfl y⟩⟩)⟩
  exact (f1.mono (fun _ z => z) (by decide)).trans (f2.mono (fun _ z => z) (by decide))
theorem c94 (hL : i_Lay h) (x : i_TX h n T) (hk : k ≤ n) (e : fI h 10 5 = i_n k) (H1 : o_tkk T n k = 3 → ∀ h2, i_Lay h2 → i_Fr [] tkF h h2 → i_TK h2 T n k → Q (some (.int 1)) h2) (H0 : o_tkk T n k ≠ 3 → ∀ h2, i_Lay h2 → i_Fr [] tbF h h2 → i_BL h2 (o_bad T n k) (o_tks T n k) → Q (some (.int 0)) h2) : i_C i_MT i_AT L xs 94 [.ref 10] h Q := by
  have k5 := o_tkk_le (T := T) (n := n) (k := k)
  refine e94 (d94_0 hL (c88 hL x hk e (fun h1 L1 f1 z1 => ⟨rfl, d94_4 L1 ?_⟩)))
  rw [z1.2.1]
  try simp (disch := omega) only [n_lit, n_m, n_add, n_mul, n_div, n_mod, n_cl, n_lt, n_le, n_eq, n_in, n_eqm, n_meq, n_mlt, n_ltm, n_mle, n_lem, not_true_eq_false, not_false_eq_true, true_implies, false_implies, true_and, and_true, Nat.not_lt_zero, Nat.zero_le]
  refine ⟨fun q => d94_19 L1 (d94_24 L1 ⟨rfl, H1 q h1 L1 f1 z1⟩), fun q => c87 L1 z1 (fun h2 L2 f2 z2 => ⟨_, rfl, d94_16 L2 ⟨fun _ => d94_24 L2 ⟨rfl, H0 q h2 L2 ?_ z2⟩, fun y => absurd rfl y⟩⟩)⟩
  exact (f1.mono (fun _ z => z) (by decide)).trans (f2.mono (fun _ z => z) (by decide))
/-- what is wrong with a number that is to be lo .. hi; 0: nothing -/
def o_nf (T : Nat → Nat) (n k lo hi : Nat) : Nat := if o_tkk T n k = 1 then (if lo ≤ o_tkv T n k ∧ o_tkv T n k ≤ hi then 0 else 4) else o_bad T n k
theorem o_bad_0 : 1 ≤ o_bad T n k ∧ o_bad T n k ≤ 2 := by unfold o_bad; split <;> omega
theorem o_nf_0 {lo hi : Nat} (e : o_nf T n k lo hi = 0) : o_tkk T n k = 1 ∧ lo ≤ o_tkv T n k ∧ o_tkv T n k ≤ hi := by
  have := o_bad_0 (T := T) (n := n) (k := k)
  unfold o_nf at e
  split at e
  · split at e
    · rename_i q1 q2; exact ⟨q1, q2⟩
    · omega
  · omega
theorem o_nf_le {lo hi : Nat} : o_nf T n k lo hi ≤ 4 := by
  have := o_bad_0 (T := T) (n := n) (k := k)
  unfold o_nf
  split
  · split <;> omega
  · omega
theorem c95 (hL : i_Lay h) (x : i_TX h n T) (hk : k ≤ n) (e : fI h 10 5 = i_n k) {lo hi : Nat} (hl : lo < 1000) (hh : hi < 1000) (H1 : o_nf T n k lo hi = 0 → ∀ h2, i_Lay h2 → i_Fr [] tkF h h2 → i_TK h2 T n k → Q (some (.int 1)) h2) (H0 : o_nf T n k lo hi ≠ 0 → ∀ h2, i_Lay h2 → i_Fr [] tbF h h2 → i_BL h2 (o_nf T n k lo hi) (o_tks T n k) → Q (some (.int 0)) h2) : i_C i_MT i_AT L xs 95 [.ref 10, .int (i_n lo), .int (i_n hi)] h Q := by
  have k5 := o_tkk_le (T := T) (n := n) (k := k)
  have vl := o_tkv_lt (T := T) (n := n) (k := k)
  have b0 := o_bad_0 (T := T) (n := n) (k := k)
  refine e95 (d95_0 hL (c88 hL x hk e (fun h1 L1 f1 z1 => ⟨rfl, d95_4 L1 ?_⟩)))
  rw [z1.2.1, z1.2.2.2.1]
  try simp (disch := omega) only [n_lit, n_m, n_add, n_mul, n_div, n_mod, n_cl, n_lt, n_le, n_eq, n_in, n_eqm, n_meq, n_mlt, n_ltm, n_mle, n_lem, not_true_eq_false, not_false_eq_true, true_implies, false_implies, true_and, and_true, Nat.not_lt_zero, Nat.zero_le]
  unfold o_nf at H1 H0
  refine ⟨fun q => c192 ⟨_, rfl, d95_26 L1 ?_⟩, fun q => c87 L1 z1 (fun h2 L2 f2 z2 => ⟨_, rfl, d95_16 L2 ⟨rfl, ?_⟩⟩)⟩
  · rw [i_bo_0, Classical.not_not]
    try simp (disch := omega) only [n_lit, n_m, n_add, n_mul, n_div, n_mod, n_cl, n_lt, n_le, n_eq, n_in, n_eqm, n_meq, n_mlt, n_ltm, n_mle, n_lem, not_true_eq_false, not_false_eq_true, true_implies, false_implies, true_and, and_true, Nat.not_lt_zero, Nat.zero_le]
    rw [if_pos q] at H1 H0
    refine ⟨fun q2 => ?_, fun q2 => c86 L1 z1 (x := 4) (fun h2 L2 f2 z2 => ⟨_, rfl, d95_34 L2 ⟨fun _ => d95_42 L2 ⟨rfl, ?_⟩, fun y => absurd rfl y⟩⟩)⟩
    · rw [if_pos q2] at H1
      exact d95_37 L1 (d95_42 L1 ⟨rfl, H1 rfl h1 L1 f1 z1⟩)
    · rw [if_neg q2] at H0
      exact H0 (by omega) h2 L2 ((f1.mono (fun _ z => z) (by decide)).trans (f2.mono (fun _ z => z) (by decide))) z2
  · rw [if_neg q] at H0
    exact H0 (by omega) h2 L2 ((f1.mono (fun _ z => z) (by decide)).trans (f2.mono (fun _ z => z) (by decide))) z2
end
