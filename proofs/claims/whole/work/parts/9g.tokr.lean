/-! THE TOKEN, of the reference -/
section
variable {L : Nat} {xs : Nat → Int32} {h : iH} {Q : Option Value → iH → Prop} {a : Nat → Nat} {t : Nat} {n k : Nat} {T : Nat → Nat}
set_option maxRecDepth 20000
/-- the reference's kinds of tokens -/
def o_rkd (j : Nat) : Nat := if j = 1 then 3 else if j = 3 then 4 else if j = 4 then 1 else j
def i_TXr (h : iH) (n : Nat) (T : Nat → Nat) : Prop := fI h 138 13 = i_n n ∧ n ≤ 900 ∧ ∀ i, i < n → T i < 256 ∧ aI h 147 i &&& (255 : Int32) = i_n (T i)
abbrev rkF : List (Nat × Nat) := [(138, 14), (138, 15), (138, 16), (138, 17)]
def i_RK (h : iH) (T : Nat → Nat) (n k : Nat) : Prop := fI h 138 14 = i_n (o_rkd (o_tkk T n k)) ∧ fI h 138 15 = i_n (o_tks T n k) ∧ fI h 138 16 = i_n (o_tke T n k) ∧ (o_tkk T n k = 1 → fI h 138 17 = i_n (o_tkv T n k)) ∧ (o_tkk T n k = 3 → fI h 138 17 = i_n 59)
theorem i_TXr.fr {h2 : iH} {A : List Nat} {F : List (Nat × Nat)} (x : i_TXr h n T) (f : i_Fr A F h h2) (hA : 147 ∉ A) (hF : (138, 13) ∉ F) : i_TXr h2 n T := by
  unfold i_TXr
  rw [f.vI hF, f.rI hA]
  exact x
theorem i_RK.fr {h2 : iH} {A : List Nat} {F : List (Nat × Nat)} (x : i_RK h T n k) (f : i_Fr A F h h2) (hF : ∀ p, p ∈ rkF → p ∉ F) : i_RK h2 T n k := by
  unfold i_RK
  rw [f.vI (hF (138, 14) (by decide)), f.vI (hF (138, 15) (by decide)), f.vI (hF (138, 16) (by decide)), f.vI (hF (138, 17) (by decide))]
  exact x
theorem o_rk_le {j : Nat} (h : j ≤ 5) : o_rkd j ≤ 5 := by unfold o_rkd; split <;> (try split) <;> (try split) <;> omega
theorem o_rk_0 {j : Nat} (h : j ≤ 4) : o_rkd j = 0 ↔ j = 0 := by unfold o_rkd; split <;> (try split) <;> (try split) <;> omega
theorem o_rk_1 {j : Nat} (h : j ≤ 4) : o_rkd j = 1 ↔ j = 4 := by unfold o_rkd; split <;> (try split) <;> (try split) <;> omega
theorem o_rk_2 {j : Nat} (h : j ≤ 4) : o_rkd j = 2 ↔ j = 2 := by unfold o_rkd; split <;> (try split) <;> (try split) <;> omega
theorem o_rk_3 {j : Nat} (h : j ≤ 4) : o_rkd j = 3 ↔ j = 1 := by unfold o_rkd; split <;> (try split) <;> (try split) <;> omega
theorem o_rk_4 {j : Nat} (h : j ≤ 4) : o_rkd j = 4 ↔ j = 3 := by unfold o_rkd; split <;> (try split) <;> (try split) <;> omega
/-- the byte at i, none: behind the end -/
def o_bt (T : Nat → Nat) (n i : Nat) : Int32 := if i < n then i_n (T i) else i_m
theorem o_bt_t {i : Nat} (hi : i < n) : o_bt T n i = i_n (T i) := if_pos hi
theorem o_bt_f {i : Nat} (hi : ¬ i < n) : o_bt T n i = i_m := if_neg hi
theorem c215 (hL : i_Lay h) (x : i_TXr h n T) {i : Nat} (hi : i < 2000000) (H : Q (some (.int (o_bt T n i))) h) : i_C i_MT i_AT L xs 215 [.ref 138, .int (i_n i)] h Q := by
  have hn := x.2.1
  refine e215 (d215_0 hL ?_)
  rw [x.1]
  try simp (disch := omega) only [n_lit, n_m, n_add, n_mul, n_div, n_mod, n_cl, n_lt, n_le, n_eq, n_in, n_eqm, n_meq, n_mlt, n_ltm, n_mle, n_lem, not_true_eq_false, not_false_eq_true, true_implies, false_implies, true_and, and_true, Nat.not_lt_zero, Nat.zero_le]
  refine ⟨fun q => d215_22 hL ?_, fun q => ?_⟩
  · rw [o_bt_f (by omega)] at H; exact H
  · rw [o_bt_t (by omega)] at H
    have e := (x.2.2 i (by omega)).2
    rw [show (255 : Int32) = i_n 255 from rfl] at e
    rw [e]
    exact ⟨by omega, d215_22 hL H⟩
theorem c216 (hL : i_Lay h) {x : Int32} (H : Q (some (.int (i_bo (i_n 97 ≤ x ∧ x ≤ i_n 122)))) h) : i_C i_MT i_AT L xs 216 [.int x] h Q := by
  refine e216 (d216_0 hL ⟨fun hc => d216_16 hL (d216_17 hL ⟨rfl, ?_⟩), fun hc => ⟨fun hd => d216_16 hL (d216_17 hL ⟨rfl, ?_⟩), fun hd => d216_17 hL ⟨rfl, ?_⟩⟩⟩)
  · rw [i_bo_f (fun q => absurd q.1 (Int32.not_le.mpr hc))] at H
    exact H
  · rw [i_bo_f (fun q => absurd q.2 (Int32.not_le.mpr hd))] at H
    exact H
  · rw [i_bo_t ⟨Int32.not_lt.mp hc, Int32.not_lt.mp hd⟩] at H
    exact H
theorem c217 (hL : i_Lay h) {x : Int32} (H : Q (some (.int (i_bo (i_n 48 ≤ x ∧ x ≤ i_n 57)))) h) : i_C i_MT i_AT L xs 217 [.int x] h Q := by
  refine e217 (d217_0 hL ⟨fun hc => d217_16 hL (d217_17 hL ⟨rfl, ?_⟩), fun hc => ⟨fun hd => d217_16 hL (d217_17 hL ⟨rfl, ?_⟩), fun hd => d217_17 hL ⟨rfl, ?_⟩⟩⟩)
  · rw [i_bo_f (fun q => absurd q.1 (Int32.not_le.mpr hc))] at H
    exact H
  · rw [i_bo_f (fun q => absurd q.2 (Int32.not_le.mpr hd))] at H
    exact H
  · rw [i_bo_t ⟨Int32.not_lt.mp hc, Int32.not_lt.mp hd⟩] at H
    exact H
/-- what a byte is, told by the classes of bytes -/
theorem o_bt_small {i : Nat} (hT : i < n → T i < 256) : (i_n 97 ≤ o_bt T n i ∧ o_bt T n i ≤ i_n 122) ↔ (i < n ∧ o_cc (T i) = 2) := by
  by_cases q : i < n
  · have := hT q
    rw [o_bt_t q, n_le (by omega) (by omega), n_le (by omega) (by omega), o_cc2]
    exact ⟨fun z => ⟨q, z⟩, fun z => z.2⟩
  · rw [o_bt_f q, n_lem (by omega)]
    exact ⟨fun z => z.1.elim, fun z => absurd z.1 q⟩
theorem o_bt_digit {i : Nat} (hT : i < n → T i < 256) : (i_n 48 ≤ o_bt T n i ∧ o_bt T n i ≤ i_n 57) ↔ (i < n ∧ o_cc (T i) = 1) := by
  by_cases q : i < n
  · have := hT q
    rw [o_bt_t q, n_le (by omega) (by omega), n_le (by omega) (by omega), o_cc1]
    exact ⟨fun z => ⟨q, z⟩, fun z => z.2⟩
  · rw [o_bt_f q, n_lem (by omega)]
    exact ⟨fun z => z.1.elim, fun z => absurd z.1 q⟩
theorem o_cc5 {c : Nat} : o_cc c = 5 ↔ c = 32 ∨ c = 10 := by unfold o_cc; split <;> (try split) <;> (try split) <;> (try split) <;> omega
theorem o_cc3 {c : Nat} : o_cc c = 3 ↔ c = 59 := by unfold o_cc; split <;> (try split) <;> (try split) <;> (try split) <;> omega
theorem o_bt_is {i c : Nat} (hT : i < n → T i < 256) (hc : c < 256) : o_bt T n i = i_n c ↔ (i < n ∧ T i = c) := by
  by_cases q : i < n
  · have := hT q
    rw [o_bt_t q, n_eq (by omega) (by omega)]
    exact ⟨fun z => ⟨q, z⟩, fun z => z.2⟩
  · rw [o_bt_f q, n_meq (by omega)]
    exact ⟨fun z => z.elim, fun z => absurd z.1 q⟩
/-- the number as the reference adds it up -/
def o_rv (T : Nat → Nat) (s : Nat) : Nat → Nat
  | 0 => 0
  | m + 1 => min 100000 (10 * o_rv T s m + (T (s + m) - 48))
theorem o_rv_le {s : Nat} : ∀ m, o_rv T s m ≤ 100000
  | 0 => Nat.zero_le _
  | m + 1 => by rw [o_rv]; exact Nat.min_le_left _ _
theorem o_rv_num {s : Nat} : ∀ m, m ≤ 4 → (∀ i, i < m → T (s + i) - 48 < 10) → o_rv T s m = o_num T s m
  | 0, _, _ => rfl
  | m + 1, hm, z => by
    rw [o_rv, o_num, o_rv_num m (by omega) (fun i hi => z i (by omega))]
    have h1 := o_num_lt (T := T) (s := s) m (fun i hi => z i (by omega))
    have h2 := z m (by omega)
    have h3 : 10 ^ m ≤ 10 ^ 3 := Nat.pow_le_pow_right (n := 10) (i := m) (j := 3) (by omega) (by omega)
    have : 10 * o_num T s m + (T (s + m) - 48) ≤ 100000 := by omega
    rw [Nat.min_eq_right this]
    omega
theorem o_tk04 : o_tk0 T n k ≠ 5 := by
  have key : ∀ f i, i ≤ n → n - i ≤ f → ¬ (o_rn2 (fun i => o_cc (T i) == 5) n f i < n ∧ o_cc (T (o_rn2 (fun i => o_cc (T i) == 5) n f i)) = 5) := by
    intro f
    induction f with
    | zero =>
      intro i hi hf q
      rw [o_rn2] at q
      omega
    | succ f ih =>
      intro i hi hf q
      rw [o_rn2] at q
      split at q
      · exact ih (i + 1) (by omega) (by omega) q
      · rename_i e
        exact e ⟨q.1, by simp [q.2]⟩
  intro e
  unfold o_tk0 at e
  split at e
  · rename_i q
    by_cases hk : k ≤ n
    · exact key (n - k) k hk (Nat.le_refl _) ⟨q, e⟩
    · unfold o_tks at q
      rw [o_rn2_e (by omega)] at q
      omega
  · omega
theorem o_tkk4 : o_tkk T n k ≤ 4 := by
  have h1 : o_tk0 T n k ≤ 5 := by
    unfold o_tk0
    split
    · exact (o_cc_le _).1
    · omega
  have h2 := o_tk04 (T := T) (n := n) (k := k)
  unfold o_tkk
  split <;> omega
set_option maxHeartbeats 2000000 in
theorem c218 (hL : i_Lay h) (x : i_TXr h n T) (hk : k ≤ n) (e : fI h 138 16 = i_n k) (H : ∀ h2, i_Lay h2 → i_Fr [] rkF h h2 → i_RK h2 T n k → Q none h2) : i_C i_MT i_AT L xs 218 [.ref 138] h Q := by
  have hn := x.2.1
  have tl := o_tk_le (T := T) hk
  have tx : ∀ {h1}, i_Fr [] rkF h h1 → i_TXr h1 n T := fun f => x.fr f (by simp) (by decide)
  have Tl : ∀ i, i < n → T i < 256 := fun i hi => (x.2.2 i hi).1
  have sets : ∀ {b : Nat} {h1 : iH} {R : iH → Prop} {v : Int32}, i_Lay h1 → (b = 14 ∨ b = 15 ∨ b = 16 ∨ b = 17) → (∀ h2, i_Lay h2 → i_Fr [] [(138, b)] h1 h2 → fI h2 138 b = v → R h2) → R (i_sf h1 138 b (.int v)) := fun L1 hb K => by
    rcases hb with rfl | rfl | rfl | rfl
    · exact w_sfI L1 L1.q138_14 K
    · exact w_sfI L1 L1.q138_15 K
    · exact w_sfI L1 L1.q138_16 K
    · exact w_sfI L1 L1.q138_17 K
  have kF : ∀ {b : Nat} {h1 h2 : iH}, i_Fr [] [(138, b)] h1 h2 → (b = 14 ∨ b = 15 ∨ b = 16 ∨ b = 17) → i_Fr [] rkF h1 h2 := fun f hb => f.mono (fun _ z => z) (fun z hz => by
    simp only [List.mem_cons, List.not_mem_nil, or_false] at hz
    subst hz
    rcases hb with rfl | rfl | rfl | rfl <;> decide)
  have k0 : o_tk0 T n k = (if o_tks T n k < n then o_cc (T (o_tks T n k)) else 0) := rfl
  have eke : o_tke T n k = (if o_tk0 T n k = 1 ∨ o_tk0 T n k = 2 then o_rn2 (fun i => o_cc (T i) == o_tk0 T n k) n (n - o_tks T n k) (o_tks T n k) else if o_tk0 T n k = 0 then o_tks T n k else o_tks T n k + 1) := rfl
  have ekk : o_tkk T n k = (if o_tk0 T n k = 1 ∧ 4 < o_tke T n k - o_tks T n k then 4 else o_tk0 T n k) := rfl
  have ekv : o_tkv T n k = (if o_tkk T n k = 1 then o_num T (o_tks T n k) (o_tke T n k - o_tks T n k) else 0) := rfl
  have n5 := o_tk04 (T := T) (n := n) (k := k)
  have k4 := o_tkk4 (T := T) (n := n) (k := k)
  have cl : ∀ i, 1 ≤ o_cc (T i) ∧ o_cc (T i) ≤ 5 := fun i => ⟨(o_cc_le _).2, (o_cc_le _).1⟩
  -- the blanks
  have blanks : ∀ m i, n - i = m → i ≤ n → o_rn2 (fun i => o_cc (T i) == 5) n (n - i) i = o_tks T n k → ∀ h1, i_Lay h1 → i_Fr [] rkF h h1 → fI h1 138 16 = i_n i → (∀ h2, i_Lay h2 → i_Fr [] rkF h h2 → fI h2 138 16 = i_n (o_tks T n k) → fI h2 138 15 = i_n (o_tks T n k) → ∀ (y1 : Option Value), i_P i_MT i_AT L xs 218 47 [some (.ref 138), y1] [] h2 0 0 Q) → ∀ (y1 : Option Value), i_P i_MT i_AT L xs 218 0 [some (.ref 138), y1] [] h1 0 0 Q := by
    intro m
    induction m with
    | zero =>
      intro i hm hi er h1 L1 f1 e1 K y1
      have : i = n := by omega
      subst this
      rw [o_rn2_e (by omega)] at er
      refine d218_0 L1 ?_
      rw [e1]
      refine c215 L1 (tx f1) (by omega) ⟨_, rfl, d218_8 L1 ?_⟩
      rw [o_bt_f (by omega), show (32 : Int32) = i_n 32 from rfl, n_meq (by omega), e1]
      refine ⟨fun z => z.elim, fun _ => c215 L1 (tx f1) (by omega) ⟨_, rfl, d218_21 L1 ?_⟩⟩
      rw [o_bt_f (by omega), show (10 : Int32) = i_n 10 from rfl, n_meq (by omega), e1]
      refine ⟨fun _ => ?_, fun z => absurd (fun y => y) z⟩
      refine sets (R := fun z => i_P i_MT i_AT L xs 218 47 [some (.ref 138), y1] [] z 0 0 Q) L1 (by omega) (fun h2 L2 F2 E2 => ?_)
      exact K h2 L2 (f1.trans (kF F2 (by omega))) (by rw [F2.vI (by decide)]; exact e1.trans (congrArg i_n er)) (E2.trans (congrArg i_n er)) _
    | succ m ih =>
      intro i hm hi er h1 L1 f1 e1 K y1
      have hi2 : i < n := by omega
      have T5 := Tl i hi2
      have on : ∀ (y1 : Option Value), (T i = 32 ∨ T i = 10) → i_P i_MT i_AT L xs 218 26 [some (.ref 138), y1] [] h1 0 0 Q := fun y1 q => by
        rw [o_rn2_s hi2 (by simp [o_cc5.mpr q])] at er
        refine d218_26 L1 ?_
        rw [e1]
        refine sets (R := fun z => i_P i_MT i_AT L xs 218 36 [some (.ref 138), y1] [] z 0 0 Q) L1 (by omega) (fun h2 L2 F2 E2 => d218_36 L2 ?_)
        exact ih (i + 1) (by omega) (by omega) er h2 L2 (f1.trans (kF F2 (by omega))) (E2.trans (n_add i 1)) K _
      refine d218_0 L1 ?_
      rw [e1]
      refine c215 L1 (tx f1) (by omega) ⟨_, rfl, d218_8 L1 ?_⟩
      rw [show (32 : Int32) = i_n 32 from rfl, o_bt_is (Tl i) (by omega), e1]
      refine ⟨fun q => on _ (Or.inl q.2), fun q1 => c215 L1 (tx f1) (by omega) ⟨_, rfl, d218_21 L1 ?_⟩⟩
      rw [show (10 : Int32) = i_n 10 from rfl, o_bt_is (Tl i) (by omega), e1]
      refine ⟨fun q2 => ?_, fun q2 => on _ (Or.inr (Classical.not_not.mp q2).2)⟩
      rw [o_rn2_e (by simp [o_cc5]; omega)] at er
      refine sets (R := fun z => i_P i_MT i_AT L xs 218 47 [some (.ref 138), y1] [] z 0 0 Q) L1 (by omega) (fun h2 L2 F2 E2 => ?_)
      exact K h2 L2 (f1.trans (kF F2 (by omega))) (by rw [F2.vI (by decide), e1, er]) (by rw [E2, er]) _
  have fin : ∀ {x1 : Int32} h1, i_Lay h1 → i_Fr [] rkF h h1 → i_RK h1 T n k → i_P i_MT i_AT L xs 218 233 [some (.ref 138), some (.int x1)] [] h1 0 0 Q := fun h1 L1 f1 z1 => d218_233 L1 (H h1 L1 f1 z1)
  generalize hX : o_bt T n (o_tks T n k) = X
  -- a word
  have word : o_tk0 T n k = 2 → ∀ m i, n - i = m → o_tks T n k ≤ i → i ≤ n → o_rn2 (fun i => o_cc (T i) == 2) n (n - i) i = o_tke T n k → ∀ h1, i_Lay h1 → i_Fr [] rkF h h1 → fI h1 138 16 = i_n i → fI h1 138 15 = i_n (o_tks T n k) → i_P i_MT i_AT L xs 218 81 [some (.ref 138), some (.int X)] [] h1 0 0 Q := by
    intro q2 m
    have ek2 : o_tkk T n k = 2 := by rw [ekk, if_neg (by omega), q2]
    have done : ∀ i, i = o_tke T n k → ∀ h1, i_Lay h1 → i_Fr [] rkF h h1 → fI h1 138 16 = i_n i → fI h1 138 15 = i_n (o_tks T n k) → i_P i_MT i_AT L xs 218 113 [some (.ref 138), some (.int X)] [] (i_sf h1 138 14 (.int 2)) 0 0 Q := by
      intro i ei h1 L1 f1 e6 e5
      refine sets (R := fun z => i_P i_MT i_AT L xs 218 113 [some (.ref 138), some (.int X)] [] z 0 0 Q) L1 (by omega) (fun h2 L2 F2 E2 => d218_113 L2 (fin h2 L2 (f1.trans (kF F2 (by omega))) ⟨?_, ?_, ?_, ?_, ?_⟩))
      · rw [E2, ek2]; rfl
      · rw [F2.vI (by decide)]; exact e5
      · rw [F2.vI (by decide), e6, ei]
      · intro z; omega
      · intro z; omega
    induction m with
    | zero =>
      intro i hm hsi hi er h1 L1 f1 e6 e5
      have : i = n := by omega
      subst this
      rw [o_rn2_e (by omega)] at er
      refine d218_81 L1 ?_
      rw [e6]
      refine c215 L1 (tx f1) (by omega) ⟨_, rfl, d218_89 L1 (c216 L1 ⟨_, rfl, d218_92 L1 ?_⟩)⟩
      rw [i_bo_0, o_bt_small (Tl i)]
      exact ⟨fun _ => done i er h1 L1 f1 e6 e5, fun z => absurd (fun y => absurd y.1 (by omega)) z⟩
    | succ m ih =>
      intro i hm hsi hi er h1 L1 f1 e6 e5
      have hi2 : i < n := by omega
      refine d218_81 L1 ?_
      rw [e6]
      refine c215 L1 (tx f1) (by omega) ⟨_, rfl, d218_89 L1 (c216 L1 ⟨_, rfl, d218_92 L1 ?_⟩)⟩
      rw [i_bo_0, o_bt_small (Tl i), e6]
      refine ⟨fun z => ?_, fun z => ?_⟩
      · rw [o_rn2_e (by simp; omega)] at er
        exact done i er h1 L1 f1 e6 e5
      · have z := Classical.not_not.mp z
        rw [o_rn2_s hi2 (by simp [z.2])] at er
        refine sets (R := fun z => i_P i_MT i_AT L xs 218 105 [some (.ref 138), some (.int X)] [] z 0 0 Q) L1 (by omega) (fun h2 L2 F2 E2 => d218_105 L2 ?_)
        exact ih (i + 1) (by omega) (by omega) (by omega) er h2 L2 (f1.trans (kF F2 (by omega))) (E2.trans (n_add i 1)) (by rw [F2.vI (by decide)]; exact e5)
  -- a number
  have number : o_tk0 T n k = 1 → ∀ m i, n - i = m → o_tks T n k ≤ i → i ≤ n → o_rn2 (fun i => o_cc (T i) == 1) n (n - i) i = o_tke T n k → (∀ j, o_tks T n k ≤ j → j < i → o_cc (T j) = 1) → ∀ h1, i_Lay h1 → i_Fr [] rkF h h1 → fI h1 138 16 = i_n i → fI h1 138 15 = i_n (o_tks T n k) → fI h1 138 17 = i_n (o_rv T (o_tks T n k) (i - o_tks T n k)) → i_P i_MT i_AT L xs 218 128 [some (.ref 138), some (.int X)] [] h1 0 0 Q := by
    intro q1 m
    have done : ∀ i, i = o_tke T n k → (∀ j, o_tks T n k ≤ j → j < i → o_cc (T j) = 1) → ∀ h1, i_Lay h1 → i_Fr [] rkF h h1 → fI h1 138 16 = i_n i → fI h1 138 15 = i_n (o_tks T n k) → fI h1 138 17 = i_n (o_rv T (o_tks T n k) (i - o_tks T n k)) → i_P i_MT i_AT L xs 218 139 [some (.ref 138), some (.int X)] [.int 0] h1 0 0 Q := by
      intro i ei all h1 L1 f1 e6 e5 e7
      have put : ∀ v, v = i_n (o_rkd (o_tkk T n k)) → i_P i_MT i_AT L xs 218 202 [some (.ref 138), some (.int X)] [.int v, .ref 138] h1 0 0 Q := fun v hv => by
        refine d218_202 L1 ?_
        refine sets (R := fun z => i_P i_MT i_AT L xs 218 205 [some (.ref 138), some (.int X)] [] z 0 0 Q) L1 (by omega) (fun h2 L2 F2 E2 => d218_205 L2 (fin h2 L2 (f1.trans (kF F2 (by omega))) ⟨?_, ?_, ?_, ?_, ?_⟩))
        · rw [E2, hv]
        · rw [F2.vI (by decide)]; exact e5
        · rw [F2.vI (by decide), e6, ei]
        · intro z
          have i4 : o_tke T n k - o_tks T n k ≤ 4 := (o_tkk1 z).2.1
          rw [F2.vI (by decide), e7, ekv, if_pos z, ei, o_rv_num _ i4 (fun j hj => by
            have := o_cc1.mp (all (o_tks T n k + j) (by omega) (by omega))
            omega)]
        · intro z
          rw [q1] at ekk
          split at ekk <;> omega
      refine d218_139 L1 ⟨fun _ => ?_, fun z => absurd rfl z⟩
      rw [e6, e5, show i_n i - i_n (o_tks T n k) = i_n (i - o_tks T n k) from n_sub (by omega)]
      try simp (disch := omega) only [n_lit, n_m, n_add, n_mul, n_div, n_mod, n_cl, n_lt, n_le, n_eq, n_in, n_eqm, n_meq, n_mlt, n_ltm, n_mle, n_lem, not_true_eq_false, not_false_eq_true, true_implies, false_implies, true_and, and_true, Nat.not_lt_zero, Nat.zero_le]
      rw [q1] at ekk
      refine ⟨fun z => put _ ?_, fun z => put _ ?_⟩
      · rw [if_neg (by omega)] at ekk
        rw [ekk]; rfl
      · rw [if_pos ⟨rfl, by omega⟩] at ekk
        rw [ekk]; rfl
    induction m with
    | zero =>
      intro i hm hsi hi er all h1 L1 f1 e6 e5 e7
      have : i = n := by omega
      subst this
      rw [o_rn2_e (by omega)] at er
      refine d218_128 L1 ?_
      rw [e6]
      refine c215 L1 (tx f1) (by omega) ⟨_, rfl, d218_136 L1 (c217 L1 ⟨_, rfl, ?_⟩)⟩
      rw [i_bo_f (fun y => absurd ((o_bt_digit (Tl i)).mp y).1 (by omega))]
      exact done i er all h1 L1 f1 e6 e5 e7
    | succ m ih =>
      intro i hm hsi hi er all h1 L1 f1 e6 e5 e7
      have hi2 : i < n := by omega
      have T5 := Tl i hi2
      refine d218_128 L1 ?_
      rw [e6]
      refine c215 L1 (tx f1) (by omega) ⟨_, rfl, d218_136 L1 (c217 L1 ⟨_, rfl, ?_⟩)⟩
      by_cases z : o_cc (T i) = 1
      · have c48 := o_cc1.mp z
        have rl := o_rv_le (T := T) (s := o_tks T n k) (i - o_tks T n k)
        rw [i_bo_t ((o_bt_digit (Tl i)).mpr ⟨hi2, z⟩)]
        refine d218_139 L1 ⟨fun y => absurd y (by decide), fun _ => ?_⟩
        rw [e6, e7]
        refine c215 L1 (tx f1) (by omega) ⟨_, rfl, d218_160 L1 ?_⟩
        rw [o_bt_t hi2, show (10 : Int32) = i_n 10 from rfl, n_mul, n_add, show (48 : Int32) = i_n 48 from rfl, n_sub (by omega), show (100000 : Int32) = i_n 100000 from rfl]
        refine c337n (by omega) (by omega) ⟨_, rfl, d218_167 L1 ?_⟩
        refine sets (R := fun z => i_P i_MT i_AT L xs 218 170 [some (.ref 138), some (.int X)] [] z 0 0 Q) L1 (by omega) (fun h2 L2 F2 E2 => d218_170 L2 ?_)
        rw [F2.vI (by decide), e6, show i_n i + 1 = i_n (i + 1) from n_add i 1]
        refine sets (R := fun z => i_P i_MT i_AT L xs 218 180 [some (.ref 138), some (.int X)] [] z 0 0 Q) L2 (by omega) (fun h3 L3 F3 E3 => d218_180 L3 ?_)
        rw [o_rn2_s hi2 (by simp [z])] at er
        refine ih (i + 1) (by omega) (by omega) (by omega) er (fun j h1 h2 => ?_) h3 L3 (f1.trans ((kF F2 (by omega)).trans (kF F3 (by omega)))) E3 ?_ ?_
        · by_cases y : j = i
          · rw [y]; exact z
          · exact all j h1 (by omega)
        · rw [F3.vI (by decide), F2.vI (by decide)]; exact e5
        · rw [F3.vI (by decide), E2, show i + 1 - o_tks T n k = i - o_tks T n k + 1 by omega, o_rv, show o_tks T n k + (i - o_tks T n k) = i by omega]
          congr 2
          omega
      · rw [i_bo_f (fun y => z ((o_bt_digit (Tl i)).mp y).2)]
        rw [o_rn2_e (by simp; omega)] at er
        exact done i er all h1 L1 f1 e6 e5 e7
  refine e218 (blanks (n - k) k rfl hk rfl h hL i_Fr.refl e (fun h1 L1 f1 e6 e5 => ?_) _)
  intro y1
  refine d218_47 L1 ?_
  rw [e6]
  refine c215 L1 (tx f1) (by omega) ⟨_, rfl, d218_55 L1 ?_⟩
  rw [hX]
  refine sets (R := fun z => i_P i_MT i_AT L xs 218 61 [some (.ref 138), some (.int X)] [] z 0 0 Q) L1 (by omega) (fun h2 L2 F2 E2 => d218_61 L2 ?_)
  have f2 := f1.trans (kF F2 (by omega))
  have e6 : fI h2 138 16 = i_n (o_tks T n k) := by rw [F2.vI (by decide)]; exact e6
  have e5 : fI h2 138 15 = i_n (o_tks T n k) := by rw [F2.vI (by decide)]; exact e5
  by_cases q : o_tks T n k < n
  · have T5 := Tl _ q
    have c5 := cl (o_tks T n k)
    rw [if_pos q] at k0
    have hX2 : X = i_n (T (o_tks T n k)) := by rw [← hX, o_bt_t q]
    refine ⟨fun _ => c216 L2 ⟨_, rfl, d218_78 L2 ?_⟩, fun z => absurd (Classical.not_not.mp z) ?_⟩
    · rw [← hX, i_bo_0, o_bt_small (Tl _), hX]
      refine ⟨fun z => c217 L2 ⟨_, rfl, d218_120 L2 ?_⟩, fun z => ?_⟩
      · rw [← hX, i_bo_0, o_bt_digit (Tl _), hX, e6, show i_n (o_tks T n k) + 1 = i_n (o_tks T n k + 1) from n_add _ 1]
        have ne2 : o_tk0 T n k ≠ 2 := fun y => z ⟨q, k0 ▸ y⟩
        refine ⟨fun z2 => ?_, fun z2 => ?_⟩
        · have ne1 : o_tk0 T n k ≠ 1 := fun y => z2 ⟨q, k0 ▸ y⟩
          rw [if_neg (by omega), if_neg (by omega)] at eke
          rw [if_neg (by omega)] at ekk
          refine sets (R := fun z => i_P i_MT i_AT L xs 218 218 [some (.ref 138), some (.int X)] [] z 0 0 Q) L2 (by omega) (fun h3 L3 F3 E3 => d218_218 L3 ?_)
          have put : ∀ v, v = i_n (o_rkd (o_tkk T n k)) → i_P i_MT i_AT L xs 218 230 [some (.ref 138), some (.int X)] [.int v, .ref 138] h3 0 0 Q := fun v hv => by
            refine d218_230 L3 ?_
            refine sets (R := fun z => i_P i_MT i_AT L xs 218 233 [some (.ref 138), some (.int X)] [] z 0 0 Q) L3 (by omega) (fun h4 L4 F4 E4 => fin h4 L4 (f2.trans ((kF F3 (by omega)).trans (kF F4 (by omega)))) ⟨?_, ?_, ?_, ?_, ?_⟩)
            · rw [E4, hv]
            · rw [F4.vI (by decide), F3.vI (by decide)]; exact e5
            · rw [F4.vI (by decide), E3, eke]
            · intro y; omega
            · intro y
              rw [F4.vI (by decide), F3.vI (by decide), E2, hX2, o_cc3.mp (show o_cc (T (o_tks T n k)) = 3 by omega)]
          rw [hX2, show (59 : Int32) = i_n 59 from rfl, n_eq (by omega) (by omega), ← hX2]
          refine ⟨fun y => put _ ?_, fun y => put _ ?_⟩
          · have : o_tkk T n k = 4 := by
              have : o_cc (T (o_tks T n k)) ≠ 3 := fun w => y (o_cc3.mp w)
              omega
            rw [this]; rfl
          · have : o_tkk T n k = 3 := by
              have := o_cc3.mpr (Classical.not_not.mp y)
              omega
            rw [this]; rfl
        · have z2 := Classical.not_not.mp z2
          have q1 : o_tk0 T n k = 1 := by omega
          refine sets (R := fun z => i_P i_MT i_AT L xs 218 128 [some (.ref 138), some (.int X)] [] z 0 0 Q) L2 (by omega) (fun h3 L3 F3 E3 => ?_)
          rw [if_pos (by omega), q1] at eke
          refine number q1 (n - o_tks T n k) (o_tks T n k) rfl (Nat.le_refl _) (by omega) eke.symm (fun j h1 h2 => absurd h1 (by omega)) h3 L3 (f2.trans (kF F3 (by omega))) ?_ ?_ ?_
          · rw [F3.vI (by decide)]; exact e6
          · rw [F3.vI (by decide)]; exact e5
          · rw [E3, Nat.sub_self]; rfl
      · have z := Classical.not_not.mp z
        have q2 : o_tk0 T n k = 2 := by omega
        rw [if_pos (by omega), q2] at eke
        exact word q2 (n - o_tks T n k) (o_tks T n k) rfl (Nat.le_refl _) (by omega) eke.symm h2 L2 f2 e6 e5
    · rw [hX2, show (-1 : Int32) = i_m from rfl, n_eqm (by omega)]
      exact fun y => y
  · rw [if_neg q] at k0
    have hX2 : X = i_m := by rw [← hX, o_bt_f q]
    rw [if_neg (by omega), if_pos k0] at eke
    rw [if_neg (by omega)] at ekk
    refine ⟨fun z => absurd hX2 z, fun _ => ?_⟩
    refine sets (R := fun z => i_P i_MT i_AT L xs 218 71 [some (.ref 138), some (.int X)] [] z 0 0 Q) L2 (by omega) (fun h3 L3 F3 E3 => d218_71 L3 (fin h3 L3 (f2.trans (kF F3 (by omega))) ⟨?_, ?_, ?_, ?_, ?_⟩))
    · rw [E3, ekk, k0]; rfl
    · rw [F3.vI (by decide)]; exact e5
    · rw [F3.vI (by decide), eke]; exact e6
    · intro y; omega
    · intro y; omega
end
