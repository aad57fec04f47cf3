/-! THE CLASS: the course of things, as it is asked -/
section
variable {L : Nat} {xs : Nat → Int32} {h : iH} {Q : Option Value → iH → Prop} {a : Nat → Nat} {t : Nat}
set_option maxRecDepth 20000
/-- a Town at t holds the town a -/
def i_CT (a : Nat → Nat) (t : Nat) (h : iH) : Prop :=
  (fI h t 0 = i_n (a 0) ∧ fI h t 1 = i_n (a 1)) ∧ o_is (fJ h t 2) (a 0 * a 1) (o_wall a) ∧ o_is (fJ h t 3) 48 (fun c => a (58 + c) != 4294967295) ∧
  (∀ c, c < 48 → aI h (t + 1) c = i_n (o_sway a c)) ∧
  (fI h t 5 = i_n (a 3) ∧ ∀ k, k < a 3 → aI h (t + 2) k = i_n (a (114 + 10 * k)) ∧ aI h (t + 3) k = i_n (a (115 + 10 * k)) ∧ ∀ j, j < a (115 + 10 * k) → aI h (t + 4) (k * 8 + j) = i_n (a (116 + 10 * k + j))) ∧
  (fI h t 9 = i_n (a 4) ∧ ∀ k, k < a 4 → aI h (t + 5) k = i_n (a (106 + k))) ∧
  (∀ k, k < 4 → aI h (t + 6) k = i_n (a (6 + k))) ∧
  (fI h (t + 7) 0 = i_n (a 5) ∧ ∀ p, p < a 5 → aI h (t + 9) p = i_n (a (154 + 5 * p)) ∧ aI h (t + 10) p = i_n (a (155 + 5 * p)) ∧ aI h (t + 11) p = i_n (a (156 + 5 * p)) ∧ aI h (t + 12) p = i_n (a (157 + 5 * p)) ∧ aI h (t + 13) p = i_n (a (158 + 5 * p))) ∧
  (∀ j, j < 480 → aI h (t + 14) j = i_n (a (194 + j)))
theorem i_CT.fr {h2 : iH} {A : List Nat} {F : List (Nat × Nat)} (g : i_CT a t h) (f : i_Fr A F h h2) (hA : ∀ k, 1 ≤ k → k ≤ 14 → t + k ∉ A) (hF : ∀ b, (t, b) ∉ F ∧ (t + 7, b) ∉ F) : i_CT a t h2 := by
  unfold i_CT at g ⊢
  rw [f.vI (hF 0).1, f.vI (hF 1).1, f.vJ (hF 2).1, f.vJ (hF 3).1, f.vI (hF 5).1, f.vI (hF 9).1, f.vI (hF 0).2, f.rI (hA 1 (by omega) (by omega)), f.rI (hA 2 (by omega) (by omega)), f.rI (hA 3 (by omega) (by omega)), f.rI (hA 4 (by omega) (by omega)), f.rI (hA 5 (by omega) (by omega)), f.rI (hA 6 (by omega) (by omega)), f.rI (hA 9 (by omega) (by omega)), f.rI (hA 10 (by omega) (by omega)), f.rI (hA 11 (by omega) (by omega)), f.rI (hA 12 (by omega) (by omega)), f.rI (hA 13 (by omega) (by omega)), f.rI (hA 14 (by omega) (by omega))]
  exact g
def i_T2 (t : Nat) : Prop := t = 14 ∨ t = 29
theorem i_T2.T (x : i_T2 t) : i_T t := by
  unfold i_T2 at x
  unfold i_T
  omega
/-- the course of the town a, but for what is kept of views -/
def i_CB (a : Nat → Nat) (t : Nat) (h : iH) : Prop := i_Lay h ∧ o_WF a ∧ i_T2 t ∧ fR h 95 1 = t ∧ i_CT a t h ∧
  (∀ m, m ≤ 60 → o_is (aJ h 101 m) (a 0 * a 1) (o_bl a m)) ∧
  (∀ p m, p < a 5 → m ≤ 60 → aI h 102 (p * 61 + m) = i_n (o_cell a p m) ∧ aI h 103 (p * 61 + m) = i_n (o_look a p m) ∧ aI h 104 (p * 61 + m) = i_n (o_did a p m)) ∧
  (∀ k m, k < a 3 → m ≤ 60 → aI h 105 (k * 61 + m) = i_n (o_cart a k m))
theorem i_CB.fr {h2 : iH} {A : List Nat} {F : List (Nat × Nat)} (g : i_CB a t h) (hL : i_Lay h2) (f : i_Fr A F h h2) (hA : ∀ p, p ∈ A → 105 < p ∨ p = 99 ∨ p = 100) (hF : ∀ q, q ∈ F → q.1 = 0 ∨ 96 < q.1) : i_CB a t h2 := by
  obtain ⟨-, g2, g3, g4, g5, g6, g7, g8⟩ := g
  have nA : ∀ p, p < 99 ∨ (100 < p ∧ p ≤ 105) → p ∉ A := fun p hp z => by have := hA p z; omega
  have nF : ∀ q b, 0 < q → q ≤ 96 → (q, b) ∉ F := fun q b h1 h2 z => by have := hF _ z; dsimp only at this; omega
  have ht : t = 14 ∨ t = 29 := g3
  refine ⟨hL, g2, g3, ?_, g5.fr f (fun k h1 h2 => nA _ (by omega)) (fun b => ⟨nF _ _ (by omega) (by omega), nF _ _ (by omega) (by omega)⟩), ?_, ?_, ?_⟩
  · rw [f.vR (nF 95 1 (by omega) (by omega))]; exact g4
  · rw [f.rJ (nA 101 (by omega))]; exact g6
  · rw [f.rI (nA 102 (by omega)), f.rI (nA 103 (by omega)), f.rI (nA 104 (by omega))]; exact g7
  · rw [f.rI (nA 105 (by omega))]; exact g8
def i_VW (a : Nat → Nat) (h : iH) : Prop := ∀ p m, p < a 5 → m ≤ 60 → aJ h 106 (p * 61 + m) = -1 ∨ o_is (aJ h 106 (p * 61 + m)) (a 0 * a 1) (fun c => o_sees a p c m)
def i_WG (a : Nat → Nat) (h : iH) : Prop := ∀ p q m, p < a 5 → q < a 5 → m ≤ 60 → aI h 107 ((m * 8 + p) * 8 + q) = i_m ∨ aI h 107 ((m * 8 + p) * 8 + q) = i_n (o_wt a p q m)
def i_CO (a : Nat → Nat) (t : Nat) (h : iH) : Prop := i_CB a t h ∧ i_GR a h ∧ i_VW a h ∧ i_WG a h
theorem i_CO.fr {h2 : iH} {A : List Nat} {F : List (Nat × Nat)} (g : i_CO a t h) (hL : i_Lay h2) (f : i_Fr A F h h2) (hA : ∀ p, p ∈ A → 107 < p) (hF : ∀ q, q ∈ F → q.1 = 0 ∨ 96 < q.1) : i_CO a t h2 := by
  obtain ⟨g1, g2, g3, g4⟩ := g
  have nA : ∀ p, p ≤ 107 → p ∉ A := fun p hp z => by have := hA p z; omega
  refine ⟨g1.fr hL f (fun p hp => Or.inl (by have := hA p hp; omega)) hF, g2.fr f (fun p hp => nA p ?_) (fun b hb z => by have := hF _ z; dsimp only at this; omega), ?_, ?_⟩
  · simp at hp; omega
  · unfold i_VW; rw [f.rJ (nA 106 (by omega))]; exact g3
  · unfold i_WG; rw [f.rI (nA 107 (by omega))]; exact g4
theorem i_CO.l (g : i_CO a t h) : i_Lay h := g.1.1
theorem i_CO.w (g : i_CO a t h) : o_WF a := g.1.2.1
theorem i_CO.T (g : i_CO a t h) : i_T t := g.1.2.2.1.T
theorem i_CO.tw (g : i_CO a t h) : i_fld h 95 0 1 = some (.ref t) := by
  have := g.1.1.fw (q := 95) (ci := 0) (b := 1) rfl rfl rfl
  rw [g.1.2.2.2.1] at this
  exact this
theorem i_CO.ct (g : i_CO a t h) : i_CT a t h := g.1.2.2.2.2.1
theorem o_pp (w : o_WF a) {p m : Nat} (hp : p < a 5) (hm : m ≤ 60) : o_cell a p m < a 0 * a 1 ∧ o_cell a p m < 48 ∧ o_look a p m < 8 ∧ o_did a p m ≤ 4 := by
  have := o_cr_ok w hp m hm
  have := w.c48
  omega
theorem c4 (g : i_CO a t h) {p m : Nat} (hp : p < a 5) (hm : m ≤ 60) (H : Q (some (.int (i_n (o_cell a p m)))) h) : i_C i_MT i_AT L xs 4 [.ref 95, .int (i_n p), .int (i_n m)] h Q := by
  have h5 := g.w.2.2.2.2.1
  have hC : ∀ p m, p < a 5 → m ≤ 60 → aI h 102 (p * 61 + m) = i_n (o_cell a p m) := fun p m x y => (g.1.2.2.2.2.2.2.1 p m x y).1
  refine e4 (d4_0 g.l ?_)
  try simp (disch := omega) only [n_lit, n_m, n_add, n_mul, n_div, n_mod, n_cl, n_lt, n_le, n_eq, n_in, n_eqm, n_meq, n_mlt, n_ltm, n_mle, n_lem, not_true_eq_false, not_false_eq_true, true_implies, false_implies, true_and, and_true, Nat.not_lt_zero, Nat.zero_le, hC]
  exact ⟨by omega, H⟩
theorem c5 (g : i_CO a t h) {p m : Nat} (hp : p < a 5) (hm : m ≤ 60) (H : Q (some (.int (i_n (o_look a p m)))) h) : i_C i_MT i_AT L xs 5 [.ref 95, .int (i_n p), .int (i_n m)] h Q := by
  have h5 := g.w.2.2.2.2.1
  have hC : ∀ p m, p < a 5 → m ≤ 60 → aI h 103 (p * 61 + m) = i_n (o_look a p m) := fun p m x y => (g.1.2.2.2.2.2.2.1 p m x y).2.1
  refine e5 (d5_0 g.l ?_)
  try simp (disch := omega) only [n_lit, n_m, n_add, n_mul, n_div, n_mod, n_cl, n_lt, n_le, n_eq, n_in, n_eqm, n_meq, n_mlt, n_ltm, n_mle, n_lem, not_true_eq_false, not_false_eq_true, true_implies, false_implies, true_and, and_true, Nat.not_lt_zero, Nat.zero_le, hC]
  exact ⟨by omega, H⟩
theorem c6 (g : i_CO a t h) {p m : Nat} (hp : p < a 5) (hm : m ≤ 60) (H : Q (some (.int (i_n (o_did a p m)))) h) : i_C i_MT i_AT L xs 6 [.ref 95, .int (i_n p), .int (i_n m)] h Q := by
  have h5 := g.w.2.2.2.2.1
  have hC : ∀ p m, p < a 5 → m ≤ 60 → aI h 104 (p * 61 + m) = i_n (o_did a p m) := fun p m x y => (g.1.2.2.2.2.2.2.1 p m x y).2.2
  refine e6 (d6_0 g.l ?_)
  try simp (disch := omega) only [n_lit, n_m, n_add, n_mul, n_div, n_mod, n_cl, n_lt, n_le, n_eq, n_in, n_eqm, n_meq, n_mlt, n_ltm, n_mle, n_lem, not_true_eq_false, not_false_eq_true, true_implies, false_implies, true_and, and_true, Nat.not_lt_zero, Nat.zero_le, hC]
  exact ⟨by omega, H⟩
theorem c7 (g : i_CO a t h) {k m : Nat} (hk : k < a 3) (hm : m ≤ 60) (H : Q (some (.int (i_n (o_cart a k m)))) h) : i_C i_MT i_AT L xs 7 [.ref 95, .int (i_n k), .int (i_n m)] h Q := by
  have h3 := g.w.2.2.1
  have hC := g.1.2.2.2.2.2.2.2
  refine e7 (d7_0 g.l ?_)
  try simp (disch := omega) only [n_lit, n_m, n_add, n_mul, n_div, n_mod, n_cl, n_lt, n_le, n_eq, n_in, n_eqm, n_meq, n_mlt, n_ltm, n_mle, n_lem, not_true_eq_false, not_false_eq_true, true_implies, false_implies, true_and, and_true, Nat.not_lt_zero, Nat.zero_le, hC]
  exact ⟨by omega, H⟩
theorem c8 (g : i_CO a t h) {k m : Nat} (hk : k < a 3) (hm : 1 ≤ m ∧ m ≤ 60) (H : Q (some (.int (i_bo (o_cart a k m ≠ o_cart a k (m - 1))))) h) : i_C i_MT i_AT L xs 8 [.ref 95, .int (i_n k), .int (i_n m)] h Q := by
  have h48 := g.w.c48
  have b1 := o_cart_ok g.w hk m
  have b2 := o_cart_ok g.w hk (m - 1)
  refine e8 (d8_0 g.l (c7 g hk hm.2 ⟨_, rfl, d8_6 g.l ?_⟩))
  try simp (disch := omega) only [n_lit, n_m, n_add, n_mul, n_div, n_mod, n_cl, n_lt, n_le, n_eq, n_in, n_eqm, n_meq, n_mlt, n_ltm, n_mle, n_lem, not_true_eq_false, not_false_eq_true, true_implies, false_implies, true_and, and_true, Nat.not_lt_zero, Nat.zero_le, n_sub]
  refine c7 g hk (by omega) ⟨_, rfl, d8_14 g.l ?_⟩
  try simp (disch := omega) only [n_lit, n_m, n_add, n_mul, n_div, n_mod, n_cl, n_lt, n_le, n_eq, n_in, n_eqm, n_meq, n_mlt, n_ltm, n_mle, n_lem, not_true_eq_false, not_false_eq_true, true_implies, false_implies, true_and, and_true, Nat.not_lt_zero, Nat.zero_le]
  refine ⟨fun z => d8_22 g.l ⟨rfl, ?_⟩, fun z => d8_22 g.l ⟨rfl, ?_⟩⟩
  · rw [i_bo_f (fun q => q z)] at H; exact H
  · rw [i_bo_t z] at H; exact H
theorem c9 (g : i_CO a t h) {p m : Nat} (hp : p < a 5) (hm : m ≤ 60) (H : Q (some (.int (i_bo (o_moved a p m = true)))) h) : i_C i_MT i_AT L xs 9 [.ref 95, .int (i_n p), .int (i_n m)] h Q := by
  have hpp := o_pp g.w hp hm
  have yes : o_moved a p m = true → ∀ u : Int32, i_P i_MT i_AT L xs 9 22 [some (.ref 95), some (.int (i_n p)), some (.int (i_n m)), some (.int u)] [] h 0 0 Q := by
    intro z u
    rw [i_bo_t z] at H
    exact d9_22 g.l (d9_27 g.l ⟨rfl, H⟩)
  refine e9 (d9_0 g.l (c6 g hp hm ⟨_, rfl, d9_6 g.l ?_⟩))
  try simp (disch := omega) only [n_lit, n_m, n_add, n_mul, n_div, n_mod, n_cl, n_lt, n_le, n_eq, n_in, n_eqm, n_meq, n_mlt, n_ltm, n_mle, n_lem, not_true_eq_false, not_false_eq_true, true_implies, false_implies, true_and, and_true, Nat.not_lt_zero, Nat.zero_le]
  refine ⟨fun z => yes (by unfold o_moved; simp [z]) _, fun z => ⟨fun z2 => yes (by unfold o_moved; simp [z2]) _, fun z2 => ⟨fun z3 => d9_27 g.l ⟨rfl, ?_⟩, fun z3 => yes (by unfold o_moved; simp [Classical.not_not.mp z3]) _⟩⟩⟩
  rw [i_bo_f (by unfold o_moved; simp; omega)] at H
  exact H
/-- what a move on a cell weighs where it is seen -/
def o_on (a : Nat → Nat) (c d : Nat) : Nat := (if d = 0 then a 9 else if d = 1 then 16 else a (4 + d)) * (16 - o_sway a c) / 16
theorem c101 (hL : i_Lay h) (w : o_WF a) (hT : i_T t) (g : i_CT a t h) {c d : Nat} (hc : c < 48) (hd : d ≤ 4) (H : Q (some (.int (i_n (o_on a c d)))) h) : i_C i_MT i_AT L xs 101 [.ref t, .int (i_n c), .int (i_n d)] h Q := by
  have hS := g.2.2.2.1
  have hW := g.2.2.2.2.2.2.1
  have h9 := w.2.2.2.2.2.1
  have hsw := o_sway_le w hc
  have fin : ∀ i : Nat, i = (if d = 0 then a 9 else if d = 1 then 16 else a (4 + d)) → i ≤ 16 → i_P i_MT i_AT L xs 101 31 [some (.ref t), some (.int (i_n c)), some (.int (i_n d)), some (.int (i_n i))] [] h 0 0 Q := by
    intro i hi hi2
    have hml : i * (16 - o_sway a c) ≤ 16 * 16 := Nat.mul_le_mul hi2 (by omega)
    refine d101_31 hL hT ?_
    try simp (disch := omega) only [n_lit, n_m, n_add, n_mul, n_div, n_mod, n_cl, n_lt, n_le, n_eq, n_in, n_eqm, n_meq, n_mlt, n_ltm, n_mle, n_lem, not_true_eq_false, not_false_eq_true, true_implies, false_implies, true_and, and_true, Nat.not_lt_zero, Nat.zero_le, hS, n_sub]
    unfold o_on at H
    rw [← hi] at H
    exact ⟨hc, H⟩
  refine e101 (d101_0 hL hT ?_)
  try simp (disch := omega) only [n_lit, n_m, n_add, n_mul, n_div, n_mod, n_cl, n_lt, n_le, n_eq, n_in, n_eqm, n_meq, n_mlt, n_ltm, n_mle, n_lem, not_true_eq_false, not_false_eq_true, true_implies, false_implies, true_and, and_true, Nat.not_lt_zero, Nat.zero_le, hW, n_sub]
  refine ⟨fun z => ⟨fun z1 => fin 16 (by rw [if_neg z, if_pos z1]) (by omega), fun z1 => ?_⟩, fun z => ?_⟩
  · try simp (disch := omega) only [n_lit, n_m, n_add, n_mul, n_div, n_mod, n_cl, n_lt, n_le, n_eq, n_in, n_eqm, n_meq, n_mlt, n_ltm, n_mle, n_lem, not_true_eq_false, not_false_eq_true, true_implies, false_implies, true_and, and_true, Nat.not_lt_zero, Nat.zero_le, hW, n_sub]
    refine ⟨by omega, fin _ ?_ (h9 _ (by omega))⟩
    rw [if_neg z, if_neg z1]
    congr 1
    omega
  · exact fin _ (by rw [if_pos (by omega)]) (h9 3 (by omega))
theorem i_Fr.m4 {h2 : iH} {A : List Nat} (f : i_Fr A [] h h2) (hA : ∀ p, p ∈ A → p ∈ [99, 100, 106, 107]) : i_Fr [99, 100, 106, 107] [] h h2 := f.mono hA (fun _ z => z)
set_option maxHeartbeats 1000000 in
theorem c10 (g : i_CO a t h) {p m : Nat} (hp : p < a 5) (hm : m ≤ 60) (H : ∀ (s : Int64) (h2 : iH), o_is s (a 0 * a 1) (fun c => o_sees a p c m) → i_CO a t h2 → i_Fr [99, 100, 106, 107] [] h h2 → Q (some (.long s)) h2) : i_C i_MT i_AT L xs 10 [.ref 95, .int (i_n p), .int (i_n m)] h Q := by
  have h5 := g.w.2.2.2.2.1
  have hpp := o_pp g.w hp hm
  have hC : ∀ p m, p < a 5 → m ≤ 60 → aI h 102 (p * 61 + m) = i_n (o_cell a p m) := fun p m x y => (g.1.2.2.2.2.2.2.1 p m x y).1
  have hK : ∀ p m, p < a 5 → m ≤ 60 → aI h 103 (p * 61 + m) = i_n (o_look a p m) := fun p m x y => (g.1.2.2.2.2.2.2.1 p m x y).2.1
  have hF : ∀ p, p < a 5 → aI h (t + 11) p = i_n (a (156 + 5 * p)) := fun p hp => (g.ct.2.2.2.2.2.2.2.1.2 p hp).2.2.1
  have hfar := (g.w.2.2.2.2.2.2.2.2.2.2.1 p hp).2.2.2.2.1
  refine e10 (d10_0 g.l ?_)
  try simp (disch := omega) only [n_lit, n_m, i_bo01, j_cmpn, Classical.not_not, n_add, n_mul, n_div, n_mod, n_cl, n_lt, n_le, n_eq, n_in, n_eqm, n_meq, n_mlt, n_ltm, n_mle, n_lem, not_true_eq_false, not_false_eq_true, true_implies, false_implies, true_and, and_true, Nat.not_lt_zero, Nat.zero_le]
  refine ⟨by omega, fun z => d10_63 g.l ?_, fun z => ⟨by omega, by omega, t, g.tw, g.T, ?_⟩⟩
  · try simp (disch := omega) only [n_lit, n_m, i_bo01, j_cmpn, Classical.not_not, n_add, n_mul, n_div, n_mod, n_cl, n_lt, n_le, n_eq, n_in, n_eqm, n_meq, n_mlt, n_ltm, n_mle, n_lem, not_true_eq_false, not_false_eq_true, true_implies, false_implies, true_and, and_true, Nat.not_lt_zero, Nat.zero_le]
    refine ⟨by omega, ?_⟩
    rcases g.2.2.1 p m hp hm with q | q
    · exact absurd q z
    · exact H _ h q g i_Fr.refl
  · try simp (disch := omega) only [n_lit, n_m, i_bo01, j_cmpn, Classical.not_not, n_add, n_mul, n_div, n_mod, n_cl, n_lt, n_le, n_eq, n_in, n_eqm, n_meq, n_mlt, n_ltm, n_mle, n_lem, not_true_eq_false, not_false_eq_true, true_implies, false_implies, true_and, and_true, Nat.not_lt_zero, Nat.zero_le, hC, hK, hF]
    refine ⟨by omega, by omega, c31 g.l g.w g.2.1 hpp.1 hpp.2.2.1 (by omega) (g.1.2.2.2.2.2.1 m hm) ?_⟩
    intro s h1 hs hL1 g1 f1
    refine ⟨_, rfl, d10_62 hL1 ⟨488, aJ h1 106, hL1.a106, ?_⟩⟩
    try simp (disch := omega) only [n_lit, n_m, i_bo01, j_cmpn, Classical.not_not, n_add, n_mul, n_div, n_mod, n_cl, n_lt, n_le, n_eq, n_in, n_eqm, n_meq, n_mlt, n_ltm, n_mle, n_lem, not_true_eq_false, not_false_eq_true, true_implies, false_implies, true_and, and_true, Nat.not_lt_zero, Nat.zero_le]
    refine ⟨by omega, d10_63 hL1.siJ ?_⟩
    try simp (disch := omega) only [n_lit, n_m, i_bo01, j_cmpn, Classical.not_not, n_add, n_mul, n_div, n_mod, n_cl, n_lt, n_le, n_eq, n_in, n_eqm, n_meq, n_mlt, n_ltm, n_mle, n_lem, not_true_eq_false, not_false_eq_true, true_implies, false_implies, true_and, and_true, Nat.not_lt_zero, Nat.zero_le]
    rw [i_siJ_at hL1.a106]
    refine ⟨by omega, ?_⟩
    have f2 : i_Fr [99, 100, 106, 107] [] h (i_siJ h1 106 (p * 61 + m) s) := (f1.m4 (by decide)).siJ (by decide)
    have f3 : i_Fr [106] [] h1 (i_siJ h1 106 (p * 61 + m) s) := i_Fr.refl.siJ (by decide)
    have f4 : i_Fr [99, 100, 106] [] h (i_siJ h1 106 (p * 61 + m) s) := (f1.mono (by decide) (by decide)).siJ (by decide)
    refine H s _ hs ⟨g.1.fr hL1.siJ f4 (by decide) (by decide), g1.fr f3 (by decide) (fun b _ z => by cases z), ?_, ?_⟩ f2
    · intro p2 m2 hp2 hm2
      by_cases e : p2 * 61 + m2 = p * 61 + m
      · have ep : p2 = p := by omega
        have em : m2 = m := by omega
        subst ep; subst em
        rw [i_siJ_at hL1.a106]
        exact Or.inr hs
      · rw [i_siJ_no hL1.a106 e, f1.rJ (by decide)]
        exact g.2.2.1 p2 m2 hp2 hm2
    · unfold i_WG
      rw [f4.rI (by decide)]
      exact g.2.2.2
theorem c11 (g : i_CO a t h) {p c d m : Nat} (hp : p < a 5) (hc : c < a 0 * a 1) (hd : d ≤ 4) (hm : m ≤ 60) (H : ∀ h2 : iH, i_CO a t h2 → i_Fr [99, 100, 106, 107] [] h h2 → Q (some (.int (i_n (o_wgh a p c d m)))) h2) : i_C i_MT i_AT L xs 11 [.ref 95, .int (i_n p), .int (i_n c), .int (i_n d), .int (i_n m)] h Q := by
  have h48 := g.w.c48
  refine e11 (d11_0 g.l (c10 g hp hm ?_))
  intro s h1 hs g1 f1
  have no : ¬ (o_sees a p c m = true ∧ (d = 0 → o_moved a p m = true)) → i_P i_MT i_AT L xs 11 28 [some (.ref 95), some (.int (i_n p)), some (.int (i_n c)), some (.int (i_n d)), some (.int (i_n m))] [] h1 0 0 Q := by
    intro z
    refine d11_28 g1.l ?_
    have := H h1 g1 f1
    unfold o_wgh o_its at this
    by_cases hs : o_sees a p c m = true
    · rw [if_pos hs] at this
      have hd0 : d = 0 := by
        by_cases e : d = 0
        · exact e
        · exact absurd ⟨hs, fun q => absurd q e⟩ z
      have hmv : ¬ o_moved a p m = true := fun q => z ⟨hs, fun _ => q⟩
      rw [if_neg (by omega), if_pos hd0, if_neg hmv] at this
      simp only [Nat.zero_mul, Nat.zero_div] at this
      exact this
    · rw [if_neg hs] at this
      exact this
  have yes : o_sees a p c m = true → (d = 0 → o_moved a p m = true) → i_P i_MT i_AT L xs 11 30 [some (.ref 95), some (.int (i_n p)), some (.int (i_n c)), some (.int (i_n d)), some (.int (i_n m))] [] h1 0 0 Q := by
    intro z1 z2
    refine d11_30 g1.l ⟨t, g1.tw, g1.T, c101 g1.l g1.w g1.T g1.ct (by omega) hd ⟨_, rfl, d11_39 g1.l ?_⟩⟩
    have := H h1 g1 f1
    unfold o_wgh o_its at this
    unfold o_on
    rw [if_pos z1] at this
    by_cases e0 : d = 0
    · rw [if_neg (by omega), if_pos e0, if_pos (z2 e0)] at this
      rw [if_pos e0]
      exact this
    · rw [if_neg e0]
      rw [if_neg e0] at this
      exact this
  refine ⟨_, rfl, d11_7 g1.l (c193 (by omega) ⟨_, rfl, d11_11 g1.l ?_⟩)⟩
  rw [hs.b hc (by omega)]
  try simp (disch := omega) only [n_lit, n_m, i_bo01, j_cmpn, Classical.not_not, n_add, n_mul, n_div, n_mod, n_cl, n_lt, n_le, n_eq, n_in, n_eqm, n_meq, n_mlt, n_ltm, n_mle, n_lem, not_true_eq_false, not_false_eq_true, true_implies, false_implies, true_and, and_true, Nat.not_lt_zero, Nat.zero_le]
  refine ⟨fun z => no (fun q => z q.1), fun z => ⟨fun z2 => yes z (fun q => absurd q z2), fun z2 => c9 g1 hp hm ⟨_, rfl, d11_25 g1.l ?_⟩⟩⟩
  try simp (disch := omega) only [n_lit, n_m, i_bo01, j_cmpn, Classical.not_not, n_add, n_mul, n_div, n_mod, n_cl, n_lt, n_le, n_eq, n_in, n_eqm, n_meq, n_mlt, n_ltm, n_mle, n_lem, not_true_eq_false, not_false_eq_true, true_implies, false_implies, true_and, and_true, Nat.not_lt_zero, Nat.zero_le]
  exact ⟨fun z3 => yes z (fun _ => z3), fun z3 => no (fun q => z3 (q.2 z2))⟩
set_option maxHeartbeats 1000000 in
theorem c12 (g : i_CO a t h) {p q m : Nat} (hp : p < a 5) (hq : q < a 5) (hm : m ≤ 60) (H : ∀ h2 : iH, i_CO a t h2 → i_Fr [99, 100, 106, 107] [] h h2 → Q (some (.int (i_n (o_wt a p q m)))) h2) : i_C i_MT i_AT L xs 12 [.ref 95, .int (i_n p), .int (i_n q), .int (i_n m)] h Q := by
  have h5 := g.w.2.2.2.2.1
  have hqq := o_pp g.w hq hm
  refine e12 (d12_0 g.l ?_)
  try simp (disch := omega) only [n_lit, n_m, i_bo01, j_cmpn, Classical.not_not, n_add, n_mul, n_div, n_mod, n_cl, n_lt, n_le, n_eq, n_in, n_eqm, n_meq, n_mlt, n_ltm, n_mle, n_lem, not_true_eq_false, not_false_eq_true, true_implies, false_implies, true_and, and_true, Nat.not_lt_zero, Nat.zero_le]
  refine ⟨by omega, fun z => d12_49 g.l ?_, fun z => ?_⟩
  · try simp (disch := omega) only [n_lit, n_m, i_bo01, j_cmpn, Classical.not_not, n_add, n_mul, n_div, n_mod, n_cl, n_lt, n_le, n_eq, n_in, n_eqm, n_meq, n_mlt, n_ltm, n_mle, n_lem, not_true_eq_false, not_false_eq_true, true_implies, false_implies, true_and, and_true, Nat.not_lt_zero, Nat.zero_le]
    refine ⟨by omega, ?_⟩
    rcases g.2.2.2 p q m hp hq hm with e | e
    · exact absurd e z
    · rw [e]; exact H h g i_Fr.refl
  · refine c4 g hq hm ⟨_, rfl, d12_38 g.l (c6 g hq hm ⟨_, rfl, d12_44 g.l (c11 g hp hqq.1 hqq.2.2.2 hm ?_)⟩)⟩
    intro h1 g1 f1
    refine ⟨_, rfl, d12_48 g1.l ⟨3904, aI h1 107, g1.l.a107, ?_⟩⟩
    try simp (disch := omega) only [n_lit, n_m, i_bo01, j_cmpn, Classical.not_not, n_add, n_mul, n_div, n_mod, n_cl, n_lt, n_le, n_eq, n_in, n_eqm, n_meq, n_mlt, n_ltm, n_mle, n_lem, not_true_eq_false, not_false_eq_true, true_implies, false_implies, true_and, and_true, Nat.not_lt_zero, Nat.zero_le]
    refine ⟨by omega, d12_49 g1.l.siI ?_⟩
    try simp (disch := omega) only [n_lit, n_m, i_bo01, j_cmpn, Classical.not_not, n_add, n_mul, n_div, n_mod, n_cl, n_lt, n_le, n_eq, n_in, n_eqm, n_meq, n_mlt, n_ltm, n_mle, n_lem, not_true_eq_false, not_false_eq_true, true_implies, false_implies, true_and, and_true, Nat.not_lt_zero, Nat.zero_le]
    rw [x_aI_siI g1.l.a107, x_upd, if_pos rfl]
    refine ⟨by omega, ?_⟩
    have f3 : i_Fr [107] [] h1 (i_siI h1 107 ((m * 8 + p) * 8 + q) (i_n (o_wgh a p (o_cell a q m) (o_did a q m) m))) := i_Fr.refl.siI (by decide)
    refine H _ ⟨g1.1.fr g1.l.siI f3 (by decide) (by decide), g1.2.1.fr f3 (by decide) (fun b _ z => by cases z), ?_, ?_⟩ (f1.siI (by decide))
    · unfold i_VW
      rw [f3.rJ (by decide)]
      exact g1.2.2.1
    · intro p2 q2 m2 hp2 hq2 hm2
      rw [x_aI_siI g1.l.a107, x_upd]
      by_cases e : (m2 * 8 + p2) * 8 + q2 = (m * 8 + p) * 8 + q
      · have ep : p2 = p := by omega
        have eq : q2 = q := by omega
        have em : m2 = m := by omega
        rw [if_pos e, ep, eq, em]
        exact Or.inr rfl
      · rw [if_neg e]
        exact g1.2.2.2 p2 q2 m2 hp2 hq2 hm2
theorem c13 (g : i_CO a t h) {p b m : Nat} (hp : p < a 5) (hb : b < a 5) (hm : m ≤ 60) (H : ∀ h2 : iH, i_CO a t h2 → i_Fr [99, 100, 106, 107] [] h h2 → Q (some (.int (i_bo (o_far (a 0) (o_cell a p m) (o_cell a b m) ≤ a (156 + 5 * b) ∧ o_wt a b p m = 0)))) h2) : i_C i_MT i_AT L xs 13 [.ref 95, .int (i_n p), .int (i_n b), .int (i_n m)] h Q := by
  have h5 := g.w.2.2.2.2.1
  have hpp := o_pp g.w hp hm
  have hbb := o_pp g.w hb hm
  have h48 := g.w.c48
  have hW := g.w.pos hpp.1
  have hn := o_far_lt (show 0 < a 0 by omega) hpp.1 hbb.1
  have hF : ∀ p, p < a 5 → aI h (t + 11) p = i_n (a (156 + 5 * p)) := fun p hp => (g.ct.2.2.2.2.2.2.2.1.2 p hp).2.2.1
  have hfar := (g.w.2.2.2.2.2.2.2.2.2.2.1 b hb).2.2.2.2.1
  have hpq := o_pp g.w hp hm
  have hwt : o_wt a b p m ≤ 16 := o_wgh_le g.w hpq.2.2.2 hpq.2.1
  refine e13 (d13_0 g.l (c4 g hp hm ⟨_, rfl, d13_10 g.l (c4 g hb hm ⟨_, rfl, d13_16 g.l (c27 g.l g.w g.2.1 hpp.1 hbb.1 ⟨_, rfl, d13_19 g.l ⟨t, g.tw, g.T, ?_⟩⟩)⟩)⟩))
  try simp (disch := omega) only [n_lit, n_m, n_add, n_mul, n_div, n_mod, n_cl, n_lt, n_le, n_eq, n_in, n_eqm, n_meq, n_mlt, n_ltm, n_mle, n_lem, not_true_eq_false, not_false_eq_true, true_implies, false_implies, true_and, and_true, Nat.not_lt_zero, Nat.zero_le, hF]
  refine ⟨by omega, fun z => d13_48 g.l (d13_49 g.l ⟨rfl, ?_⟩), fun z => c12 g hb hp hm ?_⟩
  · have := H h g i_Fr.refl
    rw [i_bo_f (by omega)] at this
    exact this
  · intro h1 g1 f1
    refine ⟨_, rfl, d13_41 g1.l ?_⟩
    try simp (disch := omega) only [n_lit, n_m, n_add, n_mul, n_div, n_mod, n_cl, n_lt, n_le, n_eq, n_in, n_eqm, n_meq, n_mlt, n_ltm, n_mle, n_lem, not_true_eq_false, not_false_eq_true, true_implies, false_implies, true_and, and_true, Nat.not_lt_zero, Nat.zero_le]
    refine ⟨fun z2 => d13_48 g1.l (d13_49 g1.l ⟨rfl, ?_⟩), fun z2 => d13_49 g1.l ⟨rfl, ?_⟩⟩
    · have := H h1 g1 f1
      rw [i_bo_f (by omega)] at this
      exact this
    · have := H h1 g1 f1
      rw [i_bo_t (by omega)] at this
      exact this
end
