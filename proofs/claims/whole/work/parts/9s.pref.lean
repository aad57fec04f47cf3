/-! THE REFERENCE READS A TOWN'S TEXT: its state on the way; what it takes -/
section
variable {L : Nat} {xs : Nat → Int32} {h : iH} {Q : Option Value → iH → Prop} {a : Nat → Nat} {t : Nat} {n k k0 : Nat} {T : Nat → Nat}
set_option maxRecDepth 20000
def i_PR (a : Nat → Nat) (n k : Nat) (T : Nat → Nat) (h : iH) : Prop := i_Lay h ∧ i_TXr h n T ∧ i_RK h T n k ∧ (fI h 138 20 = 0 ∧ fI h 138 19 = i_m) ∧ fI h 138 21 = i_n (a 799) ∧ (∀ i, i < 680 → aI h 139 (2720 + i) = i_n (a i)) ∧ i_NR a 32 h
abbrev grF2 : List (Nat × Nat) := [(138, 14), (138, 15), (138, 16), (138, 17), (138, 19), (138, 20), (138, 21), (138, 22)]
def i_GN (h h2 : iH) : Prop := i_Fr [139, 140] grF2 h h2 ∧ (∀ i, i < 2720 → aI h2 139 i = aI h 139 i) ∧ (∀ i, i < 32 → aJ h2 140 i = aJ h 140 i)
theorem i_GN.refl : i_GN h h := ⟨i_Fr.refl, fun _ _ => rfl, fun _ _ => rfl⟩
theorem i_GN.trans {h1 h2 : iH} (x : i_GN h h1) (y : i_GN h1 h2) : i_GN h h2 := ⟨x.1.trans y.1, fun i hi => (y.2.1 i hi).trans (x.2.1 i hi), fun i hi => (y.2.2 i hi).trans (x.2.2 i hi)⟩
theorem i_GN.of {h2 : iH} {F : List (Nat × Nat)} (f : i_Fr [] F h h2) (hF : ∀ q, q ∈ F → q ∈ grF2) : i_GN h h2 := ⟨f.mono (fun _ z => absurd z (by simp)) hF, fun i _ => by rw [f.rI (by simp)], fun i _ => by rw [f.rJ (by simp)]⟩
def i_RR (n : Nat) (T : Nat → Nat) (h : iH) (Q : Option Value → iH → Prop) (r : o_R) : Prop := match r with
  | .inl (f, p) => ∀ h2, i_Lay h2 → i_GN h h2 → i_RBL h2 f p → Q (some (.int 0)) h2
  | .inr (k2, a2) => ∀ h2, i_GN h h2 → i_PR a2 n k2 T h2 → Q (some (.int 1)) h2
theorem i_RR.mono {Q2 : Option Value → iH → Prop} {r : o_R} (K : i_RR n T h Q r) (H : ∀ x h2, i_Lay h2 → (x = 0 ∨ x = 1) → Q (some (.int x)) h2 → Q2 (some (.int x)) h2) : i_RR n T h Q2 r := by
  match r, K with
  | .inl (f, p), K => exact fun h2 L2 F2 b2 => H 0 h2 L2 (Or.inl rfl) (K h2 L2 F2 b2)
  | .inr (k2, a2), K => exact fun h2 F2 g2 => H 1 h2 g2.1 (Or.inr rfl) (K h2 F2 g2)
theorem i_NR.fr {b : Nat} {h2 : iH} {A : List Nat} {F : List (Nat × Nat)} (g : i_NR a b h) (f : i_Fr A F h h2) (hA : 140 ∉ A) : i_NR a b h2 := by
  unfold i_NR
  rw [f.rJ hA]
  exact g
theorem i_NR.ch {b : Nat} {c : Nat → Nat} (g : i_NR a b h) (e5 : c 5 = a 5) (e8 : ∀ p, p < a 5 → c (800 + p) = a (800 + p)) : i_NR c b h := by
  intro p hp
  rw [e5] at hp
  rw [e8 p hp]
  exact g p hp
/-- what is read leaves the town -/
theorem i_PR.fr {h2 : iH} {F : List (Nat × Nat)} {k2 : Nat} (g : i_PR a n k T h) (hL : i_Lay h2) (f : i_Fr [] F h h2) (hF : ∀ q, q ∈ F → q ∈ [(138, 14), (138, 15), (138, 16), (138, 17), (138, 22)]) (z : i_RK h2 T n k2) : i_PR a n k2 T h2 := by
  refine ⟨hL, g.2.1.fr f (by simp) (fun y => absurd (hF _ y) (by decide)), z, ?_, ?_, ?_, g.2.2.2.2.2.2.fr f (by simp)⟩
  · rw [f.vI (fun y => absurd (hF _ y) (by decide)), f.vI (fun y => absurd (hF _ y) (by decide))]; exact g.2.2.2.1
  · rw [f.vI (fun y => absurd (hF _ y) (by decide))]; exact g.2.2.2.2.1
  · rw [f.rI (by simp)]; exact g.2.2.2.2.2.1
theorem r218 {k2 : Nat} (hk2 : k2 = o_tke T n k) (g : i_PR a n k T h) (hk : k ≤ n) (H : ∀ h2, i_PR a n k2 T h2 → i_GN h h2 → Q none h2) : i_C i_MT i_AT L xs 218 [.ref 138] h Q := by
  subst hk2
  exact c218n g.1 g.2.1 hk g.2.2.1 (fun h2 L2 f2 z2 => H h2 (g.fr L2 f2 (by decide) z2) (i_GN.of f2 (by decide)))
theorem r221b (g : i_PR a n k T h) (H : ∀ h2, i_Lay h2 → i_GN h h2 → i_RBL h2 (o_bad T n k) (o_tks T n k) → Q (some (.int 0)) h2) : i_C i_MT i_AT L xs 221 [.ref 138, .int 2] h Q := c221b g.1 g.2.2.1 g.2.2.2.1.1 (fun h2 L2 f2 z2 => H h2 L2 (i_GN.of f2 (by decide)) z2)
theorem r221g (g : i_PR a n k T h) {x : Nat} (q : o_tkk T n k ≠ 4) (H : ∀ h2, i_Lay h2 → i_GN h h2 → i_RBL h2 x (o_tks T n k) → Q (some (.int 0)) h2) : i_C i_MT i_AT L xs 221 [.ref 138, .int (i_n x)] h Q := c221g g.1 g.2.2.1 g.2.2.2.1.1 q (fun h2 L2 f2 z2 => H h2 L2 (i_GN.of f2 (by decide)) z2)
theorem r220 (g : i_PR a n k T h) (hk : k ≤ n) (H : Q (some (.int (o_rix (o_wy T n k)))) h) : i_C i_MT i_AT L xs 220 [.ref 138, .retAddr 7] h Q := c220 g.1 g.2.1 g.2.2.1 hk H
theorem r224 {k2 : Nat} (hk2 : k2 = o_tke T n k) (g : i_PR a n k T h) (hk : k ≤ n) {r w : Nat} (hr : r < 33) (hw : o_cw r = w) (H1 : o_wy T n k = w → ∀ h2, i_PR a n k2 T h2 → i_GN h h2 → Q (some (.int 1)) h2) (H0 : o_wy T n k ≠ w → ∀ h2, i_Lay h2 → i_GN h h2 → i_RBL h2 (o_bad T n k) (o_tks T n k) → Q (some (.int 0)) h2) : i_C i_MT i_AT L xs 224 [.ref 138, .retAddr 7, .int (i_n r)] h Q := by
  subst hk2
  exact c224 g.1 g.2.1 hk g.2.2.1 g.2.2.2.1.1 hr hw (fun e h2 L2 f2 z2 => H1 e h2 (g.fr L2 f2 (by decide) z2) (i_GN.of f2 (by decide))) (fun e h2 L2 f2 z2 => H0 e h2 L2 (i_GN.of f2 (by decide)) z2)
/-- one number of the town is written -/
theorem i_PR.wr {h2 : iH} {j x : Nat} (g : i_PR a n k T h) (hj : j < 680) (h5 : j ≠ 5) (hL : i_Lay h2) (f : i_Fr [139] [] h h2) (e : ∀ i, aI h2 139 i = if i = 2720 + j then i_n x else aI h 139 i) : i_PR (o_su a j x) n k T h2 ∧ i_GN h h2 := by
  refine ⟨⟨hL, g.2.1.fr f (by simp) (by simp), g.2.2.1.fr f (fun _ _ => by simp), ?_, ?_, ?_, (g.2.2.2.2.2.2.fr f (by simp)).ch (o_su_f (by omega)) (fun p hp => o_su_f (by omega))⟩, f.mono (by simp) (fun _ z => absurd z (by simp)), fun i hi => by rw [e, if_neg (by omega)], fun i hi => by rw [f.rJ (by simp)]⟩
  · rw [f.vI (by simp), f.vI (by simp)]; exact g.2.2.2.1
  · rw [f.vI (by simp), o_su_f (by omega)]; exact g.2.2.2.2.1
  · intro i hi
    rw [e]
    by_cases q : i = j
    · subst q; rw [if_pos rfl, o_su_t]
    · rw [if_neg (by omega), o_su_f q]; exact g.2.2.2.2.2.1 i hi
/-- the write, and on -/
theorem w_139 {R : iH → Prop} {j x : Nat} (g : i_PR a n k T h) (hj : j < 680) (h5 : j ≠ 5) (K : ∀ h2, i_PR (o_su a j x) n k T h2 → i_GN h h2 → R h2) : R (i_siI h 139 (2720 + j) (i_n x)) := by
  refine w_siI (R := R) g.1 g.1.a139 (fun h1 L1 F1 E1 => ?_)
  have z := g.wr hj h5 L1 F1 E1
  exact K h1 z.1 z.2
theorem r225 {k2 : Nat} (hk2 : k2 = o_tke T n k) (g : i_PR a n k T h) (hk : k ≤ n) {j lo hi : Nat} (hj : j < 680) (h5 : j ≠ 5) (hl : lo < 1000) (hh : hi < 1000) (H1 : o_nf T n k lo hi = 0 → ∀ h2, i_PR (o_su a j (o_tkv T n k)) n k2 T h2 → i_GN h h2 → Q (some (.int 1)) h2) (H0 : o_nf T n k lo hi ≠ 0 → ∀ h2, i_Lay h2 → i_GN h h2 → i_RBL h2 (o_nf T n k lo hi) (o_tks T n k) → Q (some (.int 0)) h2) : i_C i_MT i_AT L xs 225 [.ref 138, .int (i_n (2720 + j)), .int (i_n lo), .int (i_n hi)] h Q := by
  subst hk2
  refine c225 g.1 g.2.1 hk g.2.2.1 g.2.2.2.1.1 (by omega) hl hh (fun e h2 L2 f2 ea z2 => H1 e h2 ?_ ?_) (fun e h2 L2 f2 z2 => H0 e h2 L2 (i_GN.of f2 (by decide)) z2)
  · refine ⟨L2, g.2.1.fr f2 (by simp) (by decide), z2, ?_, ?_, ?_, (g.2.2.2.2.2.2.fr f2 (by simp)).ch (o_su_f (by omega)) (fun p hp => o_su_f (by omega))⟩
    · rw [f2.vI (by decide), f2.vI (by decide)]; exact g.2.2.2.1
    · rw [f2.vI (by decide), o_su_f (by omega)]; exact g.2.2.2.2.1
    · intro i hi
      rw [ea]
      by_cases q : i = j
      · subst q; rw [if_pos rfl, o_su_t]
      · rw [if_neg (by omega), o_su_f q]; exact g.2.2.2.2.2.1 i hi
  · exact ⟨f2.mono (by simp) (by decide), fun i hi => by rw [ea, if_neg (by omega)], fun i hi => by rw [f2.rJ (by simp)]⟩
theorem r231 {k2 : Nat} (hk2 : k2 = o_tke T n k) (g : i_PR a n k T h) (w : o_PW a) (hk : k ≤ n)
    (H1 : o_nf T n k 0 (a 0 - 1) = 0 → o_nf T n k2 0 (a 1 - 1) = 0 → ∀ h2, i_PR a n k2 T h2 → i_GN h h2 → fI h2 138 22 = i_n (a 0 * o_tkv T n k2 + o_tkv T n k) → Q (some (.int 1)) h2)
    (H0 : o_nf T n k 0 (a 0 - 1) ≠ 0 → ∀ h2, i_Lay h2 → i_GN h h2 → i_RBL h2 (o_nf T n k 0 (a 0 - 1)) (o_tks T n k) → Q (some (.int 0)) h2)
    (H2 : o_nf T n k 0 (a 0 - 1) = 0 → o_nf T n k2 0 (a 1 - 1) ≠ 0 → ∀ h2, i_Lay h2 → i_GN h h2 → i_RBL h2 (o_nf T n k2 0 (a 1 - 1)) (o_tks T n k2) → Q (some (.int 0)) h2) : i_C i_MT i_AT L xs 231 [.ref 138] h Q := by
  subst hk2
  have w1 := w.2.1
  refine c231 g.1 g.2.1 hk g.2.2.1 g.2.2.2.1.1 (g.2.2.2.2.2.1 0 (by omega)) (g.2.2.2.2.2.1 1 (by omega)) ⟨w1.1, w1.2.1⟩ ⟨w1.2.2.1, w1.2.2.2⟩ (fun e1 e2 h2 L2 f2 q2 z2 => H1 e1 e2 h2 (g.fr L2 f2 (by decide) z2) (i_GN.of f2 (by decide)) q2) (fun e1 h2 L2 f2 z2 => H0 e1 h2 L2 (i_GN.of f2 (by decide)) z2) (fun e1 e2 h2 L2 f2 z2 => H2 e1 e2 h2 L2 (i_GN.of f2 (by decide)) z2)
theorem n_big : i_n 4294967295 = i_m := by decide
theorem n_swm {v : Nat} (hv : v ≤ 16 ∨ v = 4294967295) : i_n v = i_m ↔ v = 4294967295 := by
  rcases hv with hv | hv
  · rw [n_eqm (by omega)]
    exact ⟨fun z => z.elim, fun z => by omega⟩
  · subst hv
    exact ⟨fun _ => rfl, fun _ => n_big⟩
theorem i_PR.A (g : i_PR a n k T h) {i : Nat} (hi : i < 680) : aI h 139 (2720 + i) = i_n (a i) := g.2.2.2.2.2.1 i hi
/-- what the kind of a token is, read off -/
theorem i_PR.kn (g : i_PR a n k T h) : fI h 138 14 = i_n 3 ↔ o_tkk T n k = 1 := by
  have k4 := o_tkk4 (T := T) (n := n) (k := k)
  have rl := o_rk_le (show o_tkk T n k ≤ 5 by omega)
  rw [g.2.2.1.1, n_eq (by omega) (by omega)]
  exact o_rk_3 k4
theorem i_PR.kz (g : i_PR a n k T h) : fI h 138 14 = i_n 0 ↔ o_tkk T n k = 0 := by
  have k4 := o_tkk4 (T := T) (n := n) (k := k)
  have rl := o_rk_le (show o_tkk T n k ≤ 5 by omega)
  rw [g.2.2.1.1, n_eq (by omega) (by omega)]
  exact o_rk_0 k4
/-- is the cell held -/
theorem c232 (g : i_PR a n k T h) (w : o_PW a) {c : Nat} (hc : c < 48) (H : Q (some (.int (i_bo (o_held a c = true)))) h) : i_C i_MT i_AT L xs 232 [.ref 138, .int (i_n c)] h Q := by
  have w4 := w.1.2.2.2.1
  have w5 := w.1.2.2.2.2.1
  have w8 := w.1.2.2.2.2.2.2.2.1 c hc
  have e4 : aI h 139 2724 = i_n (a 4) := g.A (i := 4) (by omega)
  have e5 : aI h 139 2725 = i_n (a 5) := g.A (i := 5) (by omega)
  have people : ∀ p, p ≤ a 5 → ∀ b, b ≤ 1 → (b = 1 ↔ (a (58 + c) ≠ 4294967295 ∨ (∃ k, k < a 4 ∧ a (106 + k) = c) ∨ (∃ q, q < p ∧ a (154 + 5 * q) = c))) → i_P i_MT i_AT L xs 232 66 [some (.ref 138), some (.int (i_n c)), some (.int (i_n b)), some (.int (i_n p))] [] h 0 0 Q := by
    refine l_up ?_ ?_
    · intro b hb hb2
      refine d232_66 g.1 ?_
      try simp (disch := omega) only [n_lit, n_m, n_add, n_mul, n_div, n_mod, n_cl, n_lt, n_le, n_eq, n_in, n_eqm, n_meq, n_mlt, n_ltm, n_mle, n_lem, not_true_eq_false, not_false_eq_true, true_implies, false_implies, true_and, and_true, Nat.not_lt_zero, Nat.zero_le, e5, Nat.le_refl]
      have eh : o_held a c = true ↔ b = 1 := by
        rw [hb2]
        unfold o_held
        rw [Bool.or_eq_true, Bool.or_eq_true, bne_iff_ne, List.any_eq_true, List.any_eq_true]
        constructor
        · rintro ((y | ⟨k, hk, y⟩) | ⟨k, hk, y⟩)
          · exact Or.inl y
          · exact Or.inr (Or.inl ⟨k, List.mem_range.mp hk, by simpa using y⟩)
          · exact Or.inr (Or.inr ⟨k, List.mem_range.mp hk, by simpa using y⟩)
        · rintro (y | ⟨k, hk, y⟩ | ⟨k, hk, y⟩)
          · exact Or.inl (Or.inl y)
          · exact Or.inl (Or.inr ⟨k, List.mem_range.mpr hk, by simpa using y⟩)
          · exact Or.inr ⟨k, List.mem_range.mpr hk, by simpa using y⟩
      rcases Nat.lt_or_ge b 1 with q | q
      · have b0 : b = 0 := by omega
        subst b0
        rw [i_bo_f (fun y => by have := eh.mp y; omega)] at H
        exact ⟨rfl, H⟩
      · have b0 : b = 1 := by omega
        subst b0
        rw [i_bo_t (eh.mpr rfl)] at H
        exact ⟨rfl, H⟩
    · intro p hp ih b hb hb2
      have cp := (w.1.2.2.2.2.2.2.2.2.2.2.1 p hp).1
      have c48 := w.c48
      have e : aI h 139 (2874 + 5 * p) = i_n (a (154 + 5 * p)) := by
        have := g.A (i := 154 + 5 * p) (by omega)
        rwa [show 2720 + (154 + 5 * p) = 2874 + 5 * p by omega] at this
      have nx : ∀ b2, b2 ≤ 1 → (b2 = 1 ↔ (b = 1 ∨ a (154 + 5 * p) = c)) → i_P i_MT i_AT L xs 232 103 [some (.ref 138), some (.int (i_n c)), some (.int (i_n b)), some (.int (i_n p))] [.int (i_n b2)] h 0 0 Q := fun b2 h1 h2 => by
        refine d232_103 g.1 ?_
        try simp (disch := omega) only [n_lit, n_m, n_add, n_mul, n_div, n_mod, n_cl, n_lt, n_le, n_eq, n_in, n_eqm, n_meq, n_mlt, n_ltm, n_mle, n_lem, not_true_eq_false, not_false_eq_true, true_implies, false_implies, true_and, and_true, Nat.not_lt_zero, Nat.zero_le]
        refine ih b2 h1 ?_
        rw [h2, hb2]
        constructor
        · rintro ((y | y | ⟨q, hq, y⟩) | y)
          · exact Or.inl y
          · exact Or.inr (Or.inl y)
          · exact Or.inr (Or.inr ⟨q, by omega, y⟩)
          · exact Or.inr (Or.inr ⟨p, by omega, y⟩)
        · rintro (y | y | ⟨q, hq, y⟩)
          · exact Or.inl (Or.inl y)
          · exact Or.inl (Or.inr (Or.inl y))
          · by_cases z : q = p
            · subst z; exact Or.inr y
            · exact Or.inl (Or.inr (Or.inr ⟨q, by omega, y⟩))
      have yes : (b = 1 ∨ a (154 + 5 * p) = c) → i_P i_MT i_AT L xs 232 98 [some (.ref 138), some (.int (i_n c)), some (.int (i_n b)), some (.int (i_n p))] [] h 0 0 Q := fun y => d232_98 g.1 (nx 1 (by omega) ⟨fun _ => y, fun _ => rfl⟩)
      refine d232_66 g.1 ?_
      try simp (disch := omega) only [n_lit, n_m, n_add, n_mul, n_div, n_mod, n_cl, n_lt, n_le, n_eq, n_in, n_eqm, n_meq, n_mlt, n_ltm, n_mle, n_lem, not_true_eq_false, not_false_eq_true, true_implies, false_implies, true_and, and_true, Nat.not_lt_zero, Nat.zero_le, e5, e]
      refine ⟨fun q => by omega, fun _ => ⟨fun q => yes (Or.inl (by omega)), fun q => ⟨by omega, fun q2 => nx 0 (by omega) ⟨fun y => by omega, fun y => ?_⟩, fun q2 => yes (Or.inr (Classical.not_not.mp q2))⟩⟩⟩
      rcases y with y | y
      · omega
      · exact absurd y q2
  have lamps : ∀ p, p ≤ a 4 → ∀ b, b ≤ 1 → (b = 1 ↔ (a (58 + c) ≠ 4294967295 ∨ (∃ k, k < p ∧ a (106 + k) = c))) → i_P i_MT i_AT L xs 232 22 [some (.ref 138), some (.int (i_n c)), some (.int (i_n b)), some (.int (i_n p))] [] h 0 0 Q := by
    refine l_up ?_ ?_
    · intro b hb hb2
      refine d232_22 g.1 ?_
      try simp (disch := omega) only [n_lit, n_m, n_add, n_mul, n_div, n_mod, n_cl, n_lt, n_le, n_eq, n_in, n_eqm, n_meq, n_mlt, n_ltm, n_mle, n_lem, not_true_eq_false, not_false_eq_true, true_implies, false_implies, true_and, and_true, Nat.not_lt_zero, Nat.zero_le, e4, Nat.le_refl]
      refine people 0 (Nat.zero_le _) b hb ?_
      rw [hb2]
      constructor
      · rintro (y | y)
        · exact Or.inl y
        · exact Or.inr (Or.inl y)
      · rintro (y | y | ⟨q, hq, _⟩)
        · exact Or.inl y
        · exact Or.inr y
        · omega
    · intro p hp ih b hb hb2
      have cp := w.1.2.2.2.2.2.2.2.2.1 p hp
      have c48 := w.c48
      have e : aI h 139 (2826 + p) = i_n (a (106 + p)) := by
        have := g.A (i := 106 + p) (by omega)
        rwa [show 2720 + (106 + p) = 2826 + p by omega] at this
      have nx : ∀ b2, b2 ≤ 1 → (b2 = 1 ↔ (b = 1 ∨ a (106 + p) = c)) → i_P i_MT i_AT L xs 232 57 [some (.ref 138), some (.int (i_n c)), some (.int (i_n b)), some (.int (i_n p))] [.int (i_n b2)] h 0 0 Q := fun b2 h1 h2 => by
        refine d232_57 g.1 ?_
        try simp (disch := omega) only [n_lit, n_m, n_add, n_mul, n_div, n_mod, n_cl, n_lt, n_le, n_eq, n_in, n_eqm, n_meq, n_mlt, n_ltm, n_mle, n_lem, not_true_eq_false, not_false_eq_true, true_implies, false_implies, true_and, and_true, Nat.not_lt_zero, Nat.zero_le]
        refine ih b2 h1 ?_
        rw [h2, hb2]
        constructor
        · rintro ((y | ⟨q, hq, y⟩) | y)
          · exact Or.inl y
          · exact Or.inr ⟨q, by omega, y⟩
          · exact Or.inr ⟨p, by omega, y⟩
        · rintro (y | ⟨q, hq, y⟩)
          · exact Or.inl (Or.inl y)
          · by_cases z : q = p
            · subst z; exact Or.inr y
            · exact Or.inl (Or.inr ⟨q, by omega, y⟩)
      have yes : (b = 1 ∨ a (106 + p) = c) → i_P i_MT i_AT L xs 232 52 [some (.ref 138), some (.int (i_n c)), some (.int (i_n b)), some (.int (i_n p))] [] h 0 0 Q := fun y => d232_52 g.1 (nx 1 (by omega) ⟨fun _ => y, fun _ => rfl⟩)
      refine d232_22 g.1 ?_
      try simp (disch := omega) only [n_lit, n_m, n_add, n_mul, n_div, n_mod, n_cl, n_lt, n_le, n_eq, n_in, n_eqm, n_meq, n_mlt, n_ltm, n_mle, n_lem, not_true_eq_false, not_false_eq_true, true_implies, false_implies, true_and, and_true, Nat.not_lt_zero, Nat.zero_le, e4, e]
      refine ⟨fun q => by omega, fun _ => ⟨fun q => yes (Or.inl (by omega)), fun q => ⟨by omega, fun q2 => nx 0 (by omega) ⟨fun y => by omega, fun y => ?_⟩, fun q2 => yes (Or.inr (Classical.not_not.mp q2))⟩⟩⟩
      rcases y with y | y
      · omega
      · exact absurd y q2
  have e : aI h 139 (2778 + c) = i_n (a (58 + c)) := by
    have := g.A (i := 58 + c) (by omega)
    rwa [show 2720 + (58 + c) = 2778 + c by omega] at this
  refine e232 (d232_0 g.1 ?_)
  try simp (disch := omega) only [n_lit, n_m, n_add, n_mul, n_div, n_mod, n_cl, n_lt, n_le, n_eq, n_in, n_eqm, n_meq, n_mlt, n_ltm, n_mle, n_lem, not_true_eq_false, not_false_eq_true, true_implies, false_implies, true_and, and_true, Nat.not_lt_zero, Nat.zero_le]
  rw [e, n_swm w8]
  have go : ∀ b, b ≤ 1 → (b = 1 ↔ a (58 + c) ≠ 4294967295) → i_P i_MT i_AT L xs 232 19 [some (.ref 138), some (.int (i_n c)), none, none] [.int (i_n b)] h 0 0 Q := fun b hb hb2 => by
    refine d232_19 g.1 (lamps 0 (Nat.zero_le _) b hb ?_)
    rw [hb2]
    exact ⟨fun y => Or.inl y, fun y => by
      rcases y with y | ⟨q, hq, _⟩
      · exact y
      · omega⟩
  exact ⟨by omega, fun q => go 0 (by omega) ⟨fun y => by omega, fun y => absurd q y⟩, fun q => go 1 (by omega) ⟨fun _ => q, fun _ => rfl⟩⟩
theorem c234 (hL : i_Lay h) {c f l W : Nat} (hc : c < 100000) (hf : f < 100000) (hl : l < 100000) (hW : 1 ≤ W ∧ W ≤ 8) (H : Q (some (.int (i_bo (o_btw W (f % W) (f / W) (l % W) (l / W) c = true)))) h) : i_C i_MT i_AT L xs 234 [.int (i_n c), .int (i_n f), .int (i_n l), .int (i_n W)] h Q := by
  have m1 := Nat.mod_lt c (show W > 0 by omega)
  have m2 := Nat.mod_lt f (show W > 0 by omega)
  have m3 := Nat.mod_lt l (show W > 0 by omega)
  have d1 := Nat.div_le_self c W
  have d2 := Nat.div_le_self f W
  have d3 := Nat.div_le_self l W
  have q1 := z_dv c W
  have q2 := z_dv f W
  have q3 := z_dv l W
  have no : ¬ o_btw W (f % W) (f / W) (l % W) (l / W) c = true → i_P i_MT i_AT L xs 234 40 [some (.int (i_n c)), some (.int (i_n f)), some (.int (i_n l)), some (.int (i_n W))] [] h 0 0 Q := fun q => by
    rw [i_bo_f q] at H
    exact d234_40 hL (d234_41 hL ⟨rfl, H⟩)
  have eb : o_btw W (f % W) (f / W) (l % W) (l / W) c = true ↔ (f % W ≤ c % W ∧ c % W ≤ l % W ∧ f / W ≤ c / W ∧ c / W ≤ l / W) := by
    unfold o_btw
    rw [Bool.and_eq_true, Bool.and_eq_true, Bool.and_eq_true, decide_eq_true_eq, decide_eq_true_eq, decide_eq_true_eq, decide_eq_true_eq]
    constructor
    · rintro ⟨⟨⟨y1, y2⟩, y3⟩, y4⟩; exact ⟨y1, y2, y3, y4⟩
    · rintro ⟨y1, y2, y3, y4⟩; exact ⟨⟨⟨y1, y2⟩, y3⟩, y4⟩
  rw [eb] at no
  have W0 : ¬ W = 0 := by omega
  refine e234 (d234_0 hL ?_)
  try simp (disch := omega) only [n_lit, n_m, n_add, n_mul, n_div, n_mod, n_cl, n_lt, n_le, n_eq, n_in, n_eqm, n_meq, n_mlt, n_ltm, n_mle, n_lem, not_true_eq_false, not_false_eq_true, true_implies, false_implies, true_and, and_true, Nat.not_lt_zero, Nat.zero_le, W0]
  refine ⟨fun y => no (by omega), fun y1 => ⟨fun y => no (by omega), fun y2 => ⟨fun y => no (by omega), fun y3 => ⟨fun y => no (by omega), fun y4 => d234_41 hL ⟨rfl, ?_⟩⟩⟩⟩⟩
  rw [i_bo_t (eb.mpr (by omega))] at H
  exact H
end
