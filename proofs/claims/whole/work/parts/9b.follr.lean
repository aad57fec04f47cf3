/-! THE COURSE FOLLOWED, the reference -/
section
variable {L : Nat} {xs : Nat → Int32} {h : iH} {Q : Option Value → iH → Prop} {a : Nat → Nat} {t : Nat}
set_option maxRecDepth 20000
/-- the reference's numbers, before the course is followed -/
def i_RB (a : Nat → Nat) (h : iH) : Prop := i_Lay h ∧ o_WF a ∧ (∀ i, i < 680 → aI h 139 i = i_n (a i)) ∧ (∀ k, k < 8 → aI h 141 k = i_n (o_ex k) - i_n 1 ∧ aI h 142 k = i_n (o_sy k) - i_n 1) ∧ True
theorem i_RB.fr {h2 : iH} {A : List Nat} {F : List (Nat × Nat)} (r : i_RB a h) (hL : i_Lay h2) (f : i_Fr A F h h2) (hA : ∀ p, p ∈ [139, 141, 142] → p ∉ A) : i_RB a h2 := by
  obtain ⟨-, r2, r3, r4, r5⟩ := r
  refine ⟨hL, r2, ?_, ?_, r5⟩
  · rw [f.rI (hA 139 (by decide))]; exact r3
  · rw [f.rI (hA 141 (by decide)), f.rI (hA 142 (by decide))]; exact r4
theorem k248 (r : i_RB a h) (H : Q (some (.int (i_n (a 0 * a 1)))) h) : i_C i_MT i_AT L xs 248 [.ref 138] h Q := by
  have hA := r.2.2.1
  refine e248 (d248_0 r.1 ?_)
  try simp (disch := omega) only [n_lit, n_m, n_add, n_mul, n_div, n_mod, n_cl, n_lt, n_le, n_eq, n_in, n_eqm, n_meq, n_mlt, n_ltm, n_mle, n_lem, not_true_eq_false, not_false_eq_true, true_implies, false_implies, true_and, and_true, Nat.not_lt_zero, Nat.zero_le, hA]
  exact H
theorem k250 (r : i_RB a h) {c : Nat} (hc : c < 48) (H : Q (some (.int (i_bo (o_wall a c = false)))) h) : i_C i_MT i_AT L xs 250 [.ref 138, .int (i_n c)] h Q := by
  have hA := r.2.2.1
  have hw := o_wall_f r.2.1 hc
  refine e250 (d250_0 r.1 ?_)
  try simp (disch := omega) only [n_lit, n_m, n_add, n_mul, n_div, n_mod, n_cl, n_lt, n_le, n_eq, n_in, n_eqm, n_meq, n_mlt, n_ltm, n_mle, n_lem, not_true_eq_false, not_false_eq_true, true_implies, false_implies, true_and, and_true, Nat.not_lt_zero, Nat.zero_le, hA]
  refine ⟨by omega, fun h1 => d250_21 r.1 (d250_22 r.1 ⟨rfl, ?_⟩), fun h1 => d250_22 r.1 ⟨rfl, ?_⟩⟩
  · rw [i_bo_f (by unfold o_wall; simp; omega)] at H; exact H
  · rw [i_bo_t (by unfold o_wall; simp; omega)] at H; exact H
theorem k250m (r : i_RB a h) (H : Q (some (.int 0)) h) : i_C i_MT i_AT L xs 250 [.ref 138, .int i_m] h Q := by
  refine e250 (d250_0 r.1 ⟨fun _ => d250_21 r.1 (d250_22 r.1 ⟨rfl, H⟩), fun z => absurd rfl z⟩)
theorem k251 (r : i_RB a h) {c w : Nat} (hc : c < a 0 * a 1) (hw : w < 8) (H : Q (some (.int (o_op (o_lead (a 0) (a 1) c w)))) h) : i_C i_MT i_AT L xs 251 [.ref 138, .int (i_n c), .int (i_n w)] h Q := by
  have hA := r.2.2.1
  have hE := r.2.2.2.1
  have hE1 : ∀ k, k < 8 → aI h 141 k = i_n (o_ex k) - i_n 1 := fun k hk => (hE k hk).1
  have hE2 : ∀ k, k < 8 → aI h 142 k = i_n (o_sy k) - i_n 1 := fun k hk => (hE k hk).2
  have hp := r.2.1.pos hc
  have h48 := r.2.1.c48
  have e1 : c % a 0 < 8 := by have := Nat.mod_lt c (show a 0 > 0 by omega); omega
  have e3 : c / a 0 < 48 := by have := Nat.div_le_self c (a 0); omega
  have q3 := z_dv c (a 0)
  have e5 := o_ex_le w
  have e6 := o_sy_le w
  refine e251 (d251_0 r.1 ?_)
  try simp (disch := omega) only [n_lit, n_m, n_add, n_mul, n_div, n_mod, n_cl, n_lt, n_le, n_eq, n_in, n_eqm, n_meq, n_mlt, n_ltm, n_mle, n_lem, not_true_eq_false, not_false_eq_true, true_implies, false_implies, true_and, and_true, Nat.not_lt_zero, Nat.zero_le, hA, hE1, hE2, n_prd]
  have bad : ¬ (1 ≤ c % a 0 + o_ex w ∧ c % a 0 + o_ex w ≤ a 0 ∧ 1 ≤ c / a 0 + o_sy w ∧ c / a 0 + o_sy w ≤ a 1) → ∀ u v, i_P i_MT i_AT L xs 251 63 [some (.ref 138), some (.int (i_n c)), some (.int (i_n w)), some (.int u), some (.int v)] [] h 0 0 Q := by
    intro hn u v
    unfold o_lead at H
    rw [if_neg hn] at H
    exact d251_63 r.1 (d251_78 r.1 H)
  by_cases hx : c % a 0 + o_ex w = 0
  · simp only [if_pos hx]
    try simp (disch := omega) only [n_lit, n_m, n_add, n_mul, n_div, n_mod, n_cl, n_lt, n_le, n_eq, n_in, n_eqm, n_meq, n_mlt, n_ltm, n_mle, n_lem, not_true_eq_false, not_false_eq_true, true_implies, false_implies, true_and, and_true, Nat.not_lt_zero, Nat.zero_le]
    exact ⟨by omega, by omega, by omega, by omega, bad (by omega) _ _⟩
  simp only [if_neg hx]
  try simp (disch := omega) only [n_lit, n_m, n_add, n_mul, n_div, n_mod, n_cl, n_lt, n_le, n_eq, n_in, n_eqm, n_meq, n_mlt, n_ltm, n_mle, n_lem, not_true_eq_false, not_false_eq_true, true_implies, false_implies, true_and, and_true, Nat.not_lt_zero, Nat.zero_le]
  by_cases hy : c / a 0 + o_sy w = 0
  · simp only [if_pos hy]
    try simp (disch := omega) only [n_lit, n_m, n_add, n_mul, n_div, n_mod, n_cl, n_lt, n_le, n_eq, n_in, n_eqm, n_meq, n_mlt, n_ltm, n_mle, n_lem, not_true_eq_false, not_false_eq_true, true_implies, false_implies, true_and, and_true, Nat.not_lt_zero, Nat.zero_le]
    exact ⟨by omega, by omega, by omega, by omega, bad (by omega) _ _⟩
  simp only [if_neg hy]
  try simp (disch := omega) only [n_lit, n_m, n_add, n_mul, n_div, n_mod, n_cl, n_lt, n_le, n_eq, n_in, n_eqm, n_meq, n_mlt, n_ltm, n_mle, n_lem, not_true_eq_false, not_false_eq_true, true_implies, false_implies, true_and, and_true, Nat.not_lt_zero, Nat.zero_le]
  have h4 : a 0 * (c / a 0 + o_sy w - 1) ≤ 8 * 50 := Nat.mul_le_mul (by omega) (by omega)
  refine ⟨by omega, by omega, by omega, by omega, fun h1 => bad (by omega) _ _, fun h1 => ⟨fun h2 => d251_78 r.1 ?_, fun h2 => bad (by omega) _ _⟩⟩
  unfold o_lead at H
  rw [if_pos (by omega)] at H
  exact H
set_option maxHeartbeats 1000000 in
theorem c253 (r : i_RB a h) {p m : Nat} (hp : p < a 5) (hm : m < 60) (z1 : aI h 151 (61 * p + m) = i_n (o_cell a p m)) (z2 : aI h 152 (61 * p + m) = i_n (o_look a p m)) (H : ∀ h2, i_RB a h2 → i_Fr [151, 152, 153] [] h h2 → (∀ i, aI h2 151 i = if i = 61 * p + (m + 1) then i_n (o_cell a p (m + 1)) else aI h 151 i) → (∀ i, aI h2 152 i = if i = 61 * p + (m + 1) then i_n (o_look a p (m + 1)) else aI h 152 i) → (∀ i, aI h2 153 i = if i = 61 * p + (m + 1) then i_n (o_did a p (m + 1)) else aI h 153 i) → Q none h2) : i_C i_MT i_AT L xs 253 [.ref 138, .int (i_n p), .int (i_n (61 * p + (m + 1))), .int (i_n (a (194 + 60 * p + m)))] h Q := by
  have w := r.2.1
  have h5 := w.2.2.2.2.1
  have h48 := w.c48
  have ok := o_cr_ok w hp m (by omega)
  have ok1 := o_cr_ok w hp (m + 1) (by omega)
  have hv := w.2.2.2.2.2.2.2.2.2.2.2 (60 * p + m) (by omega)
  rw [show 194 + (60 * p + m) = 194 + 60 * p + m by omega] at hv
  have hcr : (o_cell a p (m + 1), o_look a p (m + 1), o_did a p (m + 1)) = o_go a (o_cell a p m) (o_look a p m) (a (194 + 60 * p + m)) := rfl
  generalize a (194 + 60 * p + m) = v at hv hcr ⊢
  have inj : ∀ {x1 x2 x3 y1 y2 y3 : Nat}, (x1, x2, x3) = (y1, y2, y3) → x1 = y1 ∧ x2 = y2 ∧ x3 = y3 := fun z => by
    simp only [Prod.mk.injEq] at z; exact z
  have e1 : i_n (61 * p + (m + 1)) - i_n 1 = i_n (61 * p + m) := n_sub (a := 61 * p + (m + 1)) (b := 1) (by omega)
  -- the writes
  have put : ∀ (b : Bool) (x6 : Nat), (if b = true then o_cell a p m else x6) = o_cell a p (m + 1) → (if b = true then 0 else v / 8) = o_did a p (m + 1) → (if b = true ∨ v / 8 = 0 ∨ v / 8 = 4 then o_look a p m else v % 8) = o_look a p (m + 1) → ∀ (y6 : Int32), y6 = i_n x6 ∨ b = true → ∀ y7 : Option Value, i_P i_MT i_AT L xs 253 65 [some (.ref 138), some (.int (i_n p)), some (.int (i_n (61 * p + (m + 1)))), some (.int (i_n v)), some (.int (i_n (v / 8))), some (.int (i_n (v % 8))), some (.int y6), y7] [.int (i_bo (b = true))] h 0 0 Q := by
    intro b x6 k1 k2 k3 y6 hy y7
    -- the look
    have last : ∀ h2, i_RB a h2 → i_Fr [151, 153] [] h h2 → (∀ i, aI h2 151 i = if i = 61 * p + (m + 1) then i_n (o_cell a p (m + 1)) else aI h 151 i) → (∀ i, aI h2 153 i = if i = 61 * p + (m + 1) then i_n (o_did a p (m + 1)) else aI h 153 i) → i_P i_MT i_AT L xs 253 142 [some (.ref 138), some (.int (i_n p)), some (.int (i_n (61 * p + (m + 1)))), some (.int (i_n v)), some (.int (i_n (v / 8))), some (.int (i_n (v % 8))), some (.int y6), some (.int (i_bo (b = true)))] [.int (i_n (o_look a p (m + 1))), .int (i_n (61 * p + (m + 1))), .ref 152] h2 0 0 Q := by
      intro h2 r2 f2 q1 q3
      refine d253_142 r2.1 ⟨_, _, r2.1.a152, ?_⟩
      rw [n_cl (by omega)]
      refine ⟨(n_in (by omega)).mpr (by omega), ?_⟩
      have Fi : i_Fr [152] [] h2 (i_siI h2 152 (61 * p + (m + 1)) (i_n (o_look a p (m + 1)))) := i_Fr.refl.siI (by decide)
      have r3 := r2.fr r2.1.siI Fi (by decide)
      refine d253_143 r3.1 (H _ r3 ((f2.mono (by decide) (fun _ z => z)).trans (Fi.mono (by decide) (fun _ z => z))) (fun i => ?_) (fun i => ?_) (fun i => ?_))
      · rw [Fi.rI (by decide)]; exact q1 i
      · rw [x_aI_siI r2.1.a152, x_upd, f2.rI (by decide)]
      · rw [Fi.rI (by decide)]; exact q3 i
    have did : ∀ h1, i_RB a h1 → i_Fr [151] [] h h1 → (∀ i, aI h1 151 i = if i = 61 * p + (m + 1) then i_n (o_cell a p (m + 1)) else aI h 151 i) → i_P i_MT i_AT L xs 253 107 [some (.ref 138), some (.int (i_n p)), some (.int (i_n (61 * p + (m + 1)))), some (.int (i_n v)), some (.int (i_n (v / 8))), some (.int (i_n (v % 8))), some (.int y6), some (.int (i_bo (b = true)))] [.int (i_n (o_did a p (m + 1))), .int (i_n (61 * p + (m + 1))), .ref 153] h1 0 0 Q := by
      intro h1 r1 f1 q1
      refine d253_107 r1.1 ⟨_, _, r1.1.a153, ?_⟩
      rw [n_cl (by omega)]
      refine ⟨(n_in (by omega)).mpr (by omega), ?_⟩
      have Fi : i_Fr [153] [] h1 (i_siI h1 153 (61 * p + (m + 1)) (i_n (o_did a p (m + 1)))) := i_Fr.refl.siI (by decide)
      have r2 := r1.fr r1.1.siI Fi (by decide)
      have q3 : ∀ i, aI (i_siI h1 153 (61 * p + (m + 1)) (i_n (o_did a p (m + 1)))) 153 i = if i = 61 * p + (m + 1) then i_n (o_did a p (m + 1)) else aI h 153 i := fun i => by rw [x_aI_siI r1.1.a153, x_upd, f1.rI (by decide)]
      have q2 : ∀ i, aI (i_siI h1 153 (61 * p + (m + 1)) (i_n (o_did a p (m + 1)))) 151 i = if i = 61 * p + (m + 1) then i_n (o_cell a p (m + 1)) else aI h 151 i := fun i => by rw [Fi.rI (by decide)]; exact q1 i
      have f2 : i_Fr [151, 153] [] h (i_siI h1 153 (61 * p + (m + 1)) (i_n (o_did a p (m + 1)))) := (f1.mono (by decide) (fun _ z => z)).trans (Fi.mono (by decide) (fun _ z => z))
      generalize i_siI h1 153 (61 * p + (m + 1)) (i_n (o_did a p (m + 1))) = h2 at r2 q2 q3 f2 ⊢
      have L2 := last h2 r2 f2 q2 q3
      have stay : (b = true ∨ v / 8 = 0 ∨ v / 8 = 4) → i_P i_MT i_AT L xs 253 129 [some (.ref 138), some (.int (i_n p)), some (.int (i_n (61 * p + (m + 1)))), some (.int (i_n v)), some (.int (i_n (v / 8))), some (.int (i_n (v % 8))), some (.int y6), some (.int (i_bo (b = true)))] [.int (i_n (61 * p + (m + 1))), .ref 152] h2 0 0 Q := by
        intro q
        rw [if_pos q] at k3
        refine d253_129 r2.1 ?_
        rw [show (1 : Int32) = i_n 1 from rfl, e1, n_cl (by omega), f2.rI (by decide), z2, k3]
        exact ⟨(n_in (by omega)).mpr (by omega), L2⟩
      refine d253_108 r2.1 ?_
      rw [i_bo_0, Classical.not_not]
      try simp (disch := omega) only [n_lit, n_m, n_add, n_mul, n_div, n_mod, n_cl, n_lt, n_le, n_eq, n_in, n_eqm, n_meq, n_mlt, n_ltm, n_mle, n_lem, not_true_eq_false, not_false_eq_true, true_implies, false_implies, true_and, and_true, Nat.not_lt_zero, Nat.zero_le]
      refine ⟨fun q => stay (Or.inl q), fun q => ⟨fun q2 => stay (Or.inr (Or.inl q2)), fun q2 => ⟨fun q4 => ?_, fun q4 => stay (Or.inr (Or.inr (Classical.not_not.mp q4)))⟩⟩⟩
      rw [if_neg (by rintro (z | z | z); exact q z; exact q2 z; exact q4 z)] at k3
      rw [← k3] at L2; exact L2
    have cell : i_P i_MT i_AT L xs 253 90 [some (.ref 138), some (.int (i_n p)), some (.int (i_n (61 * p + (m + 1)))), some (.int (i_n v)), some (.int (i_n (v / 8))), some (.int (i_n (v % 8))), some (.int y6), some (.int (i_bo (b = true)))] [.int (i_n (o_cell a p (m + 1))), .int (i_n (61 * p + (m + 1))), .ref 151] h 0 0 Q := by
      refine d253_90 r.1 ⟨_, _, r.1.a151, ?_⟩
      rw [n_cl (by omega)]
      refine ⟨(n_in (by omega)).mpr (by omega), ?_⟩
      have Fi : i_Fr [151] [] h (i_siI h 151 (61 * p + (m + 1)) (i_n (o_cell a p (m + 1)))) := i_Fr.refl.siI (by decide)
      have r1 := r.fr r.1.siI Fi (by decide)
      have q1 : ∀ i, aI (i_siI h 151 (61 * p + (m + 1)) (i_n (o_cell a p (m + 1)))) 151 i = if i = 61 * p + (m + 1) then i_n (o_cell a p (m + 1)) else aI h 151 i := fun i => by rw [x_aI_siI r.1.a151, x_upd]
      generalize i_siI h 151 (61 * p + (m + 1)) (i_n (o_cell a p (m + 1))) = h1 at Fi r1 q1 ⊢
      have D := did h1 r1 Fi q1
      refine d253_91 r1.1 ?_
      rw [i_bo_0]
      refine ⟨fun q => ?_, fun q => ?_⟩
      · rw [if_neg q] at k2
        rw [← k2] at D; exact D
      · rw [if_pos (Classical.not_not.mp q)] at k2
        rw [← k2] at D; exact D
    refine d253_65 r.1 ?_
    rw [i_bo_0]
    refine ⟨fun q => ?_, fun q => ?_⟩
    · rw [if_neg q] at k1
      have e6 : y6 = i_n (o_cell a p (m + 1)) := by rw [hy.resolve_right q, k1]
      rw [← e6] at cell
      exact cell
    · rw [if_pos (Classical.not_not.mp q)] at k1
      rw [show (1 : Int32) = i_n 1 from rfl, e1, n_cl (by omega), z1, k1]
      exact ⟨(n_in (by omega)).mpr (by omega), cell⟩
  -- behind the place where it would go
  have at49 : ∀ (v6 : Option Nat), (∀ d, v6 = some d → d < 48) → (∀ (b : Bool) (x6 : Nat), b = (match v6 with | some d => o_wall a d | none => true) → (b = false → v6 = some x6) → ((if b = true then o_cell a p m else x6) = o_cell a p (m + 1) ∧ (if b = true then 0 else v / 8) = o_did a p (m + 1) ∧ (if b = true ∨ v / 8 = 0 ∨ v / 8 = 4 then o_look a p m else v % 8) = o_look a p (m + 1))) → ∀ (y6 y7 : Option Value), i_P i_MT i_AT L xs 253 49 [some (.ref 138), some (.int (i_n p)), some (.int (i_n (61 * p + (m + 1)))), some (.int (i_n v)), some (.int (i_n (v / 8))), some (.int (i_n (v % 8))), y6, y7] [.int (o_op v6)] h 0 0 Q := by
    intro v6 hv6 hk y6 y7
    refine d253_49 r.1 ?_
    cases v6 with
    | none =>
      obtain ⟨k1, k2, k3⟩ := hk true 0 rfl (fun z => by cases z)
      have P := put true 0 k1 k2 k3 i_m (Or.inr rfl)
      refine k250m r ⟨_, rfl, d253_57 r.1 ⟨fun z => absurd rfl z, fun _ => P _⟩⟩
    | some d =>
      have hd := hv6 d rfl
      refine k250 r hd ⟨_, rfl, d253_57 r.1 ?_⟩
      rw [i_bo_0, Classical.not_not]
      refine ⟨fun z => ?_, fun z => ?_⟩
      · obtain ⟨k1, k2, k3⟩ := hk false d z.symm (fun _ => rfl)
        exact put false d k1 k2 k3 _ (Or.inl rfl) _
      · obtain ⟨k1, k2, k3⟩ := hk true d (by symm; simpa using z) (fun z => by cases z)
        exact put true d k1 k2 k3 _ (Or.inr rfl) _
  have mov : (v / 8 = 1 ∨ v / 8 = 2) → ∀ (y6 y7 : Option Value), i_P i_MT i_AT L xs 253 24 [some (.ref 138), some (.int (i_n p)), some (.int (i_n (61 * p + (m + 1)))), some (.int (i_n v)), some (.int (i_n (v / 8))), some (.int (i_n (v % 8))), y6, y7] [] h 0 0 Q := by
    intro hm2 y6 y7
    refine d253_24 r.1 ?_
    rw [show (1 : Int32) = i_n 1 from rfl, e1, n_cl (by omega), z1]
    refine ⟨(n_in (by omega)).mpr (by omega), k251 r ok.1 (by omega) ⟨_, rfl, d253_38 r.1 ?_⟩⟩
    refine at49 _ (fun d e => by have := o_lead_lt e; omega) (fun b x6 hb hx => ?_) _ _
    rw [o_go_mv w ok.1 hm2] at hcr
    have hn := o_stq_ne w (k := v % 8) ok.1 (by omega)
    cases b with
    | true =>
      rw [if_neg (by
        rw [hn]
        rintro ⟨d, q1, q2⟩
        rw [q1] at hb
        simp only at hb
        rw [q2] at hb; cases hb)] at hcr
      obtain ⟨r1, r2, r3⟩ := inj hcr
      exact ⟨by rw [if_pos rfl, r1], by rw [if_pos rfl, r3], by rw [if_pos (Or.inl rfl), r2]⟩
    | false =>
      have hx := hx rfl
      rw [hx] at hb
      simp only at hb
      rw [if_pos (hn.mpr ⟨x6, hx, hb.symm⟩)] at hcr
      obtain ⟨r1, r2, r3⟩ := inj hcr
      have e7 : o_stq a (o_cell a p m) (v % 8) = x6 := by
        unfold o_stq
        rw [hx]
        simp [← hb]
      refine ⟨by rw [if_neg (by decide), r1, e7], by rw [if_neg (by decide), r3], ?_⟩
      rw [if_neg (by rintro (z | z | z); exact absurd z (by decide); all_goals omega), r2]
  refine e253 (d253_0 r.1 ?_)
  try simp (disch := omega) only [n_lit, n_m, n_add, n_mul, n_div, n_mod, n_cl, n_lt, n_le, n_eq, n_in, n_eqm, n_meq, n_mlt, n_ltm, n_mle, n_lem, not_true_eq_false, not_false_eq_true, true_implies, false_implies, true_and, and_true, Nat.not_lt_zero, Nat.zero_le]
  refine ⟨fun q => mov (Or.inl q) _ _, fun q1 => ⟨fun q2 => ?_, fun q2 => mov (Or.inr (Classical.not_not.mp q2)) _ _⟩⟩
  rw [e1]
  try simp (disch := omega) only [n_lit, n_m, n_add, n_mul, n_div, n_mod, n_cl, n_lt, n_le, n_eq, n_in, n_eqm, n_meq, n_mlt, n_ltm, n_mle, n_lem, not_true_eq_false, not_false_eq_true, true_implies, false_implies, true_and, and_true, Nat.not_lt_zero, Nat.zero_le, z1]
  refine ⟨by omega, ?_⟩
  have := at49 (some (o_cell a p m)) (fun d e => by rw [← Option.some.inj e]; omega) (fun b x6 hb hx => ?_)
  · exact this _ _
  · have hb : b = o_wall a (o_cell a p m) := hb
    rw [ok.2.1] at hb
    subst hb
    have hx := Option.some.inj (hx rfl)
    subst hx
    unfold o_go at hcr
    rw [if_neg (by omega)] at hcr
    by_cases q3 : v / 8 = 3
    · rw [if_pos q3] at hcr
      obtain ⟨r1, r2, r3⟩ := inj hcr
      exact ⟨by rw [if_neg (by decide), r1], by rw [if_neg (by decide), r3, q3], by rw [if_neg (by rintro (z | z | z); exact absurd z (by decide); all_goals omega), r2]⟩
    · rw [if_neg q3] at hcr
      obtain ⟨r1, r2, r3⟩ := inj hcr
      exact ⟨by rw [if_neg (by decide), r1], by rw [if_neg (by decide), r3], by rw [if_pos (Or.inr (by omega)), r2]⟩
abbrev frA : List Nat := [151, 152, 153, 154]
def o_rp (a : Nat → Nat) (h : iH) (p m : Nat) : Prop := ∀ j, j < m → aI h 151 (61 * p + j) = i_n (o_cell a p j) ∧ aI h 152 (61 * p + j) = i_n (o_look a p j) ∧ aI h 153 (61 * p + j) = i_n (o_did a p j)
set_option maxHeartbeats 2000000 in
theorem c252 (r : i_RB a h) (H : ∀ h2, i_RA a h2 → i_Fr frA [] h h2 → Q none h2) : i_C i_MT i_AT L xs 252 [.ref 138] h Q := by
  have w := r.2.1
  have h3 := w.2.2.1
  have h5 := w.2.2.2.2.1
  have h48 := w.c48
  have rfr : ∀ {h1 h2 : iH}, i_RB a h1 → i_Lay h2 → i_Fr frA [] h1 h2 → i_RB a h2 := fun r1 L2 f => r1.fr L2 f (by decide)
  have nA : ∀ h1, i_RB a h1 → ∀ i, i < 680 → aI h1 139 i = i_n (a i) := fun h1 r1 => r1.2.2.1
  -- the carts
  have carts : ∀ k, k ≤ a 3 → ∀ h1, i_RB a h1 → i_Fr frA [] h h1 → (∀ p, p < a 5 → o_rp a h1 p 61) → (∀ j m, j < k → m ≤ 60 → aI h1 154 (61 * j + m) = i_n (o_cart a j m)) → ∀ (y2 y3 y4 : Option Value), i_P i_MT i_AT L xs 252 116 [some (.ref 138), some (.int (i_n k)), y2, y3, y4] [] h1 0 0 Q := by
    refine l_up ?_ ?_
    · intro h1 r1 f1 zP zC y2 y3 y4
      refine d252_116 r1.1 ?_
      try simp (disch := omega) only [n_lit, n_m, n_add, n_mul, n_div, n_mod, n_cl, n_lt, n_le, n_eq, n_in, n_eqm, n_meq, n_mlt, n_ltm, n_mle, n_lem, not_true_eq_false, not_false_eq_true, true_implies, false_implies, true_and, and_true, Nat.not_lt_zero, Nat.zero_le, nA h1 r1, Nat.le_refl]
      exact H h1 ⟨r1.1, w, r1.2.2.1, r1.2.2.2.1, fun p m hp hm => zP p hp m (by omega), zC⟩ f1
    · intro k hk ih h1 r1 f1 zP zC y2 y3 y4
      have ck := w.2.2.2.2.2.2.2.2.2.1 k hk
      have cok := fun m => o_cart_ok w hk m
      have row : ∀ m, m ≤ 61 → 1 ≤ m → ∀ h2, i_RB a h2 → i_Fr frA [] h h2 → (∀ p, p < a 5 → o_rp a h2 p 61) → (∀ j m, j < k → m ≤ 60 → aI h2 154 (61 * j + m) = i_n (o_cart a j m)) → (∀ j, j < m → aI h2 154 (61 * k + j) = i_n (o_cart a k j)) → ∀ (y4 : Option Value), i_P i_MT i_AT L xs 252 151 [some (.ref 138), some (.int (i_n k)), some (.int (i_n (114 + 10 * k))), some (.int (i_n m)), y4] [] h2 0 0 Q := by
        refine l_up ?_ ?_
        · intro _ h2 r2 f2 yP yC yk y4
          refine d252_151 r2.1 ?_
          try simp (disch := omega) only [n_lit, n_m, n_add, n_mul, n_div, n_mod, n_cl, n_lt, n_le, n_eq, n_in, n_eqm, n_meq, n_mlt, n_ltm, n_mle, n_lem, not_true_eq_false, not_false_eq_true, true_implies, false_implies, true_and, and_true, Nat.not_lt_zero, Nat.zero_le]
          refine ⟨fun _ => ih h2 r2 f2 yP (fun j m hj hm => ?_) _ _ _, fun e => absurd (by omega) e⟩
          by_cases e : j = k
          · subst e; exact yk m (by omega)
          · exact yC j m (by omega) hm
        · intro m hm ih2 hm1 h2 r2 f2 yP yC yk y4
          obtain ⟨i, rfl⟩ : ∃ i, m = i + 1 := ⟨m - 1, by omega⟩
          have hi8 : i % a (115 + 10 * k) < a (115 + 10 * k) := Nat.mod_lt _ (by omega)
          have hl8 := ck.2.2.2 _ hi8
          have ci := cok i
          have e1 : i_n (i + 1) - i_n 1 = i_n i := n_sub (a := i + 1) (b := 1) (by omega)
          have e2 : i_n (61 * k + (i + 1)) - i_n 1 = i_n (61 * k + i) := n_sub (a := 61 * k + (i + 1)) (b := 1) (by omega)
          have yi := yk i (by omega)
          have put : ∀ y4 : Int32, i_P i_MT i_AT L xs 252 231 [some (.ref 138), some (.int (i_n k)), some (.int (i_n (114 + 10 * k))), some (.int (i_n (i + 1))), some (.int y4)] [.int (i_n (o_cart a k (i + 1))), .int (i_n (61 * k + (i + 1))), .ref 154] h2 0 0 Q := by
            intro y4
            refine d252_231 r2.1 ⟨_, _, r2.1.a154, ?_⟩
            rw [n_cl (by omega)]
            refine ⟨(n_in (by omega)).mpr (by omega), ?_⟩
            have Fi : i_Fr [154] [] h2 (i_siI h2 154 (61 * k + (i + 1)) (i_n (o_cart a k (i + 1)))) := i_Fr.refl.siI (by decide)
            have Fb : i_Fr frA [] h2 (i_siI h2 154 (61 * k + (i + 1)) (i_n (o_cart a k (i + 1)))) := Fi.mono (by decide) (fun _ z => z)
            have r3 := rfr r2 r2.1.siI Fb
            refine d252_232 r3.1 ?_
            try simp (disch := omega) only [n_lit, n_m, n_add, n_mul, n_div, n_mod, n_cl, n_lt, n_le, n_eq, n_in, n_eqm, n_meq, n_mlt, n_ltm, n_mle, n_lem, not_true_eq_false, not_false_eq_true, true_implies, false_implies, true_and, and_true, Nat.not_lt_zero, Nat.zero_le]
            refine ih2 (by omega) _ r3 (f2.trans Fb) (fun p hp => ?_) (fun j m hj hm => ?_) (fun j hj => ?_) _
            · unfold o_rp
              rw [Fi.rI (by decide), Fi.rI (by decide), Fi.rI (by decide)]; exact yP p hp
            · rw [x_aI_siI r2.1.a154, x_upd, if_neg (by omega)]; exact yC j m hj hm
            · rw [x_aI_siI r2.1.a154, x_upd]
              by_cases e : j = i + 1
              · rw [if_pos (by omega), e]
              · rw [if_neg (by omega)]; exact yk j (by omega)
          have eC : o_cart a k (i + 1) = (o_lead (a 0) (a 1) (o_cart a k i) (a (116 + 10 * k + i % a (115 + 10 * k)))).getD (o_cart a k i) := rfl
          refine d252_151 r2.1 ?_
          try simp (disch := omega) only [n_lit, n_m, n_add, n_mul, n_div, n_mod, n_cl, n_lt, n_le, n_eq, n_in, n_eqm, n_meq, n_mlt, n_ltm, n_mle, n_lem, not_true_eq_false, not_false_eq_true, true_implies, false_implies, true_and, and_true, Nat.not_lt_zero, Nat.zero_le]
          rw [e1, e2]
          try simp (disch := omega) only [n_lit, n_m, n_add, n_mul, n_div, n_mod, n_cl, n_lt, n_le, n_eq, n_in, n_eqm, n_meq, n_mlt, n_ltm, n_mle, n_lem, not_true_eq_false, not_false_eq_true, true_implies, false_implies, true_and, and_true, Nat.not_lt_zero, Nat.zero_le, nA h2 r2]
          rw [show 114 + 10 * k + 1 = 115 + 10 * k by omega]
          have l8 := ck.2.2.1
          have l1 := ck.2.1
          try simp (disch := omega) only [n_lit, n_m, n_add, n_mul, n_div, n_mod, n_cl, n_lt, n_le, n_eq, n_in, n_eqm, n_meq, n_mlt, n_ltm, n_mle, n_lem, not_true_eq_false, not_false_eq_true, true_implies, false_implies, true_and, and_true, Nat.not_lt_zero, Nat.zero_le, nA h2 r2, yi]
          rw [show 114 + 10 * k + 2 + i % a (115 + 10 * k) = 116 + 10 * k + i % a (115 + 10 * k) by omega]
          refine ⟨fun e => by omega, fun _ => ⟨by omega, by omega, by omega, by omega, k251 r2 ci hl8 ⟨_, rfl, d252_195 r2.1 ?_⟩⟩⟩
          rw [show ((1 : Int32)) = i_n 1 from rfl]
          try simp (disch := omega) only [n_lit, n_m, n_add, n_mul, n_div, n_mod, n_cl, n_lt, n_le, n_eq, n_in, n_eqm, n_meq, n_mlt, n_ltm, n_mle, n_lem, not_true_eq_false, not_false_eq_true, true_implies, false_implies, true_and, and_true, Nat.not_lt_zero, Nat.zero_le]
          rw [e2]
          try simp (disch := omega) only [n_lit, n_m, n_add, n_mul, n_div, n_mod, n_cl, n_lt, n_le, n_eq, n_in, n_eqm, n_meq, n_mlt, n_ltm, n_mle, n_lem, not_true_eq_false, not_false_eq_true, true_implies, false_implies, true_and, and_true, Nat.not_lt_zero, Nat.zero_le, yi]
          cases hl : o_lead (a 0) (a 1) (o_cart a k i) (a (116 + 10 * k + i % a (115 + 10 * k))) with
          | none =>
            rw [hl] at eC
            rw [eC] at put
            refine ⟨fun e => absurd rfl e, fun _ => ⟨by omega, put _⟩⟩
          | some d =>
            have hd := o_lead_lt hl
            rw [hl] at eC
            rw [eC] at put
            rw [show o_op (some d) = i_n d from rfl]
            try simp (disch := omega) only [n_lit, n_m, n_add, n_mul, n_div, n_mod, n_cl, n_lt, n_le, n_eq, n_in, n_eqm, n_meq, n_mlt, n_ltm, n_mle, n_lem, not_true_eq_false, not_false_eq_true, true_implies, false_implies, true_and, and_true, Nat.not_lt_zero, Nat.zero_le]
            exact put _
      refine d252_116 r1.1 ?_
      try simp (disch := omega) only [n_lit, n_m, n_add, n_mul, n_div, n_mod, n_cl, n_lt, n_le, n_eq, n_in, n_eqm, n_meq, n_mlt, n_ltm, n_mle, n_lem, not_true_eq_false, not_false_eq_true, true_implies, false_implies, true_and, and_true, Nat.not_lt_zero, Nat.zero_le, nA h1 r1]
      refine ⟨fun e => by omega, fun _ => ⟨by omega, by omega, ?_⟩⟩
      have Fi : i_Fr [154] [] h1 (i_siI h1 154 (61 * k) (i_n (a (114 + 10 * k)))) := i_Fr.refl.siI (by decide)
      have Fb : i_Fr frA [] h1 (i_siI h1 154 (61 * k) (i_n (a (114 + 10 * k)))) := Fi.mono (by decide) (fun _ z => z)
      have r2 := rfr r1 r1.1.siI Fb
      refine d252_149 r2.1 ?_
      try simp (disch := omega) only [n_lit, n_m, n_add, n_mul, n_div, n_mod, n_cl, n_lt, n_le, n_eq, n_in, n_eqm, n_meq, n_mlt, n_ltm, n_mle, n_lem, not_true_eq_false, not_false_eq_true, true_implies, false_implies, true_and, and_true, Nat.not_lt_zero, Nat.zero_le]
      refine row 1 (by omega) (Nat.le_refl 1) _ r2 (f1.trans Fb) (fun p hp => ?_) (fun j m hj hm => ?_) (fun j hj => ?_) _
      · unfold o_rp
        rw [Fi.rI (by decide), Fi.rI (by decide), Fi.rI (by decide)]; exact zP p hp
      · rw [x_aI_siI r1.1.a154, x_upd, if_neg (by omega)]; exact zC j m hj hm
      · have : j = 0 := by omega
        subst this
        rw [x_aI_siI r1.1.a154, x_upd, if_pos (by omega)]; rfl
  -- the people
  have people : ∀ p, p ≤ a 5 → ∀ h1, i_RB a h1 → i_Fr frA [] h h1 → (∀ q, q < p → o_rp a h1 q 61) → ∀ (y2 y3 y4 : Option Value), i_P i_MT i_AT L xs 252 2 [some (.ref 138), some (.int (i_n p)), y2, y3, y4] [] h1 0 0 Q := by
    refine l_up ?_ ?_
    · intro h1 r1 f1 zP y2 y3 y4
      refine d252_2 r1.1 ?_
      try simp (disch := omega) only [n_lit, n_m, n_add, n_mul, n_div, n_mod, n_cl, n_lt, n_le, n_eq, n_in, n_eqm, n_meq, n_mlt, n_ltm, n_mle, n_lem, not_true_eq_false, not_false_eq_true, true_implies, false_implies, true_and, and_true, Nat.not_lt_zero, Nat.zero_le, nA h1 r1, Nat.le_refl]
      exact carts 0 (Nat.zero_le _) h1 r1 f1 zP (fun j m hj => absurd hj (Nat.not_lt_zero j)) _ _ _
    · intro p hp ih h1 r1 f1 zP y2 y3 y4
      have row : ∀ m, m ≤ 61 → 1 ≤ m → ∀ h2, i_RB a h2 → i_Fr frA [] h h2 → (∀ q, q < p → o_rp a h2 q 61) → o_rp a h2 p m → ∀ (y3 y4 : Option Value), i_P i_MT i_AT L xs 252 68 [some (.ref 138), some (.int (i_n p)), some (.int (i_n m)), y3, y4] [] h2 0 0 Q := by
        refine l_up ?_ ?_
        · intro _ h2 r2 f2 yP yp y3 y4
          refine d252_68 r2.1 ?_
          try simp (disch := omega) only [n_lit, n_m, n_add, n_mul, n_div, n_mod, n_cl, n_lt, n_le, n_eq, n_in, n_eqm, n_meq, n_mlt, n_ltm, n_mle, n_lem, not_true_eq_false, not_false_eq_true, true_implies, false_implies, true_and, and_true, Nat.not_lt_zero, Nat.zero_le]
          refine ⟨fun _ => ih h2 r2 f2 (fun q hq => ?_) _ _ _, fun e => absurd (by omega) e⟩
          by_cases e : q = p
          · subst e; exact yp
          · exact yP q (by omega)
        · intro m hm ih2 hm1 h2 r2 f2 yP yp y3 y4
          obtain ⟨i, rfl⟩ : ∃ i, m = i + 1 := ⟨m - 1, by omega⟩
          have e1 : i_n (194 + 60 * p + (i + 1)) - i_n 1 = i_n (194 + 60 * p + i) := n_sub (a := 194 + 60 * p + (i + 1)) (b := 1) (by omega)
          obtain ⟨y1, y2, -⟩ := yp i (by omega)
          refine d252_68 r2.1 ?_
          try simp (disch := omega) only [n_lit, n_m, n_add, n_mul, n_div, n_mod, n_cl, n_lt, n_le, n_eq, n_in, n_eqm, n_meq, n_mlt, n_ltm, n_mle, n_lem, not_true_eq_false, not_false_eq_true, true_implies, false_implies, true_and, and_true, Nat.not_lt_zero, Nat.zero_le]
          rw [e1]
          try simp (disch := omega) only [n_lit, n_m, n_add, n_mul, n_div, n_mod, n_cl, n_lt, n_le, n_eq, n_in, n_eqm, n_meq, n_mlt, n_ltm, n_mle, n_lem, not_true_eq_false, not_false_eq_true, true_implies, false_implies, true_and, and_true, Nat.not_lt_zero, Nat.zero_le, nA h2 r2]
          refine ⟨fun e => by omega, fun _ => ⟨by omega, c253 r2 hp (by omega) y1 y2 (fun h3 r3 f3 q1 q2 q3 => ⟨rfl, d252_102 r3.1 ?_⟩)⟩⟩
          try simp (disch := omega) only [n_lit, n_m, n_add, n_mul, n_div, n_mod, n_cl, n_lt, n_le, n_eq, n_in, n_eqm, n_meq, n_mlt, n_ltm, n_mle, n_lem, not_true_eq_false, not_false_eq_true, true_implies, false_implies, true_and, and_true, Nat.not_lt_zero, Nat.zero_le]
          refine ih2 (by omega) h3 r3 (f2.trans (f3.mono (by decide) (fun _ z => z))) (fun q hq j hj => ?_) (fun j hj => ?_) _ _
          · rw [q1, q2, q3, if_neg (by omega), if_neg (by omega), if_neg (by omega)]
            exact yP q hq j hj
          · rw [q1, q2, q3]
            by_cases e : j = i + 1
            · subst e
              rw [if_pos rfl, if_pos rfl, if_pos rfl]; exact ⟨rfl, rfl, rfl⟩
            · rw [if_neg (by omega), if_neg (by omega), if_neg (by omega)]
              exact yp j (by omega)
      refine d252_2 r1.1 ?_
      try simp (disch := omega) only [n_lit, n_m, n_add, n_mul, n_div, n_mod, n_cl, n_lt, n_le, n_eq, n_in, n_eqm, n_meq, n_mlt, n_ltm, n_mle, n_lem, not_true_eq_false, not_false_eq_true, true_implies, false_implies, true_and, and_true, Nat.not_lt_zero, Nat.zero_le, nA h1 r1]
      refine ⟨fun e => by omega, fun _ => ⟨by omega, by omega, ?_⟩⟩
      have Fi : i_Fr [151] [] h1 (i_siI h1 151 (61 * p) (i_n (a (154 + 5 * p)))) := i_Fr.refl.siI (by decide)
      have r2 := rfr r1 r1.1.siI (Fi.mono (by decide) (fun _ z => z))
      have A1 : ∀ i, aI (i_siI h1 151 (61 * p) (i_n (a (154 + 5 * p)))) 151 i = if i = 61 * p then i_n (a (154 + 5 * p)) else aI h1 151 i := fun i => by rw [x_aI_siI r1.1.a151, x_upd]
      generalize i_siI h1 151 (61 * p) (i_n (a (154 + 5 * p))) = h2 at Fi r2 A1 ⊢
      refine d252_33 r2.1 ?_
      try simp (disch := omega) only [n_lit, n_m, n_add, n_mul, n_div, n_mod, n_cl, n_lt, n_le, n_eq, n_in, n_eqm, n_meq, n_mlt, n_ltm, n_mle, n_lem, not_true_eq_false, not_false_eq_true, true_implies, false_implies, true_and, and_true, Nat.not_lt_zero, Nat.zero_le, nA h2 r2]
      rw [show 154 + 5 * p + 1 = 155 + 5 * p by omega]
      refine ⟨by omega, by omega, ?_⟩
      have Fj : i_Fr [152] [] h2 (i_siI h2 152 (61 * p) (i_n (a (155 + 5 * p)))) := i_Fr.refl.siI (by decide)
      have r3 := rfr r2 r2.1.siI (Fj.mono (by decide) (fun _ z => z))
      have A2 : ∀ i, aI (i_siI h2 152 (61 * p) (i_n (a (155 + 5 * p)))) 152 i = if i = 61 * p then i_n (a (155 + 5 * p)) else aI h2 152 i := fun i => by rw [x_aI_siI r2.1.a152, x_upd]
      generalize i_siI h2 152 (61 * p) (i_n (a (155 + 5 * p))) = h3 at Fj r3 A2 ⊢
      refine d252_56 r3.1 ?_
      try simp (disch := omega) only [n_lit, n_m, n_add, n_mul, n_div, n_mod, n_cl, n_lt, n_le, n_eq, n_in, n_eqm, n_meq, n_mlt, n_ltm, n_mle, n_lem, not_true_eq_false, not_false_eq_true, true_implies, false_implies, true_and, and_true, Nat.not_lt_zero, Nat.zero_le]
      refine ⟨by omega, ?_⟩
      have Fk : i_Fr [153] [] h3 (i_siI h3 153 (61 * p) (i_n 0)) := i_Fr.refl.siI (by decide)
      have r4 := rfr r3 r3.1.siI (Fk.mono (by decide) (fun _ z => z))
      have A3 : ∀ i, aI (i_siI h3 153 (61 * p) (i_n 0)) 153 i = if i = 61 * p then i_n 0 else aI h3 153 i := fun i => by rw [x_aI_siI r3.1.a153, x_upd]
      generalize i_siI h3 153 (61 * p) (i_n 0) = h4 at Fk r4 A3 ⊢
      refine d252_66 r4.1 ?_
      try simp (disch := omega) only [n_lit, n_m, n_add, n_mul, n_div, n_mod, n_cl, n_lt, n_le, n_eq, n_in, n_eqm, n_meq, n_mlt, n_ltm, n_mle, n_lem, not_true_eq_false, not_false_eq_true, true_implies, false_implies, true_and, and_true, Nat.not_lt_zero, Nat.zero_le]
      have B1 : ∀ i, aI h4 151 i = if i = 61 * p then i_n (a (154 + 5 * p)) else aI h1 151 i := fun i => by rw [Fk.rI (by decide), Fj.rI (by decide)]; exact A1 i
      have B2 : ∀ i, aI h4 152 i = if i = 61 * p then i_n (a (155 + 5 * p)) else aI h1 152 i := fun i => by rw [Fk.rI (by decide), A2, Fi.rI (by decide)]
      have B3 : ∀ i, aI h4 153 i = if i = 61 * p then i_n 0 else aI h1 153 i := fun i => by rw [A3, Fj.rI (by decide), Fi.rI (by decide)]
      refine row 1 (by omega) (Nat.le_refl 1) h4 r4 (f1.trans ((Fi.mono (by decide) (fun _ z => z)).trans ((Fj.mono (by decide) (fun _ z => z)).trans (Fk.mono (by decide) (fun _ z => z))))) (fun q hq j hj => ?_) (fun j hj => ?_) _ _
      · rw [B1, B2, B3, if_neg (by omega), if_neg (by omega), if_neg (by omega)]
        exact zP q hq j hj
      · have : j = 0 := by omega
        subst this
        rw [B1, B2, B3, Nat.add_zero, if_pos rfl, if_pos rfl, if_pos rfl]; exact ⟨rfl, rfl, rfl⟩
  refine e252 (d252_0 r.1 ?_)
  try simp (disch := omega) only [n_lit, n_m, n_add, n_mul, n_div, n_mod, n_cl, n_lt, n_le, n_eq, n_in, n_eqm, n_meq, n_mlt, n_ltm, n_mle, n_lem, not_true_eq_false, not_false_eq_true, true_implies, false_implies, true_and, and_true, Nat.not_lt_zero, Nat.zero_le]
  exact people 0 (Nat.zero_le _) h r i_Fr.refl (fun q hq => absurd hq (Nat.not_lt_zero q)) _ _ _
end
