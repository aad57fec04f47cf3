/-! MEETING, the class: the minutes, and the question -/
section
variable {L : Nat} {xs : Nat → Int32} {h : iH} {Q : Option Value → iH → Prop} {a : Nat → Nat} {t : Nat}
set_option maxRecDepth 20000
def o_q5w (a : Nat → Nat) (P : Nat → Nat → Bool) (u c w : Nat) : Bool := match o_lead (a 0) (a 1) u w with
  | some b => P b c
  | none => false
/-- the first has come to u -/
def o_q5 (a : Nat → Nat) (P : Nat → Nat → Bool) (u c : Nat) : Bool := !o_wall a u && o_or (o_q5w a P u c) 8
theorem o_q5_t (w : o_WF a) {P : Nat → Nat → Bool} {u c : Nat} (hu : u < a 0 * a 1) : o_q5 a P u c = true ↔ o_wall a u = false ∧ ∃ b, b < a 0 * a 1 ∧ P b c = true ∧ o_far (a 0) b u = 1 := by
  have hp := w.pos hu
  unfold o_q5
  rw [Bool.and_eq_true, o_or_t, Bool.not_eq_true']
  refine and_congr_right (fun _ => ?_)
  constructor
  · rintro ⟨k, h1, h2⟩
    unfold o_q5w at h2
    split at h2
    · rename_i b e
      have hb := o_lead_lt e
      exact ⟨b, hb, h2, (o_nb (by omega) hu hb).mpr ⟨k, h1, e⟩⟩
    · cases h2
  · rintro ⟨b, h1, h2, h3⟩
    obtain ⟨k, q1, q2⟩ := (o_nb (by omega) hu h1).mp h3
    exact ⟨k, q1, by unfold o_q5w; rw [q2]; exact h2⟩
def o_t4 (s s2 : Nat) (P3 P11 P5 P13 A B : Bool) : Bool := (s2 == s && (((P3 || (P11 && !A)) || (P5 && !B)) || ((P13 && !A) && !B))) || ((s2 == (s ||| 1) && ((P11 && A) || ((P13 && A) && !B))) || ((s2 == (s ||| 2) && ((P5 && B) || ((P13 && !A) && B))) || (s2 == 3 && ((P13 && A) && B))))
def o_t58 (a : Nat → Nat) (fA fB m : Nat) (F : Nat → Nat → Nat → Bool) (s u s2 c : Nat) : Bool := o_t4 s s2 (F s u c) (o_bes a (F s u) c) (o_q5 a (F s) u c) (o_bes a (o_q5 a (F s) u) c) (o_sA a fA m u c) (o_sA a fB m c u)
set_option maxHeartbeats 1000000 in
theorem c58 (g : i_CO a t h) {B C s u fA fB m : Nat} {F G : Nat → Nat → Nat → Bool} (b : o_pB h B C) (hs : s < 3) (hu : u < a 0 * a 1) (hT : ∀ u, u < a 0 * a 1 → o_is (aJ h 129 u) (a 0 * a 1) (o_sA a fA m u) ∧ o_is (aJ h 130 u) (a 0 * a 1) (fun c => o_sA a fB m c u)) (hF : o_rs a h B F) (hG : o_rs a h C G) (H : ∀ h2, i_CO a t h2 → i_Fr [C] [] h h2 → o_rs a h2 C (fun s2 u2 c => G s2 u2 c || (u2 == u && o_t58 a fA fB m F s u s2 c)) → Q none h2) : i_C i_MT i_AT L xs 58 [.ref 121, .int (i_n s), .int (i_n u)] h Q := by
  have h48 := g.w.c48
  have nb := b.ne
  have hp := g.w.pos hu
  have hfu := hF s u (by omega) hu
  have hfree : o_is (fJ h 96 4) (a 0 * a 1) (fun c => !o_wall a c) := g.2.1.2.1.2.1
  have aB := (b.aB g.l).1
  -- behind the arrivals
  have go : ∀ (X : Int64), o_is X (a 0 * a 1) (o_q5 a (F s) u) → ∀ (y : Int32), ∀ (y7 y8 y9 y10 y11 y12 y13 y14 : Option Value), i_P i_MT i_AT L xs 58 90 [some (.ref 121), some (.int (i_n s)), some (.int (i_n u)), some (.long (aJ h B (s * 48 + u))), none, some (.long X), none, y7, y8, y9, y10, y11, y12, y13, y14] [] h 0 0 Q := by
    intro X hX y y7 y8 y9 y10 y11 y12 y13 y14
    refine d58_90 g.l ?_
    rw [n_cl (by omega)]
    refine ⟨(n_in (by omega)).mpr (by omega), (n_in (by omega)).mpr (by omega), c23 g.l g.w g.2.1 hfu (fun s11 h11 => ⟨_, rfl, d58_117 g.l (c23 g.l g.w g.2.1 hX (fun s13 h13 => ⟨_, rfl, d58_131 g.l ?_⟩))⟩)⟩
    have h7 := (hT u hu).1
    have h9 := (hT u hu).2
    refine c59 g b (by omega) hu (((hfu.or (h11.andn h7)).or (hX.andn h9)).or ((h13.andn h7).andn h9)) hG (fun h1 g1 f1 G1 => ⟨rfl, d58_177 g1.l ?_⟩)
    have b1 := b.fr f1 (by simp) (by simp)
    try simp (disch := omega) only [n_lit, n_m, n_add, n_mul, n_div, n_mod, n_cl, n_lt, n_le, n_eq, n_in, n_eqm, n_meq, n_mlt, n_ltm, n_mle, n_lem, not_true_eq_false, not_false_eq_true, true_implies, false_implies, true_and, and_true, Nat.not_lt_zero, Nat.zero_le, n_or]
    refine c59 g1 b1 (Nat.or_lt_two_pow (n := 2) (by omega) (by omega)) hu ((h11.and h7).or ((h13.and h7).andn h9)) G1 (fun h2 g2 f2 G2 => ⟨rfl, d58_203 g2.l ?_⟩)
    have b2 := b1.fr f2 (by simp) (by simp)
    try simp (disch := omega) only [n_lit, n_m, n_add, n_mul, n_div, n_mod, n_cl, n_lt, n_le, n_eq, n_in, n_eqm, n_meq, n_mlt, n_ltm, n_mle, n_lem, not_true_eq_false, not_false_eq_true, true_implies, false_implies, true_and, and_true, Nat.not_lt_zero, Nat.zero_le, n_or]
    refine c59 g2 b2 (Nat.or_lt_two_pow (n := 2) (by omega) (by omega)) hu ((hX.and h9).or ((h13.andn h7).and h9)) G2 (fun h3 g3 f3 G3 => ⟨rfl, d58_229 g3.l ?_⟩)
    have b3 := b2.fr f3 (by simp) (by simp)
    try simp (disch := omega) only [n_lit, n_m, n_add, n_mul, n_div, n_mod, n_cl, n_lt, n_le, n_eq, n_in, n_eqm, n_meq, n_mlt, n_ltm, n_mle, n_lem, not_true_eq_false, not_false_eq_true, true_implies, false_implies, true_and, and_true, Nat.not_lt_zero, Nat.zero_le]
    refine c59 (s := 3) g3 b3 (by omega) hu ((h13.and h7).and h9) G3 (fun h4 g4 f4 G4 => ⟨rfl, d58_243 g4.l ?_⟩)
    refine H h4 g4 (((f1.trans f2).trans f3).trans f4) (fun s2 u2 hs2 hu2 => (G4 s2 u2 hs2 hu2).congr (fun c hc => ?_))
    unfold o_t58 o_t4
    dsimp only
    generalize G s2 u2 c = g0
    cases (u2 == u) with
    | false => simp
    | true => simp only [Bool.true_and, Bool.or_assoc]
  have loop : ∀ k, k ≤ 8 → o_wall a u = false → ∀ (X : Int64), o_is X (a 0 * a 1) (fun c => o_or (o_q5w a (F s) u c) k) → ∀ (y8 y9 y10 y11 y12 y13 y14 : Option Value), i_P i_MT i_AT L xs 58 35 [some (.ref 121), some (.int (i_n s)), some (.int (i_n u)), some (.long (aJ h B (s * 48 + u))), none, some (.long X), none, some (.int (i_n k)), y8, y9, y10, y11, y12, y13, y14] [] h 0 0 Q := by
    refine l_up ?_ ?_
    · intro hw X hX y8 y9 y10 y11 y12 y13 y14
      refine d58_35 g.l ?_
      try simp (disch := omega) only [n_lit, n_m, n_add, n_mul, n_div, n_mod, n_cl, n_lt, n_le, n_eq, n_in, n_eqm, n_meq, n_mlt, n_ltm, n_mle, n_lem, not_true_eq_false, not_false_eq_true, true_implies, false_implies, true_and, and_true, Nat.not_lt_zero, Nat.zero_le, Nat.le_refl]
      exact go X (hX.congr (fun c _ => by unfold o_q5; rw [hw]; rfl)) 0 _ _ _ _ _ _ _ _
    · intro k hk ih hw X hX y8 y9 y10 y11 y12 y13 y14
      have nx : ∀ v, o_is v (a 0 * a 1) (fun c => o_q5w a (F s) u c k) → ∀ (z : Int32), ∀ (y9 y10 y11 y12 y13 y14 : Option Value), i_P i_MT i_AT L xs 58 81 [some (.ref 121), some (.int (i_n s)), some (.int (i_n u)), some (.long (aJ h B (s * 48 + u))), none, some (.long X), none, some (.int (i_n k)), some (.int z), y9, y10, y11, y12, y13, y14] [.long v, .long X] h 0 0 Q := by
        intro v hv z y9 y10 y11 y12 y13 y14
        refine d58_81 g.l ?_
        try simp (disch := omega) only [n_lit, n_m, n_add, n_mul, n_div, n_mod, n_cl, n_lt, n_le, n_eq, n_in, n_eqm, n_meq, n_mlt, n_ltm, n_mle, n_lem, not_true_eq_false, not_false_eq_true, true_implies, false_implies, true_and, and_true, Nat.not_lt_zero, Nat.zero_le]
        exact ih hw _ (hX.or hv) _ _ _ _ _ _ _
      refine d58_35 g.l ?_
      try simp (disch := omega) only [n_lit, n_m, n_add, n_mul, n_div, n_mod, n_cl, n_lt, n_le, n_eq, n_in, n_eqm, n_meq, n_mlt, n_ltm, n_mle, n_lem, not_true_eq_false, not_false_eq_true, true_implies, false_implies, true_and, and_true, Nat.not_lt_zero, Nat.zero_le]
      refine ⟨fun e => by omega, fun _ => c25 g.l g.w g.2.1 hu hk ⟨_, rfl, d58_55 g.l ?_⟩⟩
      cases hl : o_lead (a 0) (a 1) u k with
      | none =>
        refine ⟨fun e => absurd rfl e, fun _ => nx 0 (o_is.emp.congr (fun c _ => by unfold o_q5w; rw [hl])) _ _ _ _ _ _ _⟩
      | some d =>
        have hd := o_lead_lt hl
        rw [show o_op (some d) = i_n d from rfl, show ((-1 : Int32)) = i_m from rfl]
        try simp (disch := omega) only [n_lit, n_m, n_add, n_mul, n_div, n_mod, n_cl, n_lt, n_le, n_eq, n_in, n_eqm, n_meq, n_mlt, n_ltm, n_mle, n_lem, not_true_eq_false, not_false_eq_true, true_implies, false_implies, true_and, and_true, Nat.not_lt_zero, Nat.zero_le]
        refine ⟨B, b.f6 g.l, 192, aJ h B, aB, by omega, nx _ ((hF s d (by omega) hd).congr (fun c _ => by unfold o_q5w; rw [hl])) _ _ _ _ _ _ _⟩
  refine e58 (d58_0 g.l ⟨B, b.f6 g.l, 192, aJ h B, aB, ?_⟩)
  try simp (disch := omega) only [n_lit, n_m, n_add, n_mul, n_div, n_mod, n_cl, n_lt, n_le, n_eq, n_in, n_eqm, n_meq, n_mlt, n_ltm, n_mle, n_lem, not_true_eq_false, not_false_eq_true, true_implies, false_implies, true_and, and_true, Nat.not_lt_zero, Nat.zero_le]
  refine ⟨by omega, c193 (by omega) ⟨_, rfl, d58_29 g.l ?_⟩⟩
  rw [hfree.b hu (by omega)]
  try simp (disch := omega) only [n_lit, n_m, i_bo01, j_cmpn, Classical.not_not, n_add, n_mul, n_div, n_mod, n_cl, n_lt, n_le, n_eq, n_in, n_eqm, n_meq, n_mlt, n_ltm, n_mle, n_lem, not_true_eq_false, not_false_eq_true, true_implies, false_implies, true_and, and_true, Nat.not_lt_zero, Nat.zero_le]
  refine ⟨fun e => go 0 (o_is.emp.congr (fun c _ => ?_)) 0 _ _ _ _ _ _ _ _, fun e => loop 0 (by omega) (by simpa using e) 0 (o_is.emp.congr (fun c _ => rfl)) _ _ _ _ _ _ _⟩
  unfold o_q5
  rw [show o_wall a u = true by simpa using e]; rfl
end
