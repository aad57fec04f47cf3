/-! MEETING, the class: the minutes, and the question -/
section
variable {L : Nat} {xs : Nat → Int32} {h : iH} {Q : Option Value → iH → Prop} {a : Nat → Nat} {t : Nat}
set_option maxRecDepth 20000
def o_q5w (a : Nat → Nat) (P : Nat → Nat → Bool) (u c w : Nat) : Bool := match o_lead (a 0) (a 1) u w with
  | some b => P b c
  | none => false
/-- the first has come to u -/
def o_q5 (a : Nat → Nat) (P : Nat → Nat → Bool) (u c : Nat) : Bool := !o_wall a u && o_or (o_q5w a P u c) 8
theorem o_q5_t (w : o_WF a) {P : Nat → Nat → Bool} {u c : Nat} (hu : u < a 0 * a 1) : o_q5 a P u c = true ↔ o_wall a u = false ∧ ∃ b, b < a 0 * a 1 ∧ P b c = true ∧ o_far (a 0) b u = 1 := by
  have hp := w.pos hu
  unfold o_q5
  rw [Bool.and_eq_true, o_or_t, Bool.not_eq_true']
  refine and_congr_right (fun _ => ?_)
  constructor
  · rintro ⟨k, h1, h2⟩
    unfold o_q5w at h2
    split at h2
    · rename_i b e
      have hb := o_lead_lt e
      exact ⟨b, hb, h2, (o_nb (by omega) hu hb).mpr ⟨k, h1, e⟩⟩
    · cases h2
  · rintro ⟨b, h1, h2, h3⟩
    obtain ⟨k, q1, q2⟩ := (o_nb (by omega) hu h1).mp h3
    exact ⟨k, q1, by unfold o_q5w; rw [q2]; exact h2⟩
def o_t4 (s s2 : Nat) (P3 P11 P5 P13 A B : Bool) : Bool := (s2 == s && (((P3 || (P11 && !A)) || (P5 && !B)) || ((P13 && !A) && !B))) || ((s2 == (s ||| 1) && ((P11 && A) || ((P13 && A) && !B))) || ((s2 == (s ||| 2) && ((P5 && B) || ((P13 && !A) && B))) || (s2 == 3 && ((P13 && A) && B))))
def o_t58 (a : Nat → Nat) (fA fB m : Nat) (F : Nat → Nat → Nat → Bool) (s u s2 c : Nat) : Bool := o_t4 s s2 (F s u c) (o_bes a (F s u) c) (o_q5 a (F s) u c) (o_bes a (o_q5 a (F s) u) c) (o_sA a fA m u c) (o_sA a fB m c u)
set_option maxHeartbeats 1000000 in
theorem c58 (g : i_CO a t h) {B C s u fA fB m : Nat} {F G : Nat → Nat → Nat → Bool} (b : o_pB h B C) (hs : s < 3) (hu : u < a 0 * a 1) (hT : ∀ u, u < a 0 * a 1 → o_is (aJ h 129 u) (a 0 * a 1) (o_sA a fA m u) ∧ o_is (aJ h 130 u) (a 0 * a 1) (fun c => o_sA a fB m c u)) (hF : o_rs a h B F) (hG : o_rs a h C G) (H : ∀ h2, i_CO a t h2 → i_Fr [C] [] h h2 → o_rs a h2 C (fun s2 u2 c => G s2 u2 c || (u2 == u && o_t58 a fA fB m F s u s2 c)) → Q none h2) : i_C i_MT i_AT L xs 58 [.ref 121, .int (i_n s), .int (i_n u)] h Q := by
  have h48 := g.w.c48
  have nb := b.ne
  have hp := g.w.pos hu
  have hfu := hF s u (by omega) hu
  have hfree : o_is (fJ h 96 4) (a 0 * a 1) (fun c => !o_wall a c) := g.2.1.2.1.2.1
  have aB := (b.aB g.l).1
  -- behind the arrivals
  have go : ∀ (X : Int64), o_is X (a 0 * a 1) (o_q5 a (F s) u) → ∀ (y : Int32), ∀ (y7 y8 y9 y10 y11 y12 y13 y14 : Option Value), i_P i_MT i_AT L xs 58 90 [some (.ref 121), some (.int (i_n s)), some (.int (i_n u)), some (.long (aJ h B (s * 48 + u))), none, some (.long X), none, y7, y8, y9, y10, y11, y12, y13, y14] [] h 0 0 Q := by
    intro X hX y y7 y8 y9 y10 y11 y12 y13 y14
    refine d58_90 g.l ?_
    rw [n_cl (by omega)]
    refine ⟨(n_in (by omega)).mpr (by omega), (n_in (by omega)).mpr (by omega), c23 g.l g.w g.2.1 hfu (fun s11 h11 => ⟨_, rfl, d58_117 g.l (c23 g.l g.w g.2.1 hX (fun s13 h13 => ⟨_, rfl, d58_131 g.l ?_⟩))⟩)⟩
    have h7 := (hT u hu).1
    have h9 := (hT u hu).2
    refine c59 g b (by omega) hu (((hfu.or (h11.andn h7)).or (hX.andn h9)).or ((h13.andn h7).andn h9)) hG (fun h1 g1 f1 G1 => ⟨rfl, d58_177 g1.l ?_⟩)
    have b1 := b.fr f1 (by simp) (by simp)
    try simp (disch := omega) only [n_lit, n_m, n_add, n_mul, n_div, n_mod, n_cl, n_lt, n_le, n_eq, n_in, n_eqm, n_meq, n_mlt, n_ltm, n_mle, n_lem, not_true_eq_false, not_false_eq_true, true_implies, false_implies, true_and, and_true, Nat.not_lt_zero, Nat.zero_le, n_or]
    refine c59 g1 b1 (Nat.or_lt_two_pow (n := 2) (by omega) (by omega)) hu ((h11.and h7).or ((h13.and h7).andn h9)) G1 (fun h2 g2 f2 G2 => ⟨rfl, d58_203 g2.l ?_⟩)
    have b2 := b1.fr f2 (by simp) (by simp)
    try simp (disch := omega) only [n_lit, n_m, n_add, n_mul, n_div, n_mod, n_cl, n_lt, n_le, n_eq, n_in, n_eqm, n_meq, n_mlt, n_ltm, n_mle, n_lem, not_true_eq_false, not_false_eq_true, true_implies, false_implies, true_and, and_true, Nat.not_lt_zero, Nat.zero_le, n_or]
    refine c59 g2 b2 (Nat.or_lt_two_pow (n := 2) (by omega) (by omega)) hu ((hX.and h9).or ((h13.andn h7).and h9)) G2 (fun h3 g3 f3 G3 => ⟨rfl, d58_229 g3.l ?_⟩)
    have b3 := b2.fr f3 (by simp) (by simp)
    try simp (disch := omega) only [n_lit, n_m, n_add, n_mul, n_div, n_mod, n_cl, n_lt, n_le, n_eq, n_in, n_eqm, n_meq, n_mlt, n_ltm, n_mle, n_lem, not_true_eq_false, not_false_eq_true, true_implies, false_implies, true_and, and_true, Nat.not_lt_zero, Nat.zero_le]
    refine c59 (s := 3) g3 b3 (by omega) hu ((h13.and h7).and h9) G3 (fun h4 g4 f4 G4 => ⟨rfl, d58_243 g4.l ?_⟩)
    refine H h4 g4 (((f1.trans f2).trans f3).trans f4) (fun s2 u2 hs2 hu2 => (G4 s2 u2 hs2 hu2).congr (fun c hc => ?_))
    unfold o_t58 o_t4
    dsimp only
    generalize G s2 u2 c = g0
    cases (u2 == u) with
    | false => simp
    | true => simp only [Bool.true_and, Bool.or_assoc]
  have loop : ∀ k, k ≤ 8 → o_wall a u = false → ∀ (X : Int64), o_is X (a 0 * a 1) (fun c => o_or (o_q5w a (F s) u c) k) → ∀ (y8 y9 y10 y11 y12 y13 y14 : Option Value), i_P i_MT i_AT L xs 58 35 [some (.ref 121), some (.int (i_n s)), some (.int (i_n u)), some (.long (aJ h B (s * 48 + u))), none, some (.long X), none, some (.int (i_n k)), y8, y9, y10, y11, y12, y13, y14] [] h 0 0 Q := by
    refine l_up ?_ ?_
    · intro hw X hX y8 y9 y10 y11 y12 y13 y14
      refine d58_35 g.l ?_
      try simp (disch := omega) only [n_lit, n_m, n_add, n_mul, n_div, n_mod, n_cl, n_lt, n_le, n_eq, n_in, n_eqm, n_meq, n_mlt, n_ltm, n_mle, n_lem, not_true_eq_false, not_false_eq_true, true_implies, false_implies, true_and, and_true, Nat.not_lt_zero, Nat.zero_le, Nat.le_refl]
      exact go X (hX.congr (fun c _ => by unfold o_q5; rw [hw]; rfl)) 0 _ _ _ _ _ _ _ _
    · intro k hk ih hw X hX y8 y9 y10 y11 y12 y13 y14
      have nx : ∀ v, o_is v (a 0 * a 1) (fun c => o_q5w a (F s) u c k) → ∀ (z : Int32), ∀ (y9 y10 y11 y12 y13 y14 : Option Value), i_P i_MT i_AT L xs 58 81 [some (.ref 121), some (.int (i_n s)), some (.int (i_n u)), some (.long (aJ h B (s * 48 + u))), none, some (.long X), none, some (.int (i_n k)), some (.int z), y9, y10, y11, y12, y13, y14] [.long v, .long X] h 0 0 Q := by
        intro v hv z y9 y10 y11 y12 y13 y14
        refine d58_81 g.l ?_
        try simp (disch := omega) only [n_lit, n_m, n_add, n_mul, n_div, n_mod, n_cl, n_lt, n_le, n_eq, n_in, n_eqm, n_meq, n_mlt, n_ltm, n_mle, n_lem, not_true_eq_false, not_false_eq_true, true_implies, false_implies, true_and, and_true, Nat.not_lt_zero, Nat.zero_le]
        exact ih hw _ (hX.or hv) _ _ _ _ _ _ _
      refine d58_35 g.l ?_
      try simp (disch := omega) only [n_lit, n_m, n_add, n_mul, n_div, n_mod, n_cl, n_lt, n_le, n_eq, n_in, n_eqm, n_meq, n_mlt, n_ltm, n_mle, n_lem, not_true_eq_false, not_false_eq_true, true_implies, false_implies, true_and, and_true, Nat.not_lt_zero, Nat.zero_le]
      refine ⟨fun e => by omega, fun _ => c25 g.l g.w g.2.1 hu hk ⟨_, rfl, d58_55 g.l ?_⟩⟩
      cases hl : o_lead (a 0) (a 1) u k with
      | none =>
        refine ⟨fun e => absurd rfl e, fun _ => nx 0 (o_is.emp.congr (fun c _ => by unfold o_q5w; rw [hl])) _ _ _ _ _ _ _⟩
      | some d =>
        have hd := o_lead_lt hl
        rw [show o_op (some d) = i_n d from rfl, show ((-1 : Int32)) = i_m from rfl]
        try simp (disch := omega) only [n_lit, n_m, n_add, n_mul, n_div, n_mod, n_cl, n_lt, n_le, n_eq, n_in, n_eqm, n_meq, n_mlt, n_ltm, n_mle, n_lem, not_true_eq_false, not_false_eq_true, true_implies, false_implies, true_and, and_true, Nat.not_lt_zero, Nat.zero_le]
        refine ⟨B, b.f6 g.l, 192, aJ h B, aB, by omega, nx _ ((hF s d (by omega) hd).congr (fun c _ => by unfold o_q5w; rw [hl])) _ _ _ _ _ _ _⟩
  refine e58 (d58_0 g.l ⟨B, b.f6 g.l, 192, aJ h B, aB, ?_⟩)
  try simp (disch := omega) only [n_lit, n_m, n_add, n_mul, n_div, n_mod, n_cl, n_lt, n_le, n_eq, n_in, n_eqm, n_meq, n_mlt, n_ltm, n_mle, n_lem, not_true_eq_false, not_false_eq_true, true_implies, false_implies, true_and, and_true, Nat.not_lt_zero, Nat.zero_le]
  refine ⟨by omega, c193 (by omega) ⟨_, rfl, d58_29 g.l ?_⟩⟩
  rw [hfree.b hu (by omega)]
  try simp (disch := omega) only [n_lit, n_m, i_bo01, j_cmpn, Classical.not_not, n_add, n_mul, n_div, n_mod, n_cl, n_lt, n_le, n_eq, n_in, n_eqm, n_meq, n_mlt, n_ltm, n_mle, n_lem, not_true_eq_false, not_false_eq_true, true_implies, false_implies, true_and, and_true, Nat.not_lt_zero, Nat.zero_le]
  refine ⟨fun e => go 0 (o_is.emp.congr (fun c _ => ?_)) 0 _ _ _ _ _ _ _ _, fun e => loop 0 (by omega) (by simpa using e) 0 (o_is.emp.congr (fun c _ => rfl)) _ _ _ _ _ _ _⟩
  unfold o_q5
  rw [show o_wall a u = true by simpa using e]; rfl
def o_okm (a : Nat → Nat) (b c : Nat) : Bool := b == c || (o_far (a 0) b c == 1 && !o_wall a c)
def o_ms (s : Nat) (x y : Bool) : Nat := (s ||| (if x = true then 1 else 0)) ||| (if y = true then 2 else 0)
def o_mA (a : Nat → Nat) (p m c u2 c2 : Nat) : Bool := c != c2 && o_sA a (a (156 + 5 * p)) m u2 c2
/-- where the two may be, s having been seen -/
def o_mt (a : Nat → Nat) (p q : Nat) : Nat → Nat → Nat → Nat → Bool
  | 0, s, u, c => s == 0 && (u == a (154 + 5 * p) && c == a (154 + 5 * q))
  | m + 1, s2, u2, c2 => decide (u2 < a 0 * a 1) && (decide (c2 < a 0 * a 1) && o_or (fun s => o_or (fun u => o_or (fun c => o_mt a p q m s u c && (o_okm a u u2 && (o_okm a c c2 && s2 == o_ms s (o_mA a p (m + 1) c u2 c2) (o_mA a q (m + 1) u c2 u2)))) (a 0 * a 1)) (a 0 * a 1)) 4)
theorem o_mt_t {p q m s2 u2 c2 : Nat} (hu : u2 < a 0 * a 1) (hc : c2 < a 0 * a 1) : o_mt a p q (m + 1) s2 u2 c2 = true ↔ ∃ s u c, s < 4 ∧ u < a 0 * a 1 ∧ c < a 0 * a 1 ∧ o_mt a p q m s u c = true ∧ o_okm a u u2 = true ∧ o_okm a c c2 = true ∧ s2 = o_ms s (o_mA a p (m + 1) c u2 c2) (o_mA a q (m + 1) u c2 u2) := by
  rw [o_mt, decide_eq_true hu, decide_eq_true hc, Bool.true_and, Bool.true_and, o_or_t]
  simp only [o_or_t, Bool.and_eq_true, beq_iff_eq]
  constructor
  · rintro ⟨s, h1, u, h2, c, h3, h4⟩; exact ⟨s, u, c, h1, h2, h3, h4⟩
  · rintro ⟨s, u, c, h1, h2, h3, h4⟩; exact ⟨s, h1, u, h2, c, h3, h4⟩
theorem o_okm_t {b c : Nat} : o_okm a b c = true ↔ b = c ∨ (o_far (a 0) b c = 1 ∧ o_wall a c = false) := by
  unfold o_okm
  simp
theorem o_t4_t (s s2 : Nat) (hs : s < 3) (P3 P11 P5 P13 A B : Bool) : o_t4 s s2 P3 P11 P5 P13 A B = true ↔ (P3 = true ∧ s2 = o_ms s false false) ∨ (P11 = true ∧ s2 = o_ms s A false) ∨ (P5 = true ∧ s2 = o_ms s false B) ∨ (P13 = true ∧ s2 = o_ms s A B) := by
  have e0 : o_ms s false false = s := by unfold o_ms; simp
  have e1 : o_ms s true false = s ||| 1 := by unfold o_ms; simp
  have e2 : o_ms s false true = s ||| 2 := by unfold o_ms; simp
  have e3 : o_ms s true true = 3 := by
    have : s = 0 ∨ s = 1 ∨ s = 2 := by omega
    rcases this with rfl | rfl | rfl <;> rfl
  unfold o_t4
  simp only [Bool.or_eq_true, Bool.and_eq_true, beq_iff_eq]
  cases A <;> cases B <;> simp only [e0, e1, e2, e3] <;> cases P3 <;> cases P11 <;> cases P5 <;> cases P13 <;> (try simp) <;> (try omega)
theorem o_mt_s (w : o_WF a) {p q m s2 u2 c2 : Nat} (hu : u2 < a 0 * a 1) (hc : c2 < a 0 * a 1) (h3 : ∀ u c, u < a 0 * a 1 → c < a 0 * a 1 → o_mt a p q m 3 u c = false) : o_or (fun s => o_t58 a (a (156 + 5 * p)) (a (156 + 5 * q)) (m + 1) (o_mt a p q m) s u2 s2 c2) 3 = o_mt a p q (m + 1) s2 u2 c2 := by
  rw [Bool.eq_iff_iff, o_or_t, o_mt_t hu hc]
  generalize o_mt a p q m = F at h3 ⊢
  have f0 : ∀ {b : Nat}, ¬ o_far (a 0) b b = 1 := fun z => by rw [o_far0] at z; cases z
  have mA0 : ∀ {p c : Nat}, o_mA a p (m + 1) c2 c c2 = false := fun {p c} => by unfold o_mA; simp
  have mA0' : ∀ {p c : Nat}, o_mA a p (m + 1) u2 c u2 = false := fun {p c} => by unfold o_mA; simp
  have mA1 : ∀ {p c u b : Nat}, o_far (a 0) c b = 1 → o_mA a p (m + 1) c u b = o_sA a (a (156 + 5 * p)) (m + 1) u b := fun {p c u b} z => by
    unfold o_mA
    have : c ≠ b := fun e => by subst e; exact f0 z
    rw [show (c != b) = true by simpa using this, Bool.true_and]
  constructor
  · rintro ⟨s, hs, z⟩
    unfold o_t58 at z
    rw [o_t4_t s s2 hs] at z
    rcases z with ⟨z1, z2⟩ | ⟨z1, z2⟩ | ⟨z1, z2⟩ | ⟨z1, z2⟩
    · refine ⟨s, u2, c2, by omega, hu, hc, z1, o_okm_t.mpr (Or.inl rfl), o_okm_t.mpr (Or.inl rfl), ?_⟩
      rw [mA0, mA0']; exact z2
    · rw [o_bes_t] at z1
      obtain ⟨w1, c, q1, q2, q3⟩ := z1
      refine ⟨s, u2, c, by omega, hu, q1, q2, o_okm_t.mpr (Or.inl rfl), o_okm_t.mpr (Or.inr ⟨q3, w1⟩), ?_⟩
      rw [mA1 q3, mA0']; exact z2
    · rw [o_q5_t w hu] at z1
      obtain ⟨w1, b, q1, q2, q3⟩ := z1
      refine ⟨s, b, c2, by omega, q1, hc, q2, o_okm_t.mpr (Or.inr ⟨q3, w1⟩), o_okm_t.mpr (Or.inl rfl), ?_⟩
      rw [mA0, mA1 q3]; exact z2
    · rw [o_bes_t] at z1
      obtain ⟨w1, c, q1, q2, q3⟩ := z1
      rw [o_q5_t w hu] at q2
      obtain ⟨w2, b, r1, r2, r3⟩ := q2
      refine ⟨s, b, c, by omega, r1, q1, r2, o_okm_t.mpr (Or.inr ⟨r3, w2⟩), o_okm_t.mpr (Or.inr ⟨q3, w1⟩), ?_⟩
      rw [mA1 q3, mA1 r3]; exact z2
  · rintro ⟨s, u, c, hs, h1, h2, hf, k1, k2, e⟩
    have hs3 : s < 3 := by
      by_cases q : s = 3
      · subst q; rw [h3 u c h1 h2] at hf; cases hf
      · omega
    refine ⟨s, hs3, ?_⟩
    unfold o_t58
    rw [o_t4_t s s2 hs3]
    rcases o_okm_t.mp k1 with rfl | ⟨k1, w1⟩
    · rcases o_okm_t.mp k2 with rfl | ⟨k2, w2⟩
      · rw [mA0, mA0'] at e
        exact Or.inl ⟨hf, e⟩
      · rw [mA1 k2, mA0'] at e
        exact Or.inr (Or.inl ⟨o_bes_t.mpr ⟨w2, c, h2, hf, k2⟩, e⟩)
    · rcases o_okm_t.mp k2 with rfl | ⟨k2, w2⟩
      · rw [mA0, mA1 k1] at e
        exact Or.inr (Or.inr (Or.inl ⟨(o_q5_t w hu).mpr ⟨w1, u, h1, hf, k1⟩, e⟩))
      · rw [mA1 k1, mA1 k2] at e
        exact Or.inr (Or.inr (Or.inr ⟨o_bes_t.mpr ⟨w2, c, h2, (o_q5_t w hu).mpr ⟨w1, u, h1, hf, k1⟩, k2⟩, e⟩))
def o_mt3 (a : Nat → Nat) (p q m : Nat) : Bool := o_or (fun u => o_or (fun c => o_mt a p q m 3 u c) (a 0 * a 1)) (a 0 * a 1)
def o_mtN (a : Nat → Nat) (p q : Nat) : Option Nat := o_lst (o_mt3 a p q) 30 1
def o_mtA (a : Nat → Nat) (x y : Int32) : Int32 × Int32 := o_A6 (v_2 a x y) (o_mtN a x.toNatClampNeg y.toNatClampNeg)
theorem o_mt3_f {p q m : Nat} : o_mt3 a p q m = false ↔ ∀ u c, u < a 0 * a 1 → c < a 0 * a 1 → o_mt a p q m 3 u c = false := by
  unfold o_mt3
  rw [← Bool.not_eq_true, o_or_t]
  constructor
  · intro z u c hu hc
    rw [← Bool.not_eq_true]
    intro e
    exact z ⟨u, hu, (o_or_t _).mpr ⟨c, hc, e⟩⟩
  · rintro z ⟨u, hu, e⟩
    obtain ⟨c, hc, e⟩ := (o_or_t _).mp e
    rw [z u c hu hc] at e; cases e
abbrev mtA : List Nat := [99, 127, 128, 129, 130]
abbrev mtF : List (Nat × Nat) := [(121, 6), (121, 7)]
theorem i_CO.mtw (g : i_CO a t h) {h2 : iH} (hL : i_Lay h2) (f : i_Fr [127, 128] mtF h h2) : i_CO a t h2 := g.fr hL f (by decide) (by decide)
theorem o_bl_eq {m m2 : Nat} (h3 : a 3 = 0) : o_bl a m = o_bl a m2 := by funext c; unfold o_bl; rw [h3]; rfl
theorem o_sA_eq {f m m2 : Nat} (h3 : a 3 = 0) : o_sA a f m = o_sA a f m2 := by
  funext u c
  unfold o_sA
  rw [o_bl_eq (m := m) (m2 := m2) h3]
def o_tab (a : Nat → Nat) (h : iH) (p q m : Nat) : Prop := ∀ u, u < a 0 * a 1 → o_is (aJ h 129 u) (a 0 * a 1) (o_sA a (a (156 + 5 * p)) m u) ∧ o_is (aJ h 130 u) (a 0 * a 1) (fun c => o_sA a (a (156 + 5 * q)) m c u)
theorem o_tab.fr {p q m : Nat} {h2 : iH} {A : List Nat} {F : List (Nat × Nat)} (x : o_tab a h p q m) (f : i_Fr A F h h2) (hA : 129 ∉ A ∧ 130 ∉ A) : o_tab a h2 p q m := by
  unfold o_tab
  rw [f.rJ hA.1, f.rJ hA.2]; exact x
set_option maxHeartbeats 2000000 in
theorem c56 (g : i_CO a t h) (sw : i_sw2 h 121 6 7 127 128) {p q : Nat} (hp : p < a 5) (hq : q < a 5) (H : ∀ h2, i_CO a t h2 → i_Fr mtA mtF h h2 → i_sw2 h2 121 6 7 127 128 → Q (some (.int (o_op (o_mtN a p q)))) h2) : i_C i_MT i_AT L xs 56 [.ref 121, .int (i_n p), .int (i_n q)] h Q := by
  have h5 := g.w.2.2.2.2.1
  have h3 := g.w.2.2.1
  have h48 := g.w.c48
  have hs := (g.st hp).2
  have hsq := (g.st hq).2
  obtain ⟨B0, C0, b0⟩ := sw.pB
  have n0 := b0.ne
  have inP : ∀ {B : Nat}, 126 < B ∧ B < 129 → ∀ z, z ∈ [B] → z ∈ [127, 128] := fun {B} hB z hz => by simp only [List.mem_cons, List.not_mem_nil, or_false] at hz ⊢; omega
  have key : ∀ k, k ≤ 31 → 1 ≤ k → ∀ (B C : Nat) h1, o_pB h1 B C → o_rs a h1 B (o_mt a p q (k - 1)) → (∀ j, j < k → o_mt3 a p q j = false) → (k ≠ 1 → a 3 = 0 → o_tab a h1 p q 1) → i_CO a t h1 → i_Fr mtA mtF h h1 → ∀ (y5 y6 : Option Value), i_P i_MT i_AT L xs 56 41 [some (.ref 121), some (.int (i_n p)), some (.int (i_n q)), some (.ref (t + 7)), some (.int (i_n k)), y5, y6] [] h1 0 0 Q := by
    refine l_up ?_ ?_
    · intro _ B C h1 b1 hF hno hg g1 f1 y5 y6
      refine d56_41 g1.l g1.T ?_
      try simp (disch := omega) only [n_lit, n_m, n_add, n_mul, n_div, n_mod, n_cl, n_lt, n_le, n_eq, n_in, n_eqm, n_meq, n_mlt, n_ltm, n_mle, n_lem, not_true_eq_false, not_false_eq_true, true_implies, false_implies, true_and, and_true, Nat.not_lt_zero, Nat.zero_le]
      refine ⟨fun _ => ?_, fun e => absurd (by omega) e⟩
      have e : o_mtN a p q = none := o_lst_n 30 1 (fun j _ h2 => hno j (by omega))
      rw [e] at H
      exact H h1 g1 f1 b1.sw
    · intro k hk ih hk1 B C h1 b1 hF hno hg g1 f1 y5 y6
      have nb := b1.ne
      have go : ∀ h2, o_pB h2 B C → o_rs a h2 B (o_mt a p q (k - 1)) → o_tab a h2 p q k → i_CO a t h2 → i_Fr mtA mtF h h2 → ∀ (y5 y6 : Option Value), i_P i_MT i_AT L xs 56 93 [some (.ref 121), some (.int (i_n p)), some (.int (i_n q)), some (.ref (t + 7)), some (.int (i_n k)), y5, y6] [] h2 0 0 Q := by
        intro h2 b2 r2 G2 g2 F2 y5 y6
        refine d56_93 g2.l g2.T ⟨C, b2.f7 g2.l, c348 g2.l (b2.aB g2.l).2 (by omega) (fun h3 L3 f3 z3 => ⟨rfl, ?_⟩)⟩
        have f3b : i_Fr [127, 128] mtF h2 h3 := f3.mono (inP (by omega)) (fun _ e => absurd e (by simp))
        have g3 := g2.mtw L3 f3b
        have b3 := b2.fr f3 (by simp) (by simp)
        have r3 : o_rs a h3 B (o_mt a p q (k - 1)) := by unfold o_rs; rw [f3.rJ (by simp; omega)]; exact r2
        have s3 : o_rs a h3 C (fun _ _ _ => false) := fun s u hs hu => by rw [z3 _ (by omega)]; exact o_is.emp
        have G3 := G2.fr f3b (by decide)
        have F3 := F2.trans (f3b.mono (by decide) (fun _ z => z))
        -- the end of a minute
        have fin : ∀ h4, o_pB h4 B C → o_rs a h4 C (o_mt a p q k) → (a 3 = 0 → o_tab a h4 p q 1) → i_CO a t h4 → i_Fr mtA mtF h h4 → ∀ j, j ≤ a 0 * a 1 → (∀ u, u < j → o_or (fun c => o_mt a p q k 3 u c) (a 0 * a 1) = false) → ∀ (y6 : Option Value), i_P i_MT i_AT L xs 56 151 [some (.ref 121), some (.int (i_n p)), some (.int (i_n q)), some (.ref (t + 7)), some (.int (i_n k)), some (.int (i_n j)), y6] [] h4 0 0 Q := by
          intro h4 b4 e4 G4 g4 F4
          refine l_up ?_ ?_
          · intro hz y6
            refine d56_151 g4.l g4.T ?_
            rw [g4.2.1.1.2.2]
            try simp (disch := omega) only [n_lit, n_m, n_add, n_mul, n_div, n_mod, n_cl, n_lt, n_le, n_eq, n_in, n_eqm, n_meq, n_mlt, n_ltm, n_mle, n_lem, not_true_eq_false, not_false_eq_true, true_implies, false_implies, true_and, and_true, Nat.not_lt_zero, Nat.zero_le, Nat.le_refl]
            refine ⟨B, b4.f6 g4.l, C, b4.f7 g4.l, ⟨_, b4.f6 g4.l⟩, ?_⟩
            have F8 : i_Fr [127, 128] mtF h4 (i_sf h4 121 6 (.ref C)) := i_Fr.refl.sf (by decide)
            have L3 : i_Lay (i_sf h4 121 6 (.ref C)) := g4.l.sf (b4.f6 g4.l) rfl
            have g12 := g4.mtw L3 F8
            have F8b : i_Fr [] [(121, 6)] h4 (i_sf h4 121 6 (.ref C)) := i_Fr.refl.sf (by decide)
            have e8 : fR (i_sf h4 121 6 (.ref C)) 121 6 = C := x_fR_sf (b4.f6 g4.l)
            have e9 : i_fld (i_sf h4 121 6 (.ref C)) 121 5 7 = some (.ref C) := by
              have := L3.fw (q := 121) (ci := 5) (b := 7) rfl rfl rfl
              rw [F8b.vR (by decide), b4.2.1] at this
              exact this
            refine d56_205 g12.l g12.T ⟨⟨_, e9⟩, ?_⟩
            have F9 : i_Fr [127, 128] mtF (i_sf h4 121 6 (.ref C)) (i_sf (i_sf h4 121 6 (.ref C)) 121 7 (.ref B)) := i_Fr.refl.sf (by decide)
            have F9b : i_Fr [] [(121, 7)] (i_sf h4 121 6 (.ref C)) (i_sf (i_sf h4 121 6 (.ref C)) 121 7 (.ref B)) := i_Fr.refl.sf (by decide)
            have L4 : i_Lay (i_sf (i_sf h4 121 6 (.ref C)) 121 7 (.ref B)) := L3.sf e9 rfl
            have g13 := g12.mtw L4 F9
            have b13 : o_pB (i_sf (i_sf h4 121 6 (.ref C)) 121 7 (.ref B)) C B := by
              refine ⟨by rw [F9b.vR (by decide)]; exact e8, x_fR_sf e9, ?_⟩
              rcases b4.2.2 with e | e
              · exact Or.inr ⟨e.2, e.1⟩
              · exact Or.inl ⟨e.2, e.1⟩
            have r13 : o_rs a (i_sf (i_sf h4 121 6 (.ref C)) 121 7 (.ref B)) C (o_mt a p q k) := by
              unfold o_rs
              rw [F9b.rJ (by simp), F8b.rJ (by simp)]; exact e4
            have G13 : a 3 = 0 → o_tab a (i_sf (i_sf h4 121 6 (.ref C)) 121 7 (.ref B)) p q 1 := fun z => ((G4 z).fr F8b (by decide)).fr F9b (by decide)
            have F13 := F4.trans ((F8.trans F9).mono (B := mtA) (G := mtF) (by decide) (fun _ z => z))
            generalize i_sf (i_sf h4 121 6 (.ref C)) 121 7 (.ref B) = h13 at g13 b13 r13 G13 F13 ⊢
            refine d56_211 g13.l g13.T ?_
            try simp (disch := omega) only [n_lit, n_m, n_add, n_mul, n_div, n_mod, n_cl, n_lt, n_le, n_eq, n_in, n_eqm, n_meq, n_mlt, n_ltm, n_mle, n_lem, not_true_eq_false, not_false_eq_true, true_implies, false_implies, true_and, and_true, Nat.not_lt_zero, Nat.zero_le]
            refine ih (by omega) C B h13 b13 (by rw [show k + 1 - 1 = k by omega]; exact r13) (fun j hj => ?_) (fun _ z => G13 z) g13 F13 _ _
            by_cases ej : j = k
            · subst ej
              unfold o_mt3
              rw [← Bool.not_eq_true, o_or_t]
              rintro ⟨u, hu, e⟩
              rw [hz u hu] at e; cases e
            · exact hno j (by omega)
          · intro j hj ih4 hz y6
            refine d56_151 g4.l g4.T ?_
            rw [g4.2.1.1.2.2]
            try simp (disch := omega) only [n_lit, n_m, n_add, n_mul, n_div, n_mod, n_cl, n_lt, n_le, n_eq, n_in, n_eqm, n_meq, n_mlt, n_ltm, n_mle, n_lem, not_true_eq_false, not_false_eq_true, true_implies, false_implies, true_and, and_true, Nat.not_lt_zero, Nat.zero_le]
            refine ⟨fun e => by omega, fun _ => ⟨C, b4.f7 g4.l, 192, aJ h4 C, (b4.aB g4.l).2, by omega, ?_⟩⟩
            have e5 := e4 3 j (by omega) hj
            rw [show 3 * 48 + j = 144 + j by omega] at e5
            rw [j_cmpn, e5.s0 (by omega)]
            refine ⟨fun e => ih4 (fun u hu => ?_) _, fun e => ?_⟩
            · by_cases eu : u = j
              · subst eu; exact e
              · exact hz u (by omega)
            · have e2 : o_mt3 a p q k = true := by
                unfold o_mt3
                exact (o_or_t _).mpr ⟨j, hj, by simpa using e⟩
              have e6 : o_mtN a p q = some k := o_lst_s (P := o_mt3 a p q) (j := k) e2 30 1 (by omega) (by omega) (fun j _ hj => hno j hj)
              rw [e6] at H
              exact H h4 g4 F4 b4.sw
        have hno3 := o_mt3_f.mp (hno (k - 1) (by omega))
        have sloop : ∀ s, s ≤ 3 → ∀ h4, o_pB h4 B C → o_rs a h4 B (o_mt a p q (k - 1)) → o_rs a h4 C (fun s2 u2 c => o_or (fun s => o_t58 a (a (156 + 5 * p)) (a (156 + 5 * q)) k (o_mt a p q (k - 1)) s u2 s2 c) s) → o_tab a h4 p q k → i_CO a t h4 → i_Fr mtA mtF h h4 → ∀ (y6 : Option Value), i_P i_MT i_AT L xs 56 104 [some (.ref 121), some (.int (i_n p)), some (.int (i_n q)), some (.ref (t + 7)), some (.int (i_n k)), some (.int (i_n s)), y6] [] h4 0 0 Q := by
          refine l_up ?_ ?_
          · intro h4 b4 r4 s4 G4 g4 F4 y6
            refine d56_104 g4.l g4.T ?_
            try simp (disch := omega) only [n_lit, n_m, n_add, n_mul, n_div, n_mod, n_cl, n_lt, n_le, n_eq, n_in, n_eqm, n_meq, n_mlt, n_ltm, n_mle, n_lem, not_true_eq_false, not_false_eq_true, true_implies, false_implies, true_and, and_true, Nat.not_lt_zero, Nat.zero_le, Nat.le_refl]
            refine fin h4 b4 (fun s u hs hu => (s4 s u hs hu).congr (fun c hc => ?_)) (fun z => ?_) g4 F4 0 (Nat.zero_le _) (fun u hu => absurd hu (Nat.not_lt_zero u)) _
            · have := o_mt_s g4.w (p := p) (q := q) (m := k - 1) (s2 := s) hu hc hno3
              rw [show k - 1 + 1 = k by omega] at this
              exact this
            · unfold o_tab at G4 ⊢
              rw [o_sA_eq (m := 1) (m2 := k) z, o_sA_eq (m := 1) (m2 := k) z]; exact G4
          · intro s hs ih4 h4 b4 r4 s4 G4 g4 F4 y6
            have uloop : ∀ u, u ≤ a 0 * a 1 → ∀ h5, o_pB h5 B C → o_rs a h5 B (o_mt a p q (k - 1)) → o_rs a h5 C (fun s2 u2 c => o_or (fun s => o_t58 a (a (156 + 5 * p)) (a (156 + 5 * q)) k (o_mt a p q (k - 1)) s u2 s2 c) s || (decide (u2 < u) && o_t58 a (a (156 + 5 * p)) (a (156 + 5 * q)) k (o_mt a p q (k - 1)) s u2 s2 c)) → o_tab a h5 p q k → i_CO a t h5 → i_Fr mtA mtF h h5 →  i_P i_MT i_AT L xs 56 113 [some (.ref 121), some (.int (i_n p)), some (.int (i_n q)), some (.ref (t + 7)), some (.int (i_n k)), some (.int (i_n s)), some (.int (i_n u))] [] h5 0 0 Q := by
              refine l_up ?_ ?_
              · intro h5 b5 r5 s5 G5 g5 F5 
                refine d56_113 g5.l g5.T ?_
                rw [g5.2.1.1.2.2]
                try simp (disch := omega) only [n_lit, n_m, n_add, n_mul, n_div, n_mod, n_cl, n_lt, n_le, n_eq, n_in, n_eqm, n_meq, n_mlt, n_ltm, n_mle, n_lem, not_true_eq_false, not_false_eq_true, true_implies, false_implies, true_and, and_true, Nat.not_lt_zero, Nat.zero_le, Nat.le_refl]
                refine ih4 h5 b5 r5 (fun s2 u2 hs2 hu2 => (s5 s2 u2 hs2 hu2).congr (fun c hc => ?_)) G5 g5 F5 _
                dsimp only
                rw [decide_eq_true hu2, Bool.true_and, o_or]
              · intro u hu ih5 h5 b5 r5 s5 G5 g5 F5 
                refine d56_113 g5.l g5.T ?_
                rw [g5.2.1.1.2.2]
                try simp (disch := omega) only [n_lit, n_m, n_add, n_mul, n_div, n_mod, n_cl, n_lt, n_le, n_eq, n_in, n_eqm, n_meq, n_mlt, n_ltm, n_mle, n_lem, not_true_eq_false, not_false_eq_true, true_implies, false_implies, true_and, and_true, Nat.not_lt_zero, Nat.zero_le]
                refine ⟨fun e => by omega, fun _ => c58 g5 b5 hs hu G5 r5 s5 (fun h6 g6 f6 s6 => ⟨rfl, d56_136 g6.l g6.T ?_⟩)⟩
                try simp (disch := omega) only [n_lit, n_m, n_add, n_mul, n_div, n_mod, n_cl, n_lt, n_le, n_eq, n_in, n_eqm, n_meq, n_mlt, n_ltm, n_mle, n_lem, not_true_eq_false, not_false_eq_true, true_implies, false_implies, true_and, and_true, Nat.not_lt_zero, Nat.zero_le]
                have f6b : i_Fr [127, 128] mtF h5 h6 := f6.mono (inP (by omega)) (fun _ e => absurd e (by simp))
                refine ih5 h6 (b5.fr f6 (by simp) (by simp)) ?_ (fun s2 u2 hs2 hu2 => (s6 s2 u2 hs2 hu2).congr (fun c hc => ?_)) (G5.fr f6b (by decide)) g6 (F5.trans (f6b.mono (by decide) (fun _ z => z))) 
                · unfold o_rs
                  rw [f6.rJ (by simp; omega)]; exact r5
                · dsimp only
                  by_cases eu : u2 = u
                  · subst eu
                    rw [decide_eq_false (Nat.lt_irrefl u2), decide_eq_true (Nat.lt_succ_self u2), show (u2 == u2) = true by simp]
                    simp
                  · rw [show (u2 == u) = false by simpa using eu, Bool.false_and, Bool.or_false]
                    have : decide (u2 < u + 1) = decide (u2 < u) := by
                      by_cases q : u2 < u
                      · rw [decide_eq_true q, decide_eq_true (by omega)]
                      · rw [decide_eq_false q, decide_eq_false (by omega)]
                    rw [this]
            refine d56_104 g4.l g4.T ?_
            try simp (disch := omega) only [n_lit, n_m, n_add, n_mul, n_div, n_mod, n_cl, n_lt, n_le, n_eq, n_in, n_eqm, n_meq, n_mlt, n_ltm, n_mle, n_lem, not_true_eq_false, not_false_eq_true, true_implies, false_implies, true_and, and_true, Nat.not_lt_zero, Nat.zero_le]
            refine ⟨fun e => by omega, fun _ => uloop 0 (Nat.zero_le _) h4 b4 r4 (fun s2 u2 hs2 hu2 => (s4 s2 u2 hs2 hu2).congr (fun c hc => ?_)) G4 g4 F4 ⟩
            dsimp only
            rw [decide_eq_false (Nat.not_lt_zero u2), Bool.false_and, Bool.or_false]
        refine d56_101 g3.l g3.T ?_
        try simp (disch := omega) only [n_lit, n_m, n_add, n_mul, n_div, n_mod, n_cl, n_lt, n_le, n_eq, n_in, n_eqm, n_meq, n_mlt, n_ltm, n_mle, n_lem, not_true_eq_false, not_false_eq_true, true_implies, false_implies, true_and, and_true, Nat.not_lt_zero, Nat.zero_le]
        exact sloop 0 (by omega) h3 b3 r3 s3 G3 g3 F3 _
      have mk : ∀ (y5 y6 : Option Value), i_P i_MT i_AT L xs 56 67 [some (.ref 121), some (.int (i_n p)), some (.int (i_n q)), some (.ref (t + 7)), some (.int (i_n k)), y5, y6] [] h1 0 0 Q := by
        intro y5 y6
        refine d56_67 g1.l g1.T ?_
        rw [n_cl (by omega), n_cl (by omega), n_cl (by omega), (g1.fars hp).1, (g1.fars hq).1]
        have hf9 := (g1.fars hp).2
        have hq9 := (g1.fars hq).2
        refine ⟨(n_in (by omega)).mpr (by omega), (n_in (by omega)).mpr (by omega), (n_in (by omega)).mpr (by omega), ?_⟩
        refine c57 g1 (m := k) (by omega) (by omega) (g1.bl (by omega)) (fun h2 g2 f2 G2 => ⟨rfl, go h2 (b1.fr f2 (by simp) (by simp)) ?_ G2 g2 (f1.trans (f2.mono (by decide) (fun _ z => absurd z (by simp)))) _ _⟩)
        unfold o_rs; rw [f2.rJ (by simp; omega)]; exact hF
      refine d56_41 g1.l g1.T ?_
      try simp (disch := omega) only [n_lit, n_m, n_add, n_mul, n_div, n_mod, n_cl, n_lt, n_le, n_eq, n_in, n_eqm, n_meq, n_mlt, n_ltm, n_mle, n_lem, not_true_eq_false, not_false_eq_true, true_implies, false_implies, true_and, and_true, Nat.not_lt_zero, Nat.zero_le]
      refine ⟨fun e => by omega, fun _ => ⟨fun e => mk _ _, fun e => ⟨t, g1.tw, g1.T, ?_⟩⟩⟩
      rw [g1.nc]
      try simp (disch := omega) only [n_lit, n_m, n_add, n_mul, n_div, n_mod, n_cl, n_lt, n_le, n_eq, n_in, n_eqm, n_meq, n_mlt, n_ltm, n_mle, n_lem, not_true_eq_false, not_false_eq_true, true_implies, false_implies, true_and, and_true, Nat.not_lt_zero, Nat.zero_le]
      refine ⟨fun e3 => go h1 b1 hF ?_ g1 f1 _ _, fun e3 => mk _ _⟩
      have := hg e (by omega)
      unfold o_tab at this ⊢
      rw [o_sA_eq (m := k) (m2 := 1) (by omega), o_sA_eq (m := k) (m2 := 1) (by omega)]; exact this
  refine e56 (d56_0 g.l ⟨t, g.tw, g.T, B0, b0.f6 g.l, c348 g.l (b0.aB g.l).1 (by omega) (fun h2 L2 f2 z2 => ⟨rfl, ?_⟩)⟩)
  have f2b : i_Fr [127, 128] mtF h h2 := f2.mono (inP (by omega)) (fun _ e => absurd e (by simp))
  have g2 := g.mtw L2 f2b
  have b2 := b0.fr f2 (by simp) (by simp)
  refine d56_19 g2.l g2.T ⟨B0, b2.f6 g2.l, ?_⟩
  rw [n_cl (by omega), n_cl (by omega), (g2.st hp).1, (g2.st hq).1]
  refine ⟨(n_in (by omega)).mpr (by omega), (n_in (by omega)).mpr (by omega), 192, aJ h2 B0, (b2.aB g2.l).1, (n_in (by omega)).mpr (by omega), ?_⟩
  rw [n_cl (by omega)]
  have Fi : i_Fr [B0] [] h2 (i_siJ h2 B0 (a (154 + 5 * p)) ((1 : Int64) <<< ((i_n (a (154 + 5 * q))).toInt64 &&& (63 : Int64)))) := i_Fr.refl.siJ List.mem_cons_self
  have Fi2 : i_Fr [127, 128] mtF h2 (i_siJ h2 B0 (a (154 + 5 * p)) ((1 : Int64) <<< ((i_n (a (154 + 5 * q))).toInt64 &&& (63 : Int64)))) := Fi.mono (inP (by omega)) (fun _ e => absurd e (by simp))
  have g3 := g2.mtw g2.l.siJ Fi2
  have b3 := b2.fr Fi (by simp) (by simp)
  have r3 : o_rs a (i_siJ h2 B0 (a (154 + 5 * p)) ((1 : Int64) <<< ((i_n (a (154 + 5 * q))).toInt64 &&& (63 : Int64)))) B0 (o_mt a p q 0) := by
    intro s u hs4 hu
    by_cases e : s * 48 + u = a (154 + 5 * p)
    · obtain ⟨rfl, e2⟩ : s = 0 ∧ u = a (154 + 5 * p) := by omega
      rw [e, i_siJ_at (b2.aB g2.l).1]
      exact (o_is.one hsq (by omega)).congr (fun c _ => by rw [o_mt]; simp [e2])
    · rw [i_siJ_no (b2.aB g2.l).1 e, z2 _ (by omega)]
      refine o_is.emp.congr (fun c _ => ?_)
      rw [o_mt]
      symm
      rw [← Bool.not_eq_true, Bool.and_eq_true, Bool.and_eq_true, beq_iff_eq, beq_iff_eq]
      rintro ⟨q1, q2, -⟩
      exact e (by omega)
  have F3 : i_Fr mtA mtF h (i_siJ h2 B0 (a (154 + 5 * p)) ((1 : Int64) <<< ((i_n (a (154 + 5 * q))).toInt64 &&& (63 : Int64)))) := (f2b.trans Fi2).mono (by decide) (fun _ z => z)
  generalize i_siJ h2 B0 (a (154 + 5 * p)) ((1 : Int64) <<< ((i_n (a (154 + 5 * q))).toInt64 &&& (63 : Int64))) = h3 at g3 b3 r3 F3 ⊢
  refine d56_38 g3.l g3.T ?_
  try simp (disch := omega) only [n_lit, n_m, n_add, n_mul, n_div, n_mod, n_cl, n_lt, n_le, n_eq, n_in, n_eqm, n_meq, n_mlt, n_ltm, n_mle, n_lem, not_true_eq_false, not_false_eq_true, true_implies, false_implies, true_and, and_true, Nat.not_lt_zero, Nat.zero_le]
  refine key 1 (by omega) (Nat.le_refl 1) B0 C0 h3 b3 r3 (fun j hj => ?_) (fun e => absurd rfl e) g3 F3 _ _
  have : j = 0 := by omega
  subst this
  rw [o_mt3_f]
  intro u c _ _
  rw [o_mt]; rfl
theorem c161 (g : i_ST a t h) (sw : i_SW h) {x y : Int32} (H : i_KW a t h Q (o_mtA a x y)) : i_C i_MT i_AT L xs 161 [.ref 0, .int x, .int y] h Q := by
  have h5 := g.w.2.2.2.2.1
  unfold o_mtA at H
  refine e161 (d161_0 g.l (c187 g ⟨_, rfl, d161_6 g.l ?_⟩))
  rw [i_bo_0, Classical.not_not]
  refine ⟨fun z => ?_, fun z => ?_⟩
  · have H := H.a6 z
    obtain ⟨p, hp, rfl⟩ := n_get z.1 (by omega)
    obtain ⟨q, hq, rfl⟩ := n_get z.2.1 (by omega)
    rw [n_cl (by omega), n_cl (by omega)] at H
    refine c56 g.1 sw.2.2.2 hp hq (fun h1 g1 f1 s1 => ?_)
    have fw : i_FW h h1 := f1.mono (by decide) (by decide)
    have G1 := g.fw g1 fw
    have sw1 : i_SW h1 := by
      obtain ⟨q1, q2, q3, q4⟩ := sw
      refine ⟨?_, ?_, ?_, s1⟩ <;> unfold i_sw2
      · rw [f1.vR (by decide), f1.vR (by decide)]; exact q1
      · rw [f1.vR (by decide), f1.vR (by decide)]; exact q2
      · rw [f1.vR (by decide), f1.vR (by decide)]; exact q3
    refine ⟨_, rfl, d161_25 G1.l ?_⟩
    refine m183 G1 (fun k e => by have := o_lst_g _ _ _ e; omega) (fun h2 g2 f2 s2 => ⟨_, rfl, d161_28 g2.l (H h2 g2 (fw.trans f2.s.w) (sw1.f0 f2) s2)⟩)
  · rw [o_A6_f z] at H
    exact m179 g (fun h2 g2 f2 s2 => ⟨_, rfl, d161_14 g2.l (H h2 g2 f2.s.w (sw.f0 f2) s2)⟩)
end
