/-! MEETING, the reference -/
section
variable {L : Nat} {xs : Nat → Int32} {h : iH} {Q : Option Value → iH → Prop} {a : Nat → Nat} {t : Nat}
set_option maxRecDepth 20000
theorem c302 (r : i_RA a h) {b c : Nat} (hb : b < a 0 * a 1) (hc : c < a 0 * a 1) (H : Q (some (.int (i_bo (o_okm a b c = true)))) h) : i_C i_MT i_AT L xs 302 [.ref 138, .int (i_n b), .int (i_n c)] h Q := by
  have h48 := r.2.1.c48
  have yes : o_okm a b c = true → i_P i_MT i_AT L xs 302 22 [some (.ref 138), some (.int (i_n b)), some (.int (i_n c))] [] h 0 0 Q := fun e => by
    rw [e] at H
    exact d302_22 r.1 (d302_27 r.1 ⟨rfl, H⟩)
  have no : o_okm a b c = false → i_P i_MT i_AT L xs 302 26 [some (.ref 138), some (.int (i_n b)), some (.int (i_n c))] [] h 0 0 Q := fun e => by
    rw [e] at H
    exact d302_26 r.1 (d302_27 r.1 ⟨rfl, H⟩)
  refine e302 (d302_0 r.1 ?_)
  try simp (disch := omega) only [n_lit, n_m, n_add, n_mul, n_div, n_mod, n_cl, n_lt, n_le, n_eq, n_in, n_eqm, n_meq, n_mlt, n_ltm, n_mle, n_lem, not_true_eq_false, not_false_eq_true, true_implies, false_implies, true_and, and_true, Nat.not_lt_zero, Nat.zero_le]
  refine ⟨fun e => yes (o_okm_t.mpr (Or.inl e)), fun e => c285 r hb hc ⟨_, rfl, d302_11 r.1 ?_⟩⟩
  rw [i_bo_0, Classical.not_not]
  refine ⟨fun e2 => no ?_, fun e2 => c250 r (by omega) ⟨_, rfl, d302_19 r.1 ?_⟩⟩
  · rw [← Bool.not_eq_true, o_okm_t]
    rintro (z | z)
    · exact e z
    · exact e2 z.1
  · rw [i_bo_0, Classical.not_not]
    refine ⟨fun e3 => no ?_, fun e3 => yes (o_okm_t.mpr (Or.inr ⟨e2, e3⟩))⟩
    rw [← Bool.not_eq_true, o_okm_t]
    rintro (z | z)
    · exact e z
    · exact e3 z.2
/-- which lines are free, this minute -/
def o_fr (a : Nat → Nat) (m u c : Nat) : Bool := u != c && o_free (a 0) (o_bl a m) u c
theorem o_fr_sA {f m u c : Nat} : o_sA a f m u c = (o_fr a m u c && decide (o_far (a 0) u c ≤ f)) := by
  unfold o_sA o_fr
  rw [Bool.and_assoc]
def o_ftb (a : Nat → Nat) (h : iH) (m : Nat) : Prop := ∀ u c, u < a 0 * a 1 → c < a 0 * a 1 → aI h 168 (48 * u + c) = i_bo (o_fr a m u c = true)
theorem c300 (r : i_RA a h) {m : Nat} (hm : m ≤ 60) (H : ∀ h2, i_RA a h2 → i_Fr [168] [] h h2 → o_ftb a h2 m → Q none h2) : i_C i_MT i_AT L xs 300 [.ref 138, .int (i_n m)] h Q := by
  have h48 := r.2.1.c48
  have key : ∀ u, u ≤ a 0 * a 1 → ∀ h1, i_RA a h1 → i_Fr [168] [] h h1 → (∀ u2 c, u2 < u → c < a 0 * a 1 → aI h1 168 (48 * u2 + c) = i_bo (o_fr a m u2 c = true)) → ∀ (y3 : Option Value), i_P i_MT i_AT L xs 300 2 [some (.ref 138), some (.int (i_n m)), some (.int (i_n u)), y3] [] h1 0 0 Q := by
    refine l_up ?_ ?_
    · intro h1 r1 f1 z1 y3
      refine d300_2 r1.1 (c248 r1 ⟨_, rfl, d300_7 r1.1 ?_⟩)
      try simp (disch := omega) only [n_lit, n_m, n_add, n_mul, n_div, n_mod, n_cl, n_lt, n_le, n_eq, n_in, n_eqm, n_meq, n_mlt, n_ltm, n_mle, n_lem, not_true_eq_false, not_false_eq_true, true_implies, false_implies, true_and, and_true, Nat.not_lt_zero, Nat.zero_le, Nat.le_refl]
      exact H h1 r1 f1 z1
    · intro u hu ih h1 r1 f1 z1 y3
      have row : ∀ c, c ≤ a 0 * a 1 → ∀ h2, i_RA a h2 → i_Fr [168] [] h h2 → (∀ u2 c, u2 < u → c < a 0 * a 1 → aI h2 168 (48 * u2 + c) = i_bo (o_fr a m u2 c = true)) → (∀ c2, c2 < c → aI h2 168 (48 * u + c2) = i_bo (o_fr a m u c2 = true)) → i_P i_MT i_AT L xs 300 12 [some (.ref 138), some (.int (i_n m)), some (.int (i_n u)), some (.int (i_n c))] [] h2 0 0 Q := by
        refine l_up ?_ ?_
        · intro h2 r2 f2 z2 z3
          refine d300_12 r2.1 (c248 r2 ⟨_, rfl, d300_17 r2.1 ?_⟩)
          try simp (disch := omega) only [n_lit, n_m, n_add, n_mul, n_div, n_mod, n_cl, n_lt, n_le, n_eq, n_in, n_eqm, n_meq, n_mlt, n_ltm, n_mle, n_lem, not_true_eq_false, not_false_eq_true, true_implies, false_implies, true_and, and_true, Nat.not_lt_zero, Nat.zero_le, Nat.le_refl]
          refine ih h2 r2 f2 (fun u2 c h1 h2 => ?_) _
          by_cases e : u2 = u
          · subst e; exact z3 c h2
          · exact z2 u2 c (by omega) h2
        · intro c hc ih2 h2 r2 f2 z2 z3
          have put : ∀ (b : Bool), b = o_fr a m u c → i_P i_MT i_AT L xs 300 50 [some (.ref 138), some (.int (i_n m)), some (.int (i_n u)), some (.int (i_n c))] [.int (i_bo (b = true)), .int (i_n (48 * u + c)), .ref 168] h2 0 0 Q := by
            intro b hb
            refine d300_50 r2.1 ⟨_, _, r2.1.a168, ?_⟩
            rw [n_bob, n_cl (by omega)]
            refine ⟨(n_in (by omega)).mpr (by omega), ?_⟩
            have Fi : i_Fr [168] [] h2 (i_siI h2 168 (48 * u + c) (i_bo (b = true))) := i_Fr.refl.siI (by decide)
            have r3 : i_RA a (i_siI h2 168 (48 * u + c) (i_bo (b = true))) := r2.fr r2.1.siI Fi (by decide)
            refine d300_51 r3.1 ?_
            try simp (disch := omega) only [n_lit, n_m, n_add, n_mul, n_div, n_mod, n_cl, n_lt, n_le, n_eq, n_in, n_eqm, n_meq, n_mlt, n_ltm, n_mle, n_lem, not_true_eq_false, not_false_eq_true, true_implies, false_implies, true_and, and_true, Nat.not_lt_zero, Nat.zero_le]
            refine ih2 _ r3 (f2.trans Fi) (fun u2 c2 h1 h3 => ?_) (fun c2 h1 => ?_)
            · rw [x_aI_siI r2.1.a168, x_upd, if_neg (by omega)]; exact z2 u2 c2 h1 h3
            · rw [x_aI_siI r2.1.a168, x_upd]
              by_cases e : c2 = c
              · subst e; rw [if_pos rfl, hb]
              · rw [if_neg (by omega)]; exact z3 c2 (by omega)
          have p0 : o_fr a m u c = false → i_P i_MT i_AT L xs 300 49 [some (.ref 138), some (.int (i_n m)), some (.int (i_n u)), some (.int (i_n c))] [.int (i_n (48 * u + c)), .ref 168] h2 0 0 Q := fun e => d300_49 r2.1 (put false e.symm)
          refine d300_12 r2.1 (c248 r2 ⟨_, rfl, d300_17 r2.1 ?_⟩)
          try simp (disch := omega) only [n_lit, n_m, n_add, n_mul, n_div, n_mod, n_cl, n_lt, n_le, n_eq, n_in, n_eqm, n_meq, n_mlt, n_ltm, n_mle, n_lem, not_true_eq_false, not_false_eq_true, true_implies, false_implies, true_and, and_true, Nat.not_lt_zero, Nat.zero_le]
          refine ⟨fun e => by omega, fun _ => ⟨fun e => p0 (by unfold o_fr; simp [e]), fun e => c269 r2 hu hc hm ⟨_, rfl, d300_42 r2.1 ?_⟩⟩⟩
          rw [i_bo_0, Classical.not_not]
          have en : (u != c) = true := by simpa using e
          exact ⟨fun e2 => p0 (by unfold o_fr; rw [show o_free (a 0) (o_bl a m) u c = false by simpa using e2, Bool.and_false]), fun e2 => put true (by unfold o_fr; rw [en, e2]; rfl)⟩
      refine d300_2 r1.1 (c248 r1 ⟨_, rfl, d300_7 r1.1 ?_⟩)
      try simp (disch := omega) only [n_lit, n_m, n_add, n_mul, n_div, n_mod, n_cl, n_lt, n_le, n_eq, n_in, n_eqm, n_meq, n_mlt, n_ltm, n_mle, n_lem, not_true_eq_false, not_false_eq_true, true_implies, false_implies, true_and, and_true, Nat.not_lt_zero, Nat.zero_le]
      exact ⟨fun e => by omega, fun _ => row 0 (Nat.zero_le _) h1 r1 f1 z1 (fun c2 h1 => absurd h1 (Nat.not_lt_zero c2))⟩
  refine e300 (d300_0 r.1 ?_)
  try simp (disch := omega) only [n_lit, n_m, n_add, n_mul, n_div, n_mod, n_cl, n_lt, n_le, n_eq, n_in, n_eqm, n_meq, n_mlt, n_ltm, n_mle, n_lem, not_true_eq_false, not_false_eq_true, true_implies, false_implies, true_and, and_true, Nat.not_lt_zero, Nat.zero_le]
  exact key 0 (Nat.zero_le _) h r i_Fr.refl (fun c2 l h1 _ => absurd h1 (Nat.not_lt_zero c2)) _
/-- the states of the two, as the reference keeps them -/
def o_ri (a : Nat → Nat) (h : iH) (q : Nat) (F : Nat → Bool) : Prop := ∀ i, i < 9216 → aI h q i = i_bo (F i = true)
def o_r1 (i : Nat) (F : Nat → Bool) (j : Nat) : Bool := F j || j == i
set_option maxHeartbeats 1000000 in
theorem c301 (r : i_RA a h) {p q m s u c u2 c2 : Nat} {G : Nat → Bool} (hp : p < a 5) (hq : q < a 5) (hs : s < 4) (hu : u < a 0 * a 1) (hc : c < a 0 * a 1) (hu2 : u2 < a 0 * a 1) (hc2 : c2 < a 0 * a 1) (hT : o_ftb a h m) (hG : o_ri a h 167 G) (H : ∀ h2, i_RA a h2 → i_Fr [167] [] h h2 → o_ri a h2 167 (o_r1 (4 * (48 * u2 + c2) + o_ms s (o_mA a p m c u2 c2) (o_mA a q m u c2 u2)) G) → Q none h2) : i_C i_MT i_AT L xs 301 [.ref 138, .int (i_n (4 * (48 * u + c) + s)), .int (i_n p), .int (i_n q), .int (i_n u2), .int (i_n c2)] h Q := by
  have h5 := r.2.1.2.2.2.2.1
  have h48 := r.2.1.c48
  have hst := r.st hp
  have hsq := r.st hq
  have ms4 : ∀ x y, o_ms s x y < 4 := by
    intro x y
    have : s = 0 ∨ s = 1 ∨ s = 2 ∨ s = 3 := by omega
    rcases this with rfl | rfl | rfl | rfl <;> cases x <;> cases y <;> decide
  have e1 : (4 * (48 * u + c) + s) / 4 = 48 * u + c := by omega
  have e2 : (48 * u + c) / 48 = u := by omega
  have e3 : (48 * u + c) % 48 = c := by omega
  have e4 : (4 * (48 * u + c) + s) % 4 = s := by omega
  have T1 := hT u2 c2 hu2 hc2
  have T2 := hT c2 u2 hc2 hu2
  -- the end
  have fin : ∀ x y, x = o_mA a p m c u2 c2 → y = o_mA a q m u c2 u2 → i_P i_MT i_AT L xs 301 121 [some (.ref 138), some (.int (i_n (4 * (48 * u + c) + s))), some (.int (i_n p)), some (.int (i_n q)), some (.int (i_n u2)), some (.int (i_n c2)), some (.int (i_n u)), some (.int (i_n c)), some (.int (i_bo (o_fr a m u2 c2 = true))), some (.int (i_bo (o_fr a m c2 u2 = true))), some (.int (i_n (o_ms s x y)))] [] h 0 0 Q := by
    intro x y hx hy
    subst hx; subst hy
    have m4 := ms4 (o_mA a p m c u2 c2) (o_mA a q m u c2 u2)
    generalize o_ms s (o_mA a p m c u2 c2) (o_mA a q m u c2 u2) = s2 at H m4 ⊢
    refine d301_121 r.1 ?_
    try simp (disch := omega) only [n_lit, n_m, n_add, n_mul, n_div, n_mod, n_cl, n_lt, n_le, n_eq, n_in, n_eqm, n_meq, n_mlt, n_ltm, n_mle, n_lem, not_true_eq_false, not_false_eq_true, true_implies, false_implies, true_and, and_true, Nat.not_lt_zero, Nat.zero_le]
    rw [show vp_nar .boolean (i_n 1) = i_bo (true = true) from by decide]
    have Fi : i_Fr [167] [] h (i_siI h 167 (4 * (48 * u2 + c2) + s2) (i_bo (true = true))) := i_Fr.refl.siI (by decide)
    have r3 : i_RA a (i_siI h 167 (4 * (48 * u2 + c2) + s2) (i_bo (true = true))) := r.fr r.1.siI Fi (by decide)
    refine ⟨by omega, d301_140 r3.1 (H _ r3 Fi (fun i hi => ?_))⟩
    rw [x_aI_siI r.1.a167, x_upd]
    unfold o_r1
    by_cases e : i = 4 * (48 * u2 + c2) + s2
    · rw [if_pos e]
      exact i_bo_iff (by simp [e])
    · rw [if_neg e, hG i hi]
      exact i_bo_iff (by simp [e])
  -- behind the first
  have mid : ∀ x, x = o_mA a p m c u2 c2 → i_P i_MT i_AT L xs 301 86 [some (.ref 138), some (.int (i_n (4 * (48 * u + c) + s))), some (.int (i_n p)), some (.int (i_n q)), some (.int (i_n u2)), some (.int (i_n c2)), some (.int (i_n u)), some (.int (i_n c)), some (.int (i_bo (o_fr a m u2 c2 = true))), some (.int (i_bo (o_fr a m c2 u2 = true))), some (.int (i_n (o_ms s x false)))] [] h 0 0 Q := by
    intro x hx
    have m4 := ms4 x false
    have no : o_mA a q m u c2 u2 = false → i_P i_MT i_AT L xs 301 121 [some (.ref 138), some (.int (i_n (4 * (48 * u + c) + s))), some (.int (i_n p)), some (.int (i_n q)), some (.int (i_n u2)), some (.int (i_n c2)), some (.int (i_n u)), some (.int (i_n c)), some (.int (i_bo (o_fr a m u2 c2 = true))), some (.int (i_bo (o_fr a m c2 u2 = true))), some (.int (i_n (o_ms s x false)))] [] h 0 0 Q := fun e => fin x false hx e.symm
    refine d301_86 r.1 ?_
    try simp (disch := omega) only [n_lit, n_m, i_bo01, j_cmpn, Classical.not_not, n_add, n_mul, n_div, n_mod, n_cl, n_lt, n_le, n_eq, n_in, n_eqm, n_meq, n_mlt, n_ltm, n_mle, n_lem, not_true_eq_false, not_false_eq_true, true_implies, false_implies, true_and, and_true, Nat.not_lt_zero, Nat.zero_le]
    refine ⟨fun e => no (by unfold o_mA; simp [e]), fun e => ⟨fun e2 => no (by unfold o_mA; rw [o_fr_sA, show o_fr a m c2 u2 = false by simpa using e2]; simp), fun e2 => c268 r hu2 hc2 ⟨_, rfl, d301_106 r.1 (c256 (w := 2) r (by omega) (by omega) ⟨_, rfl, d301_112 r.1 ?_⟩)⟩⟩⟩
    rw [show 154 + 5 * q + 2 = 156 + 5 * q by omega]
    have hp0 := r.2.1.pos hu
    have fl := o_far_lt (show 0 < a 0 by omega) hu2 hc2
    have eu : (u != u2) = true := by simp; omega
    try simp (disch := omega) only [n_lit, n_m, n_add, n_mul, n_div, n_mod, n_cl, n_lt, n_le, n_eq, n_in, n_eqm, n_meq, n_mlt, n_ltm, n_mle, n_lem, not_true_eq_false, not_false_eq_true, true_implies, false_implies, true_and, and_true, Nat.not_lt_zero, Nat.zero_le, n_or]
    refine ⟨fun e3 => no (by unfold o_mA; rw [o_fr_sA, o_far_sym, decide_eq_false (by omega)]; simp), fun e3 => ?_⟩
    have := fin x true hx (by unfold o_mA; rw [o_fr_sA, e2, eu, o_far_sym, decide_eq_true (by omega)]; rfl)
    rw [show o_ms s x true = o_ms s x false ||| 2 by unfold o_ms; simp] at this
    exact this
  refine e301 (d301_0 r.1 ?_)
  have e5 : 48 * u + c - u * 48 = c := by omega
  have e6 : 4 * (48 * u + c) + s - (48 * u + c) * 4 = s := by omega
  try simp (disch := omega) only [n_lit, n_m, i_bo01, j_cmpn, Classical.not_not, n_add, n_mul, n_div, n_mod, n_cl, n_lt, n_le, n_eq, n_in, n_eqm, n_meq, n_mlt, n_ltm, n_mle, n_lem, not_true_eq_false, not_false_eq_true, true_implies, false_implies, true_and, and_true, Nat.not_lt_zero, Nat.zero_le, T1, T2, e1, e2, n_sub, e5, e6]
  have no : o_mA a p m c u2 c2 = false → i_P i_MT i_AT L xs 301 86 [some (.ref 138), some (.int (i_n (4 * (48 * u + c) + s))), some (.int (i_n p)), some (.int (i_n q)), some (.int (i_n u2)), some (.int (i_n c2)), some (.int (i_n u)), some (.int (i_n c)), some (.int (i_bo (o_fr a m u2 c2 = true))), some (.int (i_bo (o_fr a m c2 u2 = true))), some (.int (i_n s))] [] h 0 0 Q := fun e => by
    have := mid false e.symm
    rw [show o_ms s false false = s by unfold o_ms; simp] at this
    exact this
  refine ⟨by omega, by omega, fun e => no (by unfold o_mA; simp [e]), fun e => ⟨fun e2 => no (by unfold o_mA; rw [o_fr_sA, show o_fr a m u2 c2 = false by simpa using e2]; simp), fun e2 => c268 r hu2 hc2 ⟨_, rfl, d301_71 r.1 (c256 (w := 2) r (by omega) (by omega) ⟨_, rfl, d301_77 r.1 ?_⟩)⟩⟩⟩
  rw [show 154 + 5 * p + 2 = 156 + 5 * p by omega]
  have hp0 := r.2.1.pos hu
  have fl := o_far_lt (show 0 < a 0 by omega) hu2 hc2
  have eu : (c != c2) = true := by simp; omega
  try simp (disch := omega) only [n_lit, n_m, n_add, n_mul, n_div, n_mod, n_cl, n_lt, n_le, n_eq, n_in, n_eqm, n_meq, n_mlt, n_ltm, n_mle, n_lem, not_true_eq_false, not_false_eq_true, true_implies, false_implies, true_and, and_true, Nat.not_lt_zero, Nat.zero_le, n_or]
  refine ⟨fun e3 => no (by unfold o_mA; rw [o_fr_sA, decide_eq_false (by omega)]; simp), fun e3 => ?_⟩
  have := mid true (by unfold o_mA; rw [o_fr_sA, e2, eu, decide_eq_true (by omega)]; rfl)
  rw [show o_ms s true false = s ||| 1 by unfold o_ms; simp] at this
  exact this
/-- the next places of one state -/
def o_m3 (a : Nat → Nat) (p q m s u c u2 : Nat) : Nat → (Nat → Bool) → Nat → Bool
  | 0, G => G
  | k + 1, G => if o_okm a c k = true then o_r1 (4 * (48 * u2 + k) + o_ms s (o_mA a p m c u2 k) (o_mA a q m u k u2)) (o_m3 a p q m s u c u2 k G) else o_m3 a p q m s u c u2 k G
def o_m4 (a : Nat → Nat) (p q m s u c : Nat) : Nat → (Nat → Bool) → Nat → Bool
  | 0, G => G
  | k + 1, G => if o_okm a u k = true then o_m3 a p q m s u c k (a 0 * a 1) (o_m4 a p q m s u c k G) else o_m4 a p q m s u c k G
theorem o_m3_t {p q m s u c u2 i : Nat} {G : Nat → Bool} : ∀ k, o_m3 a p q m s u c u2 k G i = true ↔ G i = true ∨ ∃ c2, c2 < k ∧ o_okm a c c2 = true ∧ i = 4 * (48 * u2 + c2) + o_ms s (o_mA a p m c u2 c2) (o_mA a q m u c2 u2)
  | 0 => ⟨Or.inl, fun z => z.elim id (fun ⟨c, q, _⟩ => absurd q (Nat.not_lt_zero _))⟩
  | k + 1 => by
    have ih := o_m3_t (p := p) (q := q) (m := m) (s := s) (u := u) (c := c) (u2 := u2) (i := i) (G := G) k
    rw [o_m3]
    by_cases e : o_okm a c k = true
    · rw [if_pos e]
      unfold o_r1
      rw [Bool.or_eq_true, ih, beq_iff_eq]
      constructor
      · rintro ((z | ⟨c2, h1, h2⟩) | z)
        · exact Or.inl z
        · exact Or.inr ⟨c2, by omega, h2⟩
        · exact Or.inr ⟨k, by omega, e, z⟩
      · rintro (z | ⟨c2, h1, h2, h3⟩)
        · exact Or.inl (Or.inl z)
        · by_cases ec : c2 = k
          · subst ec; exact Or.inr h3
          · exact Or.inl (Or.inr ⟨c2, by omega, h2, h3⟩)
    · rw [if_neg e, ih]
      constructor
      · rintro (z | ⟨c2, h1, h2⟩)
        · exact Or.inl z
        · exact Or.inr ⟨c2, by omega, h2⟩
      · rintro (z | ⟨c2, h1, h2, h3⟩)
        · exact Or.inl z
        · by_cases ec : c2 = k
          · subst ec; exact absurd h2 e
          · exact Or.inr ⟨c2, by omega, h2, h3⟩
theorem o_m4_t {p q m s u c i : Nat} {G : Nat → Bool} : ∀ k, o_m4 a p q m s u c k G i = true ↔ G i = true ∨ ∃ u2 c2, u2 < k ∧ c2 < a 0 * a 1 ∧ o_okm a u u2 = true ∧ o_okm a c c2 = true ∧ i = 4 * (48 * u2 + c2) + o_ms s (o_mA a p m c u2 c2) (o_mA a q m u c2 u2)
  | 0 => ⟨Or.inl, fun z => z.elim id (fun ⟨c, _, q, _⟩ => absurd q (Nat.not_lt_zero _))⟩
  | k + 1 => by
    have ih := o_m4_t (p := p) (q := q) (m := m) (s := s) (u := u) (c := c) (i := i) (G := G) k
    rw [o_m4]
    by_cases e : o_okm a u k = true
    · rw [if_pos e, o_m3_t, ih]
      constructor
      · rintro ((z | ⟨u2, c2, h1, h2⟩) | ⟨c2, h1, h2, h3⟩)
        · exact Or.inl z
        · exact Or.inr ⟨u2, c2, by omega, h2⟩
        · exact Or.inr ⟨k, c2, by omega, h1, e, h2, h3⟩
      · rintro (z | ⟨u2, c2, h1, h2, h3, h4⟩)
        · exact Or.inl (Or.inl z)
        · by_cases ec : u2 = k
          · subst ec; exact Or.inr ⟨c2, h2, h4⟩
          · exact Or.inl (Or.inr ⟨u2, c2, by omega, h2, h3, h4⟩)
    · rw [if_neg e, ih]
      constructor
      · rintro (z | ⟨u2, c2, h1, h2⟩)
        · exact Or.inl z
        · exact Or.inr ⟨u2, c2, by omega, h2⟩
      · rintro (z | ⟨u2, c2, h1, h2, h3, h4⟩)
        · exact Or.inl z
        · by_cases ec : u2 = k
          · subst ec; exact absurd h3 e
          · exact Or.inr ⟨u2, c2, by omega, h2, h3, h4⟩
set_option maxHeartbeats 1000000 in
theorem c304 (r : i_RA a h) {p q m s u c : Nat} {G : Nat → Bool} (hp : p < a 5) (hq : q < a 5) (hs : s < 4) (hu : u < a 0 * a 1) (hc : c < a 0 * a 1) (hT : o_ftb a h m) (hG : o_ri a h 167 G) (H : ∀ h2, i_RA a h2 → i_Fr [167] [] h h2 → o_ri a h2 167 (o_m4 a p q m s u c (a 0 * a 1) G) → Q none h2) : i_C i_MT i_AT L xs 304 [.ref 138, .int (i_n (4 * (48 * u + c) + s)), .int (i_n p), .int (i_n q)] h Q := by
  have h48 := r.2.1.c48
  have e1 : (4 * (48 * u + c) + s) / 4 = 48 * u + c := by omega
  have e2 : (48 * u + c) / 48 = u := by omega
  have e3 : 48 * u + c - u * 48 = c := by omega
  have kT : ∀ {h3 h4 : iH}, i_Fr [167] [] h3 h4 → o_ftb a h3 m → o_ftb a h4 m := fun f z => by unfold o_ftb; rw [f.rI (by decide)]; exact z
  have key : ∀ k, k ≤ a 0 * a 1 → ∀ h1, i_RA a h1 → i_Fr [167] [] h h1 → o_ftb a h1 m → o_ri a h1 167 (o_m4 a p q m s u c k G) → ∀ (y5 : Option Value), i_P i_MT i_AT L xs 304 3 [some (.ref 138), some (.int (i_n (4 * (48 * u + c) + s))), some (.int (i_n p)), some (.int (i_n q)), some (.int (i_n k)), y5] [] h1 0 0 Q := by
    refine l_up ?_ ?_
    · intro h1 r1 f1 _ G1 y5
      refine d304_3 r1.1 (c248 r1 ⟨_, rfl, d304_9 r1.1 ?_⟩)
      try simp (disch := omega) only [n_lit, n_m, n_add, n_mul, n_div, n_mod, n_cl, n_lt, n_le, n_eq, n_in, n_eqm, n_meq, n_mlt, n_ltm, n_mle, n_lem, not_true_eq_false, not_false_eq_true, true_implies, false_implies, true_and, and_true, Nat.not_lt_zero, Nat.zero_le, Nat.le_refl]
      exact H h1 r1 f1 G1
    · intro k hk ih h1 r1 f1 T1 G1 y5
      rw [o_m4] at ih
      have nx : ∀ h2, i_RA a h2 → i_Fr [167] [] h h2 → o_ftb a h2 m → o_ri a h2 167 (if o_okm a u k = true then o_m3 a p q m s u c k (a 0 * a 1) (o_m4 a p q m s u c k G) else o_m4 a p q m s u c k G) → ∀ (y5 : Option Value), i_P i_MT i_AT L xs 304 74 [some (.ref 138), some (.int (i_n (4 * (48 * u + c) + s))), some (.int (i_n p)), some (.int (i_n q)), some (.int (i_n k)), y5] [] h2 0 0 Q := by
        intro h2 r2 f2 T2 G2 y5
        refine d304_74 r2.1 ?_
        try simp (disch := omega) only [n_lit, n_m, n_add, n_mul, n_div, n_mod, n_cl, n_lt, n_le, n_eq, n_in, n_eqm, n_meq, n_mlt, n_ltm, n_mle, n_lem, not_true_eq_false, not_false_eq_true, true_implies, false_implies, true_and, and_true, Nat.not_lt_zero, Nat.zero_le]
        exact ih h2 r2 f2 T2 G2 _
      refine d304_3 r1.1 (c248 r1 ⟨_, rfl, d304_9 r1.1 ?_⟩)
      try simp (disch := omega) only [n_lit, n_m, n_add, n_mul, n_div, n_mod, n_cl, n_lt, n_le, n_eq, n_in, n_eqm, n_meq, n_mlt, n_ltm, n_mle, n_lem, not_true_eq_false, not_false_eq_true, true_implies, false_implies, true_and, and_true, Nat.not_lt_zero, Nat.zero_le, e1, e2, n_sub, e3]
      refine ⟨fun e => by omega, fun _ => c302 r1 hu hk ⟨_, rfl, d304_24 r1.1 ?_⟩⟩
      rw [i_bo_0, Classical.not_not]
      refine ⟨fun e => ?_, fun e => nx h1 r1 f1 T1 (by rw [if_neg e]; exact G1) _⟩
      rw [if_pos e] at nx
      have row : ∀ j, j ≤ a 0 * a 1 → ∀ h2, i_RA a h2 → i_Fr [167] [] h h2 → o_ftb a h2 m → o_ri a h2 167 (o_m3 a p q m s u c k j (o_m4 a p q m s u c k G)) → i_P i_MT i_AT L xs 304 33 [some (.ref 138), some (.int (i_n (4 * (48 * u + c) + s))), some (.int (i_n p)), some (.int (i_n q)), some (.int (i_n k)), some (.int (i_n j))] [] h2 0 0 Q := by
        refine l_up ?_ ?_
        · intro h2 r2 f2 T2 G2
          refine d304_33 r2.1 (c248 r2 ⟨_, rfl, d304_39 r2.1 ?_⟩)
          try simp (disch := omega) only [n_lit, n_m, n_add, n_mul, n_div, n_mod, n_cl, n_lt, n_le, n_eq, n_in, n_eqm, n_meq, n_mlt, n_ltm, n_mle, n_lem, not_true_eq_false, not_false_eq_true, true_implies, false_implies, true_and, and_true, Nat.not_lt_zero, Nat.zero_le, Nat.le_refl]
          exact nx h2 r2 f2 T2 G2 _
        · intro j hj ih2 h2 r2 f2 T2 G2
          rw [o_m3] at ih2
          have nx2 : ∀ h3, i_RA a h3 → i_Fr [167] [] h h3 → o_ftb a h3 m → o_ri a h3 167 (if o_okm a c j = true then o_r1 (4 * (48 * k + j) + o_ms s (o_mA a p m c k j) (o_mA a q m u j k)) (o_m3 a p q m s u c k j (o_m4 a p q m s u c k G)) else o_m3 a p q m s u c k j (o_m4 a p q m s u c k G)) → i_P i_MT i_AT L xs 304 68 [some (.ref 138), some (.int (i_n (4 * (48 * u + c) + s))), some (.int (i_n p)), some (.int (i_n q)), some (.int (i_n k)), some (.int (i_n j))] [] h3 0 0 Q := by
            intro h3 r3 f3 T3 G3
            refine d304_68 r3.1 ?_
            try simp (disch := omega) only [n_lit, n_m, n_add, n_mul, n_div, n_mod, n_cl, n_lt, n_le, n_eq, n_in, n_eqm, n_meq, n_mlt, n_ltm, n_mle, n_lem, not_true_eq_false, not_false_eq_true, true_implies, false_implies, true_and, and_true, Nat.not_lt_zero, Nat.zero_le]
            exact ih2 h3 r3 f3 T3 G3
          refine d304_33 r2.1 (c248 r2 ⟨_, rfl, d304_39 r2.1 ?_⟩)
          try simp (disch := omega) only [n_lit, n_m, n_add, n_mul, n_div, n_mod, n_cl, n_lt, n_le, n_eq, n_in, n_eqm, n_meq, n_mlt, n_ltm, n_mle, n_lem, not_true_eq_false, not_false_eq_true, true_implies, false_implies, true_and, and_true, Nat.not_lt_zero, Nat.zero_le, e1, e2, n_sub, e3]
          refine ⟨fun e => by omega, fun _ => c302 r2 hc hj ⟨_, rfl, d304_54 r2.1 ?_⟩⟩
          rw [i_bo_0, Classical.not_not]
          refine ⟨fun e5 => nx2 h2 r2 f2 T2 (by rw [if_neg e5]; exact G2), fun e5 => c301 r2 hp hq hs hu hc hk hj T2 G2 (fun h3 r3 f3 G3 => ⟨rfl, nx2 h3 r3 (f2.trans f3) (kT f3 T2) (by rw [if_pos e5]; exact G3)⟩)⟩
      try simp (disch := omega) only [n_lit, n_m, n_add, n_mul, n_div, n_mod, n_cl, n_lt, n_le, n_eq, n_in, n_eqm, n_meq, n_mlt, n_ltm, n_mle, n_lem, not_true_eq_false, not_false_eq_true, true_implies, false_implies, true_and, and_true, Nat.not_lt_zero, Nat.zero_le]
      exact row 0 (Nat.zero_le _) h1 r1 f1 T1 G1
  refine e304 (d304_0 r.1 ?_)
  try simp (disch := omega) only [n_lit, n_m, n_add, n_mul, n_div, n_mod, n_cl, n_lt, n_le, n_eq, n_in, n_eqm, n_meq, n_mlt, n_ltm, n_mle, n_lem, not_true_eq_false, not_false_eq_true, true_implies, false_implies, true_and, and_true, Nat.not_lt_zero, Nat.zero_le]
  exact key 0 (Nat.zero_le _) h r i_Fr.refl hT hG _
/-- one row of all states -/
def o_mi (a : Nat → Nat) (p q m : Nat) (i : Nat) : Bool := decide (i / 4 / 48 < a 0 * a 1 ∧ i / 4 % 48 < a 0 * a 1) && o_mt a p q m (i % 4) (i / 4 / 48) (i / 4 % 48)
def o_m5 (a : Nat → Nat) (p q m : Nat) (F : Nat → Bool) : Nat → Nat → Bool
  | 0 => fun _ => false
  | k + 1 => if F k = true then o_m4 a p q m (k % 4) (k / 4 / 48) (k / 4 % 48) (a 0 * a 1) (o_m5 a p q m F k) else o_m5 a p q m F k
theorem o_m5_t {p q m i : Nat} {F : Nat → Bool} : ∀ k, o_m5 a p q m F k i = true ↔ ∃ j u2 c2, j < k ∧ F j = true ∧ u2 < a 0 * a 1 ∧ c2 < a 0 * a 1 ∧ o_okm a (j / 4 / 48) u2 = true ∧ o_okm a (j / 4 % 48) c2 = true ∧ i = 4 * (48 * u2 + c2) + o_ms (j % 4) (o_mA a p m (j / 4 % 48) u2 c2) (o_mA a q m (j / 4 / 48) c2 u2)
  | 0 => ⟨fun z => (by rw [o_m5] at z; cases z), fun ⟨j, _, _, z, _⟩ => absurd z (Nat.not_lt_zero j)⟩
  | k + 1 => by
    have ih := o_m5_t (p := p) (q := q) (m := m) (i := i) (F := F) k
    rw [o_m5]
    by_cases e : F k = true
    · rw [if_pos e, o_m4_t, ih]
      constructor
      · rintro (⟨j, u2, c2, h1, h2⟩ | ⟨u2, c2, h2⟩)
        · exact ⟨j, u2, c2, by omega, h2⟩
        · exact ⟨k, u2, c2, by omega, e, h2⟩
      · rintro ⟨j, u2, c2, h1, h2, h3⟩
        by_cases ej : j = k
        · subst ej; exact Or.inr ⟨u2, c2, h3⟩
        · exact Or.inl ⟨j, u2, c2, by omega, h2, h3⟩
    · rw [if_neg e, ih]
      constructor
      · rintro ⟨j, u2, c2, h1, h2⟩; exact ⟨j, u2, c2, by omega, h2⟩
      · rintro ⟨j, u2, c2, h1, h2, h3⟩
        by_cases ej : j = k
        · subst ej; exact absurd h2 e
        · exact ⟨j, u2, c2, by omega, h2, h3⟩
theorem o_ms4 {s : Nat} (hs : s < 4) (x y : Bool) : o_ms s x y < 4 := by
  have : s = 0 ∨ s = 1 ∨ s = 2 ∨ s = 3 := by omega
  rcases this with rfl | rfl | rfl | rfl <;> cases x <;> cases y <;> decide
theorem o_m5_s (w : o_WF a) {p q m i : Nat} (hi : i < 9216) : o_m5 a p q (m + 1) (o_mi a p q m) 9216 i = o_mi a p q (m + 1) i := by
  have h48 := w.c48
  rw [Bool.eq_iff_iff, o_m5_t]
  unfold o_mi
  rw [Bool.and_eq_true, decide_eq_true_eq]
  constructor
  · rintro ⟨j, u2, c2, h1, h2, h3, h4, h5, h6, h7⟩
    rw [Bool.and_eq_true, decide_eq_true_eq] at h2
    have m4 := o_ms4 (s := j % 4) (by omega) (o_mA a p (m + 1) (j / 4 % 48) u2 c2) (o_mA a q (m + 1) (j / 4 / 48) c2 u2)
    obtain ⟨e1, e2, e3⟩ : i / 4 / 48 = u2 ∧ i / 4 % 48 = c2 ∧ i % 4 = o_ms (j % 4) (o_mA a p (m + 1) (j / 4 % 48) u2 c2) (o_mA a q (m + 1) (j / 4 / 48) c2 u2) := by omega
    rw [e1, e2, e3]
    refine ⟨⟨h3, h4⟩, (o_mt_t h3 h4).mpr ⟨_, _, _, ?_, h2.1.1, h2.1.2, h2.2, h5, h6, rfl⟩⟩
    omega
  · rintro ⟨⟨h1, h2⟩, h3⟩
    obtain ⟨s, u, c, k1, k2, k3, k4, k5, k6, k7⟩ := (o_mt_t h1 h2).mp h3
    have e1 : (4 * (48 * u + c) + s) / 4 / 48 = u := by omega
    have e2 : (4 * (48 * u + c) + s) / 4 % 48 = c := by omega
    have e3 : (4 * (48 * u + c) + s) % 4 = s := by omega
    refine ⟨4 * (48 * u + c) + s, i / 4 / 48, i / 4 % 48, by omega, ?_, h1, h2, ?_, ?_, ?_⟩
    · rw [e1, e2, e3, Bool.and_eq_true, decide_eq_true_eq]; exact ⟨⟨k2, k3⟩, k4⟩
    · rw [e1]; exact k5
    · rw [e2]; exact k6
    · rw [e1, e2, e3, ← k7]; omega
/-- some state in which both have seen -/
def o_mz (F : Nat → Bool) (k : Nat) : Bool := o_or (fun i => i % 4 == 3 && F i) k
theorem o_mz_3 (w : o_WF a) {p q m : Nat} : o_mz (o_mi a p q m) 9216 = o_mt3 a p q m := by
  have h48 := w.c48
  unfold o_mz o_mt3
  rw [Bool.eq_iff_iff, o_or_t, o_or_t]
  simp only [o_or_t]
  unfold o_mi
  constructor
  · rintro ⟨i, h1, h2⟩
    rw [Bool.and_eq_true, beq_iff_eq, Bool.and_eq_true, decide_eq_true_eq] at h2
    exact ⟨i / 4 / 48, h2.2.1.1, i / 4 % 48, h2.2.1.2, by rw [← h2.1]; exact h2.2.2⟩
  · rintro ⟨u, h1, c, h2, h3⟩
    refine ⟨4 * (48 * u + c) + 3, by omega, ?_⟩
    rw [Bool.and_eq_true, beq_iff_eq, Bool.and_eq_true, decide_eq_true_eq]
    have e1 : (4 * (48 * u + c) + 3) / 4 / 48 = u := by omega
    have e2 : (4 * (48 * u + c) + 3) / 4 % 48 = c := by omega
    have e3 : (4 * (48 * u + c) + 3) % 4 = 3 := by omega
    rw [e1, e2, e3]
    exact ⟨rfl, ⟨h1, h2⟩, h3⟩
set_option maxHeartbeats 2000000 in
theorem c303 (r : i_RA a h) {x y : Int32} (H : i_RS a h Q (o_mtA a x y)) : i_C i_MT i_AT L xs 303 [.ref 138, .int x, .int y] h Q := by
  have h5 := r.2.1.2.2.2.2.1
  have h48 := r.2.1.c48
  unfold o_mtA at H
  refine e303 (d303_0 r.1 (c277 r ⟨_, rfl, d303_6 r.1 ?_⟩))
  rw [i_bo_0, Classical.not_not]
  refine ⟨fun z => ?_, fun z => by
    rw [o_A6_f z] at H
    exact m201 r (fun h2 g2 f2 s2 => ⟨_, rfl, d303_14 g2.1 (H h2 g2 f2.s s2)⟩)⟩
  have H := H.a6 (show v_2 a x y from z)
  obtain ⟨p, hp, rfl⟩ := n_get z.1 (by omega)
  obtain ⟨q, hq, rfl⟩ := n_get z.2.1 (by omega)
  rw [n_cl (by omega), n_cl (by omega)] at H
  have hst := r.st hp
  have hsq := r.st hq
  have rfr : ∀ h2, i_Lay h2 → i_Fr [166, 167, 168] [] h h2 → i_RA a h2 := fun h2 hL2 f => r.fr hL2 f (by decide)
  have sA : ∀ h1, i_RA a h1 → aI h1 139 (154 + 5 * p) = i_n (a (154 + 5 * p)) := fun h1 r1 => r1.2.2.1 _ (by omega)
  have sB : ∀ h1, i_RA a h1 → aI h1 139 (154 + 5 * q) = i_n (a (154 + 5 * q)) := fun h1 r1 => r1.2.2.1 _ (by omega)
  have key : ∀ k, k ≤ 31 → 1 ≤ k → ∀ h1, o_ri a h1 166 (o_mi a p q (k - 1)) → (∀ j, 1 ≤ j → j < k → o_mt3 a p q j = false) → i_RA a h1 → i_Fr [166, 167, 168] [] h h1 → ∀ (y4 y5 : Option Value), i_P i_MT i_AT L xs 303 75 [some (.ref 138), some (.int (i_n p)), some (.int (i_n q)), some (.int (i_n k)), y4, y5] [] h1 0 0 Q := by
    refine l_up ?_ ?_
    · intro _ h1 _ hno r1 f1 y4 y5
      refine d303_75 r1.1 ?_
      try simp (disch := omega) only [n_lit, n_m, n_add, n_mul, n_div, n_mod, n_cl, n_lt, n_le, n_eq, n_in, n_eqm, n_meq, n_mlt, n_ltm, n_mle, n_lem, not_true_eq_false, not_false_eq_true, true_implies, false_implies, true_and, and_true, Nat.not_lt_zero, Nat.zero_le]
      refine ⟨fun _ => m201 r1 (fun h2 g2 f2 s2 => ⟨_, rfl, d303_233 g2.1 ?_⟩), fun e => absurd (by omega) e⟩
      exact H.2 (o_lst_n 30 1 (fun j h1 h2 => hno j h1 (by omega))) h2 g2 ((f1.mono (by decide) (by decide)).trans f2.s) s2
    · intro k hk ih hk1 h1 hF hno r1 f1 y4 y5
      refine d303_75 r1.1 ?_
      try simp (disch := omega) only [n_lit, n_m, n_add, n_mul, n_div, n_mod, n_cl, n_lt, n_le, n_eq, n_in, n_eqm, n_meq, n_mlt, n_ltm, n_mle, n_lem, not_true_eq_false, not_false_eq_true, true_implies, false_implies, true_and, and_true, Nat.not_lt_zero, Nat.zero_le]
      refine ⟨fun e => by omega, fun _ => c300 r1 (by omega) (fun h2 r2 f2 T2 => ⟨rfl, d303_86 r2.1 ?_⟩)⟩
      try simp (disch := omega) only [n_lit, n_m, n_add, n_mul, n_div, n_mod, n_cl, n_lt, n_le, n_eq, n_in, n_eqm, n_meq, n_mlt, n_ltm, n_mle, n_lem, not_true_eq_false, not_false_eq_true, true_implies, false_implies, true_and, and_true, Nat.not_lt_zero, Nat.zero_le]
      have hF2 : o_ri a h2 166 (o_mi a p q (k - 1)) := by unfold o_ri; rw [f2.rI (by decide)]; exact hF
      have F2 := f1.trans (f2.mono (B := [166, 167, 168]) (G := []) (by decide) (fun _ z => z))
      have F7 : ∀ {h3 h4 : iH}, i_Fr [167] [] h3 h4 → i_Fr [166, 167, 168] [] h3 h4 := fun f => f.mono (by decide) (fun _ z => z)
      have F6 : ∀ {h3 h4 : iH}, i_Fr [166] [] h3 h4 → i_Fr [166, 167, 168] [] h3 h4 := fun f => f.mono (by decide) (fun _ z => z)
      have eK : k - 1 + 1 = k := by omega
      -- the copy
      have copy : ∀ j, j ≤ 9216 → ∀ h3, o_ri a h3 167 (o_mi a p q k) → (∀ i, i < j → aI h3 166 i = i_bo (o_mi a p q k i = true)) → i_RA a h3 → i_Fr [166, 167, 168] [] h h3 → i_P i_MT i_AT L xs 303 152 [some (.ref 138), some (.int (i_n p)), some (.int (i_n q)), some (.int (i_n k)), some (.int (i_bo (o_mz (o_mi a p q k) j = true))), some (.int (i_n j))] [] h3 0 0 Q := by
        refine l_up ?_ ?_
        · intro h3 h167 h166 r3 f3
          refine d303_152 r3.1 ?_
          try simp (disch := omega) only [n_lit, n_m, n_add, n_mul, n_div, n_mod, n_cl, n_lt, n_le, n_eq, n_in, n_eqm, n_meq, n_mlt, n_ltm, n_mle, n_lem, not_true_eq_false, not_false_eq_true, true_implies, false_implies, true_and, and_true, Nat.not_lt_zero, Nat.zero_le, Nat.le_refl]
          rw [o_mz_3 r3.2.1]
          try simp (disch := omega) only [n_lit, n_m, i_bo01, j_cmpn, Classical.not_not, n_add, n_mul, n_div, n_mod, n_cl, n_lt, n_le, n_eq, n_in, n_eqm, n_meq, n_mlt, n_ltm, n_mle, n_lem, not_true_eq_false, not_false_eq_true, true_implies, false_implies, true_and, and_true, Nat.not_lt_zero, Nat.zero_le]
          refine ⟨fun e => ih (by omega) h3 (by rw [show k + 1 - 1 = k by omega]; exact h166) (fun j hj1 hj => ?_) r3 f3 _ _, fun e => m202 r3 (fun h4 g4 f4 s4 => ⟨_, rfl, d303_220 g4.1 ?_⟩)⟩
          · by_cases ej : j = k
            · subst ej; simpa using e
            · exact hno j hj1 (by omega)
          · exact H.1 k (o_lst_s (P := o_mt3 a p q) (j := k) e 30 1 (by omega) (by omega) (fun j h1 hj => hno j h1 hj)) h4 g4 ((f3.mono (by decide) (by decide)).trans f4.s) s4
        · intro j hj ih2 h3 h167 h166 r3 f3
          refine d303_152 r3.1 ?_
          have e167 := h167 j hj
          try simp (disch := omega) only [n_lit, n_m, n_add, n_mul, n_div, n_mod, n_cl, n_lt, n_le, n_eq, n_in, n_eqm, n_meq, n_mlt, n_ltm, n_mle, n_lem, not_true_eq_false, not_false_eq_true, true_implies, false_implies, true_and, and_true, Nat.not_lt_zero, Nat.zero_le, e167, n_bob]
          have Fi : i_Fr [166] [] h3 (i_siI h3 166 j (i_bo (o_mi a p q k j = true))) := i_Fr.refl.siI (by decide)
          have f4 := f3.trans (F6 Fi)
          have r4 := rfr _ r3.1.siI f4
          have e166 : aI (i_siI h3 166 j (i_bo (o_mi a p q k j = true))) 166 j = i_bo (o_mi a p q k j = true) := by rw [x_aI_siI r3.1.a166, x_upd, if_pos rfl]
          have s167 : o_ri a (i_siI h3 166 j (i_bo (o_mi a p q k j = true))) 167 (o_mi a p q k) := by unfold o_ri; rw [Fi.rI (by decide)]; exact h167
          have s166 : ∀ i, i < j + 1 → aI (i_siI h3 166 j (i_bo (o_mi a p q k j = true))) 166 i = i_bo (o_mi a p q k i = true) := fun i hi => by
            rw [x_aI_siI r3.1.a166, x_upd]
            by_cases e : i = j
            · rw [if_pos e, e]
            · rw [if_neg e]; exact h166 i (by omega)
          refine ⟨fun e => by omega, fun _ => ⟨by omega, by omega, ?_⟩⟩
          generalize i_siI h3 166 j (i_bo (o_mi a p q k j = true)) = h4 at f4 r4 e166 s167 s166 ⊢
          have nx : ∀ b : Bool, b = o_mz (o_mi a p q k) (j + 1) → i_P i_MT i_AT L xs 303 202 [some (.ref 138), some (.int (i_n p)), some (.int (i_n q)), some (.int (i_n k)), some (.int (i_bo (o_mz (o_mi a p q k) j = true))), some (.int (i_n j))] [.int (i_bo (b = true))] h4 0 0 Q := by
            intro b hb
            refine d303_202 r4.1 ?_
            try simp (disch := omega) only [n_lit, n_m, n_add, n_mul, n_div, n_mod, n_cl, n_lt, n_le, n_eq, n_in, n_eqm, n_meq, n_mlt, n_ltm, n_mle, n_lem, not_true_eq_false, not_false_eq_true, true_implies, false_implies, true_and, and_true, Nat.not_lt_zero, Nat.zero_le]
            rw [hb]
            exact ih2 h4 s167 s166 r4 f4
          have st : o_mz (o_mi a p q k) (j + 1) = (o_mz (o_mi a p q k) j || (j % 4 == 3 && o_mi a p q k j)) := by unfold o_mz; rw [o_or]
          rw [st] at nx
          have yes : (o_mz (o_mi a p q k) j || (j % 4 == 3 && o_mi a p q k j)) = true → i_P i_MT i_AT L xs 303 197 [some (.ref 138), some (.int (i_n p)), some (.int (i_n q)), some (.int (i_n k)), some (.int (i_bo (o_mz (o_mi a p q k) j = true))), some (.int (i_n j))] [] h4 0 0 Q := fun e => d303_197 r4.1 (nx true e.symm)
          have no : (o_mz (o_mi a p q k) j || (j % 4 == 3 && o_mi a p q k j)) = false → i_P i_MT i_AT L xs 303 201 [some (.ref 138), some (.int (i_n p)), some (.int (i_n q)), some (.int (i_n k)), some (.int (i_bo (o_mz (o_mi a p q k) j = true))), some (.int (i_n j))] [] h4 0 0 Q := fun e => d303_201 r4.1 (nx false e.symm)
          refine d303_174 r4.1 ?_
          rw [i_bo_0]
          try simp (disch := omega) only [n_lit, n_m, n_add, n_mul, n_div, n_mod, n_cl, n_lt, n_le, n_eq, n_in, n_eqm, n_meq, n_mlt, n_ltm, n_mle, n_lem, not_true_eq_false, not_false_eq_true, true_implies, false_implies, true_and, and_true, Nat.not_lt_zero, Nat.zero_le, e166]
          rw [Classical.not_not]
          refine ⟨fun e => yes (by rw [e]; rfl), fun e => ⟨fun e2 => no ?_, fun e2 => ⟨by omega, fun e3 => no ?_, fun e3 => yes ?_⟩⟩⟩
          · rw [show o_mz (o_mi a p q k) j = false by simpa using e, show (j % 4 == 3) = false by simpa using e2]; rfl
          · try simp (disch := omega) only [n_lit, n_m, i_bo01, j_cmpn, Classical.not_not, n_add, n_mul, n_div, n_mod, n_cl, n_lt, n_le, n_eq, n_in, n_eqm, n_meq, n_mlt, n_ltm, n_mle, n_lem, not_true_eq_false, not_false_eq_true, true_implies, false_implies, true_and, and_true, Nat.not_lt_zero, Nat.zero_le] at e3
            rw [show o_mz (o_mi a p q k) j = false by simpa using e, show o_mi a p q k j = false by simpa using e3]; simp
          · try simp (disch := omega) only [n_lit, n_m, i_bo01, j_cmpn, Classical.not_not, n_add, n_mul, n_div, n_mod, n_cl, n_lt, n_le, n_eq, n_in, n_eqm, n_meq, n_mlt, n_ltm, n_mle, n_lem, not_true_eq_false, not_false_eq_true, true_implies, false_implies, true_and, and_true, Nat.not_lt_zero, Nat.zero_le] at e3
            rw [e3, show (j % 4 == 3) = true by simpa using e2]; simp
      -- the states
      have step : ∀ i, i ≤ 9216 → ∀ h3, o_ri a h3 166 (o_mi a p q (k - 1)) → o_ri a h3 167 (o_m5 a p q k (o_mi a p q (k - 1)) i) → o_ftb a h3 k → i_RA a h3 → i_Fr [166, 167, 168] [] h h3 → ∀ (y5 : Option Value), i_P i_MT i_AT L xs 303 114 [some (.ref 138), some (.int (i_n p)), some (.int (i_n q)), some (.int (i_n k)), some (.int (i_n i)), y5] [] h3 0 0 Q := by
        refine l_up ?_ ?_
        · intro h3 hF3 hG3 T3 r3 f3 y5
          refine d303_114 r3.1 ?_
          try simp (disch := omega) only [n_lit, n_m, n_add, n_mul, n_div, n_mod, n_cl, n_lt, n_le, n_eq, n_in, n_eqm, n_meq, n_mlt, n_ltm, n_mle, n_lem, not_true_eq_false, not_false_eq_true, true_implies, false_implies, true_and, and_true, Nat.not_lt_zero, Nat.zero_le, Nat.le_refl]
          exact copy 0 (by omega) h3 (fun i hi => by
            have e := o_m5_s r3.2.1 (p := p) (q := q) (m := k - 1) hi
            rw [eK] at e
            rw [hG3 i hi, e]) (fun i hi => absurd hi (Nat.not_lt_zero i)) r3 f3
        · intro i hi ih2 h3 hF3 hG3 T3 r3 f3 y5
          rw [o_m5] at ih2
          have nx : ∀ h4, o_ri a h4 166 (o_mi a p q (k - 1)) → o_ri a h4 167 (if o_mi a p q (k - 1) i = true then o_m4 a p q k (i % 4) (i / 4 / 48) (i / 4 % 48) (a 0 * a 1) (o_m5 a p q k (o_mi a p q (k - 1)) i) else o_m5 a p q k (o_mi a p q (k - 1)) i) → o_ftb a h4 k → i_RA a h4 → i_Fr [166, 167, 168] [] h h4 → ∀ (y5 : Option Value), i_P i_MT i_AT L xs 303 140 [some (.ref 138), some (.int (i_n p)), some (.int (i_n q)), some (.int (i_n k)), some (.int (i_n i)), y5] [] h4 0 0 Q := by
            intro h4 hF4 hG4 T4 r4 f4 y5
            refine d303_140 r4.1 ?_
            try simp (disch := omega) only [n_lit, n_m, n_add, n_mul, n_div, n_mod, n_cl, n_lt, n_le, n_eq, n_in, n_eqm, n_meq, n_mlt, n_ltm, n_mle, n_lem, not_true_eq_false, not_false_eq_true, true_implies, false_implies, true_and, and_true, Nat.not_lt_zero, Nat.zero_le]
            exact ih2 h4 hF4 hG4 T4 r4 f4 _
          have e166 := hF3 i hi
          refine d303_114 r3.1 ?_
          try simp (disch := omega) only [n_lit, n_m, i_bo01, j_cmpn, Classical.not_not, n_add, n_mul, n_div, n_mod, n_cl, n_lt, n_le, n_eq, n_in, n_eqm, n_meq, n_mlt, n_ltm, n_mle, n_lem, not_true_eq_false, not_false_eq_true, true_implies, false_implies, true_and, and_true, Nat.not_lt_zero, Nat.zero_le, e166]
          refine ⟨fun e => by omega, fun _ => ⟨by omega, fun e => nx h3 hF3 (by rw [if_neg e]; exact hG3) T3 r3 f3 _, fun e => ?_⟩⟩
          rw [if_pos e] at nx
          have e5 := e
          unfold o_mi at e5
          rw [Bool.and_eq_true, decide_eq_true_eq] at e5
          have ei : 4 * (48 * (i / 4 / 48) + i / 4 % 48) + i % 4 = i := by omega
          have := c304 (L := L) (xs := xs) (Q := fun v h1 => v = none ∧ i_P i_MT i_AT L xs 303 140 [some (.ref 138), some (.int (i_n p)), some (.int (i_n q)), some (.int (i_n k)), some (.int (i_n i)), y5] [] h1 0 0 Q) r3 hp hq (m := k) (s := i % 4) (u := i / 4 / 48) (c := i / 4 % 48) (by omega) e5.1.1 e5.1.2 T3 hG3 (fun h4 r4 f4 G4 => ⟨rfl, nx h4 (by unfold o_ri; rw [f4.rI (by decide)]; exact hF3) G4 (by unfold o_ftb; rw [f4.rI (by decide)]; exact T3) r4 (f3.trans (F7 f4)) _⟩)
          rw [ei] at this
          exact this
      -- the next, cleared
      have clr : ∀ j, j ≤ 9216 → ∀ h3, o_ri a h3 166 (o_mi a p q (k - 1)) → (∀ i, i < j → aI h3 167 i = i_bo (false = true)) → o_ftb a h3 k → i_RA a h3 → i_Fr [166, 167, 168] [] h h3 → ∀ (y5 : Option Value), i_P i_MT i_AT L xs 303 89 [some (.ref 138), some (.int (i_n p)), some (.int (i_n q)), some (.int (i_n k)), some (.int (i_n j)), y5] [] h3 0 0 Q := by
        refine l_up ?_ ?_
        · intro h3 hF3 hz T3 r3 f3 y5
          refine d303_89 r3.1 ?_
          try simp (disch := omega) only [n_lit, n_m, n_add, n_mul, n_div, n_mod, n_cl, n_lt, n_le, n_eq, n_in, n_eqm, n_meq, n_mlt, n_ltm, n_mle, n_lem, not_true_eq_false, not_false_eq_true, true_implies, false_implies, true_and, and_true, Nat.not_lt_zero, Nat.zero_le, Nat.le_refl]
          exact step 0 (by omega) h3 hF3 (fun i hi => hz i hi) T3 r3 f3 _
        · intro j hj ih2 h3 hF3 hz T3 r3 f3 y5
          refine d303_89 r3.1 ?_
          try simp (disch := omega) only [n_lit, n_m, n_add, n_mul, n_div, n_mod, n_cl, n_lt, n_le, n_eq, n_in, n_eqm, n_meq, n_mlt, n_ltm, n_mle, n_lem, not_true_eq_false, not_false_eq_true, true_implies, false_implies, true_and, and_true, Nat.not_lt_zero, Nat.zero_le]
          rw [show vp_nar .boolean (i_n 0) = i_bo (false = true) from by decide]
          have Fi : i_Fr [167] [] h3 (i_siI h3 167 j (i_bo (false = true))) := i_Fr.refl.siI (by decide)
          have f4 := f3.trans (F7 Fi)
          have r4 := rfr _ r3.1.siI f4
          refine ⟨fun e => by omega, fun _ => ⟨by omega, d303_105 r4.1 ?_⟩⟩
          try simp (disch := omega) only [n_lit, n_m, n_add, n_mul, n_div, n_mod, n_cl, n_lt, n_le, n_eq, n_in, n_eqm, n_meq, n_mlt, n_ltm, n_mle, n_lem, not_true_eq_false, not_false_eq_true, true_implies, false_implies, true_and, and_true, Nat.not_lt_zero, Nat.zero_le]
          refine ih2 _ ?_ (fun i hi => ?_) ?_ r4 f4 _
          · unfold o_ri; rw [Fi.rI (by decide)]; exact hF3
          · rw [x_aI_siI r3.1.a167, x_upd]
            by_cases e : i = j
            · rw [if_pos e]
            · rw [if_neg e]; exact hz i (by omega)
          · unfold o_ftb; rw [Fi.rI (by decide)]; exact T3
      exact clr 0 (by omega) h2 hF2 (fun i hi => absurd hi (Nat.not_lt_zero i)) T2 r2 F2 _
  have init : ∀ j, j ≤ 9216 → ∀ h2, (∀ i, i < j → aI h2 166 i = i_bo (false = true)) → i_RA a h2 → i_Fr [166, 167, 168] [] h h2 → ∀ (y4 y5 : Option Value), i_P i_MT i_AT L xs 303 17 [some (.ref 138), some (.int (i_n p)), some (.int (i_n q)), some (.int (i_n j)), y4, y5] [] h2 0 0 Q := by
    refine l_up ?_ ?_
    · intro h2 hz r2 f2 y4 y5
      have hs := hst.1
      have hs2 := hsq.1
      refine d303_17 r2.1 ?_
      try simp (disch := omega) only [n_lit, n_m, n_add, n_mul, n_div, n_mod, n_cl, n_lt, n_le, n_eq, n_in, n_eqm, n_meq, n_mlt, n_ltm, n_mle, n_lem, not_true_eq_false, not_false_eq_true, true_implies, false_implies, true_and, and_true, Nat.not_lt_zero, Nat.zero_le, Nat.le_refl, sA h2 r2, sB h2 r2]
      rw [show vp_nar .boolean (i_n 1) = i_bo (true = true) from by decide]
      have Fi : i_Fr [166] [] h2 (i_siI h2 166 (4 * (48 * a (154 + 5 * p) + a (154 + 5 * q))) (i_bo (true = true))) := i_Fr.refl.siI (by decide)
      have f3 := f2.trans (Fi.mono (B := [166, 167, 168]) (G := []) (by decide) (fun _ z => z))
      have r3 := rfr _ r2.1.siI f3
      refine ⟨by omega, by omega, by omega, d303_73 r3.1 ?_⟩
      try simp (disch := omega) only [n_lit, n_m, n_add, n_mul, n_div, n_mod, n_cl, n_lt, n_le, n_eq, n_in, n_eqm, n_meq, n_mlt, n_ltm, n_mle, n_lem, not_true_eq_false, not_false_eq_true, true_implies, false_implies, true_and, and_true, Nat.not_lt_zero, Nat.zero_le]
      refine key 1 (by omega) (Nat.le_refl 1) _ (fun i hi => ?_) (fun j h1 hj => by omega) r3 f3 _ _
      rw [x_aI_siI r2.1.a166, x_upd]
      unfold o_mi
      rw [show (1 : Nat) - 1 = 0 from rfl, o_mt]
      by_cases e : i = 4 * (48 * a (154 + 5 * p) + a (154 + 5 * q))
      · have e1 : i / 4 / 48 = a (154 + 5 * p) := by omega
        have e2 : i / 4 % 48 = a (154 + 5 * q) := by omega
        have e3 : i % 4 = 0 := by omega
        rw [if_pos e]
        exact i_bo_iff (by rw [e1, e2, e3]; simp [hs, hs2])
      · rw [if_neg e, hz i hi]
        refine i_bo_iff ?_
        rw [Bool.and_eq_true, Bool.and_eq_true, Bool.and_eq_true, beq_iff_eq, beq_iff_eq, beq_iff_eq]
        constructor
        · intro z; cases z
        · rintro ⟨-, q1, q2, q3⟩; exact absurd (by omega) e
    · intro j hj ih2 h2 hz r2 f2 y4 y5
      refine d303_17 r2.1 ?_
      try simp (disch := omega) only [n_lit, n_m, n_add, n_mul, n_div, n_mod, n_cl, n_lt, n_le, n_eq, n_in, n_eqm, n_meq, n_mlt, n_ltm, n_mle, n_lem, not_true_eq_false, not_false_eq_true, true_implies, false_implies, true_and, and_true, Nat.not_lt_zero, Nat.zero_le]
      rw [show vp_nar .boolean (i_n 0) = i_bo (false = true) from by decide]
      have Fi : i_Fr [166] [] h2 (i_siI h2 166 j (i_bo (false = true))) := i_Fr.refl.siI (by decide)
      have f3 := f2.trans (Fi.mono (B := [166, 167, 168]) (G := []) (by decide) (fun _ z => z))
      have r3 := rfr _ r2.1.siI f3
      refine ⟨fun e => by omega, fun _ => ⟨by omega, d303_31 r3.1 ?_⟩⟩
      try simp (disch := omega) only [n_lit, n_m, n_add, n_mul, n_div, n_mod, n_cl, n_lt, n_le, n_eq, n_in, n_eqm, n_meq, n_mlt, n_ltm, n_mle, n_lem, not_true_eq_false, not_false_eq_true, true_implies, false_implies, true_and, and_true, Nat.not_lt_zero, Nat.zero_le]
      refine ih2 _ (fun i hi => ?_) r3 f3 _ _
      rw [x_aI_siI r2.1.a166, x_upd]
      by_cases e : i = j
      · rw [if_pos e]
      · rw [if_neg e]; exact hz i (by omega)
  try simp (disch := omega) only [n_lit, n_m, n_add, n_mul, n_div, n_mod, n_cl, n_lt, n_le, n_eq, n_in, n_eqm, n_meq, n_mlt, n_ltm, n_mle, n_lem, not_true_eq_false, not_false_eq_true, true_implies, false_implies, true_and, and_true, Nat.not_lt_zero, Nat.zero_le]
  exact init 0 (by omega) h (fun i hi => absurd hi (Nat.not_lt_zero i)) r i_Fr.refl _ _
end
