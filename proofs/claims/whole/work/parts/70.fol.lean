/-! GENERAL: some, all; what a call may write -/
section
variable {a : Nat → Nat}
def o_or (P : Nat → Bool) : Nat → Bool
  | 0 => false
  | k + 1 => o_or P k || P k
theorem o_or_t {P : Nat → Bool} : ∀ n, o_or P n = true ↔ ∃ i, i < n ∧ P i = true
  | 0 => ⟨fun z => (by cases z), fun ⟨i, z, _⟩ => absurd z (Nat.not_lt_zero i)⟩
  | n + 1 => by
    rw [o_or, Bool.or_eq_true, o_or_t n]
    constructor
    · rintro (⟨i, z1, z2⟩ | z)
      · exact ⟨i, by omega, z2⟩
      · exact ⟨n, by omega, z⟩
    · rintro ⟨i, z1, z2⟩
      by_cases e : i = n
      · subst e; exact Or.inr z2
      · exact Or.inl ⟨i, by omega, z2⟩
def o_al (P : Nat → Bool) : Nat → Bool
  | 0 => true
  | k + 1 => o_al P k && P k
theorem o_al_t {P : Nat → Bool} : ∀ n, o_al P n = true ↔ ∀ i, i < n → P i = true
  | 0 => ⟨fun _ i z => absurd z (Nat.not_lt_zero i), fun _ => rfl⟩
  | n + 1 => by
    rw [o_al, Bool.and_eq_true, o_al_t n]
    constructor
    · rintro ⟨z1, z2⟩ i hi
      by_cases e : i = n
      · subst e; exact z2
      · exact z1 i (by omega)
    · intro z
      exact ⟨fun i hi => z i (by omega), z n (by omega)⟩
theorem vn_bo {P : Prop} [Decidable P] : vp_nar .boolean (i_bo P) = i_bo P := by
  unfold i_bo
  by_cases h : P
  · rw [if_pos h]; rfl
  · rw [if_neg h]; rfl
theorem vn_1 : vp_nar .boolean (i_n 1) = i_n 1 := rfl
theorem vn_0 : vp_nar .boolean (i_n 0) = i_n 0 := rfl
theorem bo_t {b : Bool} (h : b = true) : i_n 1 = i_bo (b = true) := (i_bo_t h).symm
theorem bo_f {b : Bool} (h : ¬ b = true) : i_n 0 = i_bo (b = true) := (i_bo_f h).symm
theorem o_far_sym {W b c : Nat} : o_far W b c = o_far W c b := by unfold o_far; omega
theorem o_wgh_mono (w : o_WF a) {b c m : Nat} : o_wgh a b c 2 m ≤ o_wgh a b c 1 m := by
  have h9 := w.2.2.2.2.2.1 0 (by omega)
  unfold o_wgh
  split
  · unfold o_its
    rw [if_neg (by omega), if_neg (by omega), if_pos rfl]
    exact Nat.div_le_div_right (Nat.mul_le_mul_right _ h9)
  · exact Nat.le_refl 0
abbrev fsA : List Nat := [9, 99, 100, 106, 107, 110, 111, 112, 113, 114, 115, 116, 117, 118, 119, 120, 122, 123, 124, 125, 126, 127, 128, 129, 130, 131, 132, 133, 137]
abbrev fsF : List (Nat × Nat) := [(0, 0), (136, 0), (136, 1), (136, 2), (136, 4)]
abbrev i_FS (h h2 : iH) : Prop := i_Fr fsA fsF h h2
abbrev gsA : List Nat := [147, 148, 149, 150, 155, 156, 158, 159, 160, 161, 162, 163, 164, 165, 166, 167, 168, 169, 170, 171]
abbrev gsF : List (Nat × Nat) := [(138, 4), (138, 13), (138, 14), (138, 15), (138, 16), (138, 17), (138, 20), (138, 21), (138, 22), (138, 26), (138, 27), (138, 28), (138, 50), (138, 51), (138, 52)]
abbrev i_GS (h h2 : iH) : Prop := i_Fr gsA gsF h h2
abbrev fsW : List (Nat × Nat) := [(0, 0), (108, 8), (108, 9), (108, 10), (108, 11), (121, 2), (121, 3), (121, 6), (121, 7), (136, 0), (136, 1), (136, 2), (136, 4)]
abbrev i_FW (h h2 : iH) : Prop := i_Fr fsA fsW h h2
theorem i_FS.w {h h2 : iH} (f : i_FS h h2) : i_FW h h2 := f.mono (fun _ z => z) (by decide)
/-- what the class swaps: one of two each -/
def i_sw2 (h : iH) (q b c m n : Nat) : Prop := (fR h q b = m ∧ fR h q c = n) ∨ (fR h q b = n ∧ fR h q c = m)
def i_SW (h : iH) : Prop := i_sw2 h 108 8 9 115 116 ∧ i_sw2 h 108 10 11 117 118 ∧ i_sw2 h 121 2 3 123 124 ∧ i_sw2 h 121 6 7 127 128
theorem i_SW.fr {h h2 : iH} {A : List Nat} {F : List (Nat × Nat)} (s : i_SW h) (f : i_Fr A F h h2) (hF : ∀ q, q ∈ [(108, 8), (108, 9), (108, 10), (108, 11), (121, 2), (121, 3), (121, 6), (121, 7)] → q ∉ F) : i_SW h2 := by
  unfold i_SW i_sw2
  rw [f.vR (hF (108, 8) (by decide)), f.vR (hF (108, 9) (by decide)), f.vR (hF (108, 10) (by decide)), f.vR (hF (108, 11) (by decide)), f.vR (hF (121, 2) (by decide)), f.vR (hF (121, 3) (by decide)), f.vR (hF (121, 6) (by decide)), f.vR (hF (121, 7) (by decide))]
  exact s
theorem i_F0.s {h h2 : iH} (f : i_F0 h h2) : i_FS h h2 := f.mono (by decide) (by decide)
theorem i_G0.s {h h2 : iH} (f : i_G0 h h2) : i_GS h h2 := f.mono (by decide) (by decide)
theorem i_Fr.s4 {h h2 : iH} (f : i_Fr [99, 100, 106, 107] [] h h2) : i_FS h h2 := f.mono (by decide) (by decide)
theorem i_RA.gs {h h2 : iH} (r : i_RA a h) (hL : i_Lay h2) (f : i_GS h h2) : i_RA a h2 := r.fr hL f (by decide)
/-- an answer of the class, of the reference, that leaves its status and what is scratch -/
def i_KS (a : Nat → Nat) (t : Nat) (h : iH) (Q : Option Value → iH → Prop) (z : Int32 × Int32) : Prop := ∀ h2, i_ST a t h2 → i_FS h h2 → fI h2 0 0 = z.2 → Q (some (.int z.1)) h2
def i_RS (a : Nat → Nat) (h : iH) (Q : Option Value → iH → Prop) (z : Int32 × Int32) : Prop := ∀ h2, i_RA a h2 → i_GS h h2 → fI h2 138 4 = z.2 → Q (some (.int z.1)) h2
def i_KW (a : Nat → Nat) (t : Nat) (h : iH) (Q : Option Value → iH → Prop) (z : Int32 × Int32) : Prop := ∀ h2, i_ST a t h2 → i_FW h h2 → i_SW h2 → fI h2 0 0 = z.2 → Q (some (.int z.1)) h2
theorem i_ST.fw {t : Nat} {h h2 : iH} (g : i_ST a t h) (c : i_CO a t h2) (f : i_FW h h2) : i_ST a t h2 := ⟨c, by rw [f.vR (by decide)]; exact g.2⟩
theorem i_ST.fs {t : Nat} {h h2 : iH} (g : i_ST a t h) (c : i_CO a t h2) (f : i_FS h h2) : i_ST a t h2 := ⟨c, by rw [f.vR (by decide)]; exact g.2⟩
end
/-! FOLLOWED -/
section
variable {L : Nat} {xs : Nat → Int32} {h : iH} {Q : Option Value → iH → Prop} {a : Nat → Nat} {t : Nat}
set_option maxRecDepth 20000
/-- from b one may follow q onto c -/
def o_mf (a : Nat → Nat) (q f m b c : Nat) : Bool := decide (o_far (a 0) (o_cell a q m) c ≤ f) && (if b = c then o_wgh a q c 0 m == 0 else (o_far (a 0) b c == 1 && !o_wall a c) && o_wgh a q c 2 m == 0)
/-- where one who follows may be -/
def o_fol (a : Nat → Nat) (q f s : Nat) : Nat → Nat → Bool
  | 0, c => c == s
  | m + 1, c => ((o_bes a (o_fol a q f s m) c && o_wgh a q c 2 (m + 1) == 0) || (o_fol a q f s m c && o_wgh a q c 0 (m + 1) == 0)) && decide (o_far (a 0) (o_cell a q (m + 1)) c ≤ f)
theorem o_fol_or {q f s m c : Nat} (hc : c < a 0 * a 1) : o_fol a q f s (m + 1) c = o_or (fun b => o_fol a q f s m b && ((b == c || o_far (a 0) b c == 1) && o_mf a q f (m + 1) b c)) (a 0 * a 1) := by
  rw [Bool.eq_iff_iff, o_or_t, o_fol]
  simp only [Bool.and_eq_true, Bool.or_eq_true, o_bes_t, beq_iff_eq, decide_eq_true_eq]
  constructor
  · rintro ⟨⟨⟨z1, b, z2, z3, z4⟩, z5⟩ | ⟨z1, z2⟩, z6⟩
    · refine ⟨b, z2, z3, Or.inr z4, ?_⟩
      have hne : ¬ b = c := fun e => by subst e; rw [o_far0] at z4; omega
      unfold o_mf
      simp [z6, hne, z4, z1, z5]
    · refine ⟨c, hc, z1, Or.inl rfl, ?_⟩
      unfold o_mf
      simp [z6, z2]
  · rintro ⟨b, z1, z2, z3, z4⟩
    unfold o_mf at z4
    rw [Bool.and_eq_true, decide_eq_true_eq] at z4
    refine ⟨?_, z4.1⟩
    by_cases e : b = c
    · subst e
      have := z4.2
      rw [if_pos rfl] at this
      exact Or.inr ⟨z2, by simpa using this⟩
    · have := z4.2
      rw [if_neg e] at this
      simp only [Bool.and_eq_true, beq_iff_eq, Bool.not_eq_true'] at this
      exact Or.inl ⟨⟨this.1.2, b, z1, z2, this.1.1⟩, this.2⟩
/-- the most minutes -/
def o_folN (a : Nat → Nat) (p q f : Nat) : Nat := match o_lst (fun m => !o_or (o_fol a q f (a (154 + 5 * p)) m) (a 0 * a 1)) 60 1 with
  | some m => m - 1
  | none => 60
def o_folA (a : Nat → Nat) (x y z : Int32) : Int32 × Int32 := o_A (v_2 a x y ∧ 1 ≤ z ∧ z ≤ 9) (i_n (o_folN a x.toNatClampNeg y.toNatClampNeg z.toNatClampNeg))
theorem o_unw_1 {q d m c : Nat} (hq : q < a 5) : o_unw a (1 <<< q) d m c = (o_wgh a q c d m == 0) := by
  have hb : ∀ b, (1 <<< q).testBit b = decide (b = q) := by
    intro b
    rw [Nat.testBit_shiftLeft]
    by_cases e : b = q
    · subst e; simp
    · by_cases h2 : q ≤ b
      · obtain ⟨d, hd⟩ : ∃ d, b - q = d + 1 := ⟨b - q - 1, by omega⟩
        simp [e, h2, hd, Nat.testBit_succ]
      · simp [e, h2]
  rw [Bool.eq_iff_iff, o_unw_t, beq_iff_eq]
  constructor
  · intro z; exact z q hq (by rw [hb]; simp)
  · intro z b hb1 hb2
    rw [hb, decide_eq_true_eq] at hb2
    subst hb2; exact z
theorem o_is.s0 {s : Int64} {n : Nat} {P : Nat → Bool} (x : o_is s n P) (hn : n ≤ 64) : s = 0 ↔ o_or P n = false := by
  rw [j_eq0, ← Bool.not_eq_true, o_or_t]
  constructor
  · rintro z ⟨i, h1, h2⟩
    have := z i (by omega)
    rw [x.b h1 (by omega), h2] at this
    cases this
  · intro z c hc
    rw [x c hc]
    by_cases h1 : c < n
    · cases h2 : P c with
      | false => simp
      | true => exact absurd ⟨c, h1, h2⟩ z
    · simp [h1]
theorem i_CO.st (g : i_CO a t h) {p : Nat} (hp : p < a 5) : aI h (t + 9) p = i_n (a (154 + 5 * p)) ∧ a (154 + 5 * p) < a 0 * a 1 := ⟨(g.ct.2.2.2.2.2.2.2.1.2 p hp).1, (g.w.2.2.2.2.2.2.2.2.2.2.1 p hp).1⟩
set_option maxHeartbeats 1000000 in
theorem c81 (g : i_CO a t h) {p q f : Nat} (hp : p < a 5) (hq : q < a 5) (hf : f ≤ 9) (H : ∀ h2, i_CO a t h2 → i_FS h h2 → Q (some (.int (i_n (o_folN a p q f)))) h2) : i_C i_MT i_AT L xs 81 [.ref 108, .int (i_n p), .int (i_n q), .int (i_n f)] h Q := by
  have h5 := g.w.2.2.2.2.1
  have h48 := g.w.c48
  have hs := (g.st hp).2
  generalize hS : a (154 + 5 * p) = s0 at hs
  have hv : 1 <<< q < 256 := by
    rw [Nat.one_shiftLeft]
    exact Nat.lt_of_le_of_lt (Nat.pow_le_pow_right (by omega) (show q ≤ 7 by omega)) (by decide)
  have key : ∀ m, m ≤ 61 → 1 ≤ m → ∀ (s : Int64) (h1 : iH), o_is s (a 0 * a 1) (o_fol a q f s0 (m - 1)) → (∀ i, 1 ≤ i → i < m → o_or (o_fol a q f s0 i) (a 0 * a 1) = true) → i_CO a t h1 → o_wei a h1 → i_FS h h1 → i_P i_MT i_AT L xs 81 26 [some (.ref 108), some (.int (i_n p)), some (.int (i_n q)), some (.int (i_n f)), some (.long s), none, some (.int (i_n m))] [] h1 0 0 Q := by
    refine l_up ?_ ?_
    · intro _ s h1 _ hj g1 _ f1
      refine d81_26 g1.l ?_
      try simp (disch := omega) only [n_lit, n_m, n_add, n_mul, n_div, n_mod, n_cl, n_lt, n_le, n_eq, n_in, n_eqm, n_meq, n_mlt, n_ltm, n_mle, n_lem, not_true_eq_false, not_false_eq_true, true_implies, false_implies, true_and, and_true, Nat.not_lt_zero, Nat.zero_le]
      refine ⟨fun _ => ?_, fun z => absurd (by omega) z⟩
      have := H h1 g1 f1
      unfold o_folN at this
      rw [hS, o_lst_n 60 1 (fun i q1 q2 => by rw [hj i q1 (by omega)]; rfl)] at this
      exact this
    · intro m hm ih hm1 s h1 hs1 hj g1 w1 f1
      refine d81_26 g1.l ?_
      try simp (disch := omega) only [n_lit, n_m, n_add, n_mul, n_div, n_mod, n_cl, n_lt, n_le, n_eq, n_in, n_eqm, n_meq, n_mlt, n_ltm, n_mle, n_lem, not_true_eq_false, not_false_eq_true, true_implies, false_implies, true_and, and_true, Nat.not_lt_zero, Nat.zero_le, n_shl2, n_and]
      refine ⟨fun z => by omega, fun _ => c69 g1 w1 hv (by omega) (by omega) (fun s2 h2 e2 g2 f2 => ?_)⟩
      refine ⟨_, rfl, d81_49 g2.l ⟨61, aJ h2 114, g2.l.a114, ?_⟩⟩
      try simp (disch := omega) only [n_lit, n_m, n_add, n_mul, n_div, n_mod, n_cl, n_lt, n_le, n_eq, n_in, n_eqm, n_meq, n_mlt, n_ltm, n_mle, n_lem, not_true_eq_false, not_false_eq_true, true_implies, false_implies, true_and, and_true, Nat.not_lt_zero, Nat.zero_le]
      have fr2 : i_Fr [114] [] h2 (i_siJ h2 114 m s2) := i_Fr.refl.siJ (by decide)
      have g3 := g2.fr g2.l.siJ fr2 (by decide) (by decide)
      have w3 := (w1.fr f2 (by decide)).fr fr2 (by decide)
      have e3 : aJ (i_siJ h2 114 m s2) 114 m = s2 := i_siJ_at g2.l.a114
      refine ⟨by omega, d81_50 g3.l ?_⟩
      have F3 : i_FS h (i_siJ h2 114 m s2) := (f1.trans f2.s4).siJ (by decide)
      generalize i_siJ h2 114 m s2 = h3 at g3 w3 e3 F3 ⊢
      try simp (disch := omega) only [n_lit, n_m, n_add, n_mul, n_div, n_mod, n_cl, n_lt, n_le, n_eq, n_in, n_eqm, n_meq, n_mlt, n_ltm, n_mle, n_lem, not_true_eq_false, not_false_eq_true, true_implies, false_implies, true_and, and_true, Nat.not_lt_zero, Nat.zero_le, n_shl2, n_and]
      refine c69 g3 w3 hv (by omega) (by omega) (fun s4 h4 e4 g4 f4 => ?_)
      refine ⟨_, rfl, d81_66 g4.l ⟨61, aJ h4 113, g4.l.a113, ?_⟩⟩
      try simp (disch := omega) only [n_lit, n_m, n_add, n_mul, n_div, n_mod, n_cl, n_lt, n_le, n_eq, n_in, n_eqm, n_meq, n_mlt, n_ltm, n_mle, n_lem, not_true_eq_false, not_false_eq_true, true_implies, false_implies, true_and, and_true, Nat.not_lt_zero, Nat.zero_le]
      have fr4 : i_Fr [113] [] h4 (i_siJ h4 113 m s4) := i_Fr.refl.siJ (by decide)
      have g5 := g4.fr g4.l.siJ fr4 (by decide) (by decide)
      have w5 := (w3.fr f4 (by decide)).fr fr4 (by decide)
      have e5 : aJ (i_siJ h4 113 m s4) 113 m = s4 := i_siJ_at g4.l.a113
      have e6 : aJ (i_siJ h4 113 m s4) 114 m = s2 := by rw [fr4.rJ (by decide), f4.rJ (by decide)]; exact e3
      have F5 : i_FS h (i_siJ h4 113 m s4) := (F3.trans f4.s4).siJ (by decide)
      refine ⟨by omega, d81_67 g5.l ?_⟩
      generalize i_siJ h4 113 m s4 = h5 at g5 w5 e5 e6 F5 ⊢
      refine c71 g5.l g5.w g5.2.1 hs1 (by omega) (S := o_unw a (1 <<< q) 2 m) (G := o_unw a (1 <<< q) 0 m) (by rw [e6]; exact e2) (by rw [e5]; exact e4) (fun s6 e7 => ?_)
      refine ⟨_, rfl, d81_75 g5.l (c4 g5 hq (by omega) ⟨_, rfl, d81_92 g5.l (c28 g5.l g5.w g5.2.1 (o_pp g.w hq (by omega)).1 (by omega) (fun s8 e8 => ⟨_, rfl, d81_96 g5.l ?_⟩))⟩)⟩
      have e9 : o_is (s6 &&& s8) (a 0 * a 1) (o_fol a q f s0 m) := (e7.and e8).congr (fun c hc => by
        obtain ⟨k, rfl⟩ : ∃ k, m = k + 1 := ⟨m - 1, by omega⟩
        rw [o_fol, o_unw_1 hq, o_unw_1 hq]
        rfl)
      try simp (disch := omega) only [n_lit, n_m, i_bo01, j_cmpn, Classical.not_not, n_add, n_mul, n_div, n_mod, n_cl, n_lt, n_le, n_eq, n_in, n_eqm, n_meq, n_mlt, n_ltm, n_mle, n_lem, not_true_eq_false, not_false_eq_true, true_implies, false_implies, true_and, and_true, Nat.not_lt_zero, Nat.zero_le, n_sub]
      rw [e9.s0 (by omega)]
      refine ⟨fun z => ih (by omega) _ _ (by rw [show m + 1 - 1 = m by omega]; exact e9) (fun i q1 q2 => ?_) g5 w5 F5, fun z => ?_⟩
      · by_cases ei : i = m
        · subst ei; simpa using z
        · exact hj i q1 (by omega)
      · have := H h5 g5 F5
        unfold o_folN at this
        rw [hS, o_lst_s (j := m) (by rw [z]; rfl) 60 1 (by omega) (by omega) (fun i q1 q2 => by rw [hj i q1 (by omega)]; rfl)] at this
        exact this
  refine e81 (d81_0 g.l (c67 g (fun h1 g1 f1 w1 => ⟨rfl, d81_4 g1.l ⟨t, g1.tw, g1.T, ?_⟩⟩)))
  try simp (disch := omega) only [n_lit, n_m, n_add, n_mul, n_div, n_mod, n_cl, n_lt, n_le, n_eq, n_in, n_eqm, n_meq, n_mlt, n_ltm, n_mle, n_lem, not_true_eq_false, not_false_eq_true, true_implies, false_implies, true_and, and_true, Nat.not_lt_zero, Nat.zero_le, (g1.st hp).1]
  rw [hS]
  refine ⟨by omega, key 1 (by omega) (Nat.le_refl 1) _ _ (o_is.one hs (by omega)) (fun i q1 q2 => by omega) g1 w1 (f1.mono (by decide) (by decide))⟩
theorem c169 (g : i_ST a t h) {x y z : Int32} (H : i_KS a t h Q (o_folA a x y z)) : i_C i_MT i_AT L xs 169 [.ref 0, .int x, .int y, .int z] h Q := by
  have h5 := g.w.2.2.2.2.1
  unfold o_folA at H
  have bad : ¬ (v_2 a x y ∧ 1 ≤ z ∧ z ≤ 9) → i_P i_MT i_AT L xs 169 19 [some (.ref 0), some (.int x), some (.int y), some (.int z)] [] h 0 0 Q := by
    intro z
    rw [o_A_f z] at H
    exact d169_19 g.l (m179 g (fun h2 g2 f2 s2 => ⟨_, rfl, d169_24 g2.l (H h2 g2 f2.s s2)⟩))
  refine e169 (d169_0 g.l (c187 g ⟨_, rfl, d169_6 g.l ?_⟩))
  rw [i_bo_0, Classical.not_not]
  refine ⟨fun z => bad (fun q => z q.1), fun z => c192 ⟨_, rfl, d169_16 g.l ?_⟩⟩
  rw [i_bo_0, Classical.not_not]
  refine ⟨fun z2 => ?_, fun z2 => bad (fun q => z2 q.2)⟩
  rw [o_A_t ⟨z, z2⟩] at H
  obtain ⟨p, hp, rfl⟩ := n_get z.1 (by omega)
  obtain ⟨q, hq, rfl⟩ := n_get z.2.1 (by omega)
  obtain ⟨m, hm1, hm, rfl⟩ := n_g1 (j := 1) (k := 9) z2 (by omega) (by omega)
  rw [n_cl (by omega), n_cl (by omega), n_cl (by omega)] at H
  refine c81 g.1 hp hq hm (fun h1 g1 f1 => ?_)
  have G1 := g.fs g1 f1
  exact ⟨_, rfl, d169_36 G1.l (m181 G1 (fun h2 g2 f2 s2 => ⟨_, rfl, d169_39 g2.l (H h2 g2 (f1.trans f2.s) s2)⟩))⟩
theorem c316 (r : i_RA a h) {q b c f m : Nat} (hq : q < a 5) (hb : b < a 0 * a 1) (hc : c < a 0 * a 1) (hf : f < 100) (hm : m ≤ 60) (H : Q (some (.int (i_bo (o_mf a q f m b c = true)))) h) : i_C i_MT i_AT L xs 316 [.ref 138, .int (i_n q), .int (i_n b), .int (i_n c), .int (i_n f), .int (i_n m)] h Q := by
  have h5 := r.2.1.2.2.2.2.1
  have h48 := r.2.1.c48
  have hqq := r.p hq hm
  have hC := r.hC
  have hp := r.2.1.pos hb
  have hn := o_far_lt (show 0 < a 0 by omega) hqq.1 hc
  have l0 := o_wgh_le r.2.1 (p := q) (c := c) (d := 0) (m := m) (by omega) (by omega)
  have l1 := o_wgh_le r.2.1 (p := q) (c := c) (d := 1) (m := m) (by omega) (by omega)
  have l2 := o_wgh_le r.2.1 (p := q) (c := c) (d := 2) (m := m) (by omega) (by omega)
  have l3 := o_wgh_mono r.2.1 (b := q) (c := c) (m := m)
  have yes : o_mf a q f m b c = true → Q (some (.int 1)) h := fun z => by rw [i_bo_t z] at H; exact H
  have no : ¬ o_mf a q f m b c = true → Q (some (.int 0)) h := fun z => by rw [i_bo_f z] at H; exact H
  unfold o_mf at yes no
  refine e316 (d316_0 r.1 ?_)
  try simp (disch := omega) only [n_lit, n_m, n_add, n_mul, n_div, n_mod, n_cl, n_lt, n_le, n_eq, n_in, n_eqm, n_meq, n_mlt, n_ltm, n_mle, n_lem, not_true_eq_false, not_false_eq_true, true_implies, false_implies, true_and, and_true, Nat.not_lt_zero, Nat.zero_le, hC]
  refine ⟨by omega, c268 r hc hqq.1 ⟨_, rfl, d316_17 r.1 ?_⟩⟩
  rw [o_far_sym]
  try simp (disch := omega) only [n_lit, n_m, i_bo01, j_cmpn, Classical.not_not, n_add, n_mul, n_div, n_mod, n_cl, n_lt, n_le, n_eq, n_in, n_eqm, n_meq, n_mlt, n_ltm, n_mle, n_lem, not_true_eq_false, not_false_eq_true, true_implies, false_implies, true_and, and_true, Nat.not_lt_zero, Nat.zero_le]
  refine ⟨fun z => ⟨fun z1 => c285 r hb hc ⟨_, rfl, d316_53 r.1 ?_⟩, fun z1 => c275 r hq hc (by omega) hm ⟨_, rfl, d316_38 r.1 ?_⟩⟩, fun z => no (by simp; omega)⟩
  · have bad : ¬ ((o_far (a 0) b c = 1 ∧ o_wall a c = false) ∧ o_wgh a q c 2 m = 0) → i_P i_MT i_AT L xs 316 92 [some (.ref 138), some (.int (i_n q)), some (.int (i_n b)), some (.int (i_n c)), some (.int (i_n f)), some (.int (i_n m))] [] h 0 0 Q := by
      intro e
      refine d316_92 r.1 (d316_93 r.1 ⟨rfl, no ?_⟩)
      rw [if_neg z1]
      simp only [Bool.and_eq_true, beq_iff_eq, Bool.not_eq_true', decide_eq_true_eq]
      exact fun q => e q.2
    have good : (o_far (a 0) b c = 1 ∧ o_wall a c = false) ∧ o_wgh a q c 2 m = 0 → i_P i_MT i_AT L xs 316 88 [some (.ref 138), some (.int (i_n q)), some (.int (i_n b)), some (.int (i_n c)), some (.int (i_n f)), some (.int (i_n m))] [] h 0 0 Q := by
      intro e
      refine d316_88 r.1 (d316_93 r.1 ⟨rfl, yes ?_⟩)
      rw [if_neg z1]
      simp only [Bool.and_eq_true, beq_iff_eq, Bool.not_eq_true', decide_eq_true_eq]
      exact ⟨z, e⟩
    try simp (disch := omega) only [n_lit, n_m, i_bo01, j_cmpn, Classical.not_not, n_add, n_mul, n_div, n_mod, n_cl, n_lt, n_le, n_eq, n_in, n_eqm, n_meq, n_mlt, n_ltm, n_mle, n_lem, not_true_eq_false, not_false_eq_true, true_implies, false_implies, true_and, and_true, Nat.not_lt_zero, Nat.zero_le]
    refine ⟨fun e => bad (fun q => e q.1.1), fun e => c250 r (by omega) ⟨_, rfl, d316_61 r.1 ?_⟩⟩
    try simp (disch := omega) only [n_lit, n_m, i_bo01, j_cmpn, Classical.not_not, n_add, n_mul, n_div, n_mod, n_cl, n_lt, n_le, n_eq, n_in, n_eqm, n_meq, n_mlt, n_ltm, n_mle, n_lem, not_true_eq_false, not_false_eq_true, true_implies, false_implies, true_and, and_true, Nat.not_lt_zero, Nat.zero_le]
    refine ⟨fun e2 => bad (fun q => e2 q.1.2), fun e2 => c275 r hq hc (by omega) hm ⟨_, rfl, d316_73 r.1 ?_⟩⟩
    try simp (disch := omega) only [n_lit, n_m, i_bo01, j_cmpn, Classical.not_not, n_add, n_mul, n_div, n_mod, n_cl, n_lt, n_le, n_eq, n_in, n_eqm, n_meq, n_mlt, n_ltm, n_mle, n_lem, not_true_eq_false, not_false_eq_true, true_implies, false_implies, true_and, and_true, Nat.not_lt_zero, Nat.zero_le]
    refine ⟨fun e3 => good ⟨⟨e, e2⟩, e3⟩, fun e3 => c275 r hq hc (by omega) hm ⟨_, rfl, d316_85 r.1 ?_⟩⟩
    try simp (disch := omega) only [n_lit, n_m, i_bo01, j_cmpn, Classical.not_not, n_add, n_mul, n_div, n_mod, n_cl, n_lt, n_le, n_eq, n_in, n_eqm, n_meq, n_mlt, n_ltm, n_mle, n_lem, not_true_eq_false, not_false_eq_true, true_implies, false_implies, true_and, and_true, Nat.not_lt_zero, Nat.zero_le]
    exact ⟨fun e4 => bad (fun q => e3 q.2), fun e4 => absurd (by omega) e3⟩
  · try simp (disch := omega) only [n_lit, n_m, i_bo01, j_cmpn, Classical.not_not, n_add, n_mul, n_div, n_mod, n_cl, n_lt, n_le, n_eq, n_in, n_eqm, n_meq, n_mlt, n_ltm, n_mle, n_lem, not_true_eq_false, not_false_eq_true, true_implies, false_implies, true_and, and_true, Nat.not_lt_zero, Nat.zero_le]
    refine ⟨fun e => d316_46 r.1 ⟨rfl, no ?_⟩, fun e => d316_46 r.1 ⟨rfl, yes ?_⟩⟩
    · rw [if_pos z1]; simp [e]
    · rw [if_pos z1]; simp [e, z]
set_option maxHeartbeats 1000000 in
theorem c317 (r : i_RA a h) {x y z : Int32} (H : i_RS a h Q (o_folA a x y z)) : i_C i_MT i_AT L xs 317 [.ref 138, .int x, .int y, .int z] h Q := by
  have h5 := r.2.1.2.2.2.2.1
  have h48 := r.2.1.c48
  unfold o_folA at H
  have bad : ¬ (v_2 a x y ∧ 1 ≤ z ∧ z ≤ 9) → ∀ (y4 y5 y6 y7 y8 y9 : Option Value), i_P i_MT i_AT L xs 317 21 [some (.ref 138), some (.int x), some (.int y), some (.int z), y4, y5, y6, y7, y8, y9] [] h 0 0 Q := by
    intro z y4 y5 y6 y7 y8 y9
    rw [o_A_f z] at H
    exact d317_21 r.1 (m201 r (fun h2 g2 f2 s2 => ⟨_, rfl, d317_26 g2.1 (H h2 g2 f2.s s2)⟩))
  refine e317 (d317_0 r.1 (c277 r ⟨_, rfl, d317_6 r.1 ?_⟩))
  rw [i_bo_0, Classical.not_not]
  refine ⟨fun zz => bad (fun q => zz q.1) _ _ _ _ _ _, fun zz => c212i (y := 1) (z := 9) r.1 rfl rfl ⟨_, rfl, d317_18 r.1 ?_⟩⟩
  rw [i_bo_0, Classical.not_not]
  refine ⟨fun z2 => c248 r ⟨_, rfl, d317_31 r.1 ?_⟩, fun z2 => bad (fun q => z2 q.2) _ _ _ _ _ _⟩
  rw [o_A_t ⟨zz, z2⟩] at H
  obtain ⟨p, hp, rfl⟩ := n_get zz.1 (by omega)
  obtain ⟨q, hq, rfl⟩ := n_get zz.2.1 (by omega)
  obtain ⟨f, hf1, hf, rfl⟩ := n_g1 (j := 1) (k := 9) z2 (by omega) (by omega)
  rw [n_cl (by omega), n_cl (by omega), n_cl (by omega)] at H
  have hs : a (154 + 5 * p) < a 0 * a 1 := (r.2.1.2.2.2.2.2.2.2.2.2.2.1 p hp).1
  unfold o_folN at H
  have hSS : ∀ h1, i_RA a h1 → aI h1 139 (154 + 5 * p) = i_n (a (154 + 5 * p)) := fun h1 r1 => r1.2.2.1 _ (by omega)
  generalize hS : a (154 + 5 * p) = s0 at hs H hSS
  -- minutes
  have key : ∀ m, m ≤ 61 → 1 ≤ m → ∀ h1, (∀ c, c < a 0 * a 1 → aI h1 155 (48 * (m - 1) + c) = i_bo (o_fol a q f s0 (m - 1) c = true)) → (∀ i, 1 ≤ i → i < m → o_or (o_fol a q f s0 i) (a 0 * a 1) = true) → i_RA a h1 → i_GS h h1 → ∀ (y6 y7 y8 y9 : Option Value), i_P i_MT i_AT L xs 317 81 [some (.ref 138), some (.int (i_n p)), some (.int (i_n q)), some (.int (i_n f)), some (.int (i_n (a 0 * a 1))), some (.int (i_n m)), y6, y7, y8, y9] [] h1 0 0 Q := by
    refine l_up ?_ ?_
    · intro _ h1 _ hj r1 f1 y6 y7 y8 y9
      refine d317_81 r1.1 ?_
      try simp (disch := omega) only [n_lit, n_m, n_add, n_mul, n_div, n_mod, n_cl, n_lt, n_le, n_eq, n_in, n_eqm, n_meq, n_mlt, n_ltm, n_mle, n_lem, not_true_eq_false, not_false_eq_true, true_implies, false_implies, true_and, and_true, Nat.not_lt_zero, Nat.zero_le]
      refine ⟨fun _ => m202 r1 (fun h2 g2 f2 s2 => ⟨_, rfl, d317_247 g2.1 ?_⟩), fun z => absurd (by omega) z⟩
      rw [o_lst_n 60 1 (fun i q1 q2 => by rw [hj i q1 (by omega)]; rfl)] at H
      exact H h2 g2 (f1.trans f2.s) s2
    · intro m hm ih hm1 h1 hF hj r1 f1 y6 y7 y8 y9
      have to : ∀ k, k ≤ a 0 * a 1 → ∀ h2, (∀ c, c < a 0 * a 1 → aI h2 155 (48 * (m - 1) + c) = i_bo (o_fol a q f s0 (m - 1) c = true)) → (∀ c, c < k → aI h2 155 (48 * m + c) = i_bo (o_fol a q f s0 m c = true)) → i_RA a h2 → i_GS h h2 → ∀ (y8 y9 : Option Value), i_P i_MT i_AT L xs 317 94 [some (.ref 138), some (.int (i_n p)), some (.int (i_n q)), some (.int (i_n f)), some (.int (i_n (a 0 * a 1))), some (.int (i_n m)), some (.int (i_bo (o_or (o_fol a q f s0 m) k = true))), some (.int (i_n k)), y8, y9] [] h2 0 0 Q := by
        refine l_up ?_ ?_
        · intro h2 hF2 hG2 r2 f2 y8 y9
          refine d317_94 r2.1 ?_
          try simp (disch := omega) only [n_lit, n_m, i_bo01, j_cmpn, Classical.not_not, n_add, n_mul, n_div, n_mod, n_cl, n_lt, n_le, n_eq, n_in, n_eqm, n_meq, n_mlt, n_ltm, n_mle, n_lem, not_true_eq_false, not_false_eq_true, true_implies, false_implies, true_and, and_true, Nat.not_lt_zero, Nat.zero_le, Nat.le_refl, n_sub]
          refine ⟨fun z => ih (by omega) h2 (by rw [show m + 1 - 1 = m by omega]; exact hG2) (fun i q1 q2 => ?_) r2 f2 _ _ _ _, fun z => m202 r2 (fun h3 g3 f3 s3 => ⟨_, rfl, d317_234 g3.1 ?_⟩)⟩
          · by_cases ei : i = m
            · subst ei; exact z
            · exact hj i q1 (by omega)
          · rw [o_lst_s (j := m) (by simpa using z) 60 1 (by omega) (by omega) (fun i q1 q2 => by rw [hj i q1 (by omega)]; rfl)] at H
            exact H h3 g3 (f2.trans f3.s) s3
        · intro k hk ih2 h2 hF2 hG2 r2 f2 y8 y9
          have can : ∀ c, c ≤ a 0 * a 1 → i_P i_MT i_AT L xs 317 107 [some (.ref 138), some (.int (i_n p)), some (.int (i_n q)), some (.int (i_n f)), some (.int (i_n (a 0 * a 1))), some (.int (i_n m)), some (.int (i_bo (o_or (o_fol a q f s0 m) k = true))), some (.int (i_n k)), some (.int (i_bo (o_or (fun b => o_fol a q f s0 (m - 1) b && ((b == k || o_far (a 0) b k == 1) && o_mf a q f m b k)) c = true))), some (.int (i_n c))] [] h2 0 0 Q := by
            refine l_up ?_ ?_
            · have e0 : o_fol a q f s0 m k = o_or (fun b => o_fol a q f s0 (m - 1) b && ((b == k || o_far (a 0) b k == 1) && o_mf a q f m b k)) (a 0 * a 1) := by
                obtain ⟨j, rfl⟩ : ∃ j, m = j + 1 := ⟨m - 1, by omega⟩
                exact o_fol_or hk
              rw [← e0]
              refine d317_107 r2.1 ?_
              try simp (disch := omega) only [n_lit, n_m, n_add, n_mul, n_div, n_mod, n_cl, n_lt, n_le, n_eq, n_in, n_eqm, n_meq, n_mlt, n_ltm, n_mle, n_lem, not_true_eq_false, not_false_eq_true, true_implies, false_implies, true_and, and_true, Nat.not_lt_zero, Nat.zero_le, Nat.le_refl, vn_bo]
              refine ⟨by omega, d317_198 r2.1.siI ?_⟩
              have fr : i_Fr [155] [] h2 (i_siI h2 155 (48 * m + k) (i_bo (o_fol a q f s0 m k = true))) := i_Fr.refl.siI (by decide)
              have r3 := r2.gs r2.1.siI (fr.mono (by decide) (by decide))
              have nx := ih2 (i_siI h2 155 (48 * m + k) (i_bo (o_fol a q f s0 m k = true))) (fun c hc => by
                rw [x_aI_siI r2.1.a155, x_upd, if_neg (by omega)]; exact hF2 c hc) (fun c hc => by
                rw [x_aI_siI r2.1.a155, x_upd]
                by_cases e : c = k
                · subst e; rw [if_pos rfl]
                · rw [if_neg (by omega)]; exact hG2 c (by omega)) r3 (f2.siI (by decide))
              rw [o_or] at nx
              try simp (disch := omega) only [n_lit, n_m, i_bo01, j_cmpn, Classical.not_not, n_add, n_mul, n_div, n_mod, n_cl, n_lt, n_le, n_eq, n_in, n_eqm, n_meq, n_mlt, n_ltm, n_mle, n_lem, not_true_eq_false, not_false_eq_true, true_implies, false_implies, true_and, and_true, Nat.not_lt_zero, Nat.zero_le]
              refine ⟨fun z => d317_208 r3.1 (d317_213 r3.1 ?_), fun z => ⟨fun z2 => d317_213 r3.1 ?_, fun z2 => d317_208 r3.1 (d317_213 r3.1 ?_)⟩⟩
              · try simp (disch := omega) only [n_lit, n_m, n_add, n_mul, n_div, n_mod, n_cl, n_lt, n_le, n_eq, n_in, n_eqm, n_meq, n_mlt, n_ltm, n_mle, n_lem, not_true_eq_false, not_false_eq_true, true_implies, false_implies, true_and, and_true, Nat.not_lt_zero, Nat.zero_le]
                rw [i_bo_t (by rw [z]; rfl)] at nx
                exact nx _ _
              · try simp (disch := omega) only [n_lit, n_m, n_add, n_mul, n_div, n_mod, n_cl, n_lt, n_le, n_eq, n_in, n_eqm, n_meq, n_mlt, n_ltm, n_mle, n_lem, not_true_eq_false, not_false_eq_true, true_implies, false_implies, true_and, and_true, Nat.not_lt_zero, Nat.zero_le]
                rw [i_bo_f (by rw [Bool.or_eq_true]; exact fun q => q.elim z z2)] at nx
                exact nx _ _
              · try simp (disch := omega) only [n_lit, n_m, n_add, n_mul, n_div, n_mod, n_cl, n_lt, n_le, n_eq, n_in, n_eqm, n_meq, n_mlt, n_ltm, n_mle, n_lem, not_true_eq_false, not_false_eq_true, true_implies, false_implies, true_and, and_true, Nat.not_lt_zero, Nat.zero_le]
                rw [i_bo_t (by rw [z2, Bool.or_true])] at nx
                exact nx _ _
            · intro c hc ih3
              have nx : ∀ v : Bool, v = (o_or (fun b => o_fol a q f s0 (m - 1) b && ((b == k || o_far (a 0) b k == 1) && o_mf a q f m b k)) (c + 1)) → i_P i_MT i_AT L xs 317 175 [some (.ref 138), some (.int (i_n p)), some (.int (i_n q)), some (.int (i_n f)), some (.int (i_n (a 0 * a 1))), some (.int (i_n m)), some (.int (i_bo (o_or (o_fol a q f s0 m) k = true))), some (.int (i_n k)), some (.int (i_bo (o_or (fun b => o_fol a q f s0 (m - 1) b && ((b == k || o_far (a 0) b k == 1) && o_mf a q f m b k)) c = true))), some (.int (i_n c))] [.int (i_bo (v = true))] h2 0 0 Q := by
                intro v hv
                subst hv
                refine d317_175 r2.1 ?_
                try simp (disch := omega) only [n_lit, n_m, n_add, n_mul, n_div, n_mod, n_cl, n_lt, n_le, n_eq, n_in, n_eqm, n_meq, n_mlt, n_ltm, n_mle, n_lem, not_true_eq_false, not_false_eq_true, true_implies, false_implies, true_and, and_true, Nat.not_lt_zero, Nat.zero_le]
                exact ih3
              rw [o_or] at nx
              generalize hO : o_or (fun b => o_fol a q f s0 (m - 1) b && ((b == k || o_far (a 0) b k == 1) && o_mf a q f m b k)) c = O at nx ⊢
              have yes : (O || (o_fol a q f s0 (m - 1) c && ((c == k || o_far (a 0) c k == 1) && o_mf a q f m c k))) = true → i_P i_MT i_AT L xs 317 170 [some (.ref 138), some (.int (i_n p)), some (.int (i_n q)), some (.int (i_n f)), some (.int (i_n (a 0 * a 1))), some (.int (i_n m)), some (.int (i_bo (o_or (o_fol a q f s0 m) k = true))), some (.int (i_n k)), some (.int (i_bo (O = true))), some (.int (i_n c))] [] h2 0 0 Q := fun z => d317_170 r2.1 (nx true z.symm)
              have no : (O || (o_fol a q f s0 (m - 1) c && ((c == k || o_far (a 0) c k == 1) && o_mf a q f m c k))) = false → i_P i_MT i_AT L xs 317 174 [some (.ref 138), some (.int (i_n p)), some (.int (i_n q)), some (.int (i_n f)), some (.int (i_n (a 0 * a 1))), some (.int (i_n m)), some (.int (i_bo (o_or (o_fol a q f s0 m) k = true))), some (.int (i_n k)), some (.int (i_bo (O = true))), some (.int (i_n c))] [] h2 0 0 Q := fun z => d317_174 r2.1 (nx false z.symm)
              have st : O = false → o_fol a q f s0 (m - 1) c = true → (c == k || o_far (a 0) c k == 1) = true → i_P i_MT i_AT L xs 317 155 [some (.ref 138), some (.int (i_n p)), some (.int (i_n q)), some (.int (i_n f)), some (.int (i_n (a 0 * a 1))), some (.int (i_n m)), some (.int (i_bo (o_or (o_fol a q f s0 m) k = true))), some (.int (i_n k)), some (.int (i_bo (O = true))), some (.int (i_n c))] [] h2 0 0 Q := by
                intro z1 z2 z3
                refine d317_155 r2.1 (c316 r2 hq hc hk (by omega) (by omega) ⟨_, rfl, d317_167 r2.1 ?_⟩)
                try simp (disch := omega) only [n_lit, n_m, i_bo01, j_cmpn, Classical.not_not, n_add, n_mul, n_div, n_mod, n_cl, n_lt, n_le, n_eq, n_in, n_eqm, n_meq, n_mlt, n_ltm, n_mle, n_lem, not_true_eq_false, not_false_eq_true, true_implies, false_implies, true_and, and_true, Nat.not_lt_zero, Nat.zero_le]
                exact ⟨fun e => no (by simp [z1, z2, z3, e]), fun e => yes (by simp [z1, z2, z3, e])⟩
              refine d317_107 r2.1 ?_
              try simp (disch := omega) only [n_lit, n_m, i_bo01, j_cmpn, Classical.not_not, n_add, n_mul, n_div, n_mod, n_cl, n_lt, n_le, n_eq, n_in, n_eqm, n_meq, n_mlt, n_ltm, n_mle, n_lem, not_true_eq_false, not_false_eq_true, true_implies, false_implies, true_and, and_true, Nat.not_lt_zero, Nat.zero_le, n_sub, hF2]
              refine ⟨fun z => by omega, fun _ => ⟨fun z => yes (by rw [z]; rfl), fun z => ⟨by omega, fun z2 => no (by simp [z, z2]), fun z2 => ⟨fun z3 => st (by simpa using z) z2 (by simp [z3]), fun z3 => c285 r2 hc hk ⟨_, rfl, d317_152 r2.1 ?_⟩⟩⟩⟩⟩
              try simp (disch := omega) only [n_lit, n_m, i_bo01, j_cmpn, Classical.not_not, n_add, n_mul, n_div, n_mod, n_cl, n_lt, n_le, n_eq, n_in, n_eqm, n_meq, n_mlt, n_ltm, n_mle, n_lem, not_true_eq_false, not_false_eq_true, true_implies, false_implies, true_and, and_true, Nat.not_lt_zero, Nat.zero_le]
              exact ⟨fun z4 => no (by simp [z, z3, z4]), fun z4 => st (by simpa using z) z2 (by simp [z4])⟩
          refine d317_94 r2.1 ?_
          try simp (disch := omega) only [n_lit, n_m, n_add, n_mul, n_div, n_mod, n_cl, n_lt, n_le, n_eq, n_in, n_eqm, n_meq, n_mlt, n_ltm, n_mle, n_lem, not_true_eq_false, not_false_eq_true, true_implies, false_implies, true_and, and_true, Nat.not_lt_zero, Nat.zero_le]
          exact ⟨fun z => by omega, fun _ => can 0 (Nat.zero_le _)⟩
      refine d317_81 r1.1 ?_
      try simp (disch := omega) only [n_lit, n_m, n_add, n_mul, n_div, n_mod, n_cl, n_lt, n_le, n_eq, n_in, n_eqm, n_meq, n_mlt, n_ltm, n_mle, n_lem, not_true_eq_false, not_false_eq_true, true_implies, false_implies, true_and, and_true, Nat.not_lt_zero, Nat.zero_le]
      exact ⟨fun z => by omega, fun _ => to 0 (Nat.zero_le _) h1 hF (fun c hc => absurd hc (Nat.not_lt_zero c)) r1 f1 _ _⟩
  have init : ∀ c, c ≤ a 0 * a 1 → ∀ h1, (∀ b, b < c → aI h1 155 b = i_bo (o_fol a q f s0 0 b = true)) → i_RA a h1 → i_GS h h1 → ∀ (y6 y7 y8 y9 : Option Value), i_P i_MT i_AT L xs 317 36 [some (.ref 138), some (.int (i_n p)), some (.int (i_n q)), some (.int (i_n f)), some (.int (i_n (a 0 * a 1))), some (.int (i_n c)), y6, y7, y8, y9] [] h1 0 0 Q := by
    refine l_up ?_ ?_
    · intro h1 hF r1 f1 y6 y7 y8 y9
      refine d317_36 r1.1 ?_
      try simp (disch := omega) only [n_lit, n_m, n_add, n_mul, n_div, n_mod, n_cl, n_lt, n_le, n_eq, n_in, n_eqm, n_meq, n_mlt, n_ltm, n_mle, n_lem, not_true_eq_false, not_false_eq_true, true_implies, false_implies, true_and, and_true, Nat.not_lt_zero, Nat.zero_le, Nat.le_refl]
      exact key 1 (by omega) (Nat.le_refl 1) h1 (fun c hc => by rw [show 48 * (1 - 1) + c = c by omega]; exact hF c hc) (fun i q1 q2 => by omega) r1 f1 _ _ _ _
    · intro c hc ih h1 hF r1 f1 y6 y7 y8 y9
      have nx : ∀ v : Bool, v = (o_fol a q f s0 0 c) → i_P i_MT i_AT L xs 317 71 [some (.ref 138), some (.int (i_n p)), some (.int (i_n q)), some (.int (i_n f)), some (.int (i_n (a 0 * a 1))), some (.int (i_n c)), y6, y7, y8, y9] [.int (i_bo (v = true)), .int (i_n c), .ref 155] h1 0 0 Q := by
        intro v hv
        subst hv
        refine d317_71 r1.1 ⟨2928, aI h1 155, r1.1.a155, ?_⟩
        try simp (disch := omega) only [n_lit, n_m, n_add, n_mul, n_div, n_mod, n_cl, n_lt, n_le, n_eq, n_in, n_eqm, n_meq, n_mlt, n_ltm, n_mle, n_lem, not_true_eq_false, not_false_eq_true, true_implies, false_implies, true_and, and_true, Nat.not_lt_zero, Nat.zero_le, vn_bo]
        have r3 := r1.gs r1.1.siI (i_Fr.refl.siI (q := 155) (i := c) (x := i_bo (o_fol a q f s0 0 c = true)) (by decide))
        refine ⟨by omega, d317_72 r3.1 ?_⟩
        try simp (disch := omega) only [n_lit, n_m, n_add, n_mul, n_div, n_mod, n_cl, n_lt, n_le, n_eq, n_in, n_eqm, n_meq, n_mlt, n_ltm, n_mle, n_lem, not_true_eq_false, not_false_eq_true, true_implies, false_implies, true_and, and_true, Nat.not_lt_zero, Nat.zero_le]
        refine ih _ (fun b hb => ?_) r3 (f1.siI (by decide)) _ _ _ _
        rw [x_aI_siI r1.1.a155, x_upd]
        by_cases e : b = c
        · subst e; rw [if_pos rfl]
        · rw [if_neg (by omega)]; exact hF b (by omega)
      refine d317_36 r1.1 ?_
      try simp (disch := omega) only [n_lit, n_m, i_bo01, j_cmpn, Classical.not_not, n_add, n_mul, n_div, n_mod, n_cl, n_lt, n_le, n_eq, n_in, n_eqm, n_meq, n_mlt, n_ltm, n_mle, n_lem, not_true_eq_false, not_false_eq_true, true_implies, false_implies, true_and, and_true, Nat.not_lt_zero, Nat.zero_le, hSS h1 r1]
      exact ⟨fun z => by omega, fun _ => ⟨by omega, fun z => nx false (by simp [o_fol, z]), fun z => nx true (by simp [o_fol, z])⟩⟩
  try simp (disch := omega) only [n_lit, n_m, n_add, n_mul, n_div, n_mod, n_cl, n_lt, n_le, n_eq, n_in, n_eqm, n_meq, n_mlt, n_ltm, n_mle, n_lem, not_true_eq_false, not_false_eq_true, true_implies, false_implies, true_and, and_true, Nat.not_lt_zero, Nat.zero_le]
  exact init 0 (Nat.zero_le _) h (fun b hb => absurd hb (Nat.not_lt_zero b)) r i_Fr.refl _ _ _ _
end
