/-! MEETING, the class -/
section
variable {L : Nat} {xs : Nat → Int32} {h : iH} {Q : Option Value → iH → Prop} {a : Nat → Nat} {t : Nat}
set_option maxRecDepth 20000
/-- from u, c is seen as far as f -/
def o_sA (a : Nat → Nat) (f m u c : Nat) : Bool := u != c && (o_free (a 0) (o_bl a m) u c && decide (o_far (a 0) u c ≤ f))
def o_dn (i j x y : Nat) : Bool := decide (x < i ∨ (x = i ∧ y < j))
theorem o_dn_s {i j x y : Nat} : o_dn i (j + 1) x y = (o_dn i j x y || (x == i && y == j)) := by
  unfold o_dn
  rw [Bool.eq_iff_iff]
  simp only [decide_eq_true_eq, Bool.or_eq_true, Bool.and_eq_true, beq_iff_eq]
  omega
/-- the two tables, as far as done -/
def o_ab (a : Nat → Nat) (h : iH) (fA fB m i j : Nat) : Prop := ∀ u, u < a 0 * a 1 → o_is (aJ h 129 u) (a 0 * a 1) (fun c => o_sA a fA m u c && o_dn i j u c) ∧ o_is (aJ h 130 u) (a 0 * a 1) (fun c => o_sA a fB m c u && o_dn i j c u)
set_option maxHeartbeats 1000000 in
theorem c57 (g : i_CO a t h) {fA fB m : Nat} {x : Int64} (hA : fA < 100) (hB : fB < 100) (hx : o_is x (a 0 * a 1) (o_bl a m)) (H : ∀ h2, i_CO a t h2 → i_Fr [99, 129, 130] [] h h2 → (∀ u, u < a 0 * a 1 → o_is (aJ h2 129 u) (a 0 * a 1) (o_sA a fA m u) ∧ o_is (aJ h2 130 u) (a 0 * a 1) (fun c => o_sA a fB m c u)) → Q none h2) : i_C i_MT i_AT L xs 57 [.ref 121, .int (i_n fA), .int (i_n fB), .long x] h Q := by
  have h48 := g.w.c48
  have key : ∀ i, i ≤ a 0 * a 1 → ∀ h1, i_CO a t h1 → i_Fr [99, 129, 130] [] h h1 → o_ab a h1 fA fB m i 0 → ∀ (y6 y7 : Option Value), i_P i_MT i_AT L xs 57 19 [some (.ref 121), some (.int (i_n fA)), some (.int (i_n fB)), some (.long x), none, some (.int (i_n i)), y6, y7] [] h1 0 0 Q := by
    refine l_up ?_ ?_
    · intro h1 g1 f1 G1 y6 y7
      refine d57_19 g1.l ?_
      rw [g1.2.1.1.2.2]
      try simp (disch := omega) only [n_lit, n_m, n_add, n_mul, n_div, n_mod, n_cl, n_lt, n_le, n_eq, n_in, n_eqm, n_meq, n_mlt, n_ltm, n_mle, n_lem, not_true_eq_false, not_false_eq_true, true_implies, false_implies, true_and, and_true, Nat.not_lt_zero, Nat.zero_le, Nat.le_refl]
      refine H h1 g1 f1 (fun u hu => ⟨(G1 u hu).1.congr (fun c hc => ?_), (G1 u hu).2.congr (fun c hc => ?_)⟩)
      · rw [show o_dn (a 0 * a 1) 0 u c = true by unfold o_dn; simp [hu], Bool.and_true]
      · rw [show o_dn (a 0 * a 1) 0 c u = true by unfold o_dn; simp [hc], Bool.and_true]
    · intro i hi ih h1 g1 f1 G1 y6 y7
      have hp := g.w.pos hi
      have row : ∀ j, j ≤ a 0 * a 1 → ∀ h2, i_CO a t h2 → i_Fr [99, 129, 130] [] h h2 → o_ab a h2 fA fB m i j → ∀ (y7 : Option Value), i_P i_MT i_AT L xs 57 37 [some (.ref 121), some (.int (i_n fA)), some (.int (i_n fB)), some (.long x), none, some (.int (i_n i)), some (.int (i_n j)), y7] [] h2 0 0 Q := by
        refine l_up ?_ ?_
        · intro h2 g2 f2 G2 y7
          refine d57_37 g2.l ?_
          rw [g2.2.1.1.2.2]
          try simp (disch := omega) only [n_lit, n_m, n_add, n_mul, n_div, n_mod, n_cl, n_lt, n_le, n_eq, n_in, n_eqm, n_meq, n_mlt, n_ltm, n_mle, n_lem, not_true_eq_false, not_false_eq_true, true_implies, false_implies, true_and, and_true, Nat.not_lt_zero, Nat.zero_le, Nat.le_refl]
          refine ih h2 g2 f2 (fun u hu => ⟨(G2 u hu).1.congr (fun c hc => ?_), (G2 u hu).2.congr (fun c hc => ?_)⟩) _ _
          · congr 1; unfold o_dn; rw [Bool.eq_iff_iff, decide_eq_true_eq, decide_eq_true_eq]; omega
          · congr 1; unfold o_dn; rw [Bool.eq_iff_iff, decide_eq_true_eq, decide_eq_true_eq]; omega
        · intro j hj ih2 h2 g2 f2 G2 y7
          have hfl := o_far_lt (show 0 < a 0 by omega) hi hj
          have nx : ∀ h3, i_CO a t h3 → i_Fr [99, 129, 130] [] h h3 → o_ab a h3 fA fB m i (j + 1) → ∀ u : Int32, i_P i_MT i_AT L xs 57 146 [some (.ref 121), some (.int (i_n fA)), some (.int (i_n fB)), some (.long x), none, some (.int (i_n i)), some (.int (i_n j)), some (.int u)] [] h3 0 0 Q := by
            intro h3 g3 f3 G3 u
            refine d57_146 g3.l ?_
            try simp (disch := omega) only [n_lit, n_m, n_add, n_mul, n_div, n_mod, n_cl, n_lt, n_le, n_eq, n_in, n_eqm, n_meq, n_mlt, n_ltm, n_mle, n_lem, not_true_eq_false, not_false_eq_true, true_implies, false_implies, true_and, and_true, Nat.not_lt_zero, Nat.zero_le]
            exact ih2 h3 g3 f3 G3 _
          have no : o_sA a fA m i j = false → o_sA a fB m i j = false → ∀ h3, i_CO a t h3 → i_Fr [99, 129, 130] [] h h3 → o_ab a h3 fA fB m i j → ∀ u : Int32, i_P i_MT i_AT L xs 57 146 [some (.ref 121), some (.int (i_n fA)), some (.int (i_n fB)), some (.long x), none, some (.int (i_n i)), some (.int (i_n j)), some (.int u)] [] h3 0 0 Q := by
            intro e1 e2 h3 g3 f3 G3
            refine nx h3 g3 f3 (fun u hu => ⟨(G3 u hu).1.congr (fun c hc => ?_), (G3 u hu).2.congr (fun c hc => ?_)⟩)
            · rw [o_dn_s]
              by_cases q : u = i ∧ c = j
              · rw [q.1, q.2, e1, Bool.false_and, Bool.false_and]
              · rw [show (u == i && c == j) = false by simpa using q, Bool.or_false]
            · rw [o_dn_s]
              by_cases q : c = i ∧ u = j
              · rw [q.1, q.2, e2, Bool.false_and, Bool.false_and]
              · rw [show (c == i && u == j) = false by simpa using q, Bool.or_false]
          refine d57_37 g2.l ?_
          rw [g2.2.1.1.2.2]
          try simp (disch := omega) only [n_lit, n_m, n_add, n_mul, n_div, n_mod, n_cl, n_lt, n_le, n_eq, n_in, n_eqm, n_meq, n_mlt, n_ltm, n_mle, n_lem, not_true_eq_false, not_false_eq_true, true_implies, false_implies, true_and, and_true, Nat.not_lt_zero, Nat.zero_le]
          refine ⟨fun e => by omega, fun _ => c27 g2.l g2.w g2.2.1 hi hj ⟨_, rfl, d57_66 g2.l ?_⟩⟩
          try simp (disch := omega) only [n_lit, n_m, n_add, n_mul, n_div, n_mod, n_cl, n_lt, n_le, n_eq, n_in, n_eqm, n_meq, n_mlt, n_ltm, n_mle, n_lem, not_true_eq_false, not_false_eq_true, true_implies, false_implies, true_and, and_true, Nat.not_lt_zero, Nat.zero_le]
          refine ⟨fun e => no (by unfold o_sA; simp [e]) (by unfold o_sA; simp [e]) h2 g2 f2 G2 _, fun eij => c29 g2.l g2.w g2.2.1 hi hj (fun s1 h3 hs1 L3 gr3 f3 => ⟨_, rfl, ?_⟩)⟩
          have g3 := g2.gr L3 gr3 (f3.mono (by decide) (fun _ z => z))
          have F3 := f2.trans (f3.mono (B := [99, 129, 130]) (G := []) (by decide) (fun _ z => z))
          have G3 : o_ab a h3 fA fB m i j := by unfold o_ab; rw [f3.rJ (by decide), f3.rJ (by decide)]; exact G2
          refine d57_91 g3.l ?_
          have hfree := o_free_and hs1 hx (fun k h1 h2 => (o_mid_lt (by omega) (by omega) hi hj).1) h48.1
          rw [j_cmp0, hfree]
          refine ⟨fun e2 => no ?_ ?_ h3 g3 F3 G3 _, fun e2 => ?_⟩
          · unfold o_sA; rw [show o_free (a 0) (o_bl a m) i j = false by simpa using e2]; simp
          · unfold o_sA; rw [show o_free (a 0) (o_bl a m) i j = false by simpa using e2]; simp
          have e3 := Classical.not_not.mp e2
          have sA : ∀ f, o_sA a f m i j = decide (o_far (a 0) i j ≤ f) := fun f => by
            unfold o_sA
            rw [e3, show (i != j) = true by simp; omega, Bool.true_and, Bool.true_and]
          -- the second table
          have snd : ∀ h4, i_CO a t h4 → i_Fr [99, 129, 130] [] h h4 → (∀ u, u < a 0 * a 1 → o_is (aJ h4 129 u) (a 0 * a 1) (fun c => o_sA a fA m u c && o_dn i (j + 1) u c) ∧ o_is (aJ h4 130 u) (a 0 * a 1) (fun c => o_sA a fB m c u && o_dn i j c u)) → i_P i_MT i_AT L xs 57 122 [some (.ref 121), some (.int (i_n fA)), some (.int (i_n fB)), some (.long x), none, some (.int (i_n i)), some (.int (i_n j)), some (.int (i_n (o_far (a 0) i j)))] [] h4 0 0 Q := by
            intro h4 g4 f4 G4
            have fin : ∀ v, o_is v (a 0 * a 1) (fun c => c == i && decide (o_far (a 0) i j ≤ fB)) → i_P i_MT i_AT L xs 57 144 [some (.ref 121), some (.int (i_n fA)), some (.int (i_n fB)), some (.long x), none, some (.int (i_n i)), some (.int (i_n j)), some (.int (i_n (o_far (a 0) i j)))] [.long v, .long (aJ h4 130 j), .int (i_n j), .ref 130] h4 0 0 Q := by
              intro v hv
              refine d57_144 g4.l ⟨48, aJ h4 130, g4.l.a130, ?_⟩
              rw [n_cl (by omega)]
              refine ⟨(n_in (by omega)).mpr (by omega), ?_⟩
              have Fi : i_Fr [130] [] h4 (i_siJ h4 130 j (aJ h4 130 j ||| v)) := i_Fr.refl.siJ (by decide)
              have g5 : i_CO a t (i_siJ h4 130 j (aJ h4 130 j ||| v)) := g4.fr g4.l.siJ Fi (by decide) (fun q z => absurd z (by simp))
              refine nx _ g5 (f4.trans (Fi.mono (by decide) (fun _ z => z))) (fun u hu => ⟨?_, ?_⟩) _
              · rw [Fi.rJ (by decide)]; exact (G4 u hu).1
              · by_cases eu : u = j
                · subst eu
                  rw [i_siJ_at g4.l.a130]
                  refine ((G4 u hu).2.or hv).congr (fun c hc => ?_)
                  rw [o_dn_s]
                  by_cases ec : c = i
                  · subst ec
                    rw [sA]
                    simp only [beq_self_eq_true, Bool.and_self, Bool.or_true, Bool.and_true, Bool.true_and]
                    cases decide (o_far (a 0) c u ≤ fB) <;> simp
                  · rw [show (c == i) = false by simpa using ec]; simp
                · rw [i_siJ_no g4.l.a130 eu]
                  refine (G4 u hu).2.congr (fun c hc => ?_)
                  rw [o_dn_s, show (c == i && u == j) = false by simp [eu], Bool.or_false]
            refine d57_122 g4.l ?_
            rw [n_cl (by omega)]
            refine ⟨(n_in (by omega)).mpr (by omega), fun e => ?_, fun e => ?_⟩
            · rw [n_lt (by omega) (by omega)] at e
              exact fin 0 (o_is.emp.congr (fun c _ => by rw [decide_eq_false (by omega), Bool.and_false]))
            · rw [n_lt (by omega) (by omega)] at e
              exact fin _ ((o_is.one hi (by omega)).congr (fun c _ => by rw [decide_eq_true (by omega), Bool.and_true]))
          have fst : ∀ v, o_is v (a 0 * a 1) (fun c => c == j && decide (o_far (a 0) i j ≤ fA)) → i_P i_MT i_AT L xs 57 120 [some (.ref 121), some (.int (i_n fA)), some (.int (i_n fB)), some (.long x), none, some (.int (i_n i)), some (.int (i_n j)), some (.int (i_n (o_far (a 0) i j)))] [.long v, .long (aJ h3 129 i), .int (i_n i), .ref 129] h3 0 0 Q := by
            intro v hv
            refine d57_120 g3.l ⟨48, aJ h3 129, g3.l.a129, ?_⟩
            rw [n_cl (by omega)]
            refine ⟨(n_in (by omega)).mpr (by omega), ?_⟩
            have Fi : i_Fr [129] [] h3 (i_siJ h3 129 i (aJ h3 129 i ||| v)) := i_Fr.refl.siJ (by decide)
            have g5 : i_CO a t (i_siJ h3 129 i (aJ h3 129 i ||| v)) := g3.fr g3.l.siJ Fi (by decide) (fun q z => absurd z (by simp))
            refine snd _ g5 (F3.trans (Fi.mono (by decide) (fun _ z => z))) (fun u hu => ⟨?_, ?_⟩)
            · by_cases eu : u = i
              · subst eu
                rw [i_siJ_at g3.l.a129]
                refine ((G3 u hu).1.or hv).congr (fun c hc => ?_)
                rw [o_dn_s]
                by_cases ec : c = j
                · subst ec
                  rw [sA]
                  simp only [beq_self_eq_true, Bool.and_self, Bool.or_true, Bool.and_true, Bool.true_and]
                  cases decide (o_far (a 0) u c ≤ fA) <;> simp
                · rw [show (c == j) = false by simpa using ec]; simp
              · rw [i_siJ_no g3.l.a129 eu]
                refine (G3 u hu).1.congr (fun c hc => ?_)
                rw [o_dn_s, show (u == i && c == j) = false by simp [eu], Bool.or_false]
            · rw [Fi.rJ (by decide)]; exact (G3 u hu).2
          rw [n_cl (by omega)]
          refine ⟨(n_in (by omega)).mpr (by omega), fun e => ?_, fun e => ?_⟩
          · rw [n_lt (by omega) (by omega)] at e
            exact fst 0 (o_is.emp.congr (fun c _ => by rw [decide_eq_false (by omega), Bool.and_false]))
          · rw [n_lt (by omega) (by omega)] at e
            exact fst _ ((o_is.one hj (by omega)).congr (fun c _ => by rw [decide_eq_true (by omega), Bool.and_true]))
      refine d57_19 g1.l ?_
      rw [g1.2.1.1.2.2]
      try simp (disch := omega) only [n_lit, n_m, n_add, n_mul, n_div, n_mod, n_cl, n_lt, n_le, n_eq, n_in, n_eqm, n_meq, n_mlt, n_ltm, n_mle, n_lem, not_true_eq_false, not_false_eq_true, true_implies, false_implies, true_and, and_true, Nat.not_lt_zero, Nat.zero_le]
      exact ⟨fun e => by omega, fun _ => row 0 (Nat.zero_le _) h1 g1 f1 G1 _⟩
  refine e57 (d57_0 g.l (c348 g.l g.l.a129 (by omega) (fun h1 L1 f1 z1 => ⟨rfl, ?_⟩)))
  have g1 : i_CO a t h1 := g.fr L1 f1 (by decide) (fun q z => absurd z (by simp))
  refine d57_8 g1.l (c348 g1.l g1.l.a130 (by omega) (fun h2 L2 f2 z2 => ⟨rfl, ?_⟩))
  have g2 : i_CO a t h2 := g1.fr L2 f2 (by decide) (fun q z => absurd z (by simp))
  refine d57_16 g2.l ?_
  try simp (disch := omega) only [n_lit, n_m, n_add, n_mul, n_div, n_mod, n_cl, n_lt, n_le, n_eq, n_in, n_eqm, n_meq, n_mlt, n_ltm, n_mle, n_lem, not_true_eq_false, not_false_eq_true, true_implies, false_implies, true_and, and_true, Nat.not_lt_zero, Nat.zero_le]
  have nd : ∀ u c, o_dn 0 0 u c = false := fun u c => by unfold o_dn; simp
  refine key 0 (Nat.zero_le _) h2 g2 ((f1.mono (by decide) (fun _ z => z)).trans (f2.mono (by decide) (fun _ z => z))) (fun u hu => ⟨?_, ?_⟩) _ _
  · rw [f2.rJ (by decide), z1 u (by omega)]
    exact o_is.emp.congr (fun c _ => by rw [nd, Bool.and_false])
  · rw [z2 u (by omega)]
    exact o_is.emp.congr (fun c _ => by rw [nd, Bool.and_false])
def o_pB (h : iH) (B C : Nat) : Prop := fR h 121 6 = B ∧ fR h 121 7 = C ∧ ((B = 127 ∧ C = 128) ∨ (B = 128 ∧ C = 127))
theorem o_pB.f6 (hL : i_Lay h) {B C : Nat} (b : o_pB h B C) : i_fld h 121 5 6 = some (.ref B) := by
  have := hL.fw (q := 121) (ci := 5) (b := 6) rfl rfl rfl
  rw [b.1] at this; exact this
theorem o_pB.f7 (hL : i_Lay h) {B C : Nat} (b : o_pB h B C) : i_fld h 121 5 7 = some (.ref C) := by
  have := hL.fw (q := 121) (ci := 5) (b := 7) rfl rfl rfl
  rw [b.2.1] at this; exact this
theorem o_pB.aB (hL : i_Lay h) {B C : Nat} (b : o_pB h B C) : i_arJ h B = some (192, aJ h B) ∧ i_arJ h C = some (192, aJ h C) := by
  rcases b.2.2 with e | e <;> rw [e.1, e.2]
  · exact ⟨hL.a127, hL.a128⟩
  · exact ⟨hL.a128, hL.a127⟩
theorem o_pB.fr {h2 : iH} {A : List Nat} {F : List (Nat × Nat)} {B C : Nat} (b : o_pB h B C) (f : i_Fr A F h h2) (h8 : (121, 6) ∉ F) (h9 : (121, 7) ∉ F) : o_pB h2 B C := by
  unfold o_pB
  rw [f.vR h8, f.vR h9]; exact b
theorem o_pB.ne {B C : Nat} (b : o_pB h B C) : B ≠ C ∧ 126 < B ∧ B < 129 ∧ 126 < C ∧ C < 129 := by
  rcases b.2.2 with e | e <;> omega
theorem i_sw2.pB (s : i_sw2 h 121 6 7 127 128) : ∃ B C, o_pB h B C := by
  rcases s with e | e
  · exact ⟨127, 128, e.1, e.2, Or.inl ⟨rfl, rfl⟩⟩
  · exact ⟨128, 127, e.1, e.2, Or.inr ⟨rfl, rfl⟩⟩
theorem o_pB.sw {B C : Nat} (b : o_pB h B C) : i_sw2 h 121 6 7 127 128 := by
  rcases b.2.2 with e | e
  · exact Or.inl ⟨b.1.trans e.1, b.2.1.trans e.2⟩
  · exact Or.inr ⟨b.1.trans e.1, b.2.1.trans e.2⟩
/-- rows by what has been seen and by the cell of the first -/
def o_rs (a : Nat → Nat) (h : iH) (B : Nat) (F : Nat → Nat → Nat → Bool) : Prop := ∀ s u, s < 4 → u < a 0 * a 1 → o_is (aJ h B (s * 48 + u)) (a 0 * a 1) (F s u)
theorem c59 (g : i_CO a t h) {B C s u : Nat} {X : Int64} {P : Nat → Bool} {G : Nat → Nat → Nat → Bool} (b : o_pB h B C) (hs : s < 4) (hu : u < a 0 * a 1) (hX : o_is X (a 0 * a 1) P) (hG : o_rs a h C G) (H : ∀ h2, i_CO a t h2 → i_Fr [C] [] h h2 → o_rs a h2 C (fun s2 u2 c => G s2 u2 c || (s2 == s && (u2 == u && P c))) → Q none h2) : i_C i_MT i_AT L xs 59 [.ref 121, .int (i_n s), .int (i_n u), .long X] h Q := by
  have h48 := g.w.c48
  have nb := b.ne
  refine e59 (d59_0 g.l ⟨C, b.f7 g.l, 192, aJ h C, (b.aB g.l).2, ?_⟩)
  try simp (disch := omega) only [n_lit, n_m, n_add, n_mul, n_div, n_mod, n_cl, n_lt, n_le, n_eq, n_in, n_eqm, n_meq, n_mlt, n_ltm, n_mle, n_lem, not_true_eq_false, not_false_eq_true, true_implies, false_implies, true_and, and_true, Nat.not_lt_zero, Nat.zero_le]
  refine ⟨by omega, 192, aJ h C, (b.aB g.l).2, by omega, ?_⟩
  have Fi : i_Fr [C] [] h (i_siJ h C (s * 48 + u) (aJ h C (s * 48 + u) ||| X)) := i_Fr.refl.siJ List.mem_cons_self
  have g2 := g.fp Fi g.l.siJ (fun q hq => by simp only [List.mem_cons, List.not_mem_nil, or_false] at hq; omega) (fun _ e => absurd e (by simp))
  refine d59_15 g2.l (H _ g2 Fi (fun s2 u2 hs2 hu2 => ?_))
  by_cases e : s2 * 48 + u2 = s * 48 + u
  · obtain ⟨rfl, rfl⟩ : s2 = s ∧ u2 = u := by omega
    rw [i_siJ_at (b.aB g.l).2]
    refine ((hG s2 u2 hs2 hu2).or hX).congr (fun c _ => ?_)
    dsimp only
    rw [show (s2 == s2) = true by simp, show (u2 == u2) = true by simp, Bool.true_and, Bool.true_and]
  · rw [i_siJ_no (b.aB g.l).2 e]
    refine (hG s2 u2 hs2 hu2).congr (fun c _ => ?_)
    dsimp only
    have : (s2 == s && (u2 == u && P c)) = false := by
      by_cases e1 : s2 = s
      · have e2 : u2 ≠ u := fun z => e (by rw [e1, z])
        rw [show (u2 == u) = false by simpa using e2]; simp
      · rw [show (s2 == s) = false by simpa using e1]; simp
    rw [this, Bool.or_false]
end
