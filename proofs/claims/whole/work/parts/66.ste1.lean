/-! STEALTH: weights, who is unseen where; followed -/
section
variable {L : Nat} {xs : Nat → Int32} {h : iH} {Q : Option Value → iH → Prop} {a : Nat → Nat} {t : Nat}
set_option maxRecDepth 20000
theorem o_on_le (w : o_WF a) {c d : Nat} (hd : d ≤ 4) : o_on a c d ≤ 16 := by
  have h9 := w.2.2.2.2.2.1
  unfold o_on
  have hi : (if d = 0 then a 9 else if d = 1 then 16 else a (4 + d)) ≤ 16 := by
    split
    · exact h9 3 (by omega)
    · split
      · omega
      · have := h9 (d - 2) (by omega)
        rwa [show 6 + (d - 2) = 4 + d by omega] at this
  have : (if d = 0 then a 9 else if d = 1 then 16 else a (4 + d)) * (16 - o_sway a c) ≤ 16 * 16 := Nat.mul_le_mul hi (by omega)
  omega
theorem o_wgh_on {p c d m : Nat} : o_wgh a p c d m = if o_sees a p c m = true ∧ (d = 0 → o_moved a p m = true) then o_on a c d else 0 := by
  unfold o_wgh o_its o_on
  by_cases hs : o_sees a p c m = true
  · rw [if_pos hs]
    by_cases e0 : d = 0
    · rw [if_neg (by omega), if_pos e0, if_pos e0]
      by_cases hm : o_moved a p m = true
      · rw [if_pos hm, if_pos ⟨hs, fun _ => hm⟩]
      · rw [if_neg hm, if_neg (fun q => hm (q.2 e0)), Nat.zero_mul, Nat.zero_div]
    · rw [if_pos (show o_sees a p c m = true ∧ (d = 0 → o_moved a p m = true) from ⟨hs, fun q => absurd q e0⟩), if_neg e0, if_neg e0]
  · rw [if_neg hs, if_neg (fun q => hs q.1)]
/-- the cells on which a move weighs, and those on which it weighs 16 -/
def o_wei (a : Nat → Nat) (h : iH) : Prop := ∀ d, d ≤ 4 → o_is (aJ h 110 d) (a 0 * a 1) (fun c => decide (0 < o_on a c d)) ∧ o_is (aJ h 111 d) (a 0 * a 1) (fun c => decide (16 ≤ o_on a c d))
theorem j_or0 (s : Int64) : s ||| 0 = s := j_ext (fun c _ => by rw [j_or, j_0, Bool.or_false])
set_option maxHeartbeats 1000000 in
theorem c67 (g : i_CO a t h) (H : ∀ h2 : iH, i_CO a t h2 → i_Fr [110, 111] [] h h2 → o_wei a h2 → Q none h2) : i_C i_MT i_AT L xs 67 [.ref 108] h Q := by
  have h48 := g.w.c48
  have hN : ∀ h2, i_CO a t h2 → fI h2 96 2 = i_n (a 0 * a 1) := fun h2 g2 => g2.2.1.1.2.2
  have key : ∀ d, d ≤ 5 → ∀ (x2 x3 : Option Value) (h1 : iH), i_CO a t h1 → i_Fr [110, 111] [] h h1 → (∀ e, e < d → o_is (aJ h1 110 e) (a 0 * a 1) (fun c => decide (0 < o_on a c e)) ∧ o_is (aJ h1 111 e) (a 0 * a 1) (fun c => decide (16 ≤ o_on a c e))) → i_P i_MT i_AT L xs 67 2 [some (.ref 108), some (.int (i_n d)), x2, x3] [] h1 0 0 Q := by
    refine l_up ?_ ?_
    · intro x2 x3 h1 g1 f1 hd
      refine d67_2 g1.l ?_
      try simp (disch := omega) only [n_lit, n_m, n_add, n_mul, n_div, n_mod, n_cl, n_lt, n_le, n_eq, n_in, n_eqm, n_meq, n_mlt, n_ltm, n_mle, n_lem, not_true_eq_false, not_false_eq_true, true_implies, false_implies, true_and, and_true, Nat.not_lt_zero, Nat.zero_le]
      exact ⟨fun _ => H h1 g1 f1 (fun d hd4 => hd d (by omega)), fun q => absurd (by omega) q⟩
    · intro d hd ih x2 x3 h1 g1 f1 hdone
      have row : ∀ c, c ≤ a 0 * a 1 → ∀ (x3 : Option Value) (h2 : iH), i_CO a t h2 → i_Fr [110, 111] [] h h2 → (∀ e, e < d → o_is (aJ h2 110 e) (a 0 * a 1) (fun c => decide (0 < o_on a c e)) ∧ o_is (aJ h2 111 e) (a 0 * a 1) (fun c => decide (16 ≤ o_on a c e))) → o_is (aJ h2 110 d) c (fun c => decide (0 < o_on a c d)) → o_is (aJ h2 111 d) c (fun c => decide (16 ≤ o_on a c d)) → i_P i_MT i_AT L xs 67 23 [some (.ref 108), some (.int (i_n d)), some (.int (i_n c)), x3] [] h2 0 0 Q := by
        refine l_up ?_ ?_
        · intro x3 h2 g2 f2 hd2 s1 s2
          refine d67_23 g2.l ?_
          rw [hN h2 g2]
          try simp (disch := omega) only [n_lit, n_m, n_add, n_mul, n_div, n_mod, n_cl, n_lt, n_le, n_eq, n_in, n_eqm, n_meq, n_mlt, n_ltm, n_mle, n_lem, not_true_eq_false, not_false_eq_true, true_implies, false_implies, true_and, and_true, Nat.not_lt_zero, Nat.zero_le, Nat.le_refl]
          refine ih _ _ h2 g2 f2 (fun e he => ?_)
          by_cases ee : e = d
          · subst ee; exact ⟨s1, s2⟩
          · exact hd2 e (by omega)
        · intro c hc ih2 x3 h2 g2 f2 hd2 s1 s2
          have hon := o_on_le g.w (c := c) (d := d) (by omega)
          refine d67_23 g2.l ?_
          rw [hN h2 g2]
          try simp (disch := omega) only [n_lit, n_m, n_add, n_mul, n_div, n_mod, n_cl, n_lt, n_le, n_eq, n_in, n_eqm, n_meq, n_mlt, n_ltm, n_mle, n_lem, not_true_eq_false, not_false_eq_true, true_implies, false_implies, true_and, and_true, Nat.not_lt_zero, Nat.zero_le]
          refine ⟨fun q => by omega, fun _ => ⟨t, g2.tw, g2.T, c101 g2.l g2.w g2.T g2.ct (by omega) (by omega) ⟨_, rfl, d67_49 g2.l ?_⟩⟩⟩
          -- the first store, then the second
          have st2 : ∀ (v : Int64) (h3 : iH), i_CO a t h3 → i_Fr [110, 111] [] h h3 → (∀ e, e < d → o_is (aJ h3 110 e) (a 0 * a 1) (fun c => decide (0 < o_on a c e)) ∧ o_is (aJ h3 111 e) (a 0 * a 1) (fun c => decide (16 ≤ o_on a c e))) → o_is (aJ h3 110 d) (c + 1) (fun c => decide (0 < o_on a c d)) → o_is (aJ h3 111 d ||| v) (c + 1) (fun c => decide (16 ≤ o_on a c d)) → i_P i_MT i_AT L xs 67 90 [some (.ref 108), some (.int (i_n d)), some (.int (i_n c)), some (.int (i_n (o_on a c d)))] [.long v, .long (aJ h3 111 d), .int (i_n d), .ref 111] h3 0 0 Q := by
            intro v h3 g3 f3 hd3 q1 q2
            refine d67_90 g3.l ⟨5, aJ h3 111, g3.l.a111, ?_⟩
            try simp (disch := omega) only [n_lit, n_m, n_add, n_mul, n_div, n_mod, n_cl, n_lt, n_le, n_eq, n_in, n_eqm, n_meq, n_mlt, n_ltm, n_mle, n_lem, not_true_eq_false, not_false_eq_true, true_implies, false_implies, true_and, and_true, Nat.not_lt_zero, Nat.zero_le]
            refine ⟨by omega, d67_92 g3.l.siJ ?_⟩
            try simp (disch := omega) only [n_lit, n_m, n_add, n_mul, n_div, n_mod, n_cl, n_lt, n_le, n_eq, n_in, n_eqm, n_meq, n_mlt, n_ltm, n_mle, n_lem, not_true_eq_false, not_false_eq_true, true_implies, false_implies, true_and, and_true, Nat.not_lt_zero, Nat.zero_le]
            have fr : i_Fr [111] [] h3 (i_siJ h3 111 d (aJ h3 111 d ||| v)) := i_Fr.refl.siJ (by decide)
            refine ih2 _ _ (g3.fr g3.l.siJ fr (by decide) (by decide)) (f3.siJ (by decide)) (fun e he => ?_) ?_ ?_
            · rw [fr.rJ (by decide), i_siJ_no g3.l.a111 (by omega)]; exact hd3 e he
            · rw [fr.rJ (by decide)]; exact q1
            · rw [i_siJ_at g3.l.a111]; exact q2
          have st1 : ∀ (v : Int64), o_is (aJ h2 110 d ||| v) (c + 1) (fun c => decide (0 < o_on a c d)) → i_P i_MT i_AT L xs 67 68 [some (.ref 108), some (.int (i_n d)), some (.int (i_n c)), some (.int (i_n (o_on a c d)))] [.long v, .long (aJ h2 110 d), .int (i_n d), .ref 110] h2 0 0 Q := by
            intro v q1
            refine d67_68 g2.l ⟨5, aJ h2 110, g2.l.a110, ?_⟩
            try simp (disch := omega) only [n_lit, n_m, n_add, n_mul, n_div, n_mod, n_cl, n_lt, n_le, n_eq, n_in, n_eqm, n_meq, n_mlt, n_ltm, n_mle, n_lem, not_true_eq_false, not_false_eq_true, true_implies, false_implies, true_and, and_true, Nat.not_lt_zero, Nat.zero_le]
            have fr : i_Fr [110] [] h2 (i_siJ h2 110 d (aJ h2 110 d ||| v)) := i_Fr.refl.siJ (by decide)
            have g3 := g2.fr g2.l.siJ fr (by decide) (by decide)
            have hd3 : ∀ e, e < d → o_is (aJ (i_siJ h2 110 d (aJ h2 110 d ||| v)) 110 e) (a 0 * a 1) (fun c => decide (0 < o_on a c e)) ∧ o_is (aJ (i_siJ h2 110 d (aJ h2 110 d ||| v)) 111 e) (a 0 * a 1) (fun c => decide (16 ≤ o_on a c e)) := by
              intro e he
              rw [fr.rJ (p := 111) (by decide), i_siJ_no g2.l.a110 (by omega)]; exact hd2 e he
            refine ⟨by omega, d67_70 g3.l ?_⟩
            try simp (disch := omega) only [n_lit, n_m, n_add, n_mul, n_div, n_mod, n_cl, n_lt, n_le, n_eq, n_in, n_eqm, n_meq, n_mlt, n_ltm, n_mle, n_lem, not_true_eq_false, not_false_eq_true, true_implies, false_implies, true_and, and_true, Nat.not_lt_zero, Nat.zero_le]
            refine ⟨by omega, fun q => st2 _ _ g3 (f2.siJ (by decide)) hd3 (by rw [i_siJ_at g2.l.a110]; exact q1) ?_, fun q => st2 _ _ g3 (f2.siJ (by decide)) hd3 (by rw [i_siJ_at g2.l.a110]; exact q1) ?_⟩
            · rw [fr.rJ (by decide), j_or0]; exact s2.f (by simp; omega)
            · rw [fr.rJ (by decide)]; exact s2.t (by omega) (by simp; omega)
          try simp (disch := omega) only [n_lit, n_m, n_add, n_mul, n_div, n_mod, n_cl, n_lt, n_le, n_eq, n_in, n_eqm, n_meq, n_mlt, n_ltm, n_mle, n_lem, not_true_eq_false, not_false_eq_true, true_implies, false_implies, true_and, and_true, Nat.not_lt_zero, Nat.zero_le]
          refine ⟨by omega, fun q => st1 _ ?_, fun q => st1 _ ?_⟩
          · rw [j_or0]; exact s1.f (by simp; omega)
          · exact s1.t (by omega) (by simp; omega)
      have fr1 : i_Fr [110] [] h1 (i_siJ h1 110 d 0) := i_Fr.refl.siJ (by decide)
      have g2 := g1.fr g1.l.siJ fr1 (by decide) (by decide)
      have fr2 : i_Fr [111] [] (i_siJ h1 110 d 0) (i_siJ (i_siJ h1 110 d 0) 111 d 0) := i_Fr.refl.siJ (by decide)
      have g3 := g2.fr g2.l.siJ fr2 (by decide) (by decide)
      refine d67_2 g1.l ?_
      try simp (disch := omega) only [n_lit, n_m, n_add, n_mul, n_div, n_mod, n_cl, n_lt, n_le, n_eq, n_in, n_eqm, n_meq, n_mlt, n_ltm, n_mle, n_lem, not_true_eq_false, not_false_eq_true, true_implies, false_implies, true_and, and_true, Nat.not_lt_zero, Nat.zero_le]
      refine ⟨fun q => by omega, fun _ => ⟨by omega, d67_14 g2.l ?_⟩⟩
      try simp (disch := omega) only [n_lit, n_m, n_add, n_mul, n_div, n_mod, n_cl, n_lt, n_le, n_eq, n_in, n_eqm, n_meq, n_mlt, n_ltm, n_mle, n_lem, not_true_eq_false, not_false_eq_true, true_implies, false_implies, true_and, and_true, Nat.not_lt_zero, Nat.zero_le]
      refine ⟨by omega, d67_21 g3.l ?_⟩
      try simp (disch := omega) only [n_lit, n_m, n_add, n_mul, n_div, n_mod, n_cl, n_lt, n_le, n_eq, n_in, n_eqm, n_meq, n_mlt, n_ltm, n_mle, n_lem, not_true_eq_false, not_false_eq_true, true_implies, false_implies, true_and, and_true, Nat.not_lt_zero, Nat.zero_le]
      refine row 0 (Nat.zero_le _) _ _ g3 ((f1.siJ (by decide)).siJ (by decide)) (fun e he => ?_) ?_ ?_
      · rw [fr2.rJ (by decide), i_siJ_no g1.l.a110 (by omega), i_siJ_no g2.l.a111 (by omega), fr1.rJ (by decide)]
        exact hdone e he
      · rw [fr2.rJ (by decide), i_siJ_at g1.l.a110]; exact o_is.zero
      · rw [i_siJ_at g2.l.a111]; exact o_is.zero
  refine e67 (d67_0 g.l ?_)
  try simp (disch := omega) only [n_lit, n_m, n_add, n_mul, n_div, n_mod, n_cl, n_lt, n_le, n_eq, n_in, n_eqm, n_meq, n_mlt, n_ltm, n_mle, n_lem, not_true_eq_false, not_false_eq_true, true_implies, false_implies, true_and, and_true, Nat.not_lt_zero, Nat.zero_le]
  exact key 0 (by omega) _ _ h g i_Fr.refl (fun e he => by omega)
theorem o_wei.fr {h2 : iH} {A : List Nat} {F : List (Nat × Nat)} (x : o_wei a h) (f : i_Fr A F h h2) (hA : 110 ∉ A ∧ 111 ∉ A) : o_wei a h2 := by
  unfold o_wei
  rw [f.rJ hA.1, f.rJ hA.2]
  exact x
theorem o_is.and {s s2 : Int64} {n : Nat} {P P2 : Nat → Bool} (x : o_is s n P) (y : o_is s2 n P2) : o_is (s &&& s2) n (fun c => P c && P2 c) := fun c hc => by
  rw [j_and, x c hc, y c hc]
  by_cases h : c < n <;> simp [h]
theorem o_is.or {s s2 : Int64} {n : Nat} {P P2 : Nat → Bool} (x : o_is s n P) (y : o_is s2 n P2) : o_is (s ||| s2) n (fun c => P c || P2 c) := fun c hc => by
  rw [j_or, x c hc, y c hc]
  by_cases h : c < n <;> simp [h]
theorem o_is.none {n : Nat} : o_is 0 n (fun _ => false) := fun c _ => by rw [j_0]; simp
theorem o_is.one {n k : Nat} (hk : k < n) (hn : n ≤ 64) : o_is ((1 : Int64) <<< ((i_n k).toInt64 &&& (63 : Int64))) n (fun c => c == k) := fun c hc => by
  rw [j_one (by omega)]
  by_cases h : c = k
  · subst h; simp [hk]
  · simp [h]
/-- agrees with P on the cells -/
def o_ia (s : Int64) (n : Nat) (P : Nat → Bool) : Prop := ∀ c, c < n → i_b s c = P c
theorem o_is.ia {s s2 : Int64} {n : Nat} {P P2 : Nat → Bool} (x : o_is s n P) (y : o_ia s2 n P2) : o_is (s &&& s2) n (fun c => P c && P2 c) := fun c hc => by
  rw [j_and, x c hc]
  by_cases h : c < n
  · simp [h, y c h]
  · simp [h]
theorem c68 (g : i_CO a t h) {s : Int64} {P : Nat → Bool} {p d m : Nat} (hs : o_is s (a 0 * a 1) P) (hp : p < a 5) (hd : d ≤ 4) (hm : m ≤ 60) (H : ∀ (s2 : Int64) (h2 : iH), o_is s2 (a 0 * a 1) (fun c => P c && (o_sees a p c m && (d != 0 || o_moved a p m))) → i_CO a t h2 → i_Fr [99, 100, 106, 107] [] h h2 → Q (some (.long s2)) h2) : i_C i_MT i_AT L xs 68 [.ref 108, .long s, .int (i_n p), .int (i_n d), .int (i_n m)] h Q := by
  have yes : (d != 0 || o_moved a p m) = true → i_P i_MT i_AT L xs 68 20 [some (.ref 108), some (.long s), none, some (.int (i_n p)), some (.int (i_n d)), some (.int (i_n m))] [] h 0 0 Q := by
    intro e
    refine d68_20 g.l (c10 g hp hm (fun v h1 hv g1 f1 => ⟨_, rfl, d68_31 g1.l (H _ h1 ((hs.and hv).congr (fun c _ => ?_)) g1 f1)⟩))
    rw [e, Bool.and_true]
  refine e68 (d68_0 g.l ?_)
  try simp (disch := omega) only [n_lit, n_m, n_add, n_mul, n_div, n_mod, n_cl, n_lt, n_le, n_eq, n_in, n_eqm, n_meq, n_mlt, n_ltm, n_mle, n_lem, not_true_eq_false, not_false_eq_true, true_implies, false_implies, true_and, and_true, Nat.not_lt_zero, Nat.zero_le]
  refine ⟨fun q => yes (by simp [q]), fun q => c9 g hp hm ⟨_, rfl, d68_15 g.l ?_⟩⟩
  have hd0 : d = 0 := Classical.not_not.mp q
  rw [i_bo_0, Classical.not_not]
  refine ⟨fun q2 => yes (by simp [q2]), fun q2 => H 0 h (o_is.none.congr (fun c _ => ?_)) g i_Fr.refl⟩
  subst hd0
  simp [q2]
/-- nobody of the set v sees such a move on c -/
def o_unw (a : Nat → Nat) (v d m c : Nat) : Bool := (List.range (a 5)).all (fun b => !(v.testBit b) || o_wgh a b c d m == 0)
theorem o_unw_t {v d m c : Nat} : o_unw a v d m c = true ↔ ∀ b, b < a 5 → v.testBit b = true → o_wgh a b c d m = 0 := by
  unfold o_unw
  simp only [List.all_eq_true, List.mem_range, Bool.or_eq_true, beq_iff_eq, Bool.not_eq_true']
  constructor
  · intro h b hb hw
    rcases h b hb with z | z
    · rw [hw] at z; cases z
    · exact z
  · intro h b hb
    cases hw : v.testBit b with
    | false => exact Or.inl rfl
    | true => exact Or.inr (h b hb hw)
theorem o_uns_unw {p c d m : Nat} : o_uns a p c d m = o_unw a (a (157 + 5 * p)) d m c := rfl
set_option maxHeartbeats 1000000 in
theorem c69 (g : i_CO a t h) (hw : o_wei a h) {v d m : Nat} (hv : v < 256) (hd : d ≤ 4) (hm : m ≤ 60) (H : ∀ (s2 : Int64) (h2 : iH), o_ia s2 (a 0 * a 1) (o_unw a v d m) → i_CO a t h2 → i_Fr [99, 100, 106, 107] [] h h2 → Q (some (.long s2)) h2) : i_C i_MT i_AT L xs 69 [.ref 108, .int (i_n v), .int (i_n d), .int (i_n m)] h Q := by
  have h5 := g.w.2.2.2.2.1
  have h48 := g.w.c48
  have key : ∀ k, k ≤ a 5 → ∀ (s : Int64) (h1 : iH), (o_is s (a 0 * a 1) (fun c => (List.range k).any (fun b => v.testBit b && (decide (0 < o_on a c d) && (o_sees a b c m && (d != 0 || o_moved a b m)))))) → i_CO a t h1 → i_Fr [99, 100, 106, 107] [] h h1 → i_P i_MT i_AT L xs 69 6 [some (.ref 108), some (.int (i_n v)), some (.int (i_n d)), some (.int (i_n m)), some (.long s), none, some (.int (i_n k))] [] h1 0 0 Q := by
    refine l_up ?_ ?_
    · intro s h1 hs g1 f1
      refine d69_6 g1.l ⟨t, g1.tw, g1.T, ?_⟩
      rw [g1.np]
      try simp (disch := omega) only [n_lit, n_m, n_add, n_mul, n_div, n_mod, n_cl, n_lt, n_le, n_eq, n_in, n_eqm, n_meq, n_mlt, n_ltm, n_mle, n_lem, not_true_eq_false, not_false_eq_true, true_implies, false_implies, true_and, and_true, Nat.not_lt_zero, Nat.zero_le, Nat.le_refl]
      refine H _ h1 (fun c hc => ?_) g1 f1
      rw [j_not _ (by omega), hs.b hc (by omega), Bool.eq_iff_iff, o_unw_t]
      rw [Bool.not_eq_true', ← Bool.not_eq_true]
      simp only [List.any_eq_true, List.mem_range, Bool.and_eq_true, decide_eq_true_eq, Bool.or_eq_true, bne_iff_ne, ne_eq]
      constructor
      · intro z b hb hvb
        rw [o_wgh_on]
        split
        · rename_i q
          by_cases e0 : o_on a c d = 0
          · exact e0
          · refine absurd ⟨b, hb, hvb, by omega, q.1, ?_⟩ z
            by_cases ed : d = 0
            · exact Or.inr (q.2 ed)
            · exact Or.inl ed
        · rfl
      · rintro z ⟨b, hb, hvb, z1, z2, z3⟩
        have := z b hb hvb
        rw [o_wgh_on, if_pos ⟨z2, fun ed => by rcases z3 with q | q; exact absurd ed q; exact q⟩] at this
        omega
    · intro k hk ih s h1 hs g1 f1
      refine d69_6 g1.l ⟨t, g1.tw, g1.T, ?_⟩
      rw [g1.np]
      try simp (disch := omega) only [n_lit, n_m, n_add, n_mul, n_div, n_mod, n_cl, n_lt, n_le, n_eq, n_in, n_eqm, n_meq, n_mlt, n_ltm, n_mle, n_lem, not_true_eq_false, not_false_eq_true, true_implies, false_implies, true_and, and_true, Nat.not_lt_zero, Nat.zero_le]
      refine ⟨fun q => by omega, fun _ => c193 (by omega) ⟨_, rfl, d69_31 g1.l ?_⟩⟩
      rw [i_bo_0, Classical.not_not, j_i2l (by omega) (by omega)]
      refine ⟨fun e => d69_53 g1.l ?_, fun e => ?_⟩
      · try simp (disch := omega) only [n_lit, n_m, n_add, n_mul, n_div, n_mod, n_cl, n_lt, n_le, n_eq, n_in, n_eqm, n_meq, n_mlt, n_ltm, n_mle, n_lem, not_true_eq_false, not_false_eq_true, true_implies, false_implies, true_and, and_true, Nat.not_lt_zero, Nat.zero_le]
        refine ih _ _ (hs.congr (fun c _ => ?_)) g1 f1
        rw [List.range_succ, List.any_append]
        simp [e]
      · try simp (disch := omega) only [n_lit, n_m, n_add, n_mul, n_div, n_mod, n_cl, n_lt, n_le, n_eq, n_in, n_eqm, n_meq, n_mlt, n_ltm, n_mle, n_lem, not_true_eq_false, not_false_eq_true, true_implies, false_implies, true_and, and_true, Nat.not_lt_zero, Nat.zero_le]
        refine ⟨by omega, c68 g1 ((hw.fr f1 (by decide)) d hd).1 hk hd hm (fun s2 h2 hs2 g2 f2 => ⟨_, rfl, d69_50 g2.l (d69_53 g2.l ?_)⟩)⟩
        try simp (disch := omega) only [n_lit, n_m, n_add, n_mul, n_div, n_mod, n_cl, n_lt, n_le, n_eq, n_in, n_eqm, n_meq, n_mlt, n_ltm, n_mle, n_lem, not_true_eq_false, not_false_eq_true, true_implies, false_implies, true_and, and_true, Nat.not_lt_zero, Nat.zero_le]
        refine ih _ _ ((hs.or hs2).congr (fun c _ => ?_)) g2 (f1.trans f2)
        rw [List.range_succ, List.any_append]
        simp [e]
  refine e69 (d69_0 g.l ?_)
  try simp (disch := omega) only [n_lit, n_m, n_add, n_mul, n_div, n_mod, n_cl, n_lt, n_le, n_eq, n_in, n_eqm, n_meq, n_mlt, n_ltm, n_mle, n_lem, not_true_eq_false, not_false_eq_true, true_implies, false_implies, true_and, and_true, Nat.not_lt_zero, Nat.zero_le]
  exact key 0 (Nat.zero_le _) 0 h (o_is.none.congr (fun c _ => rfl)) g i_Fr.refl
theorem c71 (hL : i_Lay h) (w : o_WF a) (g : i_GR a h) {s : Int64} {P G S : Nat → Bool} {m : Nat} (hs : o_is s (a 0 * a 1) P) (hm : m ≤ 60) (hS : o_ia (aJ h 114 m) (a 0 * a 1) S) (hG : o_ia (aJ h 113 m) (a 0 * a 1) G) (H : ∀ s2, o_is s2 (a 0 * a 1) (fun c => (o_bes a P c && S c) || (P c && G c)) → Q (some (.long s2)) h) : i_C i_MT i_AT L xs 71 [.ref 108, .long s, .int (i_n m)] h Q := by
  refine e71 (d71_0 hL (c23 hL w g hs (fun s2 h2 => ⟨_, rfl, d71_11 hL ?_⟩)))
  try simp (disch := omega) only [n_lit, n_m, n_add, n_mul, n_div, n_mod, n_cl, n_lt, n_le, n_eq, n_in, n_eqm, n_meq, n_mlt, n_ltm, n_mle, n_lem, not_true_eq_false, not_false_eq_true, true_implies, false_implies, true_and, and_true, Nat.not_lt_zero, Nat.zero_le]
  exact ⟨by omega, by omega, H _ ((h2.ia hS).or (hs.ia hG))⟩
theorem c28 (hL : i_Lay h) (w : o_WF a) (g : i_GR a h) {b f : Nat} (hb : b < a 0 * a 1) (hf : f < 100) (H : ∀ s, o_is s (a 0 * a 1) (fun c => decide (o_far (a 0) b c ≤ f)) → Q (some (.long s)) h) : i_C i_MT i_AT L xs 28 [.ref 96, .int (i_n b), .int (i_n f)] h Q := by
  have h48 := w.c48
  have hp := w.pos hb
  have key : ∀ c, c ≤ a 0 * a 1 → ∀ s : Int64, o_is s c (fun c => decide (o_far (a 0) b c ≤ f)) → i_P i_MT i_AT L xs 28 5 [some (.ref 96), some (.int (i_n b)), some (.int (i_n f)), some (.long s), none, some (.int (i_n c))] [] h 0 0 Q := by
    refine l_up ?_ ?_
    · intro s hs
      refine d28_5 hL ?_
      rw [g.1.2.2]
      try simp (disch := omega) only [n_lit, n_m, n_add, n_mul, n_div, n_mod, n_cl, n_lt, n_le, n_eq, n_in, n_eqm, n_meq, n_mlt, n_ltm, n_mle, n_lem, not_true_eq_false, not_false_eq_true, true_implies, false_implies, true_and, and_true, Nat.not_lt_zero, Nat.zero_le, Nat.le_refl]
      exact H s hs
    · intro c hc ih s hs
      have hn := o_far_lt (show 0 < a 0 by omega) hb hc
      refine d28_5 hL ?_
      rw [g.1.2.2]
      try simp (disch := omega) only [n_lit, n_m, n_add, n_mul, n_div, n_mod, n_cl, n_lt, n_le, n_eq, n_in, n_eqm, n_meq, n_mlt, n_ltm, n_mle, n_lem, not_true_eq_false, not_false_eq_true, true_implies, false_implies, true_and, and_true, Nat.not_lt_zero, Nat.zero_le]
      refine ⟨fun q => by omega, fun _ => c27 hL w g hb hc ⟨_, rfl, d28_21 hL ?_⟩⟩
      try simp (disch := omega) only [n_lit, n_m, n_add, n_mul, n_div, n_mod, n_cl, n_lt, n_le, n_eq, n_in, n_eqm, n_meq, n_mlt, n_ltm, n_mle, n_lem, not_true_eq_false, not_false_eq_true, true_implies, false_implies, true_and, and_true, Nat.not_lt_zero, Nat.zero_le]
      refine ⟨fun q => d28_32 hL ?_, fun q => d28_32 hL ?_⟩
      · try simp (disch := omega) only [n_lit, n_m, n_add, n_mul, n_div, n_mod, n_cl, n_lt, n_le, n_eq, n_in, n_eqm, n_meq, n_mlt, n_ltm, n_mle, n_lem, not_true_eq_false, not_false_eq_true, true_implies, false_implies, true_and, and_true, Nat.not_lt_zero, Nat.zero_le]
        exact ih _ (hs.f (by simp; omega))
      · try simp (disch := omega) only [n_lit, n_m, n_add, n_mul, n_div, n_mod, n_cl, n_lt, n_le, n_eq, n_in, n_eqm, n_meq, n_mlt, n_ltm, n_mle, n_lem, not_true_eq_false, not_false_eq_true, true_implies, false_implies, true_and, and_true, Nat.not_lt_zero, Nat.zero_le]
        exact ih _ (hs.t (by omega) (by simp; omega))
  refine e28 (d28_0 hL ?_)
  try simp (disch := omega) only [n_lit, n_m, n_add, n_mul, n_div, n_mod, n_cl, n_lt, n_le, n_eq, n_in, n_eqm, n_meq, n_mlt, n_ltm, n_mle, n_lem, not_true_eq_false, not_false_eq_true, true_implies, false_implies, true_and, and_true, Nat.not_lt_zero, Nat.zero_le]
  exact key 0 (Nat.zero_le _) 0 o_is.zero
end
