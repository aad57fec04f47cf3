/-! TOWN, the reference -/
section
variable {L : Nat} {xs : Nat → Int32} {h : iH} {Q : Option Value → iH → Prop} {a : Nat → Nat} {t s : Nat} {n m k k0 : Nat} {T : Nat → Nat}
set_option maxRecDepth 20000
theorem w_siB {R : iH → Prop} {q n i ty : Nat} {f : Nat → Int32} {x : Int32} (hL : i_Lay h) (e : i_arI h ty q = some (n, f)) (k : ∀ h1, i_Lay h1 → i_Fr [q] [] h h1 → (∀ j, aI h1 q j = if j = i then x else aI h q j) → R h1) : R (i_siI h q i x) := k _ hL.siI (i_Fr.refl.siI (by simp)) (fun j => by rw [x_aI_siI e, x_upd])
theorem n_b8 (x : Int32) : (vp_nar .byte x) &&& (255 : Int32) = x &&& (255 : Int32) := by
  have e : vp_nar .byte x = x.toInt8.toInt32 := rfl
  rw [e]
  refine n_ext (fun c hc => ?_)
  rw [Int32.toBitVec_and, BitVec.getLsbD_and, Int32.toBitVec_and, BitVec.getLsbD_and]
  rw [show (255 : Int32).toBitVec = BitVec.ofNat 32 255 from rfl, BitVec.getLsbD_ofNat, show (255 : Nat) = 2 ^ 8 - 1 from rfl, Nat.testBit_two_pow_sub_one]
  by_cases h8 : c < 8
  · rw [Int8.toBitVec_toInt32, BitVec.getLsbD_signExtend, Int32.toBitVec_toInt8, if_pos h8, BitVec.getLsbD_signExtend, if_pos hc]
    simp [h8, hc]
  · simp [h8]
theorem c196 (hL : i_Lay h) {b : Nat} (hb : b ≤ 2720) (K : ∀ h2, i_Lay h2 → i_Fr [139] [] h h2 → (∀ i, aI h2 139 i = if b ≤ i ∧ i < b + 680 then i_n (o_new (i - b)) else aI h 139 i) → Q none h2) : i_C i_MT i_AT L xs 196 [.ref 138, .int (i_n b)] h Q := by
  have one : ∀ {h1 : iH} {R : iH → Prop} {j x : Nat}, i_Lay h1 → i_Fr [139] [] h h1 → (∀ h2, i_Lay h2 → i_Fr [139] [] h h2 → (∀ i, aI h2 139 i = if i = j then i_n x else aI h1 139 i) → R h2) → R (i_siI h1 139 j (i_n x)) := fun L1 F1 K => w_siI L1 L1.a139 (fun h2 L2 F2 E2 => K h2 L2 (F1.trans F2) E2)
  -- the four weights
  have how : ∀ h1, i_Lay h1 → i_Fr [139] [] h h1 → (∀ i, aI h1 139 i = if b ≤ i ∧ i < b + 680 then i_n (if 58 ≤ i - b ∧ i - b < 106 then 4294967295 else 0) else aI h 139 i) → i_P i_MT i_AT L xs 196 26 [some (.ref 138), some (.int (i_n b)), some (.int (i_n 48))] [] h1 0 0 Q := by
    intro h1 L1 F1 E1
    refine d196_26 L1 ?_
    try simp (disch := omega) only [n_lit, n_m, n_add, n_mul, n_div, n_mod, n_cl, n_lt, n_le, n_eq, n_in, n_eqm, n_meq, n_mlt, n_ltm, n_mle, n_lem, not_true_eq_false, not_false_eq_true, true_implies, false_implies, true_and, and_true, Nat.not_lt_zero, Nat.zero_le, Nat.le_refl]
    refine ⟨by omega, one (R := fun z => i_P i_MT i_AT L xs 196 60 [some (.ref 138), some (.int (i_n b)), some (.int (i_n 48))] [] z 0 0 Q) L1 F1 (fun h2 L2 F2 E2 => d196_60 L2 ?_)⟩
    try simp (disch := omega) only [n_lit, n_m, n_add, n_mul, n_div, n_mod, n_cl, n_lt, n_le, n_eq, n_in, n_eqm, n_meq, n_mlt, n_ltm, n_mle, n_lem, not_true_eq_false, not_false_eq_true, true_implies, false_implies, true_and, and_true, Nat.not_lt_zero, Nat.zero_le]
    refine ⟨by omega, one (R := fun z => i_P i_MT i_AT L xs 196 73 [some (.ref 138), some (.int (i_n b)), some (.int (i_n 48))] [] z 0 0 Q) L2 F2 (fun h3 L3 F3 E3 => d196_73 L3 ?_)⟩
    try simp (disch := omega) only [n_lit, n_m, n_add, n_mul, n_div, n_mod, n_cl, n_lt, n_le, n_eq, n_in, n_eqm, n_meq, n_mlt, n_ltm, n_mle, n_lem, not_true_eq_false, not_false_eq_true, true_implies, false_implies, true_and, and_true, Nat.not_lt_zero, Nat.zero_le]
    refine ⟨by omega, one (R := fun z => i_P i_MT i_AT L xs 196 85 [some (.ref 138), some (.int (i_n b)), some (.int (i_n 48))] [] z 0 0 Q) L3 F3 (fun h4 L4 F4 E4 => d196_85 L4 ?_)⟩
    try simp (disch := omega) only [n_lit, n_m, n_add, n_mul, n_div, n_mod, n_cl, n_lt, n_le, n_eq, n_in, n_eqm, n_meq, n_mlt, n_ltm, n_mle, n_lem, not_true_eq_false, not_false_eq_true, true_implies, false_implies, true_and, and_true, Nat.not_lt_zero, Nat.zero_le]
    refine ⟨by omega, one (R := fun z => i_P i_MT i_AT L xs 196 98 [some (.ref 138), some (.int (i_n b)), some (.int (i_n 48))] [] z 0 0 Q) L4 F4 (fun h5 L5 F5 E5 => d196_98 L5 (K h5 L5 F5 (fun i => ?_)))⟩
    rw [E5, E4, E3, E2, E1]
    by_cases q : b ≤ i ∧ i < b + 680
    · rw [if_pos q, if_pos q]
      unfold o_new
      by_cases y1 : i = b + 6 + 3
      · rw [if_pos y1, if_neg (by omega), if_neg (by omega), if_neg (by omega), if_neg (by omega), if_pos (by omega)]
      · rw [if_neg y1]
        by_cases y2 : i = b + 6 + 2
        · rw [if_pos y2, if_neg (by omega), if_neg (by omega), if_neg (by omega), if_pos (by omega)]
        · rw [if_neg y2]
          by_cases y3 : i = b + 6 + 1
          · rw [if_pos y3, if_neg (by omega), if_neg (by omega), if_pos (by omega)]
          · rw [if_neg y3]
            by_cases y4 : i = b + 6
            · rw [if_pos y4, if_neg (by omega), if_pos (by omega)]
            · rw [if_neg y4]
              by_cases y5 : 58 ≤ i - b ∧ i - b < 106
              · rw [if_pos y5, if_pos y5]
              · rw [if_neg y5, if_neg y5, if_neg (by omega), if_neg (by omega), if_neg (by omega), if_neg (by omega)]
    · rw [if_neg q, if_neg q, if_neg (by omega), if_neg (by omega), if_neg (by omega), if_neg (by omega)]
  have sway : ∀ k, k ≤ 48 → ∀ h1, i_Lay h1 → i_Fr [139] [] h h1 → (∀ i, aI h1 139 i = if b ≤ i ∧ i < b + 680 then i_n (if 58 ≤ i - b ∧ i - b < 58 + k then 4294967295 else 0) else aI h 139 i) → i_P i_MT i_AT L xs 196 26 [some (.ref 138), some (.int (i_n b)), some (.int (i_n k))] [] h1 0 0 Q := by
    refine l_up ?_ ?_
    · intro h1 L1 F1 E1
      exact how h1 L1 F1 E1
    · intro k hk ih h1 L1 F1 E1
      refine d196_26 L1 ?_
      rw [show (-1 : Int32) = i_n 4294967295 from n_big.symm]
      try simp (disch := omega) only [n_lit, n_m, n_add, n_mul, n_div, n_mod, n_cl, n_lt, n_le, n_eq, n_in, n_eqm, n_meq, n_mlt, n_ltm, n_mle, n_lem, not_true_eq_false, not_false_eq_true, true_implies, false_implies, true_and, and_true, Nat.not_lt_zero, Nat.zero_le]
      refine ⟨fun q => by omega, fun _ => ⟨by omega, one (R := fun z => i_P i_MT i_AT L xs 196 44 [some (.ref 138), some (.int (i_n b)), some (.int (i_n k))] [] z 0 0 Q) L1 F1 (fun h2 L2 F2 E2 => d196_44 L2 ?_)⟩⟩
      try simp (disch := omega) only [n_lit, n_m, n_add, n_mul, n_div, n_mod, n_cl, n_lt, n_le, n_eq, n_in, n_eqm, n_meq, n_mlt, n_ltm, n_mle, n_lem, not_true_eq_false, not_false_eq_true, true_implies, false_implies, true_and, and_true, Nat.not_lt_zero, Nat.zero_le]
      refine ih h2 L2 F2 (fun i => ?_)
      rw [E2, E1]
      by_cases y : i = b + 58 + k
      · rw [if_pos y, if_pos (by omega), if_pos (by omega)]
      · rw [if_neg y]
        by_cases q : b ≤ i ∧ i < b + 680
        · rw [if_pos q, if_pos q]
          by_cases y5 : 58 ≤ i - b ∧ i - b < 58 + k
          · rw [if_pos y5, if_pos (by omega)]
          · rw [if_neg y5, if_neg (by omega)]
        · rw [if_neg q, if_neg q]
  have zero : ∀ k, k ≤ 680 → ∀ h1, i_Lay h1 → i_Fr [139] [] h h1 → (∀ i, aI h1 139 i = if b ≤ i ∧ i < b + k then i_n 0 else aI h 139 i) → i_P i_MT i_AT L xs 196 2 [some (.ref 138), some (.int (i_n b)), some (.int (i_n k))] [] h1 0 0 Q := by
    refine l_up ?_ ?_
    · intro h1 L1 F1 E1
      refine d196_2 L1 ?_
      try simp (disch := omega) only [n_lit, n_m, n_add, n_mul, n_div, n_mod, n_cl, n_lt, n_le, n_eq, n_in, n_eqm, n_meq, n_mlt, n_ltm, n_mle, n_lem, not_true_eq_false, not_false_eq_true, true_implies, false_implies, true_and, and_true, Nat.not_lt_zero, Nat.zero_le, Nat.le_refl]
      refine sway 0 (Nat.zero_le _) h1 L1 F1 (fun i => ?_)
      rw [E1]
      by_cases q : b ≤ i ∧ i < b + 680
      · rw [if_pos q, if_pos q, if_neg (by omega)]
      · rw [if_neg q, if_neg q]
    · intro k hk ih h1 L1 F1 E1
      refine d196_2 L1 ?_
      try simp (disch := omega) only [n_lit, n_m, n_add, n_mul, n_div, n_mod, n_cl, n_lt, n_le, n_eq, n_in, n_eqm, n_meq, n_mlt, n_ltm, n_mle, n_lem, not_true_eq_false, not_false_eq_true, true_implies, false_implies, true_and, and_true, Nat.not_lt_zero, Nat.zero_le]
      refine ⟨fun q => by omega, fun _ => ⟨by omega, one (R := fun z => i_P i_MT i_AT L xs 196 18 [some (.ref 138), some (.int (i_n b)), some (.int (i_n k))] [] z 0 0 Q) L1 F1 (fun h2 L2 F2 E2 => d196_18 L2 ?_)⟩⟩
      try simp (disch := omega) only [n_lit, n_m, n_add, n_mul, n_div, n_mod, n_cl, n_lt, n_le, n_eq, n_in, n_eqm, n_meq, n_mlt, n_ltm, n_mle, n_lem, not_true_eq_false, not_false_eq_true, true_implies, false_implies, true_and, and_true, Nat.not_lt_zero, Nat.zero_le]
      refine ih h2 L2 F2 (fun i => ?_)
      rw [E2, E1]
      by_cases y : i = b + k
      · rw [if_pos y, if_pos (by omega)]
      · rw [if_neg y]
        by_cases q : b ≤ i ∧ i < b + k
        · rw [if_pos q, if_pos (by omega)]
        · rw [if_neg q, if_neg (by omega)]
  refine e196 (d196_0 hL ?_)
  exact zero 0 (Nat.zero_le _) h hL i_Fr.refl (fun i => by rw [if_neg (by omega)])
abbrev beF : List (Nat × Nat) := [(138, 12), (138, 13), (138, 14), (138, 15), (138, 16), (138, 17), (138, 19), (138, 20), (138, 21)]
set_option maxHeartbeats 1000000 in
theorem c222 (hL : i_Lay h) (tp : i_TPr h m T) {mo : Nat} (hmo : mo ≤ 900) {x : Int32} (H0 : ¬ (0 ≤ x ∧ x ≤ i_n m ∧ x ≤ i_n mo) → Q (some (.int 0)) h) (H1 : ∀ n, n ≤ m → n ≤ mo → x = i_n n → ∀ h2, i_Lay h2 → i_Fr [147] beF h h2 → i_TXr h2 n T → i_RK h2 T n 0 → fI h2 138 20 = 0 → fI h2 138 21 = 0 → fI h2 138 12 = 0 → fI h2 138 19 = i_m → Q (some (.int 1)) h2) : i_C i_MT i_AT L xs 222 [.ref 138, .int x, .int (i_n mo)] h Q := by
  have hm := tp.2.1
  have no : ¬ (0 ≤ x ∧ x ≤ i_n m ∧ x ≤ i_n mo) → ∀ (y3 : Option Value), i_P i_MT i_AT L xs 222 17 [some (.ref 138), some (.int x), some (.int (i_n mo)), y3] [] h 0 0 Q := fun q y3 => d222_17 hL (H0 q)
  refine e222 (d222_0 hL ?_)
  rw [tp.1]
  refine ⟨fun q => no (fun y => absurd y.1 (Int32.not_le.mpr q)) _, fun q => ⟨fun q2 => no (fun y => absurd y.2.1 (Int32.not_le.mpr q2)) _, fun q2 => ⟨fun q3 => ?_, fun q3 => no (fun y => q3 y.2.2) _⟩⟩⟩
  obtain ⟨n, hn, rfl⟩ := n_gle ⟨Int32.not_lt.mp q, Int32.not_lt.mp q2⟩ (by omega)
  rw [n_le (by omega) (by omega)] at q3
  have upF : ∀ {b : Nat} {h1 h2 : iH}, (138, b) ∈ beF → i_Fr [] [(138, b)] h1 h2 → i_Fr [147] beF h1 h2 := fun hb f => f.mono (fun _ z => absurd z (by simp)) (fun z hz => by
    simp only [List.mem_cons, List.not_mem_nil, or_false] at hz
    subst hz
    exact hb)
  have done : ∀ h1, i_Lay h1 → i_Fr [147] beF h h1 → fI h1 138 13 = i_n n → (∀ i, i < n → aI h1 147 i = vp_nar .byte (aI h 146 i)) → i_P i_MT i_AT L xs 222 26 [some (.ref 138), some (.int (i_n n)), some (.int (i_n mo)), some (.int (i_n n))] [] h1 0 0 Q := by
    intro h1 L1 F1 e13 E1
    refine d222_26 L1 ⟨fun _ => ?_, fun z => absurd (Int32.le_refl _) z⟩
    refine w_sfI (R := fun z => i_P i_MT i_AT L xs 222 54 [some (.ref 138), some (.int (i_n n)), some (.int (i_n mo)), some (.int (i_n n))] [] z 0 0 Q) L1 L1.q138_12 (fun h2 L2 F2 E2 => d222_54 L2 ?_)
    refine w_sfI (R := fun z => i_P i_MT i_AT L xs 222 59 [some (.ref 138), some (.int (i_n n)), some (.int (i_n mo)), some (.int (i_n n))] [] z 0 0 Q) L2 L2.q138_20 (fun h3 L3 F3 E3 => d222_59 L3 ?_)
    refine w_sfI (R := fun z => i_P i_MT i_AT L xs 222 64 [some (.ref 138), some (.int (i_n n)), some (.int (i_n mo)), some (.int (i_n n))] [] z 0 0 Q) L3 L3.q138_19 (fun h4 L4 F4 E4 => d222_64 L4 ?_)
    refine w_sfI (R := fun z => i_P i_MT i_AT L xs 222 69 [some (.ref 138), some (.int (i_n n)), some (.int (i_n mo)), some (.int (i_n n))] [] z 0 0 Q) L4 L4.q138_16 (fun h5 L5 F5 E5 => d222_69 L5 ?_)
    refine w_sfI (R := fun z => i_P i_MT i_AT L xs 222 74 [some (.ref 138), some (.int (i_n n)), some (.int (i_n mo)), some (.int (i_n n))] [] z 0 0 Q) L5 L5.q138_21 (fun h6 L6 F6 E6 => d222_74 L6 ?_)
    have F16 := (upF (by decide) F2).trans ((upF (by decide) F3).trans ((upF (by decide) F4).trans ((upF (by decide) F5).trans (upF (by decide) F6))))
    have x6 : i_TXr h6 n T := by
      refine ⟨?_, by omega, fun i hi => ⟨(tp.2.2 i (by omega)).1, ?_⟩⟩
      · rw [F6.vI (by decide), F5.vI (by decide), F4.vI (by decide), F3.vI (by decide), F2.vI (by decide)]; exact e13
      · rw [F6.rI (by simp), F5.rI (by simp), F4.rI (by simp), F3.rI (by simp), F2.rI (by simp), E1 i hi, n_b8]
        exact (tp.2.2 i (by omega)).2
    refine c218 L6 x6 (Nat.zero_le n) (by rw [F6.vI (by decide)]; exact E5) (fun h7 L7 F7 z7 => ⟨rfl, d222_78 L7 (H1 n hn q3 rfl h7 L7 (F1.trans (F16.trans (F7.mono (fun _ z => absurd z (by simp)) (by decide)))) (x6.fr F7 (by simp) (by decide)) z7 ?_ ?_ ?_ ?_)⟩)
    · rw [F7.vI (by decide), F6.vI (by decide), F5.vI (by decide), F4.vI (by decide)]; exact E3
    · rw [F7.vI (by decide)]; exact E6
    · rw [F7.vI (by decide), F6.vI (by decide), F5.vI (by decide), F4.vI (by decide), F3.vI (by decide)]; exact E2
    · rw [F7.vI (by decide), F6.vI (by decide), F5.vI (by decide)]; exact E4
  have copy : ∀ k, k ≤ n → ∀ h1, i_Lay h1 → i_Fr [147] beF h h1 → fI h1 138 13 = i_n n → (∀ i, i < k → aI h1 147 i = vp_nar .byte (aI h 146 i)) → i_P i_MT i_AT L xs 222 26 [some (.ref 138), some (.int (i_n n)), some (.int (i_n mo)), some (.int (i_n k))] [] h1 0 0 Q := by
    refine l_up done ?_
    intro k hk ih h1 L1 F1 e13 E1
    refine d222_26 L1 ?_
    try simp (disch := omega) only [n_lit, n_m, n_add, n_mul, n_div, n_mod, n_cl, n_lt, n_le, n_eq, n_in, n_eqm, n_meq, n_mlt, n_ltm, n_mle, n_lem, not_true_eq_false, not_false_eq_true, true_implies, false_implies, true_and, and_true, Nat.not_lt_zero, Nat.zero_le]
    refine ⟨fun z => by omega, fun _ => ⟨by omega, by omega, ?_⟩⟩
    refine w_siB (R := fun z => i_P i_MT i_AT L xs 222 43 [some (.ref 138), some (.int (i_n n)), some (.int (i_n mo)), some (.int (i_n k))] [] z 0 0 Q) L1 L1.a147 (fun h2 L2 F2 E2 => d222_43 L2 ?_)
    try simp (disch := omega) only [n_lit, n_m, n_add, n_mul, n_div, n_mod, n_cl, n_lt, n_le, n_eq, n_in, n_eqm, n_meq, n_mlt, n_ltm, n_mle, n_lem, not_true_eq_false, not_false_eq_true, true_implies, false_implies, true_and, and_true, Nat.not_lt_zero, Nat.zero_le]
    refine ih h2 L2 (F1.trans (F2.mono (fun _ z => z) (fun _ z => absurd z (by simp)))) (by rw [F2.vI (by simp)]; exact e13) (fun i hi => ?_)
    rw [E2]
    by_cases y : i = k
    · subst y; rw [if_pos rfl, F1.rI (by simp)]
    · rw [if_neg y]; exact E1 i (by omega)
  refine w_sfI (R := fun z => ∀ (y3 : Option Value), i_P i_MT i_AT L xs 222 24 [some (.ref 138), some (.int (i_n n)), some (.int (i_n mo)), y3] [] z 0 0 Q) hL hL.q138_13 (fun h1 L1 F1 E1 => fun y3 => d222_24 L1 ?_) _
  exact copy 0 (Nat.zero_le _) h1 L1 (upF (by decide) F1) E1 (fun i hi => absurd hi (by omega))
theorem c230 (hL : i_Lay h) {f : Nat} (hf : f ≤ 7) (e : fI h 138 20 = i_n f) {v : Int32} (H0 : f = 0 → ∀ h2, i_Lay h2 → i_Fr [] [(138, 4), (138, 18)] h h2 → fI h2 138 18 = i_n 0 → fI h2 138 4 = 0 → Q (some (.int v)) h2) (H1 : 1 ≤ f → ∀ h2, i_Lay h2 → i_Fr [] [(138, 4), (138, 18)] h h2 → fI h2 138 18 = i_n f → fI h2 138 4 = 9 → Q (some (.int (-1))) h2) : i_C i_MT i_AT L xs 230 [.ref 138, .int v] h Q := by
  refine e230 (d230_0 hL ?_)
  rw [e]
  refine w_sfI (R := fun z => i_P i_MT i_AT L xs 230 8 [some (.ref 138), some (.int v)] [] z 0 0 Q) hL hL.q138_18 (fun h1 L1 F1 E1 => d230_8 L1 ?_)
  have e1 : fI h1 138 20 = i_n f := by rw [F1.vI (by simp)]; exact e
  have up : ∀ {h2 : iH}, i_Fr [] [(138, 4)] h1 h2 → i_Fr [] [(138, 4), (138, 18)] h h2 := fun f => (F1.mono (fun _ z => z) (by decide)).trans (f.mono (fun _ z => z) (by decide))
  rw [e1]
  try simp (disch := omega) only [n_lit, n_m, n_add, n_mul, n_div, n_mod, n_cl, n_lt, n_le, n_eq, n_in, n_eqm, n_meq, n_mlt, n_ltm, n_mle, n_lem, not_true_eq_false, not_false_eq_true, true_implies, false_implies, true_and, and_true, Nat.not_lt_zero, Nat.zero_le]
  refine ⟨fun q => q202 L1 (fun h2 L2 F2 s2 => ⟨_, rfl, d230_29 L2 (H0 (by omega) h2 L2 (up F2) ?_ s2)⟩), fun q => q201 L1 (fun h2 L2 F2 s2 => ⟨_, rfl, d230_21 L2 (d230_29 L2 (H1 (by omega) h2 L2 (up F2) ?_ s2))⟩)⟩
  · rw [F2.vI (by decide), E1, show f = 0 by omega]
  · rw [F2.vI (by decide)]; exact E1
abbrev gtF : List (Nat × Nat) := [(138, 4), (138, 12), (138, 13), (138, 14), (138, 15), (138, 16), (138, 17), (138, 18), (138, 19), (138, 20), (138, 21), (138, 22)]
theorem i_RA.b (r : i_RA a h) : i_RB a h := ⟨r.1, r.2.1, r.2.2.1, r.2.2.2.1, trivial⟩
/-- the town that is kept, behind a reading -/
theorem i_RA.gn {h2 : iH} {A : List Nat} {F : List (Nat × Nat)} (r : i_RA a h) (hL : i_Lay h2) (f : i_Fr A F h h2) (hA : ∀ p, p ∈ [141, 142, 151, 152, 153, 154] → p ∉ A) (e : ∀ i, i < 680 → aI h2 139 i = aI h 139 i) : i_RA a h2 := by
  obtain ⟨-, r2, r3, r4, r5, r6⟩ := r
  refine ⟨hL, r2, fun i hi => (e i hi).trans (r3 i hi), ?_, ?_, ?_⟩
  · rw [f.rI (hA 141 (by decide)), f.rI (hA 142 (by decide))]; exact r4
  · rw [f.rI (hA 151 (by decide)), f.rI (hA 152 (by decide)), f.rI (hA 153 (by decide))]; exact r5
  · rw [f.rI (hA 154 (by decide))]; exact r6
set_option maxHeartbeats 2000000 in
theorem c243 (r : i_RA a h) (tp : i_TPr h m T) {x : Int32}
    (HA : ¬ (0 ≤ x ∧ x ≤ i_n m) → ∀ h2, i_RA a h2 → i_G0 h h2 → fI h2 138 4 = 1 → Q (some (.int (-1))) h2)
    (HF : ∀ n, n ≤ m → x = i_n n → ∀ f p, p_town T n = .inl (f, p) → ∀ h2, i_RA a h2 → i_Fr [139, 140, 147] gtF h h2 → (∀ i, i < 2720 → aI h2 139 i = aI h 139 i) → (∀ i, i < 32 → aJ h2 140 i = aJ h 140 i) → fI h2 138 18 = i_n f → fI h2 138 19 = i_n p → fI h2 138 12 = 0 → fI h2 138 4 = 9 → Q (some (.int (-1))) h2)
    (HT : ∀ n, n ≤ m → x = i_n n → ∀ k2 a2, p_town T n = .inr (k2, a2) → o_PW a2 → ∀ h2, i_RA a2 h2 → i_Fr (139 :: 140 :: 147 :: frA) gtF h h2 → (∀ i, 680 ≤ i → i < 2720 → aI h2 139 i = aI h 139 i) → (∀ i, 8 ≤ i → i < 32 → aJ h2 140 i = aJ h 140 i) → i_NR a2 0 h2 → fI h2 138 18 = i_n 0 → fI h2 138 19 = i_m → fI h2 138 12 = 0 → fI h2 138 4 = 0 → Q (some (.int (i_n (a2 0 * a2 1)))) h2) : i_C i_MT i_AT L xs 243 [.ref 138, .int x] h Q := by
  have m9 := tp.2.1
  refine e243 (d243_0 r.1 (c222 (mo := 900) r.1 tp (by omega) (fun q => ⟨_, rfl, d243_8 r.1 ⟨fun z => absurd rfl z, fun _ => m201 r (fun h2 r2 f2 s2 => ⟨_, rfl, d243_16 r2.1 (HA (fun y => q ⟨y.1, y.2, ?_⟩) h2 r2 f2 s2)⟩)⟩⟩) (fun n hn hn9 hx h1 L1 F1 x1 z1 e20 e21 e12 e19 => ⟨_, rfl, d243_8 L1 ⟨fun _ => ?_, fun z => absurd (by decide) z⟩⟩)))
  · exact Int32.le_trans y.2 ((n_le (by omega) (by omega)).mpr m9)
  rw [show (2720 : Int32) = i_n 2720 from rfl]
  refine c196 L1 (Nat.le_refl _) (fun h2 L2 F2 E2 => ⟨rfl, d243_24 L2 ?_⟩)
  have g2 : i_PR o_new n 0 T h2 := by
    refine ⟨L2, x1.fr F2 (by simp) (by simp), z1.fr F2 (fun _ _ => by simp), ?_, ?_, fun i hi => ?_, fun p hp => ?_⟩
    · rw [F2.vI (by simp), F2.vI (by simp)]; exact ⟨e20, e19⟩
    · rw [F2.vI (by simp), e21, o_new_0 (by omega) (by omega)]; rfl
    · rw [E2, if_pos (by omega), show 2720 + i - 2720 = i by omega]
    · rw [o_new_0 (by omega) (by omega)] at hp; omega
  have low2 : ∀ i, i < 2720 → aI h2 139 i = aI h 139 i := fun i hi => by rw [E2, if_neg (by omega), F1.rI (by simp)]
  have nam2 : ∀ i, aJ h2 140 i = aJ h 140 i := fun i => by rw [F2.rJ (by simp), F1.rJ (by simp)]
  have up2 : i_Fr [139, 140, 147] gtF h h2 := (F1.mono (by simp) (by decide)).trans (F2.mono (by simp) (fun _ z => absurd z (by simp)))
  have e122 : fI h2 138 12 = 0 := by rw [F2.vI (by simp)]; exact e12
  have e192 : fI h2 138 19 = i_m := by rw [F2.vI (by simp)]; exact e19
  -- where it has failed
  have bad : ∀ f p, p_town T n = .inl (f, p) → ∀ h3, i_Lay h3 → i_GN h2 h3 → i_RBL h3 f p → ∀ (y3 : Option Value), i_P i_MT i_AT L xs 243 95 [some (.ref 138), some (.int x), some (.int (i_n 0)), y3] [] h3 0 0 Q := by
    intro f p he h3 L3 gn b3 y3
    have gd := p_town_g (T := T) (n := n) hn9
    rw [he] at gd
    have gd : 1 ≤ f ∧ f ≤ 7 := gd
    have rA : i_RA a h3 := r.gn L3 (up2.trans (gn.1.mono (by simp) (by decide))) (by decide) (fun i hi => by rw [gn.2.1 i (by omega), low2 i (by omega)])
    refine d243_95 L3 ?_
    rw [b3.1]
    try simp (disch := omega) only [n_lit, n_m, n_add, n_mul, n_div, n_mod, n_cl, n_lt, n_le, n_eq, n_in, n_eqm, n_meq, n_mlt, n_ltm, n_mle, n_lem, not_true_eq_false, not_false_eq_true, true_implies, false_implies, true_and, and_true, Nat.not_lt_zero, Nat.zero_le]
    refine ⟨fun _ => d243_166 L3 (k248 rA.b ⟨_, rfl, d243_171 L3 (c230 L3 gd.2 b3.1 (fun z => by omega) (fun _ h4 L4 F4 e18 s4 => ⟨_, rfl, d243_174 L4 ?_⟩))⟩), fun z => absurd (Classical.not_not.mp z) (by omega)⟩
    refine HF n hn hx f p he h4 (rA.fr L4 F4 (fun _ _ => by simp)) ((up2.trans (gn.1.mono (by simp) (by decide))).trans (F4.mono (fun _ z => absurd z (by simp)) (by decide))) (fun i hi => ?_) (fun i hi => ?_) e18 ?_ ?_ s4
    · rw [F4.rI (by simp), gn.2.1 i hi, low2 i hi]
    · rw [F4.rJ (by simp), gn.2.2 i hi, nam2 i]
    · rw [F4.vI (by decide)]; exact b3.2
    · rw [F4.vI (by decide), gn.1.vI (by decide)]; exact e122
  -- where it is well
  have well : ∀ k2 a2, p_town T n = .inr (k2, a2) → ∀ h3, i_GN h2 h3 → fI h3 138 19 = i_m → i_PR a2 n k2 T h3 → ∀ (y3 : Option Value), i_P i_MT i_AT L xs 243 95 [some (.ref 138), some (.int x), some (.int (i_n 1)), y3] [] h3 0 0 Q := by
    intro k2 a2 he h3 gn e193 g3 y3
    have gd := p_town_g (T := T) (n := n) hn9
    rw [he] at gd
    have w2 : o_PW a2 := gd.2.2
    have w5 := w2.1.2.2.2.2.1
    have up3 : i_Fr [139, 140, 147] gtF h h3 := up2.trans (gn.1.mono (by simp) (by decide))
    have A3 : ∀ i, i < 680 → aI h3 139 (2720 + i) = i_n (a2 i) := g3.2.2.2.2.2.1
    -- the names
    have names : ∀ k, k ≤ 8 → ∀ h4, i_Lay h4 → i_Fr [139, 140] [] h3 h4 → (∀ i, aI h4 139 i = if i < 680 then i_n (a2 i) else aI h3 139 i) → (∀ i, aJ h4 140 i = if i < k then aJ h3 140 (32 + i) else aJ h3 140 i) → i_P i_MT i_AT L xs 243 135 [some (.ref 138), some (.int x), some (.int (i_n 1)), some (.int (i_n k))] [] h4 0 0 Q := by
      refine l_up ?_ ?_
      · intro h4 L4 F4 E4 N4
        refine d243_135 L4 ?_
        try simp (disch := omega) only [n_lit, n_m, n_add, n_mul, n_div, n_mod, n_cl, n_lt, n_le, n_eq, n_in, n_eqm, n_meq, n_mlt, n_ltm, n_mle, n_lem, not_true_eq_false, not_false_eq_true, true_implies, false_implies, true_and, and_true, Nat.not_lt_zero, Nat.zero_le, Nat.le_refl]
        have rb : i_RB a2 h4 := by
          refine ⟨L4, w2.1, fun i hi => by rw [E4, if_pos hi], ?_, trivial⟩
          rw [F4.rI (by simp), F4.rI (by simp), up3.rI (by simp), up3.rI (by simp)]
          exact r.2.2.2.1
        refine c252 rb (fun h5 r5 F5 => ⟨rfl, d243_166 r5.1 (k248 r5.b ⟨_, rfl, d243_171 r5.1 ?_⟩)⟩)
        have e205 : fI h5 138 20 = i_n 0 := by rw [F5.vI (by simp), F4.vI (by simp)]; exact g3.2.2.2.1.1
        refine c230 r5.1 (by omega) e205 (fun _ h6 L6 F6 e18 s6 => ⟨_, rfl, d243_174 L6 ?_⟩) (fun z => by omega)
        refine HT n hn hx k2 a2 he w2 h6 (r5.fr L6 F6 (fun _ _ => by simp)) ?_ (fun i h1 h2 => ?_) (fun i h1 h2 => ?_) (fun p hp => ?_) e18 ?_ ?_ s6
        · exact (up3.mono (by simp) (fun _ z => z)).trans ((F4.mono (by simp) (fun _ z => absurd z (by simp))).trans ((F5.mono (fun _ z => List.mem_cons_of_mem _ (List.mem_cons_of_mem _ (List.mem_cons_of_mem _ z))) (fun _ z => absurd z (by simp))).trans (F6.mono (fun _ z => absurd z (by simp)) (by decide))))
        · rw [F6.rI (by simp), F5.rI (by simp), E4, if_neg (by omega), gn.2.1 i h2, low2 i h2]
        · rw [F6.rJ (by simp), F5.rJ (by simp), N4, if_neg (by omega), gn.2.2 i h2, nam2 i]
        · rw [F6.rJ (by simp), F5.rJ (by simp), N4, if_pos (by omega), Nat.zero_add]
          exact g3.2.2.2.2.2.2 p hp
        · rw [F6.vI (by decide), F5.vI (by simp), F4.vI (by simp)]; exact e193
        · rw [F6.vI (by decide), F5.vI (by simp), F4.vI (by simp), gn.1.vI (by decide)]; exact e122
      · intro k hk ih h4 L4 F4 E4 N4
        refine d243_135 L4 ?_
        try simp (disch := omega) only [n_lit, n_m, n_add, n_mul, n_div, n_mod, n_cl, n_lt, n_le, n_eq, n_in, n_eqm, n_meq, n_mlt, n_ltm, n_mle, n_lem, not_true_eq_false, not_false_eq_true, true_implies, false_implies, true_and, and_true, Nat.not_lt_zero, Nat.zero_le]
        refine ⟨fun z => by omega, fun _ => ⟨by omega, by omega, ?_⟩⟩
        refine w_siJ (R := fun z => i_P i_MT i_AT L xs 243 156 [some (.ref 138), some (.int x), some (.int (i_n 1)), some (.int (i_n k))] [] z 0 0 Q) L4 L4.a140 (fun h5 L5 F5 E5 => d243_156 L5 ?_)
        try simp (disch := omega) only [n_lit, n_m, n_add, n_mul, n_div, n_mod, n_cl, n_lt, n_le, n_eq, n_in, n_eqm, n_meq, n_mlt, n_ltm, n_mle, n_lem, not_true_eq_false, not_false_eq_true, true_implies, false_implies, true_and, and_true, Nat.not_lt_zero, Nat.zero_le]
        refine ih h5 L5 (F4.trans (F5.mono (by simp) (fun _ z => z))) (fun i => by rw [F5.rI (by simp)]; exact E4 i) (fun i => ?_)
        rw [E5]
        by_cases y : i = k
        · subst y; rw [if_pos rfl, if_pos (by omega), N4, if_neg (by omega)]
        · rw [if_neg y, N4]
          by_cases q : i < k
          · rw [if_pos q, if_pos (by omega)]
          · rw [if_neg q, if_neg (by omega)]
    have nums : ∀ k, k ≤ 680 → ∀ h4, i_Lay h4 → i_Fr [139, 140] [] h3 h4 → (∀ i, aI h4 139 i = if i < k then i_n (a2 i) else aI h3 139 i) → (∀ i, aJ h4 140 i = aJ h3 140 i) → i_P i_MT i_AT L xs 243 104 [some (.ref 138), some (.int x), some (.int (i_n 1)), some (.int (i_n k))] [] h4 0 0 Q := by
      refine l_up ?_ ?_
      · intro h4 L4 F4 E4 N4
        refine d243_104 L4 ?_
        try simp (disch := omega) only [n_lit, n_m, n_add, n_mul, n_div, n_mod, n_cl, n_lt, n_le, n_eq, n_in, n_eqm, n_meq, n_mlt, n_ltm, n_mle, n_lem, not_true_eq_false, not_false_eq_true, true_implies, false_implies, true_and, and_true, Nat.not_lt_zero, Nat.zero_le, Nat.le_refl]
        exact names 0 (Nat.zero_le _) h4 L4 F4 E4 (fun i => by rw [if_neg (by omega)]; exact N4 i)
      · intro k hk ih h4 L4 F4 E4 N4
        refine d243_104 L4 ?_
        try simp (disch := omega) only [n_lit, n_m, n_add, n_mul, n_div, n_mod, n_cl, n_lt, n_le, n_eq, n_in, n_eqm, n_meq, n_mlt, n_ltm, n_mle, n_lem, not_true_eq_false, not_false_eq_true, true_implies, false_implies, true_and, and_true, Nat.not_lt_zero, Nat.zero_le]
        have ek : aI h4 139 (2720 + k) = i_n (a2 k) := by rw [E4, if_neg (by omega)]; exact A3 k hk
        rw [ek]
        refine ⟨fun z => by omega, fun _ => ⟨by omega, by omega, ?_⟩⟩
        refine w_siI (R := fun z => i_P i_MT i_AT L xs 243 127 [some (.ref 138), some (.int x), some (.int (i_n 1)), some (.int (i_n k))] [] z 0 0 Q) L4 L4.a139 (fun h5 L5 F5 E5 => d243_127 L5 ?_)
        try simp (disch := omega) only [n_lit, n_m, n_add, n_mul, n_div, n_mod, n_cl, n_lt, n_le, n_eq, n_in, n_eqm, n_meq, n_mlt, n_ltm, n_mle, n_lem, not_true_eq_false, not_false_eq_true, true_implies, false_implies, true_and, and_true, Nat.not_lt_zero, Nat.zero_le]
        refine ih h5 L5 (F4.trans (F5.mono (by simp) (fun _ z => z))) (fun i => ?_) (fun i => by rw [F5.rJ (by simp)]; exact N4 i)
        rw [E5]
        by_cases y : i = k
        · subst y; rw [if_pos rfl, if_pos (by omega)]
        · rw [if_neg y, E4]
          by_cases q : i < k
          · rw [if_pos q, if_pos (by omega)]
          · rw [if_neg q, if_neg (by omega)]
    refine d243_95 g3.1 ?_
    rw [g3.2.2.2.1.1]
    refine ⟨fun z => absurd rfl z, fun _ => nums 0 (Nat.zero_le _) h3 g3.1 i_Fr.refl (fun i => by rw [if_neg (by omega)]) (fun _ => rfl)⟩
  have fail : ∀ f p, p_town T n = .inl (f, p) → ∀ h3, i_Lay h3 → i_GN h2 h3 → i_RBL h3 f p → ∀ (y2 y3 : Option Value), i_P i_MT i_AT L xs 243 74 [some (.ref 138), some (.int x), y2, y3] [] h3 0 0 Q := fun f p he h3 L3 gn b3 y2 y3 => d243_74 L3 (d243_75 L3 (d243_76 L3 ⟨fun _ => bad f p he h3 L3 gn b3 _, fun z => absurd rfl z⟩))
  have loop : ∀ f k (b : Nat → Nat), n - k < f → k ≤ n → o_PW b → p_town T n = p_parts T n f k b → ∀ h3, i_PR b n k T h3 → i_GN h2 h3 → ∀ (y3 : Option Value), i_P i_MT i_AT L xs 243 76 [some (.ref 138), some (.int x), some (.int (i_n 1)), y3] [] h3 0 0 Q := by
    intro f
    induction f with
    | zero => intro k b h; omega
    | succ f ih =>
      intro k b hf hk w he h3 g3 gn y3
      have gp := p_part_g (T := T) w hk
      rw [p_parts_s] at he
      refine d243_76 g3.1 ⟨fun z => absurd z (by decide), fun _ => ?_⟩
      rw [show (0 : Int32) = i_n 0 from rfl, g3.kz]
      refine ⟨fun q => ?_, fun q => c242 g3 w hk ?_⟩
      · rw [if_pos q] at he
        exact well k b he h3 gn g3.2.2.2.1.2 g3 _
      · rw [if_neg q] at he
        cases hs : p_stop T n (p_part T n k b) with
        | inl e =>
          obtain ⟨f4, p4⟩ := e
          rw [hs] at he
          intro h4 L4 f4' b4
          exact ⟨_, rfl, d243_91 L4 (d243_76 L4 ⟨fun _ => bad f4 p4 he h4 L4 (gn.trans f4') b4 _, fun z => absurd rfl z⟩)⟩
        | inr e =>
          obtain ⟨k4, b4⟩ := e
          rw [hs] at he
          have gr := p_stop_r gp hs
          intro h4 f4' g4
          exact ⟨_, rfl, d243_91 g4.1 (ih k4 b4 (by omega) gr.2.1 gr.2.2 he h4 g4 (gn.trans f4') _)⟩
  have l1 := o_ke_le (T := T) (Nat.zero_le n) 1
  have l2 := o_ke_le (T := T) (Nat.zero_le n) 2
  have l3 := o_ke_le (T := T) (Nat.zero_le n) 3
  refine r224 (r := 8) (w := 8) (k := o_ke T n 0 0) (k2 := o_ke T n 1 0) rfl g2 (Nat.zero_le n) (by omega) rfl (fun e1 h3 g3 f3 => ⟨_, rfl, d243_32 g3.1 ⟨fun z => absurd z (by decide), fun _ => ?_⟩⟩) (fun e1 h3 L3 f3 b3 => ⟨_, rfl, d243_32 L3 ⟨fun _ => fail _ _ (by unfold p_town; rw [o_wo_f e1]) h3 L3 f3 b3 _ _, fun z => absurd rfl z⟩⟩)
  refine r225 (j := 0) (lo := 2) (hi := 8) (k2 := o_ke T n 2 0) rfl g3 l1.2 (by omega) (by omega) (by omega) (by omega) (fun e2 h4 g4 f4 => ⟨_, rfl, d243_45 g4.1 ⟨fun z => absurd z (by decide), fun _ => ?_⟩⟩) (fun e2 h4 L4 f4 b4 => ⟨_, rfl, d243_45 L4 ⟨fun _ => fail _ _ (by unfold p_town; rw [o_wo_t e1, o_nu_f e2]) h4 L4 (f3.trans f4) b4 _ _, fun z => absurd rfl z⟩⟩)
  have f4 := f3.trans f4
  refine r225 (j := 1) (lo := 2) (hi := 6) (k2 := o_ke T n 3 0) rfl g4 l2.2 (by omega) (by omega) (by omega) (by omega) (fun e3 h5 g5 f5 => ⟨_, rfl, d243_58 g5.1 ⟨fun z => absurd z (by decide), fun _ => ?_⟩⟩) (fun e3 h5 L5 f5 b5 => ⟨_, rfl, d243_58 L5 ⟨fun _ => fail _ _ (by unfold p_town; rw [o_wo_t e1, o_nu_t e2, o_nu_f e3]) h5 L5 (f4.trans f5) b5 _ _, fun z => absurd rfl z⟩⟩)
  have f5 := f4.trans f5
  have z2 := (o_nf_0 e2).2
  have z3 := (o_nf_0 e3).2
  refine c223 g5.1 g5.2.1 l3.2 g5.2.2.1 g5.2.2.2.1.1 (fun e4 h6 L6 f6 z6 => ⟨_, rfl, d243_67 L6 ⟨fun z => absurd z (by decide), fun _ => ?_⟩⟩) (fun e4 h6 L6 f6 b6 => ⟨_, rfl, d243_67 L6 ⟨fun _ => fail _ _ (by unfold p_town; rw [o_wo_t e1, o_nu_t e2, o_nu_t e3, if_neg e4]; rfl) h6 L6 (f5.trans (i_GN.of f6 (by decide))) b6 _ _, fun z => absurd rfl z⟩⟩)
  have on := o_tk_on (T := T) l3.2 (by omega)
  have le := o_tk_le (T := T) l3.2
  refine d243_75 L6 (loop 900 (o_ke T n 4 0) (o_siz (o_tkv T n (o_ke T n 1 0)) (o_tkv T n (o_ke T n 2 0))) ?_ ?_ (o_siz_w z2 z3) ?_ h6 (g5.fr L6 f6 (by decide) z6) (f5.trans (i_GN.of f6 (by decide))) _)
  · show n - o_tke T n (o_ke T n 3 0) < 900
    omega
  · exact le.2.2
  · unfold p_town
    rw [o_wo_t e1, o_nu_t e2, o_nu_t e3, if_pos e4]
    rfl
end
