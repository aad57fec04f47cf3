/-! MAY BE -/
section
variable {L : Nat} {xs : Nat → Int32} {h : iH} {Q : Option Value → iH → Prop} {a : Nat → Nat} {t : Nat}
set_option maxRecDepth 20000
theorem j_sar0 (x : Int64) {k : Nat} (hk : k < 64) : i_b (x >>> ((i_n k).toInt64 &&& (63 : Int64))) 0 = i_b x k := by
  unfold i_b
  rw [Int64.toBitVec_shiftRight, BitVec.getLsbD_sshiftRight']
  erw [j_amt hk]
  simp [hk]
theorem j_has1 (x : Int64) {k : Nat} (hk : k < 64) : ((x >>> ((i_n k).toInt64 &&& (63 : Int64))) &&& (1 : Int64)) = 1 ↔ i_b x k = true := by
  constructor
  · intro z
    have := congrArg (fun s => i_b s 0) z
    rw [j_and, j_sar0 _ hk, j_1] at this
    simpa using this
  · intro z
    refine j_ext (fun c hc => ?_)
    rw [j_and, j_1]
    by_cases e : c = 0
    · subst e; rw [j_sar0 _ hk, z]; simp
    · simp [e]
def i_KJ (a : Nat → Nat) (t : Nat) (h : iH) (Q : Option Value → iH → Prop) (z : Int64 × Int32) : Prop := ∀ h2, i_ST a t h2 → i_FS h h2 → fI h2 0 0 = z.2 → Q (some (.long z.1)) h2
def i_RJ (a : Nat → Nat) (h : iH) (Q : Option Value → iH → Prop) (z : Int64 × Int32) : Prop := ∀ h2, i_RA a h2 → i_GS h h2 → fI h2 138 4 = z.2 → Q (some (.long z.1)) h2
/-- where one may be that was at s -/
def o_may (a : Nat → Nat) (p s : Nat) : Nat → Nat → Bool
  | 0, c => c == s
  | m + 1, c => (o_may a p s m c && !((o_moved a p (m + 1) && decide (0 < a 9)) && o_sees a p c (m + 1))) || (o_bes a (o_may a p s m) c && !o_sees a p c (m + 1))
def o_mayA (a : Nat → Nat) (x y z : Int32) : Int64 × Int32 := o_AJ (v_p a x ∧ v_f a y ∧ v_t z) (o_mk (o_may a x.toNatClampNeg y.toNatClampNeg z.toNatClampNeg) (a 0 * a 1))
theorem o_is.andn {s s2 : Int64} {n : Nat} {P P2 : Nat → Bool} (x : o_is s n P) (y : o_is s2 n P2) : o_is (s &&& (s2 ^^^ (-1 : Int64))) n (fun c => P c && !P2 c) := fun c hc => by
  rw [j_andn, x c hc, y c hc]
  by_cases h : c < n <;> simp [h]
theorem i_CO.sn (g : i_CO a t h) {k : Nat} (hk : k < 4) : aI h (t + 6) k = i_n (a (6 + k)) := g.ct.2.2.2.2.2.2.1 k hk
theorem c55 (g : i_CO a t h) {p c m : Nat} (hp : p < a 5) (hc : c < a 0 * a 1) (hm : m ≤ 60) (H : ∀ (s : Int64) (h2 : iH), o_is s (a 0 * a 1) (o_may a p c m) → i_CO a t h2 → i_Fr [99, 100, 106, 107] [] h h2 → Q (some (.long s)) h2) : i_C i_MT i_AT L xs 55 [.ref 121, .int (i_n p), .int (i_n c), .int (i_n m)] h Q := by
  have h48 := g.w.c48
  have h9 : a 9 ≤ 16 := g.w.2.2.2.2.2.1 3 (by omega)
  have e9 : aI h (t + 6) 3 = i_n (a 9) := g.sn (by omega)
  have key : ∀ k, k ≤ m + 1 → 1 ≤ k → ∀ (s : Int64) (h1 : iH), o_is s (a 0 * a 1) (o_may a p c (k - 1)) → i_CO a t h1 → i_Fr [99, 100, 106, 107] [] h h1 → ∀ (y8 y9 y10 y11 : Option Value), i_P i_MT i_AT L xs 55 30 [some (.ref 121), some (.int (i_n p)), some (.int (i_n c)), some (.int (i_n m)), some (.int (i_bo (0 < a 9))), some (.long s), none, some (.int (i_n k)), y8, y9, y10, y11] [] h1 0 0 Q := by
    refine l_up ?_ ?_
    · intro _ s h1 hs g1 f1 y8 y9 y10 y11
      refine d55_30 g1.l ?_
      try simp (disch := omega) only [n_lit, n_m, n_add, n_mul, n_div, n_mod, n_cl, n_lt, n_le, n_eq, n_in, n_eqm, n_meq, n_mlt, n_ltm, n_mle, n_lem, not_true_eq_false, not_false_eq_true, true_implies, false_implies, true_and, and_true, Nat.not_lt_zero, Nat.zero_le, Nat.lt_succ_self]
      exact H s h1 hs g1 f1
    · intro k hk ih hk1 s h1 hs g1 f1 y8 y9 y10 y11
      refine d55_30 g1.l ?_
      try simp (disch := omega) only [n_lit, n_m, n_add, n_mul, n_div, n_mod, n_cl, n_lt, n_le, n_eq, n_in, n_eqm, n_meq, n_mlt, n_ltm, n_mle, n_lem, not_true_eq_false, not_false_eq_true, true_implies, false_implies, true_and, and_true, Nat.not_lt_zero, Nat.zero_le]
      refine ⟨fun q => by omega, fun _ => c10 g1 hp (by omega) (fun v h2 hv g2 f2 => ⟨_, rfl, d55_46 g2.l ?_⟩)⟩
      have fin : ∀ s2, o_is s2 (a 0 * a 1) (fun c2 => o_may a p c (k - 1) c2 && !((o_moved a p k && decide (0 < a 9)) && o_sees a p c2 k)) → ∀ (y10 y11 : Option Value), i_P i_MT i_AT L xs 55 80 [some (.ref 121), some (.int (i_n p)), some (.int (i_n c)), some (.int (i_n m)), some (.int (i_bo (0 < a 9))), some (.long s), none, some (.int (i_n k)), some (.long (v ^^^ -1)), none, y10, y11] [.long s2] h2 0 0 Q := by
        intro s2 hs2 y10 y11
        refine d55_80 g2.l (c23 g2.l g2.w g2.2.1 hs (fun s3 hs3 => ⟨_, rfl, d55_96 g2.l ?_⟩))
        try simp (disch := omega) only [n_lit, n_m, n_add, n_mul, n_div, n_mod, n_cl, n_lt, n_le, n_eq, n_in, n_eqm, n_meq, n_mlt, n_ltm, n_mle, n_lem, not_true_eq_false, not_false_eq_true, true_implies, false_implies, true_and, and_true, Nat.not_lt_zero, Nat.zero_le]
        refine ih (by omega) _ h2 ?_ g2 (f1.trans f2) _ _ _ _
        have := hs2.or (hs3.andn hv)
        refine this.congr (fun c2 _ => ?_)
        obtain ⟨j, rfl⟩ : ∃ j, k = j + 1 := ⟨k - 1, by omega⟩
        rw [show j + 1 + 1 - 1 = j + 1 by omega, show j + 1 - 1 = j by omega, o_may]
      try simp (disch := omega) only [n_lit, n_m, i_bo01, j_cmpn, Classical.not_not, n_add, n_mul, n_div, n_mod, n_cl, n_lt, n_le, n_eq, n_in, n_eqm, n_meq, n_mlt, n_ltm, n_mle, n_lem, not_true_eq_false, not_false_eq_true, true_implies, false_implies, true_and, and_true, Nat.not_lt_zero, Nat.zero_le]
      refine ⟨fun z => d55_78 g2.l (fin s (hs.congr (fun c2 _ => ?_)) _ _), fun z => c9 g2 hp (by omega) ⟨_, rfl, d55_67 g2.l ?_⟩⟩
      · simp [show ¬ 0 < a 9 by omega]
      · try simp (disch := omega) only [n_lit, n_m, i_bo01, j_cmpn, Classical.not_not, n_add, n_mul, n_div, n_mod, n_cl, n_lt, n_le, n_eq, n_in, n_eqm, n_meq, n_mlt, n_ltm, n_mle, n_lem, not_true_eq_false, not_false_eq_true, true_implies, false_implies, true_and, and_true, Nat.not_lt_zero, Nat.zero_le]
        refine ⟨fun z2 => d55_78 g2.l (fin s (hs.congr (fun c2 _ => ?_)) _ _), fun z2 => fin _ ((hs.andn hv).congr (fun c2 _ => ?_)) _ _⟩
        · simp [z2]
        · simp [z2, z]
  refine e55 (d55_0 g.l ⟨t, g.tw, g.T, ?_⟩)
  try simp (disch := omega) only [n_lit, n_m, n_add, n_mul, n_div, n_mod, n_cl, n_lt, n_le, n_eq, n_in, n_eqm, n_meq, n_mlt, n_ltm, n_mle, n_lem, not_true_eq_false, not_false_eq_true, true_implies, false_implies, true_and, and_true, Nat.not_lt_zero, Nat.zero_le, e9]
  have go : ∀ v : Int32, v = i_bo (0 < a 9) → i_P i_MT i_AT L xs 55 20 [some (.ref 121), some (.int (i_n p)), some (.int (i_n c)), some (.int (i_n m)), none, none, none, none, none, none, none, none] [.int v] h 0 0 Q := by
    intro v hv
    subst hv
    refine d55_20 g.l ?_
    try simp (disch := omega) only [n_lit, n_m, n_add, n_mul, n_div, n_mod, n_cl, n_lt, n_le, n_eq, n_in, n_eqm, n_meq, n_mlt, n_ltm, n_mle, n_lem, not_true_eq_false, not_false_eq_true, true_implies, false_implies, true_and, and_true, Nat.not_lt_zero, Nat.zero_le]
    exact key 1 (by omega) (Nat.le_refl 1) _ h (o_is.one hc (by omega)) g i_Fr.refl _ _ _ _
  refine ⟨fun z => go _ (i_bo_f (by omega)).symm, fun z => go _ (i_bo_t (by omega)).symm⟩
theorem v_f_get {x : Int32} (w : o_WF a) (hx : v_f a x) : ∃ c, c < a 0 * a 1 ∧ x = i_n c ∧ o_wall a c = false := by
  have h48 := w.c48
  obtain ⟨c, hc, rfl⟩ := n_get hx.1 (by omega)
  refine ⟨c, hc, rfl, ?_⟩
  have := hx.2
  rwa [n_cl (by omega)] at this
theorem v_f_of {c : Nat} (hc : c < a 0 * a 1) (h48 : a 0 * a 1 ≤ 48) (hw : o_wall a c = false) : v_f a (i_n c) := by
  refine ⟨⟨?_, ?_⟩, ?_⟩
  · rw [show (0 : Int32) = i_n 0 from rfl, n_le (by omega) (by omega)]; omega
  · rw [n_lt (by omega) (by omega)]; exact hc
  · rw [n_cl (by omega)]; exact hw
theorem c160 (g : i_ST a t h) {x y z : Int32} (H : i_KJ a t h Q (o_mayA a x y z)) : i_C i_MT i_AT L xs 160 [.ref 0, .int x, .int y, .int z] h Q := by
  have h5 := g.w.2.2.2.2.1
  have h48 := g.w.c48
  unfold o_mayA at H
  have bad : ¬ (v_p a x ∧ v_f a y ∧ v_t z) → i_P i_MT i_AT L xs 160 23 [some (.ref 0), some (.int x), some (.int y), some (.int z)] [] h 0 0 Q := by
    intro z
    rw [o_AJ_f z] at H
    exact d160_23 g.l (m179 g (fun h2 g2 f2 s2 => ⟨_, rfl, d160_28 g2.l (H h2 g2 f2.s s2)⟩))
  refine e160 (d160_0 g.l (c186 g ⟨_, rfl, d160_5 g.l ?_⟩))
  rw [i_bo_0, Classical.not_not]
  refine ⟨fun z => bad (fun q => z q.1), fun z => c189 g ⟨_, rfl, d160_13 g.l ?_⟩⟩
  rw [i_bo_0, Classical.not_not]
  refine ⟨fun z2 => bad (fun q => z2 q.2.1), fun z2 => c190 ⟨_, rfl, d160_20 g.l ?_⟩⟩
  rw [i_bo_0, Classical.not_not]
  refine ⟨fun z3 => ?_, fun z3 => bad (fun q => z3 q.2.2)⟩
  rw [o_AJ_t ⟨z, z2, z3⟩] at H
  obtain ⟨p, hp, rfl⟩ := n_get z (by omega)
  obtain ⟨c, hc, rfl, hcw⟩ := v_f_get g.w z2
  obtain ⟨m, hm, rfl⟩ := n_gle (k := 60) z3 (by omega)
  rw [n_cl (by omega), n_cl (by omega), n_cl (by omega)] at H
  refine c55 g.1 hp hc hm (fun s h1 hs g1 f1 => ?_)
  have G1 := g.co g1 f1
  refine ⟨_, rfl, d160_41 G1.l (m182 G1 (fun h2 g2 f2 s2 => ⟨_, rfl, d160_44 g2.l ?_⟩))⟩
  rw [hs.eq (by omega)]
  exact H h2 g2 (f1.s4.trans f2.s) s2
/-- the reference's way to say that a cell is a cell and open -/
theorem r_open (r : i_RA a h) {y : Int32} {n pc1 pc2 : Nat} (hv : v_c a y) : ∃ c, c < a 0 * a 1 ∧ c < 48 ∧ y = i_n c ∧ (v_f a y ↔ o_wall a c = false) := by
  have h48 := r.2.1.c48
  obtain ⟨c, hc, rfl⟩ := n_get hv (by omega)
  refine ⟨c, hc, by omega, rfl, ?_⟩
  rw [show v_f a (i_n c) ↔ (v_c a (i_n c) ∧ o_wall a (i_n c).toNatClampNeg = false) from Iff.rfl, n_cl (by omega)]
  exact ⟨fun q => q.2, fun q => ⟨hv, q⟩⟩
set_option maxHeartbeats 1000000 in
theorem c299 (r : i_RA a h) {x y z : Int32} (H : i_RJ a h Q (o_mayA a x y z)) : i_C i_MT i_AT L xs 299 [.ref 138, .int x, .int y, .int z] h Q := by
  have h5 := r.2.1.2.2.2.2.1
  have h48 := r.2.1.c48
  have hA := r.2.2.1
  have h9 : a 9 ≤ 16 := r.2.1.2.2.2.2.2.1 3 (by omega)
  unfold o_mayA at H
  have bad : ¬ (v_p a x ∧ v_f a y ∧ v_t z) → ∀ (y4 y5 y6 y7 y8 y9 y10 y11 y12 y13 : Option Value), i_P i_MT i_AT L xs 299 32 [some (.ref 138), some (.int x), some (.int y), some (.int z), y4, y5, y6, y7, y8, y9, y10, y11, y12, y13] [] h 0 0 Q := by
    intro z y4 y5 y6 y7 y8 y9 y10 y11 y12 y13
    rw [o_AJ_f z] at H
    exact d299_32 r.1 (m201 r (fun h2 g2 f2 s2 => ⟨_, rfl, d299_37 g2.1 (H h2 g2 f2.s s2)⟩))
  refine e299 (d299_0 r.1 (c254 r ⟨_, rfl, d299_5 r.1 ?_⟩))
  rw [i_bo_0, Classical.not_not]
  refine ⟨fun z => bad (fun q => z q.1) _ _ _ _ _ _ _ _ _ _, fun z => c249 r ⟨_, rfl, d299_14 r.1 ?_⟩⟩
  rw [i_bo_0, Classical.not_not]
  refine ⟨fun z2 => bad (fun q => z2 q.2.1.1) _ _ _ _ _ _ _ _ _ _, fun z2 => ?_⟩
  obtain ⟨c, hc, hc48, rfl, hop⟩ := r_open (n := 0) (pc1 := 0) (pc2 := 0) r z2
  refine c250 r hc48 ⟨_, rfl, d299_22 r.1 ?_⟩
  rw [i_bo_0, Classical.not_not]
  rw [← hop]
  refine ⟨fun z3 => bad (fun q => z3 q.2.1) _ _ _ _ _ _ _ _ _ _, fun z3 => c255 r.1 ⟨_, rfl, d299_29 r.1 ?_⟩⟩
  rw [i_bo_0, Classical.not_not]
  refine ⟨fun z4 => ?_, fun z4 => bad (fun q => z4 q.2.2) _ _ _ _ _ _ _ _ _ _⟩
  rw [o_AJ_t ⟨z, z3, z4⟩] at H
  obtain ⟨p, hp, rfl⟩ := n_get z (by omega)
  obtain ⟨m, hm, rfl⟩ := n_gle (k := 60) z4 (by omega)
  rw [n_cl (by omega), n_cl (by omega), n_cl (by omega)] at H
  have key : ∀ k, k ≤ m + 1 → 1 ≤ k → ∀ (s : Int64), o_is s (a 0 * a 1) (o_may a p c (k - 1)) → ∀ (y7 y8 y9 y10 y11 y12 y13 : Option Value), i_P i_MT i_AT L xs 299 47 [some (.ref 138), some (.int (i_n p)), some (.int (i_n c)), some (.int (i_n m)), some (.long s), none, some (.int (i_n k)), y7, y8, y9, y10, y11, y12, y13] [] h 0 0 Q := by
    refine l_up ?_ ?_
    · intro _ s hs y7 y8 y9 y10 y11 y12 y13
      refine d299_47 r.1 ?_
      try simp (disch := omega) only [n_lit, n_m, n_add, n_mul, n_div, n_mod, n_cl, n_lt, n_le, n_eq, n_in, n_eqm, n_meq, n_mlt, n_ltm, n_mle, n_lem, not_true_eq_false, not_false_eq_true, true_implies, false_implies, true_and, and_true, Nat.not_lt_zero, Nat.zero_le, Nat.lt_succ_self]
      refine m203 r (fun h2 g2 f2 s2 => ⟨_, rfl, d299_265 g2.1 ?_⟩)
      rw [hs.eq (by omega)]
      exact H h2 g2 f2.s s2
    · intro k hk ih hk1 s hs y7 y8 y9 y10 y11 y12 y13
      have row : ∀ d, d ≤ a 0 * a 1 → ∀ s2, o_is s2 d (o_may a p c k) → ∀ (y11 y12 y13 : Option Value), i_P i_MT i_AT L xs 299 86 [some (.ref 138), some (.int (i_n p)), some (.int (i_n c)), some (.int (i_n m)), some (.long s), none, some (.int (i_n k)), some (.long s2), none, some (.int (i_bo ((o_moved a p k && decide (0 < a 9)) = true))), some (.int (i_n d)), y11, y12, y13] [] h 0 0 Q := by
        refine l_up ?_ ?_
        · intro s2 hs2 y11 y12 y13
          refine d299_86 r.1 (c248 r ⟨_, rfl, d299_92 r.1 ?_⟩)
          try simp (disch := omega) only [n_lit, n_m, n_add, n_mul, n_div, n_mod, n_cl, n_lt, n_le, n_eq, n_in, n_eqm, n_meq, n_mlt, n_ltm, n_mle, n_lem, not_true_eq_false, not_false_eq_true, true_implies, false_implies, true_and, and_true, Nat.not_lt_zero, Nat.zero_le, Nat.le_refl]
          exact ih (by omega) _ (by rw [show k + 1 - 1 = k by omega]; exact hs2) _ _ _ _ _ _ _
        · intro d hd ih2 s2 hs2 y11 y12 y13
          -- behind stays and comes
          have last : ∀ b1 b2 : Bool, o_may a p c k d = (b1 || b2) → ∀ (y12 : Int32) (y13 : Int32), i_P i_MT i_AT L xs 299 218 [some (.ref 138), some (.int (i_n p)), some (.int (i_n c)), some (.int (i_n m)), some (.long s), none, some (.int (i_n k)), some (.long s2), none, some (.int (i_bo ((o_moved a p k && decide (0 < a 9)) = true))), some (.int (i_n d)), some (.int (i_bo (b1 = true))), some (.int y12), some (.int y13)] [.int (i_bo (b2 = true))] h 0 0 Q := by
            intro b1 b2 hb y12 y13
            have yes : (b1 || b2) = true → i_P i_MT i_AT L xs 299 232 [some (.ref 138), some (.int (i_n p)), some (.int (i_n c)), some (.int (i_n m)), some (.long s), none, some (.int (i_n k)), some (.long s2), none, some (.int (i_bo ((o_moved a p k && decide (0 < a 9)) = true))), some (.int (i_n d)), some (.int (i_bo (b1 = true))), some (.int (i_bo (b2 = true))), some (.int y13)] [.long s2] h 0 0 Q := by
              intro e
              refine d299_232 r.1 (d299_240 r.1 ?_)
              try simp (disch := omega) only [n_lit, n_m, n_add, n_mul, n_div, n_mod, n_cl, n_lt, n_le, n_eq, n_in, n_eqm, n_meq, n_mlt, n_ltm, n_mle, n_lem, not_true_eq_false, not_false_eq_true, true_implies, false_implies, true_and, and_true, Nat.not_lt_zero, Nat.zero_le]
              exact ih2 _ (hs2.t (by omega) (hb.trans e)) _ _ _
            refine d299_218 r.1 ?_
            try simp (disch := omega) only [n_lit, n_m, i_bo01, j_cmpn, Classical.not_not, n_add, n_mul, n_div, n_mod, n_cl, n_lt, n_le, n_eq, n_in, n_eqm, n_meq, n_mlt, n_ltm, n_mle, n_lem, not_true_eq_false, not_false_eq_true, true_implies, false_implies, true_and, and_true, Nat.not_lt_zero, Nat.zero_le]
            refine ⟨fun e => yes (by rw [e]; rfl), fun e => ⟨fun e2 => d299_240 r.1 ?_, fun e2 => yes (by rw [e2, Bool.or_true])⟩⟩
            try simp (disch := omega) only [n_lit, n_m, n_add, n_mul, n_div, n_mod, n_cl, n_lt, n_le, n_eq, n_in, n_eqm, n_meq, n_mlt, n_ltm, n_mle, n_lem, not_true_eq_false, not_false_eq_true, true_implies, false_implies, true_and, and_true, Nat.not_lt_zero, Nat.zero_le]
            rw [j_or0]
            exact ih2 _ (hs2.f (hb.trans (by simp [e, e2]))) _ _ _
          have bit : i_b s d = o_may a p c (k - 1) d := hs.b hd (by omega)
          have e0 : o_may a p c k d = ((o_may a p c (k - 1) d && !((o_moved a p k && decide (0 < a 9)) && o_sees a p d k)) || (o_or (fun b => o_may a p c (k - 1) b && o_far (a 0) b d == 1) (a 0 * a 1) && (!o_wall a d && !o_sees a p d k))) := by
            obtain ⟨j, rfl⟩ : ∃ j, k = j + 1 := ⟨k - 1, by omega⟩
            rw [o_may, show j + 1 - 1 = j by omega]
            congr 1
            rw [Bool.eq_iff_iff]
            simp only [Bool.and_eq_true, o_bes_t, o_or_t, beq_iff_eq, Bool.not_eq_true']
            constructor
            · rintro ⟨⟨q1, q2⟩, q3⟩; exact ⟨q2, q1, q3⟩
            · rintro ⟨q1, q2, q3⟩; exact ⟨⟨q2, q1⟩, q3⟩
          have comes : ∀ b1 : Bool, b1 = (o_may a p c (k - 1) d && !((o_moved a p k && decide (0 < a 9)) && o_sees a p d k)) → ∀ v, v ≤ a 0 * a 1 → i_P i_MT i_AT L xs 299 137 [some (.ref 138), some (.int (i_n p)), some (.int (i_n c)), some (.int (i_n m)), some (.long s), none, some (.int (i_n k)), some (.long s2), none, some (.int (i_bo ((o_moved a p k && decide (0 < a 9)) = true))), some (.int (i_n d)), some (.int (i_bo (b1 = true))), some (.int (i_bo (o_or (fun b => o_may a p c (k - 1) b && o_far (a 0) b d == 1) v = true))), some (.int (i_n v))] [] h 0 0 Q := by
            intro b1 hb1
            rw [← hb1] at e0
            refine l_up ?_ ?_
            · generalize o_or (fun b => o_may a p c (k - 1) b && o_far (a 0) b d == 1) (a 0 * a 1) = O at e0 ⊢
              have no : ¬ (O = true ∧ o_wall a d = false ∧ o_sees a p d k = false) → i_P i_MT i_AT L xs 299 217 [some (.ref 138), some (.int (i_n p)), some (.int (i_n c)), some (.int (i_n m)), some (.long s), none, some (.int (i_n k)), some (.long s2), none, some (.int (i_bo ((o_moved a p k && decide (0 < a 9)) = true))), some (.int (i_n d)), some (.int (i_bo (b1 = true))), some (.int (i_bo (O = true))), some (.int (i_n (a 0 * a 1)))] [] h 0 0 Q := by
                intro e
                refine d299_217 r.1 (last b1 false (e0.trans ?_) _ _)
                have : (O && (!o_wall a d && !o_sees a p d k)) = false := by
                  rw [← Bool.not_eq_true]
                  simp only [Bool.and_eq_true, Bool.not_eq_true']
                  exact e
                rw [this]
              refine d299_137 r.1 (c248 r ⟨_, rfl, d299_143 r.1 ?_⟩)
              try simp (disch := omega) only [n_lit, n_m, i_bo01, j_cmpn, Classical.not_not, n_add, n_mul, n_div, n_mod, n_cl, n_lt, n_le, n_eq, n_in, n_eqm, n_meq, n_mlt, n_ltm, n_mle, n_lem, not_true_eq_false, not_false_eq_true, true_implies, false_implies, true_and, and_true, Nat.not_lt_zero, Nat.zero_le, Nat.le_refl]
              refine ⟨fun e => no (fun q => e q.1), fun e => c250 r (by omega) ⟨_, rfl, d299_198 r.1 ?_⟩⟩
              try simp (disch := omega) only [n_lit, n_m, i_bo01, j_cmpn, Classical.not_not, n_add, n_mul, n_div, n_mod, n_cl, n_lt, n_le, n_eq, n_in, n_eqm, n_meq, n_mlt, n_ltm, n_mle, n_lem, not_true_eq_false, not_false_eq_true, true_implies, false_implies, true_and, and_true, Nat.not_lt_zero, Nat.zero_le]
              refine ⟨fun e2 => no (fun q => e2 q.2.1), fun e2 => c272 r hp hd (by omega) ⟨_, rfl, d299_210 r.1 ?_⟩⟩
              try simp (disch := omega) only [n_lit, n_m, i_bo01, j_cmpn, Classical.not_not, n_add, n_mul, n_div, n_mod, n_cl, n_lt, n_le, n_eq, n_in, n_eqm, n_meq, n_mlt, n_ltm, n_mle, n_lem, not_true_eq_false, not_false_eq_true, true_implies, false_implies, true_and, and_true, Nat.not_lt_zero, Nat.zero_le]
              refine ⟨fun e3 => no (fun q => by rw [e3] at q; cases q.2.2), fun e3 => last b1 true (e0.trans ?_) _ _⟩
              simp [e, e2, e3]
            · intro v hv ih3
              rw [o_or] at ih3
              generalize o_or (fun b => o_may a p c (k - 1) b && o_far (a 0) b d == 1) v = O at ih3 ⊢
              have bv : i_b s v = o_may a p c (k - 1) v := hs.b hv (by omega)
              have no : (O || (o_may a p c (k - 1) v && o_far (a 0) v d == 1)) = false → i_P i_MT i_AT L xs 299 178 [some (.ref 138), some (.int (i_n p)), some (.int (i_n c)), some (.int (i_n m)), some (.long s), none, some (.int (i_n k)), some (.long s2), none, some (.int (i_bo ((o_moved a p k && decide (0 < a 9)) = true))), some (.int (i_n d)), some (.int (i_bo (b1 = true))), some (.int (i_bo (O = true))), some (.int (i_n v))] [] h 0 0 Q := by
                intro e
                refine d299_178 r.1 (d299_179 r.1 ?_)
                try simp (disch := omega) only [n_lit, n_m, n_add, n_mul, n_div, n_mod, n_cl, n_lt, n_le, n_eq, n_in, n_eqm, n_meq, n_mlt, n_ltm, n_mle, n_lem, not_true_eq_false, not_false_eq_true, true_implies, false_implies, true_and, and_true, Nat.not_lt_zero, Nat.zero_le]
                rw [e] at ih3
                exact ih3
              have yes : (O || (o_may a p c (k - 1) v && o_far (a 0) v d == 1)) = true → i_P i_MT i_AT L xs 299 174 [some (.ref 138), some (.int (i_n p)), some (.int (i_n c)), some (.int (i_n m)), some (.long s), none, some (.int (i_n k)), some (.long s2), none, some (.int (i_bo ((o_moved a p k && decide (0 < a 9)) = true))), some (.int (i_n d)), some (.int (i_bo (b1 = true))), some (.int (i_bo (O = true))), some (.int (i_n v))] [] h 0 0 Q := by
                intro e
                refine d299_174 r.1 (d299_179 r.1 ?_)
                try simp (disch := omega) only [n_lit, n_m, n_add, n_mul, n_div, n_mod, n_cl, n_lt, n_le, n_eq, n_in, n_eqm, n_meq, n_mlt, n_ltm, n_mle, n_lem, not_true_eq_false, not_false_eq_true, true_implies, false_implies, true_and, and_true, Nat.not_lt_zero, Nat.zero_le]
                rw [e] at ih3
                exact ih3
              refine d299_137 r.1 (c248 r ⟨_, rfl, d299_143 r.1 ?_⟩)
              try simp (disch := omega) only [n_lit, n_m, i_bo01, j_cmpn, Classical.not_not, n_add, n_mul, n_div, n_mod, n_cl, n_lt, n_le, n_eq, n_in, n_eqm, n_meq, n_mlt, n_ltm, n_mle, n_lem, not_true_eq_false, not_false_eq_true, true_implies, false_implies, true_and, and_true, Nat.not_lt_zero, Nat.zero_le, j_has1, bv]
              refine ⟨fun e => by omega, fun _ => ⟨fun e => yes (by rw [e]; rfl), fun e => ⟨fun e2 => no (by simp [e, e2]), fun e2 => c285 r hv hd ⟨_, rfl, d299_171 r.1 ?_⟩⟩⟩⟩
              try simp (disch := omega) only [n_lit, n_m, i_bo01, j_cmpn, Classical.not_not, n_add, n_mul, n_div, n_mod, n_cl, n_lt, n_le, n_eq, n_in, n_eqm, n_meq, n_mlt, n_ltm, n_mle, n_lem, not_true_eq_false, not_false_eq_true, true_implies, false_implies, true_and, and_true, Nat.not_lt_zero, Nat.zero_le]
              exact ⟨fun e3 => no (by simp [e, e3]), fun e3 => yes (by simp [e2, e3])⟩
          have st : ∀ b1 : Bool, b1 = (o_may a p c (k - 1) d && !((o_moved a p k && decide (0 < a 9)) && o_sees a p d k)) → ∀ (y11 y12 y13 : Option Value), i_P i_MT i_AT L xs 299 129 [some (.ref 138), some (.int (i_n p)), some (.int (i_n c)), some (.int (i_n m)), some (.long s), none, some (.int (i_n k)), some (.long s2), none, some (.int (i_bo ((o_moved a p k && decide (0 < a 9)) = true))), some (.int (i_n d)), y11, y12, y13] [.int (i_bo (b1 = true))] h 0 0 Q := by
            intro b1 hb1 y11 y12 y13
            refine d299_129 r.1 ?_
            try simp (disch := omega) only [n_lit, n_m, n_add, n_mul, n_div, n_mod, n_cl, n_lt, n_le, n_eq, n_in, n_eqm, n_meq, n_mlt, n_ltm, n_mle, n_lem, not_true_eq_false, not_false_eq_true, true_implies, false_implies, true_and, and_true, Nat.not_lt_zero, Nat.zero_le]
            exact comes b1 hb1 0 (Nat.zero_le _)
          have yes : (o_may a p c (k - 1) d && !((o_moved a p k && decide (0 < a 9)) && o_sees a p d k)) = true → i_P i_MT i_AT L xs 299 124 [some (.ref 138), some (.int (i_n p)), some (.int (i_n c)), some (.int (i_n m)), some (.long s), none, some (.int (i_n k)), some (.long s2), none, some (.int (i_bo ((o_moved a p k && decide (0 < a 9)) = true))), some (.int (i_n d)), y11, y12, y13] [] h 0 0 Q := fun e => d299_124 r.1 (st true e.symm _ _ _)
          have no : (o_may a p c (k - 1) d && !((o_moved a p k && decide (0 < a 9)) && o_sees a p d k)) = false → i_P i_MT i_AT L xs 299 128 [some (.ref 138), some (.int (i_n p)), some (.int (i_n c)), some (.int (i_n m)), some (.long s), none, some (.int (i_n k)), some (.long s2), none, some (.int (i_bo ((o_moved a p k && decide (0 < a 9)) = true))), some (.int (i_n d)), y11, y12, y13] [] h 0 0 Q := fun e => d299_128 r.1 (st false e.symm _ _ _)
          refine d299_86 r.1 (c248 r ⟨_, rfl, d299_92 r.1 ?_⟩)
          try simp (disch := omega) only [n_lit, n_m, i_bo01, j_cmpn, Classical.not_not, n_add, n_mul, n_div, n_mod, n_cl, n_lt, n_le, n_eq, n_in, n_eqm, n_meq, n_mlt, n_ltm, n_mle, n_lem, not_true_eq_false, not_false_eq_true, true_implies, false_implies, true_and, and_true, Nat.not_lt_zero, Nat.zero_le, j_has1, bit]
          refine ⟨fun e => by omega, fun _ => ⟨fun e => no (by simp [e]), fun e => ⟨fun e2 => yes ?_, fun e2 => c272 r hp hd (by omega) ⟨_, rfl, d299_121 r.1 ?_⟩⟩⟩⟩
          · rw [e]
            have : (o_moved a p k && decide (0 < a 9)) = false := by simpa using e2
            rw [this]; rfl
          · try simp (disch := omega) only [n_lit, n_m, i_bo01, j_cmpn, Classical.not_not, n_add, n_mul, n_div, n_mod, n_cl, n_lt, n_le, n_eq, n_in, n_eqm, n_meq, n_mlt, n_ltm, n_mle, n_lem, not_true_eq_false, not_false_eq_true, true_implies, false_implies, true_and, and_true, Nat.not_lt_zero, Nat.zero_le]
            refine ⟨fun e3 => no ?_, fun e3 => yes ?_⟩
            · rw [e2, e3]; simp
            · have : o_sees a p d k = false := by simpa using e3
              rw [e, this]; simp
      refine d299_47 r.1 ?_
      try simp (disch := omega) only [n_lit, n_m, n_add, n_mul, n_div, n_mod, n_cl, n_lt, n_le, n_eq, n_in, n_eqm, n_meq, n_mlt, n_ltm, n_mle, n_lem, not_true_eq_false, not_false_eq_true, true_implies, false_implies, true_and, and_true, Nat.not_lt_zero, Nat.zero_le]
      refine ⟨fun q => by omega, fun _ => c274 r hp (by omega) ⟨_, rfl, d299_63 r.1 ?_⟩⟩
      have go : ∀ v : Bool, v = (o_moved a p k && decide (0 < a 9)) → ∀ (y9 y10 y11 y12 y13 : Option Value), i_P i_MT i_AT L xs 299 81 [some (.ref 138), some (.int (i_n p)), some (.int (i_n c)), some (.int (i_n m)), some (.long s), none, some (.int (i_n k)), some (.long 0), none, y9, y10, y11, y12, y13] [.int (i_bo (v = true))] h 0 0 Q := by
        intro v hv y9 y10 y11 y12 y13
        subst hv
        refine d299_81 r.1 ?_
        try simp (disch := omega) only [n_lit, n_m, n_add, n_mul, n_div, n_mod, n_cl, n_lt, n_le, n_eq, n_in, n_eqm, n_meq, n_mlt, n_ltm, n_mle, n_lem, not_true_eq_false, not_false_eq_true, true_implies, false_implies, true_and, and_true, Nat.not_lt_zero, Nat.zero_le]
        exact row 0 (Nat.zero_le _) 0 o_is.zero _ _ _
      try simp (disch := omega) only [n_lit, n_m, i_bo01, j_cmpn, Classical.not_not, n_add, n_mul, n_div, n_mod, n_cl, n_lt, n_le, n_eq, n_in, n_eqm, n_meq, n_mlt, n_ltm, n_mle, n_lem, not_true_eq_false, not_false_eq_true, true_implies, false_implies, true_and, and_true, Nat.not_lt_zero, Nat.zero_le, hA]
      refine ⟨fun e => d299_80 r.1 (go false (by simp [e]) _ _ _ _ _), fun e => ⟨fun e2 => d299_80 r.1 (go false ?_ _ _ _ _ _), fun e2 => go true ?_ _ _ _ _ _⟩⟩
      · simp [show ¬ 0 < a 9 by omega]
      · simp [e]; omega
  try simp (disch := omega) only [n_lit, n_m, n_add, n_mul, n_div, n_mod, n_cl, n_lt, n_le, n_eq, n_in, n_eqm, n_meq, n_mlt, n_ltm, n_mle, n_lem, not_true_eq_false, not_false_eq_true, true_implies, false_implies, true_and, and_true, Nat.not_lt_zero, Nat.zero_le]
  exact key 1 (by omega) (Nat.le_refl 1) _ (o_is.one hc (by omega)) _ _ _ _ _ _ _
end
