/-! SHOWN, the reference -/
section
variable {L : Nat} {xs : Nat → Int32} {h : iH} {Q : Option Value → iH → Prop} {a : Nat → Nat} {t : Nat}
set_option maxRecDepth 20000
/-- rows of bits of cells, as the reference keeps them -/
def o_rn (a : Nat → Nat) (h : iH) (q : Nat) (F : Nat → Nat → Bool) : Prop := ∀ V c, V < 256 → c < a 0 * a 1 → aI h q (256 * c + V) = i_bo (F V c = true)
theorem o_rn.congr {q : Nat} {F G : Nat → Nat → Bool} (x : o_rn a h q F) (e : ∀ V c, V < 256 → c < a 0 * a 1 → F V c = G V c) : o_rn a h q G := fun V c hV hc => by rw [x V c hV hc, e V c hV hc]
theorem c291 (r : i_RA a h) {W c d m : Nat} (hW : W < 256) (hc : c < a 0 * a 1) (hd : d ≤ 4) (hm : m ≤ 60) (H : Q (some (.int (i_n (o_gn a W d m c)))) h) : i_C i_MT i_AT L xs 291 [.ref 138, .int (i_n W), .int (i_n c), .int (i_n d), .int (i_n m)] h Q := by
  have h5 := r.2.1.2.2.2.2.1
  have h48 := r.2.1.c48
  have key : ∀ k, k ≤ a 5 → i_P i_MT i_AT L xs 291 6 [some (.ref 138), some (.int (i_n W)), some (.int (i_n c)), some (.int (i_n d)), some (.int (i_n m)), some (.int (i_n (o_st (fun b => W.testBit b && decide (16 ≤ o_wgh a b c d m)) k))), some (.int (i_n k))] [] h 0 0 Q := by
    refine l_up ?_ ?_
    · refine d291_6 r.1 ?_
      rw [r.n5]
      try simp (disch := omega) only [n_lit, n_m, n_add, n_mul, n_div, n_mod, n_cl, n_lt, n_le, n_eq, n_in, n_eqm, n_meq, n_mlt, n_ltm, n_mle, n_lem, not_true_eq_false, not_false_eq_true, true_implies, false_implies, true_and, and_true, Nat.not_lt_zero, Nat.zero_le, Nat.le_refl]
      exact H
    · intro k hk ih
      have h8 := o_st_8 (P := fun b => W.testBit b && decide (16 ≤ o_wgh a b c d m)) (n := k) (by omega)
      have hwl := o_wgh_le r.2.1 (p := k) (c := c) (m := m) hd (by omega)
      have pk : (1 : Nat) <<< k < 256 := by
        rw [Nat.shiftLeft_eq, Nat.one_mul]
        exact Nat.pow_lt_pow_right (a := 2) (m := k) (n := 8) (by omega) (by omega)
      rw [o_st] at ih
      generalize o_st (fun b => W.testBit b && decide (16 ≤ o_wgh a b c d m)) k = S at ih h8 ⊢
      have no : ¬ (W.testBit k && decide (16 ≤ o_wgh a k c d m)) = true → i_P i_MT i_AT L xs 291 51 [some (.ref 138), some (.int (i_n W)), some (.int (i_n c)), some (.int (i_n d)), some (.int (i_n m)), some (.int (i_n S)), some (.int (i_n k))] [.int (i_n S)] h 0 0 Q := by
        intro e
        rw [if_neg e] at ih
        refine d291_51 r.1 (d291_52 r.1 ?_)
        rw [show (i_n S ||| (0 : Int32)) = i_n S from (n_or S 0).trans (by rw [Nat.or_zero])]
        try simp (disch := omega) only [n_lit, n_m, n_add, n_mul, n_div, n_mod, n_cl, n_lt, n_le, n_eq, n_in, n_eqm, n_meq, n_mlt, n_ltm, n_mle, n_lem, not_true_eq_false, not_false_eq_true, true_implies, false_implies, true_and, and_true, Nat.not_lt_zero, Nat.zero_le]
        exact ih
      refine d291_6 r.1 ?_
      rw [r.n5]
      have bl := n_bitlt W k
      try simp (disch := omega) only [n_lit, n_m, n_add, n_mul, n_div, n_mod, n_cl, n_lt, n_le, n_eq, n_in, n_eqm, n_meq, n_mlt, n_ltm, n_mle, n_lem, not_true_eq_false, not_false_eq_true, true_implies, false_implies, true_and, and_true, Nat.not_lt_zero, Nat.zero_le, n_shr2, n_and, n_bit1]
      refine ⟨fun e => by omega, fun _ => ⟨fun e => no (by simp [e]), fun e => c275 r hk hc hd hm ⟨_, rfl, d291_39 r.1 ?_⟩⟩⟩
      try simp (disch := omega) only [n_lit, n_m, n_add, n_mul, n_div, n_mod, n_cl, n_lt, n_le, n_eq, n_in, n_eqm, n_meq, n_mlt, n_ltm, n_mle, n_lem, not_true_eq_false, not_false_eq_true, true_implies, false_implies, true_and, and_true, Nat.not_lt_zero, Nat.zero_le]
      refine ⟨fun e2 => no (by
        rw [Bool.and_eq_true, decide_eq_true_eq]
        intro q
        omega), fun e2 => d291_52 r.1 ?_⟩
      try simp (disch := omega) only [n_lit, n_m, n_add, n_mul, n_div, n_mod, n_cl, n_lt, n_le, n_eq, n_in, n_eqm, n_meq, n_mlt, n_ltm, n_mle, n_lem, not_true_eq_false, not_false_eq_true, true_implies, false_implies, true_and, and_true, Nat.not_lt_zero, Nat.zero_le, n_shl2, n_and, n_or]
      have e3 := Classical.not_not.mp e2
      rw [if_pos (by
        rw [Bool.and_eq_true, decide_eq_true_eq]
        refine ⟨?_, by omega⟩
        simpa using e)] at ih
      exact ih
  refine e291 (d291_0 r.1 ?_)
  try simp (disch := omega) only [n_lit, n_m, n_add, n_mul, n_div, n_mod, n_cl, n_lt, n_le, n_eq, n_in, n_eqm, n_meq, n_mlt, n_ltm, n_mle, n_lem, not_true_eq_false, not_false_eq_true, true_implies, false_implies, true_and, and_true, Nat.not_lt_zero, Nat.zero_le]
  exact key 0 (Nat.zero_le _)
theorem n_bT : vp_nar .boolean 1 = i_bo (true = true) := by decide
theorem n_bF : vp_nar .boolean 0 = i_bo (false = true) := by decide
/-- one step of the reference: G takes what comes from f to c by the move d -/
def o_s2 (a : Nat → Nat) (p m d f c : Nat) (F G : Nat → Nat → Bool) (V c2 : Nat) : Bool := G V c2 || (c2 == c && (o_uns a p c d m && o_or (fun V2 => F V2 f && (V2 ||| o_gn a (a (158 + 5 * p)) d m c) == V) 256))
set_option maxHeartbeats 1000000 in
theorem c292 (r : i_RA a h) {p f c d m : Nat} {F G : Nat → Nat → Bool} (hp : p < a 5) (hf : f < a 0 * a 1) (hc : c < a 0 * a 1) (hd : d ≤ 4) (hm : m ≤ 60) (hF : o_rn a h 160 F) (hG : o_rn a h 161 G) (H : ∀ h2, i_RA a h2 → i_Fr [161] [] h h2 → o_rn a h2 161 (o_s2 a p m d f c F G) → Q none h2) : i_C i_MT i_AT L xs 292 [.ref 138, .int (i_n p), .int (i_n f), .int (i_n c), .int (i_n d), .int (i_n m)] h Q := by
  have h5 := r.2.1.2.2.2.2.1
  have h48 := r.2.1.c48
  have hv8 : a (158 + 5 * p) < 256 := (r.2.1.2.2.2.2.2.2.2.2.2.2.1 p hp).2.2.2.2.2.2
  have gl := o_gn_lt h5 (W := a (158 + 5 * p)) (d := d) (m := m) (c := c)
  refine e292 (d292_0 r.1 (c284 r hp hc hd hm ⟨_, rfl, d292_10 r.1 ?_⟩))
  try simp (disch := omega) only [n_lit, n_m, i_bo01, j_cmpn, Classical.not_not, n_add, n_mul, n_div, n_mod, n_cl, n_lt, n_le, n_eq, n_in, n_eqm, n_meq, n_mlt, n_ltm, n_mle, n_lem, not_true_eq_false, not_false_eq_true, true_implies, false_implies, true_and, and_true, Nat.not_lt_zero, Nat.zero_le]
  refine ⟨fun eu => c256 (w := 4) r (by omega) (by omega) ⟨_, rfl, d292_21 r.1 ?_⟩, fun eu => H h r i_Fr.refl (hG.congr (fun V c2 _ _ => by
    have : o_uns a p c d m = false := by simpa using eu
    unfold o_s2
    rw [this, Bool.false_and, Bool.and_false, Bool.or_false]))⟩
  rw [show 154 + 5 * p + 4 = 158 + 5 * p by omega]
  refine c291 r hv8 hc hd hm ⟨_, rfl, d292_29 r.1 ?_⟩
  have hs : o_s2 a p m d f c F G = fun V c2 => G V c2 || (c2 == c && o_or (fun V2 => F V2 f && (V2 ||| o_gn a (a (158 + 5 * p)) d m c) == V) 256) := by
    unfold o_s2
    rw [eu]
    funext V c2
    rw [Bool.true_and]
  rw [hs] at H
  generalize o_gn a (a (158 + 5 * p)) d m c = g at H gl ⊢
  have key : ∀ k, k ≤ 256 → ∀ h1, i_RA a h1 → i_Fr [161] [] h h1 → o_rn a h1 161 (fun V c2 => G V c2 || (c2 == c && o_or (fun V2 => F V2 f && (V2 ||| g) == V) k)) → i_P i_MT i_AT L xs 292 34 [some (.ref 138), some (.int (i_n p)), some (.int (i_n f)), some (.int (i_n c)), some (.int (i_n d)), some (.int (i_n m)), some (.int (i_n g)), some (.int (i_n k))] [] h1 0 0 Q := by
    refine l_up ?_ ?_
    · intro h1 r1 f1 hr
      refine d292_34 r1.1 ?_
      try simp (disch := omega) only [n_lit, n_m, n_add, n_mul, n_div, n_mod, n_cl, n_lt, n_le, n_eq, n_in, n_eqm, n_meq, n_mlt, n_ltm, n_mle, n_lem, not_true_eq_false, not_false_eq_true, true_implies, false_implies, true_and, and_true, Nat.not_lt_zero, Nat.zero_le, Nat.le_refl]
      exact H h1 r1 f1 hr
    · intro k hk ih h1 r1 f1 hr
      have kg := o_or256 hk gl
      have nx : ∀ h2, i_RA a h2 → i_Fr [161] [] h h2 → o_rn a h2 161 (fun V c2 => G V c2 || (c2 == c && o_or (fun V2 => F V2 f && (V2 ||| g) == V) (k + 1))) → i_P i_MT i_AT L xs 292 75 [some (.ref 138), some (.int (i_n p)), some (.int (i_n f)), some (.int (i_n c)), some (.int (i_n d)), some (.int (i_n m)), some (.int (i_n g)), some (.int (i_n k))] [] h2 0 0 Q := by
        intro h2 r2 f2 hr2
        refine d292_75 r2.1 ?_
        try simp (disch := omega) only [n_lit, n_m, n_add, n_mul, n_div, n_mod, n_cl, n_lt, n_le, n_eq, n_in, n_eqm, n_meq, n_mlt, n_ltm, n_mle, n_lem, not_true_eq_false, not_false_eq_true, true_implies, false_implies, true_and, and_true, Nat.not_lt_zero, Nat.zero_le]
        exact ih h2 r2 f2 hr2
      refine d292_34 r1.1 ?_
      have e160 : aI h1 160 (256 * f + k) = i_bo (F k f = true) := by rw [f1.rI (by decide)]; exact hF k f hk hf
      try simp (disch := omega) only [n_lit, n_m, i_bo01, j_cmpn, Classical.not_not, n_add, n_mul, n_div, n_mod, n_cl, n_lt, n_le, n_eq, n_in, n_eqm, n_meq, n_mlt, n_ltm, n_mle, n_lem, not_true_eq_false, not_false_eq_true, true_implies, false_implies, true_and, and_true, Nat.not_lt_zero, Nat.zero_le, e160, n_or]
      refine ⟨fun e => by omega, fun _ => ⟨by omega, fun e => nx h1 r1 f1 (hr.congr (fun V c2 _ _ => ?_)), fun e => ⟨by omega, ?_⟩⟩⟩
      · have : F k f = false := by simpa using e
        rw [o_or, this, Bool.false_and, Bool.or_false]
      · rw [show vp_nar .boolean (i_n 1) = i_bo (true = true) from by decide]
        have Fi : i_Fr [161] [] h1 (i_siI h1 161 (256 * c + (k ||| g)) (i_bo (true = true))) := i_Fr.refl.siI (by decide)
        have r2 : i_RA a (i_siI h1 161 (256 * c + (k ||| g)) (i_bo (true = true))) := r1.fr r1.1.siI Fi (by decide)
        refine nx _ r2 (f1.trans Fi) (fun V c2 hV hc2 => ?_)
        rw [x_aI_siI r1.1.a161, x_upd]
        dsimp only
        simp only [o_or, e, Bool.true_and]
        by_cases q : 256 * c2 + V = 256 * c + (k ||| g)
        · obtain ⟨rfl, rfl⟩ : c2 = c ∧ V = k ||| g := by omega
          rw [if_pos rfl]
          exact i_bo_iff (by simp)
        · rw [if_neg q, hr V c2 hV hc2]
          dsimp only
          by_cases ec : c2 = c
          · subst ec
            have : ((k ||| g) == V) = false := by
              rw [beq_eq_false_iff_ne]
              intro z
              exact q (by omega)
            exact i_bo_iff (by rw [this, Bool.or_false])
          · exact i_bo_iff (by rw [show (c2 == c) = false by simpa using ec, Bool.false_and, Bool.false_and])
  try simp (disch := omega) only [n_lit, n_m, n_add, n_mul, n_div, n_mod, n_cl, n_lt, n_le, n_eq, n_in, n_eqm, n_meq, n_mlt, n_ltm, n_mle, n_lem, not_true_eq_false, not_false_eq_true, true_implies, false_implies, true_and, and_true, Nat.not_lt_zero, Nat.zero_le]
  refine key 0 (by omega) h r i_Fr.refl (hG.congr (fun V c2 _ _ => ?_))
  rw [show o_or (fun V2 => F V2 f && (V2 ||| g) == V) 0 = false from rfl, Bool.and_false, Bool.or_false]
theorem c293 (r : i_RA a h) {W : Nat} {F : Nat → Nat → Bool} (hW : W < 256) (hF : o_rn a h 160 F) (H : Q (some (.int (i_bo (o_or (F W) (a 0 * a 1) = true)))) h) : i_C i_MT i_AT L xs 293 [.ref 138, .int (i_n W)] h Q := by
  have h48 := r.2.1.c48
  have key : ∀ k, k ≤ a 0 * a 1 → (∀ i, i < k → F W i = false) → i_P i_MT i_AT L xs 293 2 [some (.ref 138), some (.int (i_n W)), some (.int (i_n k))] [] h 0 0 Q := by
    have no : o_or (F W) (a 0 * a 1) = false → Q (some (.int 0)) h := by
      intro z
      rw [z] at H
      exact H
    refine l_up ?_ ?_
    · intro z
      refine d293_2 r.1 (c248 r ⟨_, rfl, d293_7 r.1 ?_⟩)
      try simp (disch := omega) only [n_lit, n_m, n_add, n_mul, n_div, n_mod, n_cl, n_lt, n_le, n_eq, n_in, n_eqm, n_meq, n_mlt, n_ltm, n_mle, n_lem, not_true_eq_false, not_false_eq_true, true_implies, false_implies, true_and, and_true, Nat.not_lt_zero, Nat.zero_le, Nat.le_refl]
      refine no ?_
      rw [← Bool.not_eq_true, o_or_t]
      rintro ⟨i, h1, h2⟩
      rw [z i h1] at h2
      cases h2
    · intro k hk ih z
      refine d293_2 r.1 (c248 r ⟨_, rfl, d293_7 r.1 ?_⟩)
      have e := hF W k hW hk
      try simp (disch := omega) only [n_lit, n_m, i_bo01, j_cmpn, Classical.not_not, n_add, n_mul, n_div, n_mod, n_cl, n_lt, n_le, n_eq, n_in, n_eqm, n_meq, n_mlt, n_ltm, n_mle, n_lem, not_true_eq_false, not_false_eq_true, true_implies, false_implies, true_and, and_true, Nat.not_lt_zero, Nat.zero_le, e]
      refine ⟨fun q => by omega, fun _ => ⟨by omega, fun q => ih (fun i hi => ?_), fun q => ?_⟩⟩
      · by_cases ei : i = k
        · subst ei; simpa using q
        · exact z i (by omega)
      · rw [(o_or_t (P := F W) (a 0 * a 1)).mpr ⟨k, hk, q⟩] at H
        exact H
  refine e293 (d293_0 r.1 ?_)
  try simp (disch := omega) only [n_lit, n_m, n_add, n_mul, n_div, n_mod, n_cl, n_lt, n_le, n_eq, n_in, n_eqm, n_meq, n_mlt, n_ltm, n_mle, n_lem, not_true_eq_false, not_false_eq_true, true_implies, false_implies, true_and, and_true, Nat.not_lt_zero, Nat.zero_le]
  exact key 0 (Nat.zero_le _) (fun i hi => absurd hi (Nat.not_lt_zero i))
theorem n_bob (b : Bool) : vp_nar .boolean (i_bo (b = true)) = i_bo (b = true) := by cases b <;> decide
/-- a move d in the minute m from f to c, V now having seen -/
def o_mv (a : Nat → Nat) (p m : Nat) (F : Nat → Nat → Bool) (d f c V : Nat) : Prop := o_uns a p c d m = true ∧ ∃ V2, V2 < 256 ∧ F V2 f = true ∧ V2 ||| o_gn a (a (158 + 5 * p)) d m c = V
theorem o_s2_t {p m d f c V c2 : Nat} {F G : Nat → Nat → Bool} : o_s2 a p m d f c F G V c2 = true ↔ G V c2 = true ∨ (c2 = c ∧ o_mv a p m F d f c2 V) := by
  unfold o_s2 o_mv
  rw [Bool.or_eq_true, Bool.and_eq_true, Bool.and_eq_true, beq_iff_eq, o_or_t]
  constructor
  · rintro (z | ⟨rfl, z2, V2, z3, z4⟩)
    · exact Or.inl z
    · rw [Bool.and_eq_true, beq_iff_eq] at z4
      exact Or.inr ⟨rfl, z2, V2, z3, z4⟩
  · rintro (z | ⟨rfl, z2, V2, z3, z4⟩)
    · exact Or.inl z
    · exact Or.inr ⟨rfl, z2, V2, z3, by rw [Bool.and_eq_true, beq_iff_eq]; exact z4⟩
def o_s3 (a : Nat → Nat) (p m f : Nat) (F : Nat → Nat → Bool) : Nat → (Nat → Nat → Bool) → Nat → Nat → Bool
  | 0, G => G
  | k + 1, G => if o_far (a 0) f k = 1 ∧ o_wall a k = false then o_s2 a p m 1 f k F (o_s2 a p m 2 f k F (o_s3 a p m f F k G)) else o_s3 a p m f F k G
theorem o_s3_t {p m f V c2 : Nat} {F G : Nat → Nat → Bool} : ∀ k, o_s3 a p m f F k G V c2 = true ↔ G V c2 = true ∨ (c2 < k ∧ o_far (a 0) f c2 = 1 ∧ o_wall a c2 = false ∧ (o_mv a p m F 2 f c2 V ∨ o_mv a p m F 1 f c2 V))
  | 0 => ⟨Or.inl, fun z => z.elim id (fun q => absurd q.1 (Nat.not_lt_zero _))⟩
  | k + 1 => by
    rw [o_s3]
    have ih := o_s3_t (p := p) (m := m) (f := f) (V := V) (c2 := c2) (F := F) (G := G) k
    split
    · rename_i e
      rw [o_s2_t, o_s2_t, ih]
      constructor
      · rintro ((z | ⟨rfl, z⟩) | ⟨rfl, z⟩)
        · rcases z with z | z
          · exact Or.inl z
          · exact Or.inr ⟨by omega, z.2⟩
        · exact Or.inr ⟨by omega, e.1, e.2, Or.inl z⟩
        · exact Or.inr ⟨by omega, e.1, e.2, Or.inr z⟩
      · rintro (z | ⟨h1, h2, h3, h4⟩)
        · exact Or.inl (Or.inl (Or.inl z))
        · by_cases ec : c2 = k
          · rcases h4 with h4 | h4
            · exact Or.inl (Or.inr ⟨ec, h4⟩)
            · exact Or.inr ⟨ec, h4⟩
          · exact Or.inl (Or.inl (Or.inr ⟨by omega, h2, h3, h4⟩))
    · rename_i e
      rw [ih]
      constructor
      · rintro (z | z)
        · exact Or.inl z
        · exact Or.inr ⟨by omega, z.2⟩
      · rintro (z | ⟨h1, h2, h3, h4⟩)
        · exact Or.inl z
        · by_cases ec : c2 = k
          · subst ec; exact absurd ⟨h2, h3⟩ e
          · exact Or.inr ⟨by omega, h2, h3, h4⟩
def o_s4 (a : Nat → Nat) (p m : Nat) (F : Nat → Nat → Bool) : Nat → Nat → Nat → Bool
  | 0 => fun _ _ => false
  | k + 1 => o_s3 a p m k F (a 0 * a 1) (o_s2 a p m 4 k k F (o_s2 a p m 0 k k F (o_s4 a p m F k)))
theorem o_s4_t {p m V c2 : Nat} {F : Nat → Nat → Bool} (hc : c2 < a 0 * a 1) : ∀ k, o_s4 a p m F k V c2 = true ↔ ∃ f, f < k ∧ ((c2 = f ∧ (o_mv a p m F 0 f c2 V ∨ o_mv a p m F 4 f c2 V)) ∨ (o_far (a 0) f c2 = 1 ∧ o_wall a c2 = false ∧ (o_mv a p m F 2 f c2 V ∨ o_mv a p m F 1 f c2 V)))
  | 0 => ⟨fun z => (by rw [o_s4] at z; cases z), fun ⟨f, z, _⟩ => absurd z (Nat.not_lt_zero f)⟩
  | k + 1 => by
    rw [o_s4, o_s3_t, o_s2_t, o_s2_t, o_s4_t hc k]
    constructor
    · rintro (((⟨f, z1, z2⟩ | ⟨z1, z2⟩) | ⟨z1, z2⟩) | ⟨_, z1, z2, z3⟩)
      · exact ⟨f, by omega, z2⟩
      · exact ⟨k, by omega, Or.inl ⟨z1, Or.inl z2⟩⟩
      · exact ⟨k, by omega, Or.inl ⟨z1, Or.inr z2⟩⟩
      · exact ⟨k, by omega, Or.inr ⟨z1, z2, z3⟩⟩
    · rintro ⟨f, z1, z2⟩
      by_cases ef : f = k
      · subst ef
        rcases z2 with ⟨z2, z3 | z3⟩ | z2
        · exact Or.inl (Or.inl (Or.inr ⟨z2, z3⟩))
        · exact Or.inl (Or.inr ⟨z2, z3⟩)
        · exact Or.inr ⟨hc, z2⟩
      · exact Or.inl (Or.inl (Or.inl ⟨f, by omega, z2⟩))
theorem o_s1_t {p m d V c : Nat} {F : Nat → Nat → Bool} (hc : c < a 0 * a 1) : o_s1 a p m F d V c = true ↔ if d = 0 ∨ d = 4 then o_mv a p m F d c c V else o_wall a c = false ∧ ∃ f, f < a 0 * a 1 ∧ o_far (a 0) f c = 1 ∧ o_mv a p m F d f c V := by
  unfold o_s1 o_mv
  rw [o_or_t]
  simp only [Bool.and_eq_true, beq_iff_eq]
  split
  · rename_i e
    constructor
    · rintro ⟨V2, h1, h2, h3, h4⟩
      unfold o_cm at h2
      rw [if_pos e] at h2
      exact ⟨h3, V2, h1, h2, h4⟩
    · rintro ⟨h3, V2, h1, h2, h4⟩
      refine ⟨V2, h1, ?_, h3, h4⟩
      unfold o_cm
      rw [if_pos e]; exact h2
  · rename_i e
    constructor
    · rintro ⟨V2, h1, h2, h3, h4⟩
      unfold o_cm at h2
      rw [if_neg e, o_bes_t] at h2
      obtain ⟨w, b, q1, q2, q3⟩ := h2
      exact ⟨w, b, q1, q3, h3, V2, h1, q2, h4⟩
    · rintro ⟨w, b, q1, q3, h3, V2, h1, q2, h4⟩
      refine ⟨V2, h1, ?_, h3, h4⟩
      unfold o_cm
      rw [if_neg e, o_bes_t]
      exact ⟨w, b, q1, q2, q3⟩
theorem o_sh_s {p m V c : Nat} (hc : c < a 0 * a 1) : o_s4 a p (m + 1) (o_sh a p m) (a 0 * a 1) V c = o_sh a p (m + 1) V c := by
  rw [Bool.eq_iff_iff, o_s4_t hc, o_sh, Bool.or_eq_true, Bool.or_eq_true, Bool.or_eq_true, o_s1_t hc, o_s1_t hc, o_s1_t hc, o_s1_t hc, if_pos (by decide), if_neg (by decide), if_neg (by decide), if_pos (by decide)]
  constructor
  · rintro ⟨f, h1, ⟨rfl, h2 | h2⟩ | ⟨h2, h3, h4 | h4⟩⟩
    · exact Or.inl h2
    · exact Or.inr (Or.inr (Or.inr h2))
    · exact Or.inr (Or.inr (Or.inl ⟨h3, f, h1, h2, h4⟩))
    · exact Or.inr (Or.inl ⟨h3, f, h1, h2, h4⟩)
  · rintro (h2 | ⟨h3, f, h1, h2, h4⟩ | ⟨h3, f, h1, h2, h4⟩ | h2)
    · exact ⟨c, hc, Or.inl ⟨rfl, Or.inl h2⟩⟩
    · exact ⟨f, h1, Or.inr ⟨h2, h3, Or.inr h4⟩⟩
    · exact ⟨f, h1, Or.inr ⟨h2, h3, Or.inl h4⟩⟩
    · exact ⟨c, hc, Or.inl ⟨rfl, Or.inr h2⟩⟩
set_option maxHeartbeats 2000000 in
theorem c294 (r : i_RA a h) {x : Int32} (H : i_RS a h Q (o_shA a x)) : i_C i_MT i_AT L xs 294 [.ref 138, .int x] h Q := by
  have h5 := r.2.1.2.2.2.2.1
  have h48 := r.2.1.c48
  unfold o_shA at H
  refine e294 (d294_0 r.1 (c254 r ⟨_, rfl, d294_5 r.1 ?_⟩))
  rw [i_bo_0, Classical.not_not]
  refine ⟨fun z1 => c248 r ⟨_, rfl, d294_18 r.1 ?_⟩, fun z => by
    rw [o_A6_f z] at H
    exact m201 r (fun h2 g2 f2 s2 => ⟨_, rfl, d294_13 g2.1 (H h2 g2 f2.s s2)⟩)⟩
  have H := H.a6 z1
  obtain ⟨p, hp, rfl⟩ := n_get z1 (by omega)
  rw [n_cl (by omega)] at H
  have hst := r.st hp
  have hv8 : a (158 + 5 * p) < 256 := (r.2.1.2.2.2.2.2.2.2.2.2.2.1 p hp).2.2.2.2.2.2
  have rfr : ∀ h2, i_Lay h2 → i_Fr [160, 161] [] h h2 → i_RA a h2 := fun h2 hL2 f => r.fr hL2 f (by decide)
  have sA : ∀ h1, i_RA a h1 → aI h1 139 (154 + 5 * p) = i_n (a (154 + 5 * p)) := fun h1 r1 => r1.2.2.1 _ (by omega)
  -- the minutes
  have key : ∀ k, k ≤ 61 → ∀ h1, (k ≤ 60 → o_rn a h1 160 (o_sh a p k)) → (∀ j, j < k → o_or (o_sh a p j (a (158 + 5 * p))) (a 0 * a 1) = false) → i_RA a h1 → i_Fr [160, 161] [] h h1 → ∀ (y4 y5 : Option Value), i_P i_MT i_AT L xs 294 67 [some (.ref 138), some (.int (i_n p)), some (.int (i_n (a 0 * a 1))), some (.int (i_n k)), y4, y5] [] h1 0 0 Q := by
    refine l_up ?_ ?_
    · intro h1 _ hno r1 f1 y4 y5
      refine d294_67 r1.1 ?_
      try simp (disch := omega) only [n_lit, n_m, n_add, n_mul, n_div, n_mod, n_cl, n_lt, n_le, n_eq, n_in, n_eqm, n_meq, n_mlt, n_ltm, n_mle, n_lem, not_true_eq_false, not_false_eq_true, true_implies, false_implies, true_and, and_true, Nat.not_lt_zero, Nat.zero_le]
      refine ⟨fun _ => m201 r1 (fun h2 g2 f2 s2 => ⟨_, rfl, d294_275 g2.1 ?_⟩), fun e => absurd (by omega) e⟩
      exact H.2 (o_lst_n 61 0 (fun j _ h2 => hno j (by omega))) h2 g2 ((f1.mono (by decide) (by decide)).trans f2.s) s2
    · intro k hk ih h1 hF hno r1 f1 y4 y5
      have hF := hF (by omega)
      refine d294_67 r1.1 ?_
      try simp (disch := omega) only [n_lit, n_m, n_add, n_mul, n_div, n_mod, n_cl, n_lt, n_le, n_eq, n_in, n_eqm, n_meq, n_mlt, n_ltm, n_mle, n_lem, not_true_eq_false, not_false_eq_true, true_implies, false_implies, true_and, and_true, Nat.not_lt_zero, Nat.zero_le]
      refine ⟨fun e => by omega, fun _ => c256 (w := 4) r1 (by omega) (by omega) ⟨_, rfl, d294_80 r1.1 ?_⟩⟩
      rw [show 154 + 5 * p + 4 = 158 + 5 * p by omega]
      refine c293 r1 hv8 hF ⟨_, rfl, d294_83 r1.1 ?_⟩
      rw [i_bo_0, Classical.not_not]
      refine ⟨fun e => ?_, fun e => m202 r1 (fun h2 g2 f2 s2 => ⟨_, rfl, d294_91 g2.1 ?_⟩)⟩
      rotate_left
      · exact H.1 k (o_lst_s (P := fun m => o_or (o_sh a p m (a (158 + 5 * p))) (a 0 * a 1)) (j := k) (by simpa using e) 61 0 (by omega) (by omega) (fun j _ hj => hno j hj)) h2 g2 ((f1.mono (by decide) (by decide)).trans f2.s) s2
      have ek : o_or (o_sh a p k (a (158 + 5 * p))) (a 0 * a 1) = false := by simpa using e
      -- the copy
      have copy : ∀ (G : Nat → Nat → Bool), (k < 60 → ∀ V c, V < 256 → c < a 0 * a 1 → G V c = o_sh a p (k + 1) V c) → ∀ j, j ≤ 256 * (a 0 * a 1) → ∀ h2, o_rn a h2 161 G → (∀ i, i < j → aI h2 160 i = i_bo (G (i % 256) (i / 256) = true)) → i_RA a h2 → i_Fr [160, 161] [] h h2 → ∀ (y5 : Option Value), i_P i_MT i_AT L xs 294 233 [some (.ref 138), some (.int (i_n p)), some (.int (i_n (a 0 * a 1))), some (.int (i_n k)), some (.int (i_n j)), y5] [] h2 0 0 Q := by
        intro G hG
        refine l_up ?_ ?_
        · intro h2 h161 h160 r2 f2 y5
          refine d294_233 r2.1 ?_
          try simp (disch := omega) only [n_lit, n_m, n_add, n_mul, n_div, n_mod, n_cl, n_lt, n_le, n_eq, n_in, n_eqm, n_meq, n_mlt, n_ltm, n_mle, n_lem, not_true_eq_false, not_false_eq_true, true_implies, false_implies, true_and, and_true, Nat.not_lt_zero, Nat.zero_le, Nat.le_refl]
          refine ih h2 (fun hk60 V c hV hc => ?_) (fun j hj => ?_) r2 f2 _ _
          · rw [h160 _ (by omega), show (256 * c + V) % 256 = V by omega, show (256 * c + V) / 256 = c by omega, hG (by omega) V c hV hc]
          · by_cases ej : j = k
            · subst ej; exact ek
            · exact hno j (by omega)
        · intro j hj ih2 h2 h161 h160 r2 f2 y5
          refine d294_233 r2.1 ?_
          have e161 : aI h2 161 j = i_bo (G (j % 256) (j / 256) = true) := by
            have := h161 (j % 256) (j / 256) (by omega) (by omega)
            rw [show 256 * (j / 256) + j % 256 = j by omega] at this
            exact this
          try simp (disch := omega) only [n_lit, n_m, n_add, n_mul, n_div, n_mod, n_cl, n_lt, n_le, n_eq, n_in, n_eqm, n_meq, n_mlt, n_ltm, n_mle, n_lem, not_true_eq_false, not_false_eq_true, true_implies, false_implies, true_and, and_true, Nat.not_lt_zero, Nat.zero_le, e161, n_bob]
          have Fi : i_Fr [160] [] h2 (i_siI h2 160 j (i_bo (G (j % 256) (j / 256) = true))) := i_Fr.refl.siI (by decide)
          have f3 := f2.trans (Fi.mono (B := [160, 161]) (G := []) (by decide) (fun _ z => z))
          have r3 := rfr _ r2.1.siI f3
          refine ⟨fun e => by omega, fun _ => ⟨by omega, by omega, d294_257 r3.1 ?_⟩⟩
          try simp (disch := omega) only [n_lit, n_m, n_add, n_mul, n_div, n_mod, n_cl, n_lt, n_le, n_eq, n_in, n_eqm, n_meq, n_mlt, n_ltm, n_mle, n_lem, not_true_eq_false, not_false_eq_true, true_implies, false_implies, true_and, and_true, Nat.not_lt_zero, Nat.zero_le]
          refine ih2 _ (fun V c hV hc => ?_) (fun i hi => ?_) r3 f3 _
          · rw [Fi.rI (by decide)]; exact h161 V c hV hc
          · rw [x_aI_siI r2.1.a160, x_upd]
            by_cases e : i = j
            · rw [if_pos e, e]
            · rw [if_neg e]; exact h160 i (by omega)
      -- the cells
      have cells : k < 60 → ∀ c, c ≤ a 0 * a 1 → ∀ h2, o_rn a h2 160 (o_sh a p k) → o_rn a h2 161 (o_s4 a p (k + 1) (o_sh a p k) c) → i_RA a h2 → i_Fr [160, 161] [] h h2 → ∀ (y5 : Option Value), i_P i_MT i_AT L xs 294 122 [some (.ref 138), some (.int (i_n p)), some (.int (i_n (a 0 * a 1))), some (.int (i_n k)), some (.int (i_n c)), y5] [] h2 0 0 Q := by
        intro hk60
        refine l_up ?_ ?_
        · intro h2 hF2 hG2 r2 f2 y5
          refine d294_122 r2.1 ?_
          try simp (disch := omega) only [n_lit, n_m, n_add, n_mul, n_div, n_mod, n_cl, n_lt, n_le, n_eq, n_in, n_eqm, n_meq, n_mlt, n_ltm, n_mle, n_lem, not_true_eq_false, not_false_eq_true, true_implies, false_implies, true_and, and_true, Nat.not_lt_zero, Nat.zero_le, Nat.le_refl]
          refine d294_230 r2.1 ?_
          try simp (disch := omega) only [n_lit, n_m, n_add, n_mul, n_div, n_mod, n_cl, n_lt, n_le, n_eq, n_in, n_eqm, n_meq, n_mlt, n_ltm, n_mle, n_lem, not_true_eq_false, not_false_eq_true, true_implies, false_implies, true_and, and_true, Nat.not_lt_zero, Nat.zero_le]
          exact copy _ (fun _ V c hV hc => o_sh_s hc) 0 (Nat.zero_le _) h2 hG2 (fun i hi => absurd hi (Nat.not_lt_zero i)) r2 f2 _
        · intro c hc ih2 h2 hF2 hG2 r2 f2 y5
          rw [o_s4] at ih2
          refine d294_122 r2.1 ?_
          try simp (disch := omega) only [n_lit, n_m, n_add, n_mul, n_div, n_mod, n_cl, n_lt, n_le, n_eq, n_in, n_eqm, n_meq, n_mlt, n_ltm, n_mle, n_lem, not_true_eq_false, not_false_eq_true, true_implies, false_implies, true_and, and_true, Nat.not_lt_zero, Nat.zero_le]
          have F1 : ∀ {h3 h4 : iH}, i_Fr [161] [] h3 h4 → i_Fr [160, 161] [] h3 h4 := fun f => f.mono (by decide) (fun _ z => z)
          have k160 : ∀ {h3 h4 : iH}, i_Fr [161] [] h3 h4 → o_rn a h3 160 (o_sh a p k) → o_rn a h4 160 (o_sh a p k) := fun f z V c hV hc => by rw [f.rI (by decide)]; exact z V c hV hc
          refine ⟨fun e => by omega, fun _ => ⟨fun e => by omega, fun _ => c292 (d := 0) r2 hp hc hc (by omega) (by omega) hF2 hG2 (fun h3 r3 f3 hG3 => ⟨rfl, d294_147 r3.1 ?_⟩)⟩⟩
          have hF3 := k160 f3 hF2
          try simp (disch := omega) only [n_lit, n_m, n_add, n_mul, n_div, n_mod, n_cl, n_lt, n_le, n_eq, n_in, n_eqm, n_meq, n_mlt, n_ltm, n_mle, n_lem, not_true_eq_false, not_false_eq_true, true_implies, false_implies, true_and, and_true, Nat.not_lt_zero, Nat.zero_le]
          refine c292 (d := 4) r3 hp hc hc (by omega) (by omega) hF3 hG3 (fun h4 r4 f4 hG4 => ⟨rfl, d294_160 r4.1 ?_⟩)
          have hF4 := k160 f4 hF3
          try simp (disch := omega) only [n_lit, n_m, n_add, n_mul, n_div, n_mod, n_cl, n_lt, n_le, n_eq, n_in, n_eqm, n_meq, n_mlt, n_ltm, n_mle, n_lem, not_true_eq_false, not_false_eq_true, true_implies, false_implies, true_and, and_true, Nat.not_lt_zero, Nat.zero_le]
          have row : ∀ b, b ≤ a 0 * a 1 → ∀ h5, o_rn a h5 160 (o_sh a p k) → o_rn a h5 161 (o_s3 a p (k + 1) c (o_sh a p k) b (o_s2 a p (k + 1) 4 c c (o_sh a p k) (o_s2 a p (k + 1) 0 c c (o_sh a p k) (o_s4 a p (k + 1) (o_sh a p k) c)))) → i_RA a h5 → i_Fr [160, 161] [] h h5 → i_P i_MT i_AT L xs 294 163 [some (.ref 138), some (.int (i_n p)), some (.int (i_n (a 0 * a 1))), some (.int (i_n k)), some (.int (i_n c)), some (.int (i_n b))] [] h5 0 0 Q := by
            refine l_up ?_ ?_
            · intro h5 hF5 hG5 r5 f5
              refine d294_163 r5.1 ?_
              try simp (disch := omega) only [n_lit, n_m, n_add, n_mul, n_div, n_mod, n_cl, n_lt, n_le, n_eq, n_in, n_eqm, n_meq, n_mlt, n_ltm, n_mle, n_lem, not_true_eq_false, not_false_eq_true, true_implies, false_implies, true_and, and_true, Nat.not_lt_zero, Nat.zero_le, Nat.le_refl]
              exact ih2 h5 hF5 hG5 r5 f5 _
            · intro b hb ih3 h5 hF5 hG5 r5 f5
              rw [o_s3] at ih3
              have no : ¬ (o_far (a 0) c b = 1 ∧ o_wall a b = false) → i_P i_MT i_AT L xs 294 218 [some (.ref 138), some (.int (i_n p)), some (.int (i_n (a 0 * a 1))), some (.int (i_n k)), some (.int (i_n c)), some (.int (i_n b))] [] h5 0 0 Q := by
                intro e
                rw [if_neg e] at ih3
                refine d294_218 r5.1 ?_
                try simp (disch := omega) only [n_lit, n_m, n_add, n_mul, n_div, n_mod, n_cl, n_lt, n_le, n_eq, n_in, n_eqm, n_meq, n_mlt, n_ltm, n_mle, n_lem, not_true_eq_false, not_false_eq_true, true_implies, false_implies, true_and, and_true, Nat.not_lt_zero, Nat.zero_le]
                exact ih3 h5 hF5 hG5 r5 f5
              refine d294_163 r5.1 ?_
              try simp (disch := omega) only [n_lit, n_m, n_add, n_mul, n_div, n_mod, n_cl, n_lt, n_le, n_eq, n_in, n_eqm, n_meq, n_mlt, n_ltm, n_mle, n_lem, not_true_eq_false, not_false_eq_true, true_implies, false_implies, true_and, and_true, Nat.not_lt_zero, Nat.zero_le]
              refine ⟨fun e => by omega, fun _ => c285 r5 hc hb ⟨_, rfl, d294_177 r5.1 ?_⟩⟩
              rw [i_bo_0, Classical.not_not]
              refine ⟨fun e => no (fun q => e q.1), fun e => c250 r5 (by omega) ⟨_, rfl, d294_186 r5.1 ?_⟩⟩
              rw [i_bo_0, Classical.not_not]
              refine ⟨fun e2 => ?_, fun e2 => no (fun q => e2 q.2)⟩
              rw [if_pos ⟨e, e2⟩] at ih3
              try simp (disch := omega) only [n_lit, n_m, n_add, n_mul, n_div, n_mod, n_cl, n_lt, n_le, n_eq, n_in, n_eqm, n_meq, n_mlt, n_ltm, n_mle, n_lem, not_true_eq_false, not_false_eq_true, true_implies, false_implies, true_and, and_true, Nat.not_lt_zero, Nat.zero_le]
              refine c292 (d := 2) r5 hp hc hb (by omega) (by omega) hF5 hG5 (fun h6 r6 f6 hG6 => ⟨rfl, d294_205 r6.1 ?_⟩)
              have hF6 := k160 f6 hF5
              try simp (disch := omega) only [n_lit, n_m, n_add, n_mul, n_div, n_mod, n_cl, n_lt, n_le, n_eq, n_in, n_eqm, n_meq, n_mlt, n_ltm, n_mle, n_lem, not_true_eq_false, not_false_eq_true, true_implies, false_implies, true_and, and_true, Nat.not_lt_zero, Nat.zero_le]
              refine c292 (d := 1) r6 hp hc hb (by omega) (by omega) hF6 hG6 (fun h7 r7 f7 hG7 => ⟨rfl, d294_218 r7.1 ?_⟩)
              have hF7 := k160 f7 hF6
              try simp (disch := omega) only [n_lit, n_m, n_add, n_mul, n_div, n_mod, n_cl, n_lt, n_le, n_eq, n_in, n_eqm, n_meq, n_mlt, n_ltm, n_mle, n_lem, not_true_eq_false, not_false_eq_true, true_implies, false_implies, true_and, and_true, Nat.not_lt_zero, Nat.zero_le]
              exact ih3 h7 hF7 hG7 r7 (f5.trans ((F1 f6).trans (F1 f7)))
          exact row 0 (Nat.zero_le _) h4 hF4 hG4 r4 (f2.trans ((F1 f3).trans (F1 f4)))
      -- the next, cleared
      have clr : ∀ j, j ≤ 256 * (a 0 * a 1) → ∀ h2, o_rn a h2 160 (o_sh a p k) → (∀ i, i < j → aI h2 161 i = i_bo (false = true)) → i_RA a h2 → i_Fr [160, 161] [] h h2 → ∀ (y5 : Option Value), i_P i_MT i_AT L xs 294 95 [some (.ref 138), some (.int (i_n p)), some (.int (i_n (a 0 * a 1))), some (.int (i_n k)), some (.int (i_n j)), y5] [] h2 0 0 Q := by
        refine l_up ?_ ?_
        · intro h2 hF2 hz r2 f2 y5
          have hG2 : o_rn a h2 161 (fun _ _ => false) := fun V c hV hc => hz _ (by omega)
          refine d294_95 r2.1 ?_
          try simp (disch := omega) only [n_lit, n_m, n_add, n_mul, n_div, n_mod, n_cl, n_lt, n_le, n_eq, n_in, n_eqm, n_meq, n_mlt, n_ltm, n_mle, n_lem, not_true_eq_false, not_false_eq_true, true_implies, false_implies, true_and, and_true, Nat.not_lt_zero, Nat.zero_le, Nat.le_refl]
          by_cases hk60 : k < 60
          · exact cells hk60 0 (Nat.zero_le _) h2 hF2 hG2 r2 f2 _
          · refine d294_122 r2.1 ?_
            have go : ∀ (y5 : Option Value), i_P i_MT i_AT L xs 294 230 [some (.ref 138), some (.int (i_n p)), some (.int (i_n (a 0 * a 1))), some (.int (i_n k)), some (.int (i_n 0)), y5] [] h2 0 0 Q := by
              intro y5
              refine d294_230 r2.1 ?_
              try simp (disch := omega) only [n_lit, n_m, n_add, n_mul, n_div, n_mod, n_cl, n_lt, n_le, n_eq, n_in, n_eqm, n_meq, n_mlt, n_ltm, n_mle, n_lem, not_true_eq_false, not_false_eq_true, true_implies, false_implies, true_and, and_true, Nat.not_lt_zero, Nat.zero_le]
              exact copy _ (fun e => absurd e hk60) 0 (Nat.zero_le _) h2 hG2 (fun i hi => absurd hi (Nat.not_lt_zero i)) r2 f2 _
            try simp (disch := omega) only [n_lit, n_m, n_add, n_mul, n_div, n_mod, n_cl, n_lt, n_le, n_eq, n_in, n_eqm, n_meq, n_mlt, n_ltm, n_mle, n_lem, not_true_eq_false, not_false_eq_true, true_implies, false_implies, true_and, and_true, Nat.not_lt_zero, Nat.zero_le]
            exact ⟨fun _ => go _, fun _ => ⟨fun _ => go _, fun e => by omega⟩⟩
        · intro j hj ih2 h2 hF2 hz r2 f2 y5
          refine d294_95 r2.1 ?_
          try simp (disch := omega) only [n_lit, n_m, n_add, n_mul, n_div, n_mod, n_cl, n_lt, n_le, n_eq, n_in, n_eqm, n_meq, n_mlt, n_ltm, n_mle, n_lem, not_true_eq_false, not_false_eq_true, true_implies, false_implies, true_and, and_true, Nat.not_lt_zero, Nat.zero_le]
          rw [show vp_nar .boolean (i_n 0) = i_bo (false = true) from by decide]
          have Fi : i_Fr [161] [] h2 (i_siI h2 161 j (i_bo (false = true))) := i_Fr.refl.siI (by decide)
          have f3 := f2.trans (Fi.mono (B := [160, 161]) (G := []) (by decide) (fun _ z => z))
          have r3 := rfr _ r2.1.siI f3
          refine ⟨fun e => by omega, fun _ => ⟨by omega, d294_113 r3.1 ?_⟩⟩
          try simp (disch := omega) only [n_lit, n_m, n_add, n_mul, n_div, n_mod, n_cl, n_lt, n_le, n_eq, n_in, n_eqm, n_meq, n_mlt, n_ltm, n_mle, n_lem, not_true_eq_false, not_false_eq_true, true_implies, false_implies, true_and, and_true, Nat.not_lt_zero, Nat.zero_le]
          refine ih2 _ (fun V c hV hc => ?_) (fun i hi => ?_) r3 f3 _
          · rw [Fi.rI (by decide)]; exact hF2 V c hV hc
          · rw [x_aI_siI r2.1.a161, x_upd]
            by_cases e : i = j
            · rw [if_pos e]
            · rw [if_neg e]; exact hz i (by omega)
      try simp (disch := omega) only [n_lit, n_m, n_add, n_mul, n_div, n_mod, n_cl, n_lt, n_le, n_eq, n_in, n_eqm, n_meq, n_mlt, n_ltm, n_mle, n_lem, not_true_eq_false, not_false_eq_true, true_implies, false_implies, true_and, and_true, Nat.not_lt_zero, Nat.zero_le]
      exact clr 0 (Nat.zero_le _) h1 hF (fun i hi => absurd hi (Nat.not_lt_zero i)) r1 f1 _
  -- the first, cleared
  have init : ∀ j, j ≤ 256 * (a 0 * a 1) → ∀ h2, (∀ i, i < j → aI h2 160 i = i_bo (false = true)) → i_RA a h2 → i_Fr [160, 161] [] h h2 → ∀ (y4 y5 : Option Value), i_P i_MT i_AT L xs 294 21 [some (.ref 138), some (.int (i_n p)), some (.int (i_n (a 0 * a 1))), some (.int (i_n j)), y4, y5] [] h2 0 0 Q := by
    refine l_up ?_ ?_
    · intro h2 hz r2 f2 y4 y5
      refine d294_21 r2.1 ?_
      try simp (disch := omega) only [n_lit, n_m, n_add, n_mul, n_div, n_mod, n_cl, n_lt, n_le, n_eq, n_in, n_eqm, n_meq, n_mlt, n_ltm, n_mle, n_lem, not_true_eq_false, not_false_eq_true, true_implies, false_implies, true_and, and_true, Nat.not_lt_zero, Nat.zero_le, Nat.le_refl, sA h2 r2]
      have hs := hst.2
      rw [show vp_nar .boolean (i_n 1) = i_bo (true = true) from by decide]
      have Fi : i_Fr [160] [] h2 (i_siI h2 160 (256 * a (154 + 5 * p)) (i_bo (true = true))) := i_Fr.refl.siI (by decide)
      have f3 := f2.trans (Fi.mono (B := [160, 161]) (G := []) (by decide) (fun _ z => z))
      have r3 := rfr _ r2.1.siI f3
      refine ⟨by omega, by omega, d294_65 r3.1 ?_⟩
      try simp (disch := omega) only [n_lit, n_m, n_add, n_mul, n_div, n_mod, n_cl, n_lt, n_le, n_eq, n_in, n_eqm, n_meq, n_mlt, n_ltm, n_mle, n_lem, not_true_eq_false, not_false_eq_true, true_implies, false_implies, true_and, and_true, Nat.not_lt_zero, Nat.zero_le]
      refine key 0 (by omega) _ (fun _ V c hV hc => ?_) (fun j hj => absurd hj (Nat.not_lt_zero j)) r3 f3 _ _
      rw [x_aI_siI r2.1.a160, x_upd, o_sh]
      by_cases e : 256 * c + V = 256 * a (154 + 5 * p)
      · obtain ⟨rfl, e2⟩ : V = 0 ∧ c = a (154 + 5 * p) := by omega
        rw [if_pos e, e2]; simp
      · rw [if_neg e, hz _ (by omega)]
        refine i_bo_iff ?_
        rw [Bool.and_eq_true, beq_iff_eq, beq_iff_eq]
        constructor
        · intro z; cases z
        · rintro ⟨rfl, rfl⟩; exact absurd (by omega) e
    · intro j hj ih2 h2 hz r2 f2 y4 y5
      refine d294_21 r2.1 ?_
      try simp (disch := omega) only [n_lit, n_m, n_add, n_mul, n_div, n_mod, n_cl, n_lt, n_le, n_eq, n_in, n_eqm, n_meq, n_mlt, n_ltm, n_mle, n_lem, not_true_eq_false, not_false_eq_true, true_implies, false_implies, true_and, and_true, Nat.not_lt_zero, Nat.zero_le]
      rw [show vp_nar .boolean (i_n 0) = i_bo (false = true) from by decide]
      have Fi : i_Fr [160] [] h2 (i_siI h2 160 j (i_bo (false = true))) := i_Fr.refl.siI (by decide)
      have f3 := f2.trans (Fi.mono (B := [160, 161]) (G := []) (by decide) (fun _ z => z))
      have r3 := rfr _ r2.1.siI f3
      refine ⟨fun e => by omega, fun _ => ⟨by omega, d294_37 r3.1 ?_⟩⟩
      try simp (disch := omega) only [n_lit, n_m, n_add, n_mul, n_div, n_mod, n_cl, n_lt, n_le, n_eq, n_in, n_eqm, n_meq, n_mlt, n_ltm, n_mle, n_lem, not_true_eq_false, not_false_eq_true, true_implies, false_implies, true_and, and_true, Nat.not_lt_zero, Nat.zero_le]
      refine ih2 _ (fun i hi => ?_) r3 f3 _ _
      rw [x_aI_siI r2.1.a160, x_upd]
      by_cases e : i = j
      · rw [if_pos e]
      · rw [if_neg e]; exact hz i (by omega)
  try simp (disch := omega) only [n_lit, n_m, n_add, n_mul, n_div, n_mod, n_cl, n_lt, n_le, n_eq, n_in, n_eqm, n_meq, n_mlt, n_ltm, n_mle, n_lem, not_true_eq_false, not_false_eq_true, true_implies, false_implies, true_and, and_true, Nat.not_lt_zero, Nat.zero_le]
  exact init 0 (Nat.zero_le _) h (fun i hi => absurd hi (Nat.not_lt_zero i)) r i_Fr.refl _ _
end
