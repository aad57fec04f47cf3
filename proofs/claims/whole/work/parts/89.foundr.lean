/-! FOUND, the reference -/
section
variable {L : Nat} {xs : Nat → Int32} {h : iH} {Q : Option Value → iH → Prop} {a : Nat → Nat} {t : Nat}
set_option maxRecDepth 20000
theorem o_st_64 {P : Nat → Bool} {n : Nat} (hn : n ≤ 6) : o_st P n < 64 := Nat.lt_of_lt_of_le (o_st_lt n) (show 2 ^ n ≤ 2 ^ 6 from Nat.pow_le_pow_right (by omega) hn)
theorem c295 (r : i_RA a h) {p n m : Nat} {S : Nat → Nat} (hp : p < a 5) (hn : n ≤ 6) (hm : m ≤ 60) (hS : ∀ j, j < n → aI h 164 j = i_n (S j) ∧ S j < a 0 * a 1) (H : ∀ h2, i_RA a h2 → i_Fr [165] [] h h2 → (∀ c l, c < a 0 * a 1 → l < 8 → aI h2 165 (8 * c + l) = i_n (o_st (o_ft a (a (156 + 5 * p)) S m l c) n)) → Q none h2) : i_C i_MT i_AT L xs 295 [.ref 138, .int (i_n p), .int (i_n n), .int (i_n m)] h Q := by
  have h5 := r.2.1.2.2.2.2.1
  have h48 := r.2.1.c48
  have hst := r.st hp
  have key : ∀ c, c ≤ a 0 * a 1 → ∀ h1, i_RA a h1 → i_Fr [165] [] h h1 → (∀ c2 l, c2 < c → l < 8 → aI h1 165 (8 * c2 + l) = i_n (o_st (o_ft a (a (156 + 5 * p)) S m l c2) n)) → ∀ (y5 y6 y7 : Option Value), i_P i_MT i_AT L xs 295 3 [some (.ref 138), some (.int (i_n p)), some (.int (i_n n)), some (.int (i_n m)), some (.int (i_n c)), y5, y6, y7] [] h1 0 0 Q := by
    refine l_up ?_ ?_
    · intro h1 r1 f1 z1 y5 y6 y7
      refine d295_3 r1.1 (c248 r1 ⟨_, rfl, d295_9 r1.1 ?_⟩)
      try simp (disch := omega) only [n_lit, n_m, n_add, n_mul, n_div, n_mod, n_cl, n_lt, n_le, n_eq, n_in, n_eqm, n_meq, n_mlt, n_ltm, n_mle, n_lem, not_true_eq_false, not_false_eq_true, true_implies, false_implies, true_and, and_true, Nat.not_lt_zero, Nat.zero_le, Nat.le_refl]
      exact H h1 r1 f1 z1
    · intro c hc ih h1 r1 f1 z1 y5 y6 y7
      have row : ∀ l, l ≤ 8 → ∀ h2, i_RA a h2 → i_Fr [165] [] h h2 → (∀ c2 l, c2 < c → l < 8 → aI h2 165 (8 * c2 + l) = i_n (o_st (o_ft a (a (156 + 5 * p)) S m l c2) n)) → (∀ l2, l2 < l → aI h2 165 (8 * c + l2) = i_n (o_st (o_ft a (a (156 + 5 * p)) S m l2 c) n)) → ∀ (y6 y7 : Option Value), i_P i_MT i_AT L xs 295 15 [some (.ref 138), some (.int (i_n p)), some (.int (i_n n)), some (.int (i_n m)), some (.int (i_n c)), some (.int (i_n l)), y6, y7] [] h2 0 0 Q := by
        refine l_up ?_ ?_
        · intro h2 r2 f2 z2 z3 y6 y7
          refine d295_15 r2.1 ?_
          try simp (disch := omega) only [n_lit, n_m, n_add, n_mul, n_div, n_mod, n_cl, n_lt, n_le, n_eq, n_in, n_eqm, n_meq, n_mlt, n_ltm, n_mle, n_lem, not_true_eq_false, not_false_eq_true, true_implies, false_implies, true_and, and_true, Nat.not_lt_zero, Nat.zero_le, Nat.le_refl]
          refine ih h2 r2 f2 (fun c2 l h1 h2 => ?_) _ _ _
          by_cases e : c2 = c
          · subst e; exact z3 l h2
          · exact z2 c2 l (by omega) h2
        · intro l hl ih2 h2 r2 f2 z2 z3 y6 y7
          have acc : ∀ j, j ≤ n → i_P i_MT i_AT L xs 295 28 [some (.ref 138), some (.int (i_n p)), some (.int (i_n n)), some (.int (i_n m)), some (.int (i_n c)), some (.int (i_n l)), some (.int (i_n (o_st (o_ft a (a (156 + 5 * p)) S m l c) j))), some (.int (i_n j))] [] h2 0 0 Q := by
            refine l_up ?_ ?_
            · refine d295_28 r2.1 ?_
              try simp (disch := omega) only [n_lit, n_m, n_add, n_mul, n_div, n_mod, n_cl, n_lt, n_le, n_eq, n_in, n_eqm, n_meq, n_mlt, n_ltm, n_mle, n_lem, not_true_eq_false, not_false_eq_true, true_implies, false_implies, true_and, and_true, Nat.not_lt_zero, Nat.zero_le, Nat.le_refl]
              have Fi : i_Fr [165] [] h2 (i_siI h2 165 (8 * c + l) (i_n (o_st (o_ft a (a (156 + 5 * p)) S m l c) n))) := i_Fr.refl.siI (by decide)
              have r3 : i_RA a (i_siI h2 165 (8 * c + l) (i_n (o_st (o_ft a (a (156 + 5 * p)) S m l c) n))) := r2.fr r2.1.siI Fi (by decide)
              refine ⟨by omega, d295_93 r3.1 ?_⟩
              try simp (disch := omega) only [n_lit, n_m, n_add, n_mul, n_div, n_mod, n_cl, n_lt, n_le, n_eq, n_in, n_eqm, n_meq, n_mlt, n_ltm, n_mle, n_lem, not_true_eq_false, not_false_eq_true, true_implies, false_implies, true_and, and_true, Nat.not_lt_zero, Nat.zero_le]
              refine ih2 _ r3 (f2.trans Fi) (fun c2 l2 h1 h3 => ?_) (fun l2 h1 => ?_) _ _
              · rw [x_aI_siI r2.1.a165, x_upd, if_neg (by omega)]; exact z2 c2 l2 h1 h3
              · rw [x_aI_siI r2.1.a165, x_upd]
                by_cases e : l2 = l
                · subst e; rw [if_pos rfl]
                · rw [if_neg (by omega)]; exact z3 l2 (by omega)
            · intro j hj ih3
              have hs := hS j hj
              have e164 : aI h2 164 j = i_n (S j) := by rw [f2.rI (by decide)]; exact hs.1
              have s6 := o_st_64 (P := o_ft a (a (156 + 5 * p)) S m l c) (n := j) (by omega)
              rw [o_st] at ih3
              refine d295_28 r2.1 ?_
              try simp (disch := omega) only [n_lit, n_m, n_add, n_mul, n_div, n_mod, n_cl, n_lt, n_le, n_eq, n_in, n_eqm, n_meq, n_mlt, n_ltm, n_mle, n_lem, not_true_eq_false, not_false_eq_true, true_implies, false_implies, true_and, and_true, Nat.not_lt_zero, Nat.zero_le]
              refine ⟨fun e => by omega, fun _ => c256 (w := 2) r2 (by omega) (by omega) ⟨_, rfl, d295_47 r2.1 ?_⟩⟩
              rw [show 154 + 5 * p + 2 = 156 + 5 * p by omega]
              try simp (disch := omega) only [n_lit, n_m, n_add, n_mul, n_div, n_mod, n_cl, n_lt, n_le, n_eq, n_in, n_eqm, n_meq, n_mlt, n_ltm, n_mle, n_lem, not_true_eq_false, not_false_eq_true, true_implies, false_implies, true_and, and_true, Nat.not_lt_zero, Nat.zero_le, e164]
              refine ⟨by omega, c271 r2 hc hl (by omega) hs.2 hm ⟨_, rfl, d295_58 r2.1 ?_⟩⟩
              rw [i_bo_0, Classical.not_not]
              refine ⟨fun e => d295_69 r2.1 ?_, fun e => d295_69 r2.1 ?_⟩
              · rw [show (i_n (o_st (o_ft a (a (156 + 5 * p)) S m l c) j) ||| (0 : Int32)) = i_n (o_st (o_ft a (a (156 + 5 * p)) S m l c) j) from (n_or _ 0).trans (by rw [Nat.or_zero])]
                try simp (disch := omega) only [n_lit, n_m, n_add, n_mul, n_div, n_mod, n_cl, n_lt, n_le, n_eq, n_in, n_eqm, n_meq, n_mlt, n_ltm, n_mle, n_lem, not_true_eq_false, not_false_eq_true, true_implies, false_implies, true_and, and_true, Nat.not_lt_zero, Nat.zero_le]
                rw [if_neg (show ¬ o_ft a (a (156 + 5 * p)) S m l c j = true from e)] at ih3
                exact ih3
              · try simp (disch := omega) only [n_lit, n_m, n_add, n_mul, n_div, n_mod, n_cl, n_lt, n_le, n_eq, n_in, n_eqm, n_meq, n_mlt, n_ltm, n_mle, n_lem, not_true_eq_false, not_false_eq_true, true_implies, false_implies, true_and, and_true, Nat.not_lt_zero, Nat.zero_le, n_shl2, n_and, n_or]
                rw [if_pos (show o_ft a (a (156 + 5 * p)) S m l c j = true from e)] at ih3
                exact ih3
          refine d295_15 r2.1 ?_
          try simp (disch := omega) only [n_lit, n_m, n_add, n_mul, n_div, n_mod, n_cl, n_lt, n_le, n_eq, n_in, n_eqm, n_meq, n_mlt, n_ltm, n_mle, n_lem, not_true_eq_false, not_false_eq_true, true_implies, false_implies, true_and, and_true, Nat.not_lt_zero, Nat.zero_le]
          refine ⟨fun e => by omega, fun _ => ?_⟩
          exact acc 0 (Nat.zero_le _)
      refine d295_3 r1.1 (c248 r1 ⟨_, rfl, d295_9 r1.1 ?_⟩)
      try simp (disch := omega) only [n_lit, n_m, n_add, n_mul, n_div, n_mod, n_cl, n_lt, n_le, n_eq, n_in, n_eqm, n_meq, n_mlt, n_ltm, n_mle, n_lem, not_true_eq_false, not_false_eq_true, true_implies, false_implies, true_and, and_true, Nat.not_lt_zero, Nat.zero_le]
      exact ⟨fun e => by omega, fun _ => row 0 (by omega) h1 r1 f1 z1 (fun l2 h1 => absurd h1 (Nat.not_lt_zero l2)) _ _⟩
  refine e295 (d295_0 r.1 ?_)
  try simp (disch := omega) only [n_lit, n_m, n_add, n_mul, n_div, n_mod, n_cl, n_lt, n_le, n_eq, n_in, n_eqm, n_meq, n_mlt, n_ltm, n_mle, n_lem, not_true_eq_false, not_false_eq_true, true_implies, false_implies, true_and, and_true, Nat.not_lt_zero, Nat.zero_le]
  exact key 0 (Nat.zero_le _) h r i_Fr.refl (fun c2 l h1 _ => absurd h1 (Nat.not_lt_zero c2)) _ _ _
/-- rows of bits of cells and looks -/
def o_rk (a : Nat → Nat) (h : iH) (q : Nat) (F : Nat → Nat → Bool) : Prop := ∀ V s, V < 64 → s < 8 * (a 0 * a 1) → aI h q (64 * s + V) = i_bo (F V s = true)
theorem o_rk.congr {q : Nat} {F G : Nat → Nat → Bool} (x : o_rk a h q F) (e : ∀ V c, V < 64 → c < 8 * (a 0 * a 1) → F V c = G V c) : o_rk a h q G := fun V c hV hc => by rw [x V c hV hc, e V c hV hc]
def o_f2 (g : Nat → Nat → Nat) (s c l : Nat) (F G : Nat → Nat → Bool) (V2 s2 : Nat) : Bool := G V2 s2 || (s2 == 8 * c + l && o_or (fun V => F V s && (V ||| g l c) == V2) 64)
set_option maxHeartbeats 1000000 in
theorem c296 (r : i_RA a h) {s c l : Nat} {g : Nat → Nat → Nat} {F G : Nat → Nat → Bool} (hs : s < 8 * (a 0 * a 1)) (hc : c < a 0 * a 1) (hl : l < 8) (hg : aI h 165 (8 * c + l) = i_n (g l c)) (hg6 : g l c < 64) (hF : o_rk a h 162 F) (hG : o_rk a h 163 G) (H : ∀ h2, i_RA a h2 → i_Fr [163] [] h h2 → o_rk a h2 163 (o_f2 g s c l F G) → Q none h2) : i_C i_MT i_AT L xs 296 [.ref 138, .int (i_n s), .int (i_n c), .int (i_n l)] h Q := by
  have h48 := r.2.1.c48
  have key : ∀ k, k ≤ 64 → ∀ h1, i_RA a h1 → i_Fr [163] [] h h1 → o_rk a h1 163 (fun V2 s2 => G V2 s2 || (s2 == 8 * c + l && o_or (fun V => F V s && (V ||| g l c) == V2) k)) → i_P i_MT i_AT L xs 296 3 [some (.ref 138), some (.int (i_n s)), some (.int (i_n c)), some (.int (i_n l)), some (.int (i_n k))] [] h1 0 0 Q := by
    refine l_up ?_ ?_
    · intro h1 r1 f1 hr
      refine d296_3 r1.1 ?_
      try simp (disch := omega) only [n_lit, n_m, n_add, n_mul, n_div, n_mod, n_cl, n_lt, n_le, n_eq, n_in, n_eqm, n_meq, n_mlt, n_ltm, n_mle, n_lem, not_true_eq_false, not_false_eq_true, true_implies, false_implies, true_and, and_true, Nat.not_lt_zero, Nat.zero_le, Nat.le_refl]
      exact H h1 r1 f1 hr
    · intro k hk ih h1 r1 f1 hr
      have kg := Nat.or_lt_two_pow (n := 6) hk hg6
      have nx : ∀ h2, i_RA a h2 → i_Fr [163] [] h h2 → o_rk a h2 163 (fun V2 s2 => G V2 s2 || (s2 == 8 * c + l && o_or (fun V => F V s && (V ||| g l c) == V2) (k + 1))) → i_P i_MT i_AT L xs 296 55 [some (.ref 138), some (.int (i_n s)), some (.int (i_n c)), some (.int (i_n l)), some (.int (i_n k))] [] h2 0 0 Q := by
        intro h2 r2 f2 hr2
        refine d296_55 r2.1 ?_
        try simp (disch := omega) only [n_lit, n_m, n_add, n_mul, n_div, n_mod, n_cl, n_lt, n_le, n_eq, n_in, n_eqm, n_meq, n_mlt, n_ltm, n_mle, n_lem, not_true_eq_false, not_false_eq_true, true_implies, false_implies, true_and, and_true, Nat.not_lt_zero, Nat.zero_le]
        exact ih h2 r2 f2 hr2
      refine d296_3 r1.1 ?_
      have e162 : aI h1 162 (64 * s + k) = i_bo (F k s = true) := by rw [f1.rI (by decide)]; exact hF k s hk hs
      have e165 : aI h1 165 (8 * c + l) = i_n (g l c) := by rw [f1.rI (by decide)]; exact hg
      try simp (disch := omega) only [n_lit, n_m, i_bo01, j_cmpn, Classical.not_not, n_add, n_mul, n_div, n_mod, n_cl, n_lt, n_le, n_eq, n_in, n_eqm, n_meq, n_mlt, n_ltm, n_mle, n_lem, not_true_eq_false, not_false_eq_true, true_implies, false_implies, true_and, and_true, Nat.not_lt_zero, Nat.zero_le, e162, e165, n_or]
      refine ⟨fun e => by omega, fun _ => ⟨by omega, fun e => nx h1 r1 f1 (hr.congr (fun V c2 _ _ => ?_)), fun e => ⟨by omega, by omega, ?_⟩⟩⟩
      · have : F k s = false := by simpa using e
        rw [o_or, this, Bool.false_and, Bool.or_false]
      · rw [show vp_nar .boolean (i_n 1) = i_bo (true = true) from by decide]
        have Fi : i_Fr [163] [] h1 (i_siI h1 163 (64 * (8 * c + l) + (k ||| g l c)) (i_bo (true = true))) := i_Fr.refl.siI (by decide)
        have r2 : i_RA a (i_siI h1 163 (64 * (8 * c + l) + (k ||| g l c)) (i_bo (true = true))) := r1.fr r1.1.siI Fi (by decide)
        refine nx _ r2 (f1.trans Fi) (fun V s2 hV hs2 => ?_)
        rw [x_aI_siI r1.1.a163, x_upd]
        dsimp only
        simp only [o_or, e, Bool.true_and]
        by_cases q : 64 * s2 + V = 64 * (8 * c + l) + (k ||| g l c)
        · obtain ⟨q1, q2⟩ : s2 = 8 * c + l ∧ V = k ||| g l c := by omega
          rw [if_pos q]
          exact i_bo_iff (by simp [q1, q2])
        · rw [if_neg q, hr V s2 hV hs2]
          dsimp only
          by_cases ec : s2 = 8 * c + l
          · have : ((k ||| g l c) == V) = false := by
              rw [beq_eq_false_iff_ne]
              intro z
              exact q (by omega)
            exact i_bo_iff (by rw [this, Bool.or_false])
          · exact i_bo_iff (by rw [show (s2 == 8 * c + l) = false by simpa using ec, Bool.false_and, Bool.false_and])
  refine e296 (d296_0 r.1 ?_)
  try simp (disch := omega) only [n_lit, n_m, n_add, n_mul, n_div, n_mod, n_cl, n_lt, n_le, n_eq, n_in, n_eqm, n_meq, n_mlt, n_ltm, n_mle, n_lem, not_true_eq_false, not_false_eq_true, true_implies, false_implies, true_and, and_true, Nat.not_lt_zero, Nat.zero_le]
  refine key 0 (by omega) h r i_Fr.refl (hG.congr (fun V c2 _ _ => ?_))
  rw [show o_or (fun V2 => F V2 s && (V2 ||| g l c) == V) 0 = false from rfl, Bool.and_false, Bool.or_false]
theorem c297 (r : i_RA a h) {W : Nat} {F : Nat → Nat → Bool} (hW : W < 64) (hF : o_rk a h 162 F) (H : Q (some (.int (i_bo (o_or (F W) (8 * (a 0 * a 1)) = true)))) h) : i_C i_MT i_AT L xs 297 [.ref 138, .int (i_n W)] h Q := by
  have h48 := r.2.1.c48
  have key : ∀ k, k ≤ 8 * (a 0 * a 1) → (∀ i, i < k → F W i = false) → i_P i_MT i_AT L xs 297 2 [some (.ref 138), some (.int (i_n W)), some (.int (i_n k))] [] h 0 0 Q := by
    refine l_up ?_ ?_
    · intro z
      refine d297_2 r.1 (c248 r ⟨_, rfl, d297_9 r.1 ?_⟩)
      try simp (disch := omega) only [n_lit, n_m, n_add, n_mul, n_div, n_mod, n_cl, n_lt, n_le, n_eq, n_in, n_eqm, n_meq, n_mlt, n_ltm, n_mle, n_lem, not_true_eq_false, not_false_eq_true, true_implies, false_implies, true_and, and_true, Nat.not_lt_zero, Nat.zero_le, Nat.le_refl]
      have : o_or (F W) (8 * (a 0 * a 1)) = false := by
        rw [← Bool.not_eq_true, o_or_t]
        rintro ⟨i, h1, h2⟩
        rw [z i h1] at h2
        cases h2
      rw [this] at H
      exact H
    · intro k hk ih z
      refine d297_2 r.1 (c248 r ⟨_, rfl, d297_9 r.1 ?_⟩)
      have e := hF W k hW hk
      try simp (disch := omega) only [n_lit, n_m, i_bo01, j_cmpn, Classical.not_not, n_add, n_mul, n_div, n_mod, n_cl, n_lt, n_le, n_eq, n_in, n_eqm, n_meq, n_mlt, n_ltm, n_mle, n_lem, not_true_eq_false, not_false_eq_true, true_implies, false_implies, true_and, and_true, Nat.not_lt_zero, Nat.zero_le, e]
      refine ⟨fun q => by omega, fun _ => ⟨by omega, fun q => ih (fun i hi => ?_), fun q => ?_⟩⟩
      · by_cases ei : i = k
        · subst ei; simpa using q
        · exact z i (by omega)
      · rw [(o_or_t (P := F W) (8 * (a 0 * a 1))).mpr ⟨k, hk, q⟩] at H
        exact H
  refine e297 (d297_0 r.1 ?_)
  try simp (disch := omega) only [n_lit, n_m, n_add, n_mul, n_div, n_mod, n_cl, n_lt, n_le, n_eq, n_in, n_eqm, n_meq, n_mlt, n_ltm, n_mle, n_lem, not_true_eq_false, not_false_eq_true, true_implies, false_implies, true_and, and_true, Nat.not_lt_zero, Nat.zero_le]
  exact key 0 (Nat.zero_le _) (fun i hi => absurd hi (Nat.not_lt_zero i))
def o_fv (g : Nat → Nat → Nat) (F : Nat → Nat → Bool) (s l c V : Nat) : Prop := ∃ V2, V2 < 64 ∧ F V2 s = true ∧ V2 ||| g l c = V
theorem o_f2_t {g : Nat → Nat → Nat} {s c l V s2 : Nat} {F G : Nat → Nat → Bool} : o_f2 g s c l F G V s2 = true ↔ G V s2 = true ∨ (s2 = 8 * c + l ∧ o_fv g F s l c V) := by
  unfold o_f2 o_fv
  rw [Bool.or_eq_true, Bool.and_eq_true, beq_iff_eq, o_or_t]
  simp only [Bool.and_eq_true, beq_iff_eq]
def o_f2o (a : Nat → Nat) (g : Nat → Nat → Nat) (s l : Nat) (F : Nat → Nat → Bool) : Option Nat → (Nat → Nat → Bool) → Nat → Nat → Bool
  | some c, G => if o_wall a c = false then o_f2 g s c l F G else G
  | none, G => G
def o_f3 (a : Nat → Nat) (g : Nat → Nat → Nat) (s : Nat) (F : Nat → Nat → Bool) : Nat → (Nat → Nat → Bool) → Nat → Nat → Bool
  | 0, G => G
  | k + 1, G => o_f2o a g s k F (o_lead (a 0) (a 1) (s / 8) k) (o_f2 g s (s / 8) k F (o_f3 a g s F k G))
theorem o_f3_t {g : Nat → Nat → Nat} {s V s2 : Nat} {F G : Nat → Nat → Bool} : ∀ k, o_f3 a g s F k G V s2 = true ↔ G V s2 = true ∨ ∃ l c, l < k ∧ s2 = 8 * c + l ∧ (c = s / 8 ∨ (o_lead (a 0) (a 1) (s / 8) l = some c ∧ o_wall a c = false)) ∧ o_fv g F s l c V
  | 0 => ⟨Or.inl, fun z => z.elim id (fun ⟨l, c, q, _⟩ => absurd q (Nat.not_lt_zero _))⟩
  | k + 1 => by
    have ih := o_f3_t (g := g) (s := s) (V := V) (s2 := s2) (F := F) (G := G) k
    have stay : ∀ (e : ∀ c, o_lead (a 0) (a 1) (s / 8) k = some c → o_wall a c = false → False), o_f2 g s (s / 8) k F (o_f3 a g s F k G) V s2 = true ↔ G V s2 = true ∨ ∃ l c, l < k + 1 ∧ s2 = 8 * c + l ∧ (c = s / 8 ∨ (o_lead (a 0) (a 1) (s / 8) l = some c ∧ o_wall a c = false)) ∧ o_fv g F s l c V := by
      intro e
      rw [o_f2_t, ih]
      constructor
      · rintro ((z | ⟨l, c, h1, h2⟩) | ⟨z1, z2⟩)
        · exact Or.inl z
        · exact Or.inr ⟨l, c, by omega, h2⟩
        · exact Or.inr ⟨k, s / 8, by omega, z1, Or.inl rfl, z2⟩
      · rintro (z | ⟨l, c, h1, h2, h3, h4⟩)
        · exact Or.inl (Or.inl z)
        · by_cases q : l = k
          · subst q
            rcases h3 with h3 | h3
            · rw [← h3]; exact Or.inr ⟨h2, h4⟩
            · exact absurd h3.2 (fun w => e c h3.1 w)
          · exact Or.inl (Or.inr ⟨l, c, by omega, h2, h3, h4⟩)
    rw [o_f3]
    cases e : o_lead (a 0) (a 1) (s / 8) k with
    | some c =>
      rw [o_f2o]
      by_cases w : o_wall a c = false
      · rw [if_pos w, o_f2_t, o_f2_t, ih]
        constructor
        · rintro (((z | ⟨l, c, h1, h2⟩) | ⟨z1, z2⟩) | ⟨z1, z2⟩)
          · exact Or.inl z
          · exact Or.inr ⟨l, c, by omega, h2⟩
          · exact Or.inr ⟨k, s / 8, by omega, z1, Or.inl rfl, z2⟩
          · exact Or.inr ⟨k, c, by omega, z1, Or.inr ⟨e, w⟩, z2⟩
        · rintro (z | ⟨l, c2, h1, h2, h3, h4⟩)
          · exact Or.inl (Or.inl (Or.inl z))
          · by_cases q : l = k
            · subst q
              rcases h3 with h3 | h3
              · rw [← h3]; exact Or.inl (Or.inr ⟨h2, h4⟩)
              · have : c = c2 := by rw [e] at h3; exact Option.some.inj h3.1
                subst this
                exact Or.inr ⟨h2, h4⟩
            · exact Or.inl (Or.inl (Or.inr ⟨l, c2, by omega, h2, h3, h4⟩))
      · rw [if_neg w]
        exact stay (fun c2 e2 w2 => by rw [e] at e2; rw [Option.some.inj e2] at w; exact w w2)
    | none =>
      rw [o_f2o]
      exact stay (fun c2 e2 _ => by rw [e] at e2; cases e2)
def o_f4 (a : Nat → Nat) (g : Nat → Nat → Nat) (F : Nat → Nat → Bool) : Nat → Nat → Nat → Bool
  | 0 => fun _ _ => false
  | k + 1 => o_f3 a g k F 8 (o_f4 a g F k)
theorem o_f4_t {g : Nat → Nat → Nat} {V s2 : Nat} {F : Nat → Nat → Bool} : ∀ k, o_f4 a g F k V s2 = true ↔ ∃ s l c, s < k ∧ l < 8 ∧ s2 = 8 * c + l ∧ (c = s / 8 ∨ (o_lead (a 0) (a 1) (s / 8) l = some c ∧ o_wall a c = false)) ∧ o_fv g F s l c V
  | 0 => ⟨fun z => (by rw [o_f4] at z; cases z), fun ⟨s, l, c, z, _⟩ => absurd z (Nat.not_lt_zero s)⟩
  | k + 1 => by
    rw [o_f4, o_f3_t, o_f4_t k]
    constructor
    · rintro (⟨s, l, c, h1, h2⟩ | ⟨l, c, h1, h2⟩)
      · exact ⟨s, l, c, by omega, h2⟩
      · exact ⟨k, l, c, by omega, h1, h2⟩
    · rintro ⟨s, l, c, h1, h2⟩
      by_cases e : s = k
      · subst e; exact Or.inr ⟨l, c, h2⟩
      · exact Or.inl ⟨s, l, c, by omega, h2⟩
def o_fg (a : Nat → Nat) (p : Nat) (S : Nat → Nat) (n m : Nat) (l c : Nat) : Nat := o_st (o_ft a (a (156 + 5 * p)) S m l c) n
def o_fk (a : Nat → Nat) (p : Nat) (S : Nat → Nat) (n : Nat) : Nat → Nat → Nat → Bool
  | 0, V, s => V == 0 && s == 8 * a (154 + 5 * p) + a (155 + 5 * p)
  | m + 1, V, s => o_f4 a (o_fg a p S n (m + 1)) (o_fk a p S n m) (8 * (a 0 * a 1)) V s
/-- with looks, and without -/
theorem o_fk_fd {p n : Nat} {S : Nat → Nat} (hl : a (155 + 5 * p) < 8) : ∀ m V c, c < a 0 * a 1 → (o_fd a p S n m V c = true ↔ ∃ l, l < 8 ∧ o_fk a p S n m V (8 * c + l) = true)
  | 0, V, c, hc => by
    rw [o_fd]
    simp only [o_fk, Bool.and_eq_true, beq_iff_eq]
    constructor
    · rintro ⟨h1, h2⟩
      exact ⟨_, hl, h1, by rw [h2]⟩
    · rintro ⟨l, h0, h1, h2⟩
      exact ⟨h1, by omega⟩
  | m + 1, V, c, hc => by
    have ih := o_fk_fd (p := p) (n := n) (S := S) hl m
    rw [o_fd, o_or_t]
    simp only [o_or_t, Bool.and_eq_true, beq_iff_eq]
    constructor
    · rintro ⟨V2, h1, l, h2, h3, h4⟩
      unfold o_arr at h3
      rw [Bool.or_eq_true, o_stp_t] at h3
      refine ⟨l, h2, ?_⟩
      rw [o_fk, o_f4_t]
      rcases h3 with h3 | ⟨w, b, q1, q2, q3⟩
      · obtain ⟨l0, k1, k2⟩ := (ih V2 c hc).mp h3
        exact ⟨8 * c + l0, l, c, by omega, h2, rfl, Or.inl (by omega), V2, h1, k2, h4⟩
      · obtain ⟨l0, k1, k2⟩ := (ih V2 b q1).mp q2
        exact ⟨8 * b + l0, l, c, by omega, h2, rfl, Or.inr ⟨by rw [show (8 * b + l0) / 8 = b by omega]; exact q3, w⟩, V2, h1, k2, h4⟩
    · rintro ⟨l, h2, h3⟩
      rw [o_fk, o_f4_t] at h3
      obtain ⟨s, l2, c2, q1, q2, q3, q4, V2, q5, q6, q7⟩ := h3
      obtain ⟨rfl, rfl⟩ : c2 = c ∧ l2 = l := by omega
      refine ⟨V2, q5, l2, q2, ?_, q7⟩
      unfold o_arr
      rw [Bool.or_eq_true, o_stp_t]
      have e8 : s = 8 * (s / 8) + s % 8 := by omega
      rcases q4 with q4 | ⟨q4, q8⟩
      · refine Or.inl ((ih V2 c2 hc).mpr ⟨s % 8, by omega, ?_⟩)
        rw [q4, ← e8]; exact q6
      · refine Or.inr ⟨q8, s / 8, by omega, (ih V2 (s / 8) (by omega)).mpr ⟨s % 8, by omega, ?_⟩, q4⟩
        rw [← e8]; exact q6
theorem o_fk_or {p n m V : Nat} {S : Nat → Nat} (hl : a (155 + 5 * p) < 8) : o_or (o_fk a p S n m V) (8 * (a 0 * a 1)) = o_or (o_fd a p S n m V) (a 0 * a 1) := by
  rw [Bool.eq_iff_iff, o_or_t, o_or_t]
  constructor
  · rintro ⟨s, h1, h2⟩
    refine ⟨s / 8, by omega, (o_fk_fd hl m V (s / 8) (by omega)).mpr ⟨s % 8, by omega, ?_⟩⟩
    rw [show 8 * (s / 8) + s % 8 = s by omega]; exact h2
  · rintro ⟨c, h1, h2⟩
    obtain ⟨l, h3, h4⟩ := (o_fk_fd hl m V c h1).mp h2
    exact ⟨8 * c + l, by omega, h4⟩
end
