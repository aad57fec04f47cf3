/-! SHOWN -/
section
variable {L : Nat} {xs : Nat → Int32} {h : iH} {Q : Option Value → iH → Prop} {a : Nat → Nat} {t : Nat}
set_option maxRecDepth 20000
/-- those of W who see such a move on c with weight 16 -/
def o_gn (a : Nat → Nat) (W d m c : Nat) : Nat := o_st (fun b => W.testBit b && decide (16 ≤ o_wgh a b c d m)) (a 5)
def o_cm (a : Nat → Nat) (F : Nat → Nat → Bool) (d V c : Nat) : Bool := if d = 0 ∨ d = 4 then F V c else o_bes a (F V) c
def o_s1 (a : Nat → Nat) (p m : Nat) (F : Nat → Nat → Bool) (d V c : Nat) : Bool := o_or (fun V2 => o_cm a F d V2 c && (o_uns a p c d m && (V2 ||| o_gn a (a (158 + 5 * p)) d m c) == V)) 256
/-- who may have seen it, by where it may be -/
def o_sh (a : Nat → Nat) (p : Nat) : Nat → Nat → Nat → Bool
  | 0, V, c => V == 0 && c == a (154 + 5 * p)
  | m + 1, V, c => o_s1 a p (m + 1) (o_sh a p m) 0 V c || (o_s1 a p (m + 1) (o_sh a p m) 1 V c || (o_s1 a p (m + 1) (o_sh a p m) 2 V c || o_s1 a p (m + 1) (o_sh a p m) 4 V c))
def o_shN (a : Nat → Nat) (p : Nat) : Option Nat := o_lst (fun m => o_or (o_sh a p m (a (158 + 5 * p))) (a 0 * a 1)) 61 0
def o_shA (a : Nat → Nat) (x : Int32) : Int32 × Int32 := o_A6 (v_p a x) (o_shN a x.toNatClampNeg)
theorem o_gn_lt (h5 : a 5 ≤ 8) {W d m c : Nat} : o_gn a W d m c < 256 := o_st_8 h5
theorem o_or256 {x y : Nat} (hx : x < 256) (hy : y < 256) : x ||| y < 256 := Nat.or_lt_two_pow (n := 8) hx hy
theorem o_st_ne0 {P : Nat → Bool} : ∀ n, (o_st P n != 0) = o_or P n := by
  intro n
  rw [Bool.eq_iff_iff, bne_iff_ne, o_or_t]
  constructor
  · intro e
    by_cases z : ∃ i, i < n ∧ P i = true
    · exact z
    · exfalso
      apply e
      apply Nat.eq_of_testBit_eq
      intro i
      rw [o_st_b, Nat.zero_testBit]
      by_cases hi : i < n
      · cases hp : P i with
        | false => simp
        | true => exact absurd ⟨i, hi, hp⟩ z
      · simp [hi]
  · rintro ⟨i, h1, h2⟩ e
    have := o_st_b (P := P) n i
    rw [e, Nat.zero_testBit, h2] at this
    simp [h1] at this
/-- the gains of this minute stand -/
def o_gok (a : Nat → Nat) (W m : Nat) (h : iH) : Prop := ∀ d, d ≤ 4 → (∀ c, c < a 0 * a 1 → aI h 119 (d * 48 + c) = i_n (o_gn a W d m c)) ∧ o_is (aJ h 120 d) (a 0 * a 1) (fun c => o_gn a W d m c != 0)
theorem o_gok.fr {W m : Nat} {h2 : iH} {A : List Nat} {F : List (Nat × Nat)} (x : o_gok a W m h) (f : i_Fr A F h h2) (hA : 119 ∉ A ∧ 120 ∉ A) : o_gok a W m h2 := by
  unfold o_gok
  rw [f.rI hA.1, f.rJ hA.2]
  exact x
theorem c78 (hL : i_Lay h) (hN : fI h 96 2 = i_n (a 0 * a 1)) (h48 : a 0 * a 1 ≤ 48) {d v : Nat} {s : Int64} {P : Nat → Bool} (hd : d ≤ 4) (hs : o_is s (a 0 * a 1) P) (H : ∀ h2, i_Lay h2 → i_Fr [119] [] h h2 → (∀ d2 c, d2 ≤ 4 → c < a 0 * a 1 → aI h2 119 (d2 * 48 + c) = if d2 = d ∧ P c = true then aI h 119 (d2 * 48 + c) ||| i_n v else aI h 119 (d2 * 48 + c)) → Q none h2) : i_C i_MT i_AT L xs 78 [.ref 108, .int (i_n d), .int (i_n v), .long s] h Q := by
  have key : ∀ k, k ≤ a 0 * a 1 → ∀ h1, i_Lay h1 → i_Fr [119] [] h h1 → (∀ d2 c, d2 ≤ 4 → c < a 0 * a 1 → aI h1 119 (d2 * 48 + c) = if d2 = d ∧ c < k ∧ P c = true then aI h 119 (d2 * 48 + c) ||| i_n v else aI h 119 (d2 * 48 + c)) → i_P i_MT i_AT L xs 78 3 [some (.ref 108), some (.int (i_n d)), some (.int (i_n v)), some (.long s), none, some (.int (i_n k))] [] h1 0 0 Q := by
    refine l_up ?_ ?_
    · intro h1 L1 f1 ea
      refine d78_3 L1 ?_
      rw [f1.vI (by decide), hN]
      try simp (disch := omega) only [n_lit, n_m, n_add, n_mul, n_div, n_mod, n_cl, n_lt, n_le, n_eq, n_in, n_eqm, n_meq, n_mlt, n_ltm, n_mle, n_lem, not_true_eq_false, not_false_eq_true, true_implies, false_implies, true_and, and_true, Nat.not_lt_zero, Nat.zero_le, Nat.le_refl]
      refine H h1 L1 f1 (fun d2 c hd2 hc => ?_)
      rw [ea d2 c hd2 hc]
      by_cases e : d2 = d ∧ P c = true
      · rw [if_pos ⟨e.1, hc, e.2⟩, if_pos e]
      · rw [if_neg (fun q => e ⟨q.1, q.2.2⟩), if_neg e]
    · intro k hk ih h1 L1 f1 ea
      refine d78_3 L1 ?_
      rw [f1.vI (by decide), hN]
      try simp (disch := omega) only [n_lit, n_m, n_add, n_mul, n_div, n_mod, n_cl, n_lt, n_le, n_eq, n_in, n_eqm, n_meq, n_mlt, n_ltm, n_mle, n_lem, not_true_eq_false, not_false_eq_true, true_implies, false_implies, true_and, and_true, Nat.not_lt_zero, Nat.zero_le]
      refine ⟨fun e => by omega, fun _ => c193 (by omega) ⟨_, rfl, d78_24 L1 ?_⟩⟩
      rw [hs.b hk (by omega)]
      have ek := ea d k hd hk
      rw [if_neg (fun q => by omega)] at ek
      try simp (disch := omega) only [n_lit, n_m, i_bo01, j_cmpn, Classical.not_not, n_add, n_mul, n_div, n_mod, n_cl, n_lt, n_le, n_eq, n_in, n_eqm, n_meq, n_mlt, n_ltm, n_mle, n_lem, not_true_eq_false, not_false_eq_true, true_implies, false_implies, true_and, and_true, Nat.not_lt_zero, Nat.zero_le]
      refine ⟨fun e => d78_43 L1 ?_, fun e => ⟨by omega, by omega, d78_43 L1.siI ?_⟩⟩
      · try simp (disch := omega) only [n_lit, n_m, n_add, n_mul, n_div, n_mod, n_cl, n_lt, n_le, n_eq, n_in, n_eqm, n_meq, n_mlt, n_ltm, n_mle, n_lem, not_true_eq_false, not_false_eq_true, true_implies, false_implies, true_and, and_true, Nat.not_lt_zero, Nat.zero_le]
        refine ih h1 L1 f1 (fun d2 c hd2 hc => ?_)
        rw [ea d2 c hd2 hc]
        by_cases q : d2 = d ∧ c < k ∧ P c = true
        · rw [if_pos q, if_pos ⟨q.1, by omega, q.2.2⟩]
        · rw [if_neg q, if_neg (fun z => q ⟨z.1, by
            by_cases ec : c = k
            · subst ec; exact absurd z.2.2 e
            · omega, z.2.2⟩)]
      · try simp (disch := omega) only [n_lit, n_m, n_add, n_mul, n_div, n_mod, n_cl, n_lt, n_le, n_eq, n_in, n_eqm, n_meq, n_mlt, n_ltm, n_mle, n_lem, not_true_eq_false, not_false_eq_true, true_implies, false_implies, true_and, and_true, Nat.not_lt_zero, Nat.zero_le]
        refine ih _ L1.siI (f1.siI List.mem_cons_self) (fun d2 c hd2 hc => ?_)
        rw [x_aI_siI L1.a119, x_upd]
        by_cases q : d2 = d ∧ c = k
        · obtain ⟨rfl, rfl⟩ := q
          rw [if_pos rfl, if_pos ⟨rfl, by omega, e⟩, ek]
        · rw [if_neg (by omega), ea d2 c hd2 hc]
          by_cases q2 : d2 = d ∧ c < k ∧ P c = true
          · rw [if_pos q2, if_pos ⟨q2.1, by omega, q2.2.2⟩]
          · rw [if_neg q2, if_neg (fun z => q2 ⟨z.1, by
              have : c ≠ k := fun ec => q ⟨z.1, ec⟩
              omega, z.2.2⟩)]
  refine e78 (d78_0 hL ?_)
  try simp (disch := omega) only [n_lit, n_m, n_add, n_mul, n_div, n_mod, n_cl, n_lt, n_le, n_eq, n_in, n_eqm, n_meq, n_mlt, n_ltm, n_mle, n_lem, not_true_eq_false, not_false_eq_true, true_implies, false_implies, true_and, and_true, Nat.not_lt_zero, Nat.zero_le]
  exact key 0 (Nat.zero_le _) h hL i_Fr.refl (fun d2 c hd2 hc => by rw [if_neg (fun q => by omega)])
abbrev i_F77 (h h2 : iH) : Prop := i_Fr [99, 100, 106, 107, 119, 120] [] h h2
set_option maxHeartbeats 1000000 in
theorem c77 (g : i_CO a t h) (w : o_wei a h) {W m : Nat} (hW : W < 256) (hm : m ≤ 60) (H : ∀ h2, i_CO a t h2 → i_F77 h h2 → o_wei a h2 → o_gok a W m h2 → Q none h2) : i_C i_MT i_AT L xs 77 [.ref 108, .int (i_n W), .int (i_n m)] h Q := by
  have h5 := g.w.2.2.2.2.1
  have h48 := g.w.c48
  -- the bits of the first k
  have key : ∀ d, d ≤ 5 → ∀ h1, i_CO a t h1 → i_F77 h h1 → o_wei a h1 → (∀ e, e < d → (∀ c, c < a 0 * a 1 → aI h1 119 (e * 48 + c) = i_n (o_gn a W e m c)) ∧ o_is (aJ h1 120 e) (a 0 * a 1) (fun c => o_gn a W e m c != 0)) → (∀ e c, d ≤ e → e ≤ 4 → c < a 0 * a 1 → aI h1 119 (e * 48 + c) = 0) → ∀ (y4 y5 y6 : Option Value), i_P i_MT i_AT L xs 77 10 [some (.ref 108), some (.int (i_n W)), some (.int (i_n m)), some (.int (i_n d)), y4, y5, y6] [] h1 0 0 Q := by
    refine l_up ?_ ?_
    · intro h1 g1 f1 w1 hd _ y4 y5 y6
      refine d77_10 g1.l ?_
      try simp (disch := omega) only [n_lit, n_m, n_add, n_mul, n_div, n_mod, n_cl, n_lt, n_le, n_eq, n_in, n_eqm, n_meq, n_mlt, n_ltm, n_mle, n_lem, not_true_eq_false, not_false_eq_true, true_implies, false_implies, true_and, and_true, Nat.not_lt_zero, Nat.zero_le]
      exact ⟨fun _ => H h1 g1 f1 w1 (fun e he => hd e (by omega)), fun e => absurd (by omega) e⟩
    · intro d hd ih h1 g1 f1 w1 hdn hz y4 y5 y6
      have row : ∀ k, k ≤ a 5 → ∀ h2, i_CO a t h2 → i_F77 h h2 → o_wei a h2 → (∀ e, e < d → (∀ c, c < a 0 * a 1 → aI h2 119 (e * 48 + c) = i_n (o_gn a W e m c)) ∧ o_is (aJ h2 120 e) (a 0 * a 1) (fun c => o_gn a W e m c != 0)) → (∀ e c, d < e → e ≤ 4 → c < a 0 * a 1 → aI h2 119 (e * 48 + c) = 0) → (∀ c, c < a 0 * a 1 → aI h2 119 (d * 48 + c) = i_n (o_st (fun b => W.testBit b && decide (16 ≤ o_wgh a b c d m)) k)) → o_is (aJ h2 120 d) (a 0 * a 1) (fun c => o_or (fun b => W.testBit b && decide (16 ≤ o_wgh a b c d m)) k) → ∀ (y5 y6 : Option Value), i_P i_MT i_AT L xs 77 25 [some (.ref 108), some (.int (i_n W)), some (.int (i_n m)), some (.int (i_n d)), some (.int (i_n k)), y5, y6] [] h2 0 0 Q := by
        refine l_up ?_ ?_
        · intro h2 g2 f2 w2 hd2 hz2 ea es y5 y6
          refine d77_25 g2.l ⟨t, g2.tw, g2.T, ?_⟩
          rw [g2.np]
          try simp (disch := omega) only [n_lit, n_m, n_add, n_mul, n_div, n_mod, n_cl, n_lt, n_le, n_eq, n_in, n_eqm, n_meq, n_mlt, n_ltm, n_mle, n_lem, not_true_eq_false, not_false_eq_true, true_implies, false_implies, true_and, and_true, Nat.not_lt_zero, Nat.zero_le, Nat.le_refl]
          refine ih h2 g2 f2 w2 (fun e he => ?_) (fun e c h1 h2 h3 => hz2 e c (by omega) h2 h3) _ _ _
          by_cases ee : e = d
          · subst ee
            exact ⟨ea, es.congr (fun c _ => (o_st_ne0 (a 5)).symm)⟩
          · exact hd2 e (by omega)
        · intro k hk ih2 h2 g2 f2 w2 hd2 hz2 ea es y5 y6
          refine d77_25 g2.l ⟨t, g2.tw, g2.T, ?_⟩
          rw [g2.np]
          try simp (disch := omega) only [n_lit, n_m, n_add, n_mul, n_div, n_mod, n_cl, n_lt, n_le, n_eq, n_in, n_eqm, n_meq, n_mlt, n_ltm, n_mle, n_lem, not_true_eq_false, not_false_eq_true, true_implies, false_implies, true_and, and_true, Nat.not_lt_zero, Nat.zero_le]
          refine ⟨fun e => by omega, fun _ => c193 (by omega) ⟨_, rfl, d77_50 g2.l ?_⟩⟩
          rw [j_i2l (by omega) (by omega)]
          try simp (disch := omega) only [n_lit, n_m, i_bo01, j_cmpn, Classical.not_not, n_add, n_mul, n_div, n_mod, n_cl, n_lt, n_le, n_eq, n_in, n_eqm, n_meq, n_mlt, n_ltm, n_mle, n_lem, not_true_eq_false, not_false_eq_true, true_implies, false_implies, true_and, and_true, Nat.not_lt_zero, Nat.zero_le]
          refine ⟨fun e => d77_91 g2.l ?_, fun e => ⟨by omega, c68 g2 (w2 d (by omega)).2 hk (by omega) hm (fun s h3 hs g3 f3 => ⟨_, rfl, d77_67 g3.l ?_⟩)⟩⟩
          · try simp (disch := omega) only [n_lit, n_m, n_add, n_mul, n_div, n_mod, n_cl, n_lt, n_le, n_eq, n_in, n_eqm, n_meq, n_mlt, n_ltm, n_mle, n_lem, not_true_eq_false, not_false_eq_true, true_implies, false_implies, true_and, and_true, Nat.not_lt_zero, Nat.zero_le]
            refine ih2 h2 g2 f2 w2 hd2 hz2 (fun c hc => ?_) (es.congr (fun c _ => ?_)) _ _
            · rw [o_st, if_neg (by simp [e])]; exact ea c hc
            · rw [o_or]
              have : W.testBit k = false := by simpa using e
              rw [this, Bool.false_and, Bool.or_false]
          · -- who sees it with 16
            have hs2 : o_is s (a 0 * a 1) (fun c => decide (16 ≤ o_wgh a k c d m)) := hs.congr (fun c _ => by
              rw [o_wgh_on, Bool.eq_iff_iff]
              simp only [Bool.and_eq_true, decide_eq_true_eq, Bool.or_eq_true, bne_iff_ne, ne_eq]
              constructor
              · rintro ⟨z1, z2, z3⟩
                rw [if_pos ⟨z2, fun ed => by rcases z3 with q | q; exact absurd ed q; exact q⟩]
                exact z1
              · intro z
                split at z
                · rename_i q
                  refine ⟨z, q.1, ?_⟩
                  by_cases ed : d = 0
                  · exact Or.inr (q.2 ed)
                  · exact Or.inl ed
                · omega)
            have e119 : aI h3 119 = aI h2 119 := f3.rI (by decide)
            have e120 : aJ h3 120 = aJ h2 120 := f3.rJ (by decide)
            have w3 := w2.fr f3 (by decide)
            try simp (disch := omega) only [n_lit, n_m, n_add, n_mul, n_div, n_mod, n_cl, n_lt, n_le, n_eq, n_in, n_eqm, n_meq, n_mlt, n_ltm, n_mle, n_lem, not_true_eq_false, not_false_eq_true, true_implies, false_implies, true_and, and_true, Nat.not_lt_zero, Nat.zero_le]
            rw [e120]
            have fr : i_Fr [120] [] h3 (i_siJ h3 120 d (aJ h2 120 d ||| s)) := i_Fr.refl.siJ (by decide)
            have g4 := g3.fp fr g3.l.siJ (by decide) (by decide)
            refine ⟨by omega, by omega, d77_80 g4.l ?_⟩
            try simp (disch := omega) only [n_lit, n_m, n_add, n_mul, n_div, n_mod, n_cl, n_lt, n_le, n_eq, n_in, n_eqm, n_meq, n_mlt, n_ltm, n_mle, n_lem, not_true_eq_false, not_false_eq_true, true_implies, false_implies, true_and, and_true, Nat.not_lt_zero, Nat.zero_le, n_shl2, n_and]
            refine c78 g4.l g4.2.1.1.2.2 h48.1 (by omega) hs2 (fun h5' L5 f5 e5 => ⟨rfl, ?_⟩)
            have g5 := g4.fp f5 L5 (by decide) (by decide)
            refine d77_91 g5.l ?_
            try simp (disch := omega) only [n_lit, n_m, n_add, n_mul, n_div, n_mod, n_cl, n_lt, n_le, n_eq, n_in, n_eqm, n_meq, n_mlt, n_ltm, n_mle, n_lem, not_true_eq_false, not_false_eq_true, true_implies, false_implies, true_and, and_true, Nat.not_lt_zero, Nat.zero_le]
            refine ih2 h5' g5 (f2.trans ((f3.mono (by decide) (by decide)).trans ((fr.mono (by decide) (by decide)).trans (f5.mono (by decide) (by decide))))) ((w3.fr fr (by decide)).fr f5 (by decide)) (fun e1 he1 => ⟨fun c hc => ?_, ?_⟩) (fun e1 c h1 h2 hc => ?_) (fun c hc => ?_) ?_ _ _
            · rw [e5 e1 c (by omega) hc, if_neg (fun q => by omega), fr.rI (by decide), e119]; exact (hd2 e1 he1).1 c hc
            · rw [f5.rJ (by decide), i_siJ_no g3.l.a120 (by omega), e120]; exact (hd2 e1 he1).2
            · rw [e5 e1 c (by omega) hc, if_neg (fun q => by omega), fr.rI (by decide), e119]; exact hz2 e1 c h1 h2 hc
            · rw [e5 d c (by omega) hc, fr.rI (by decide), e119, ea c hc, o_st]
              by_cases q : 16 ≤ o_wgh a k c d m
              · rw [if_pos ⟨rfl, by simpa using q⟩, if_pos (by simp [e, q]), n_or]
              · rw [if_neg (fun z => q (by simpa using z.2)), if_neg (by simp [q])]
            · rw [f5.rJ (by decide), i_siJ_at g3.l.a120]
              refine (es.or hs2).congr (fun c _ => ?_)
              rw [o_or, e, Bool.true_and]
      refine d77_10 g1.l ?_
      try simp (disch := omega) only [n_lit, n_m, n_add, n_mul, n_div, n_mod, n_cl, n_lt, n_le, n_eq, n_in, n_eqm, n_meq, n_mlt, n_ltm, n_mle, n_lem, not_true_eq_false, not_false_eq_true, true_implies, false_implies, true_and, and_true, Nat.not_lt_zero, Nat.zero_le]
      have fr : i_Fr [120] [] h1 (i_siJ h1 120 d 0) := i_Fr.refl.siJ (by decide)
      have g2 := g1.fp fr g1.l.siJ (by decide) (by decide)
      refine ⟨fun e => by omega, fun _ => ⟨by omega, d77_22 g2.l ?_⟩⟩
      try simp (disch := omega) only [n_lit, n_m, n_add, n_mul, n_div, n_mod, n_cl, n_lt, n_le, n_eq, n_in, n_eqm, n_meq, n_mlt, n_ltm, n_mle, n_lem, not_true_eq_false, not_false_eq_true, true_implies, false_implies, true_and, and_true, Nat.not_lt_zero, Nat.zero_le]
      refine row 0 (Nat.zero_le _) _ g2 (f1.trans (fr.mono (by decide) (by decide))) (w1.fr fr (by decide)) (fun e he => ?_) (fun e c h1 h2 hc => ?_) (fun c hc => ?_) ?_ _ _
      · rw [fr.rI (by decide), i_siJ_no g1.l.a120 (by omega)]; exact hdn e he
      · rw [fr.rI (by decide)]; exact hz e c (by omega) h2 hc
      · rw [fr.rI (by decide), hz d c (Nat.le_refl d) (by omega) hc]; rfl
      · rw [i_siJ_at g1.l.a120]; exact o_is.none
  refine e77 (d77_0 g.l (c349 g.l g.l.a119 (by omega) (fun h1 L1 f1 e1 => ⟨rfl, ?_⟩)))
  have g1 := g.fp f1 L1 (by decide) (by decide)
  refine d77_8 g1.l ?_
  try simp (disch := omega) only [n_lit, n_m, n_add, n_mul, n_div, n_mod, n_cl, n_lt, n_le, n_eq, n_in, n_eqm, n_meq, n_mlt, n_ltm, n_mle, n_lem, not_true_eq_false, not_false_eq_true, true_implies, false_implies, true_and, and_true, Nat.not_lt_zero, Nat.zero_le]
  exact key 0 (by omega) h1 g1 (f1.mono (by decide) (by decide)) (w.fr f1 (by decide)) (fun e he => absurd he (Nat.not_lt_zero e)) (fun e c _ h2 hc => e1 _ (by omega)) _ _ _
/-- the two rows of sets -/
def o_nB (h : iH) (B C : Nat) : Prop := fR h 108 10 = B ∧ fR h 108 11 = C ∧ ((B = 117 ∧ C = 118) ∨ (B = 118 ∧ C = 117))
theorem o_nB.f10 (hL : i_Lay h) {B C : Nat} (b : o_nB h B C) : i_fld h 108 6 10 = some (.ref B) := by
  have := hL.fw (q := 108) (ci := 6) (b := 10) rfl rfl rfl
  rw [b.1] at this; exact this
theorem o_nB.f11 (hL : i_Lay h) {B C : Nat} (b : o_nB h B C) : i_fld h 108 6 11 = some (.ref C) := by
  have := hL.fw (q := 108) (ci := 6) (b := 11) rfl rfl rfl
  rw [b.2.1] at this; exact this
theorem o_nB.aB (hL : i_Lay h) {B C : Nat} (b : o_nB h B C) : i_arJ h B = some (256, aJ h B) ∧ i_arJ h C = some (256, aJ h C) := by
  rcases b.2.2 with e | e <;> rw [e.1, e.2]
  · exact ⟨hL.a117, hL.a118⟩
  · exact ⟨hL.a118, hL.a117⟩
theorem o_nB.fr {h2 : iH} {A : List Nat} {F : List (Nat × Nat)} {B C : Nat} (b : o_nB h B C) (f : i_Fr A F h h2) (h8 : (108, 10) ∉ F) (h9 : (108, 11) ∉ F) : o_nB h2 B C := by
  unfold o_nB
  rw [f.vR h8, f.vR h9]; exact b
theorem o_nB.ne {B C : Nat} (b : o_nB h B C) : B ≠ C ∧ 116 < B ∧ B < 119 ∧ 116 < C ∧ C < 119 := by
  rcases b.2.2 with e | e <;> omega
theorem i_sw2.nB (s : i_sw2 h 108 10 11 117 118) : ∃ B C, o_nB h B C := by
  rcases s with e | e
  · exact ⟨117, 118, e.1, e.2, Or.inl ⟨rfl, rfl⟩⟩
  · exact ⟨118, 117, e.1, e.2, Or.inr ⟨rfl, rfl⟩⟩
theorem o_nB.sw {B C : Nat} (b : o_nB h B C) : i_sw2 h 108 10 11 117 118 := by
  rcases b.2.2 with e | e
  · exact Or.inl ⟨b.1.trans e.1, b.2.1.trans e.2⟩
  · exact Or.inr ⟨b.1.trans e.1, b.2.1.trans e.2⟩
/-- rows of sets of cells -/
def o_rw (a : Nat → Nat) (h : iH) (B N : Nat) (F : Nat → Nat → Bool) : Prop := ∀ V, V < N → o_is (aJ h B V) (a 0 * a 1) (F V)
set_option maxHeartbeats 1000000 in
theorem c80 (g : i_CO a t h) {W m d k B C : Nat} {X : Int64} {P : Nat → Bool} {G : Nat → Nat → Bool} (b : o_nB h B C) (gk : o_gok a W m h) (hd : d ≤ 4) (hk : k < 256) (hX : o_is X (a 0 * a 1) P) (hG : o_rw a h C 256 G) (H : ∀ h2, i_CO a t h2 → i_Fr [117, 118] [] h h2 → (∀ q, q ≠ C → aJ h2 q = aJ h q) → o_rw a h2 C 256 (fun V c => G V c || (P c && (k ||| o_gn a W d m c) == V)) → Q none h2) : i_C i_MT i_AT L xs 80 [.ref 108, .int (i_n d), .int (i_n k), .long X] h Q := by
  have h5 := g.w.2.2.2.2.1
  have h48 := g.w.c48
  have nb := b.ne
  have key : ∀ j, j ≤ a 0 * a 1 → ∀ h1, i_CO a t h1 → i_Fr [C] [] h h1 → o_rw a h1 C 256 (fun V c => G V c || (decide (c < j) && (P c && (k ||| o_gn a W d m c) == V))) → i_P i_MT i_AT L xs 80 3 [some (.ref 108), some (.int (i_n d)), some (.int (i_n k)), some (.long X), none, some (.int (i_n j))] [] h1 0 0 Q := by
    have done : ∀ j h1, i_CO a t h1 → i_Fr [C] [] h h1 → o_rw a h1 C 256 (fun V c => G V c || (decide (c < j) && (P c && (k ||| o_gn a W d m c) == V))) → (∀ c, c < a 0 * a 1 → P c = true → c < j) → i_P i_MT i_AT L xs 80 65 [some (.ref 108), some (.int (i_n d)), some (.int (i_n k)), some (.long X), none, some (.int (i_n j))] [] h1 0 0 Q := by
      intro j h1 g1 f1 hr hp
      refine d80_65 g1.l (H h1 g1 (f1.mono (fun q hq => by simp only [List.mem_cons, List.not_mem_nil, or_false] at hq ⊢; omega) (fun _ z => z)) (fun q hq => f1.rJ (by simp; exact hq)) (fun V hV => (hr V hV).congr (fun c hc => ?_)))
      dsimp only
      cases hpc : P c with
      | false => rw [Bool.false_and, Bool.and_false]
      | true => rw [decide_eq_true (hp c hc hpc), Bool.true_and]
    refine l_up ?_ ?_
    · intro h1 g1 f1 hr
      refine d80_3 g1.l ?_
      rw [g1.2.1.1.2.2]
      try simp (disch := omega) only [n_lit, n_m, n_add, n_mul, n_div, n_mod, n_cl, n_lt, n_le, n_eq, n_in, n_eqm, n_meq, n_mlt, n_ltm, n_mle, n_lem, not_true_eq_false, not_false_eq_true, true_implies, false_implies, true_and, and_true, Nat.not_lt_zero, Nat.zero_le, Nat.le_refl]
      exact done _ h1 g1 f1 hr (fun c hc _ => hc)
    · intro j hj ih h1 g1 f1 hr
      have gl := o_gn_lt h5 (W := W) (d := d) (m := m) (c := j)
      have kg := o_or256 hk gl
      have b1 := b.fr f1 (by simp) (by simp)
      have nx : ∀ h2, i_CO a t h2 → i_Fr [C] [] h h2 → o_rw a h2 C 256 (fun V c => G V c || (decide (c < j + 1) && (P c && (k ||| o_gn a W d m c) == V))) → i_P i_MT i_AT L xs 80 59 [some (.ref 108), some (.int (i_n d)), some (.int (i_n k)), some (.long X), none, some (.int (i_n j))] [] h2 0 0 Q := by
        intro h2 g2 f2 hr2
        refine d80_59 g2.l ?_
        try simp (disch := omega) only [n_lit, n_m, n_add, n_mul, n_div, n_mod, n_cl, n_lt, n_le, n_eq, n_in, n_eqm, n_meq, n_mlt, n_ltm, n_mle, n_lem, not_true_eq_false, not_false_eq_true, true_implies, false_implies, true_and, and_true, Nat.not_lt_zero, Nat.zero_le]
        exact ih h2 g2 f2 hr2
      refine d80_3 g1.l ?_
      rw [g1.2.1.1.2.2]
      try simp (disch := omega) only [n_lit, n_m, i_bo01, j_cmpn, Classical.not_not, n_add, n_mul, n_div, n_mod, n_cl, n_lt, n_le, n_eq, n_in, n_eqm, n_meq, n_mlt, n_ltm, n_mle, n_lem, not_true_eq_false, not_false_eq_true, true_implies, false_implies, true_and, and_true, Nat.not_lt_zero, Nat.zero_le]
      refine ⟨fun e => by omega, fun _ => ⟨fun e => ?_, fun e => c193 (by omega) ⟨_, rfl, d80_30 g1.l ?_⟩⟩⟩
      · have hX0 := (hX.s0 (by omega)).mp e
        exact done j h1 g1 f1 hr (fun c hc hp => absurd ((o_or_t (a 0 * a 1)).mpr ⟨c, hc, hp⟩) (by rw [hX0]; decide))
      · rw [hX.b hj (by omega)]
        try simp (disch := omega) only [n_lit, n_m, i_bo01, j_cmpn, Classical.not_not, n_add, n_mul, n_div, n_mod, n_cl, n_lt, n_le, n_eq, n_in, n_eqm, n_meq, n_mlt, n_ltm, n_mle, n_lem, not_true_eq_false, not_false_eq_true, true_implies, false_implies, true_and, and_true, Nat.not_lt_zero, Nat.zero_le]
        have e119 : aI h1 119 (d * 48 + j) = i_n (o_gn a W d m j) := by rw [f1.rI (by simp; omega)]; exact (gk d hd).1 j hj
        refine ⟨fun e2 => nx h1 g1 f1 (fun V hV => (hr V hV).congr (fun c hc => ?_)), fun e2 => ⟨C, b1.f11 g1.l, by omega, ?_⟩⟩
        · have : P j = false := by simpa using e2
          dsimp only
          by_cases ec : c = j
          · subst ec; rw [this]; simp
          · have : decide (c < j + 1) = decide (c < j) := by
              by_cases q : c < j
              · rw [decide_eq_true q, decide_eq_true (by omega)]
              · rw [decide_eq_false q, decide_eq_false (by omega)]
            rw [this]
        · rw [e119]
          try simp (disch := omega) only [n_lit, n_m, n_add, n_mul, n_div, n_mod, n_cl, n_lt, n_le, n_eq, n_in, n_eqm, n_meq, n_mlt, n_ltm, n_mle, n_lem, not_true_eq_false, not_false_eq_true, true_implies, false_implies, true_and, and_true, Nat.not_lt_zero, Nat.zero_le, n_or]
          refine ⟨256, aJ h1 C, (b1.aB g1.l).2, by omega, 256, aJ h1 C, (b1.aB g1.l).2, by omega, ?_⟩
          have fr : i_Fr [C] [] h1 (i_siJ h1 C (k ||| o_gn a W d m j) (aJ h1 C (k ||| o_gn a W d m j) ||| ((1 : Int64) <<< ((i_n j).toInt64 &&& (63 : Int64))))) := i_Fr.refl.siJ List.mem_cons_self
          have g2 := g1.fp fr g1.l.siJ (fun q hq => by simp only [List.mem_cons, List.not_mem_nil, or_false] at hq; omega) (fun _ e => absurd e (by simp))
          refine nx _ g2 (f1.trans fr) (fun V hV => ?_)
          by_cases eV : V = k ||| o_gn a W d m j
          · rw [eV, i_siJ_at (b1.aB g1.l).2]
            refine ((hr _ kg).or (o_is.one hj (by omega))).congr (fun c hc => ?_)
            dsimp only
            by_cases ec : c = j
            · subst ec; simp [e2]
            · have h3 : decide (c < j + 1) = decide (c < j) := by
                by_cases q : c < j
                · rw [decide_eq_true q, decide_eq_true (by omega)]
                · rw [decide_eq_false q, decide_eq_false (by omega)]
              have h4 : (c == j) = false := by simpa using ec
              rw [h3, h4, Bool.or_false]
          · rw [i_siJ_no (b1.aB g1.l).2 eV]
            refine (hr V hV).congr (fun c hc => ?_)
            dsimp only
            by_cases ec : c = j
            · subst ec
              have h4 : ((k ||| o_gn a W d m c) == V) = false := by simpa using (fun z => eV z.symm)
              rw [h4]; simp
            · have h3 : decide (c < j + 1) = decide (c < j) := by
                by_cases q : c < j
                · rw [decide_eq_true q, decide_eq_true (by omega)]
                · rw [decide_eq_false q, decide_eq_false (by omega)]
              rw [h3]
  refine e80 (d80_0 g.l ?_)
  try simp (disch := omega) only [n_lit, n_m, n_add, n_mul, n_div, n_mod, n_cl, n_lt, n_le, n_eq, n_in, n_eqm, n_meq, n_mlt, n_ltm, n_mle, n_lem, not_true_eq_false, not_false_eq_true, true_implies, false_implies, true_and, and_true, Nat.not_lt_zero, Nat.zero_le]
  refine key 0 (Nat.zero_le _) h g i_Fr.refl (fun V hV => (hG V hV).congr (fun c hc => ?_))
  dsimp only
  rw [decide_eq_false (Nat.not_lt_zero c), Bool.false_and, Bool.or_false]
set_option maxHeartbeats 2000000 in
theorem o_mrg (G O C U : Bool) (V k n : Nat) : (G || O || V == k && (C && U && !(n != 0)) || C && U && (n != 0) && (k ||| n) == V) = (G || (O || C && (U && (k ||| n) == V))) := by
  by_cases e : n = 0
  · subst e
    have : (V == k) = (k == V) := by rw [Bool.eq_iff_iff, beq_iff_eq, beq_iff_eq]; exact eq_comm
    cases G <;> cases O <;> cases C <;> cases U <;> simp [this]
  · have : (n != 0) = true := by simpa using e
    cases G <;> cases O <;> cases C <;> cases U <;> simp [this, e]
theorem c79 (g : i_CO a t h) {p m d B C : Nat} {X : Int64} {F G : Nat → Nat → Bool} (hp : p < a 5) (b : o_nB h B C) (gk : o_gok a (a (158 + 5 * p)) m h) (hd : d = 0 ∨ d = 1 ∨ d = 2 ∨ d = 4) (hX : o_ia X (a 0 * a 1) (fun c => o_uns a p c d m)) (hF : o_rw a h B 256 F) (hG : o_rw a h C 256 G) (H : ∀ h2, i_CO a t h2 → i_Fr [117, 118] [] h h2 → (∀ q, q ≠ C → aJ h2 q = aJ h q) → o_rw a h2 C 256 (fun V c => G V c || o_s1 a p m F d V c) → Q none h2) : i_C i_MT i_AT L xs 79 [.ref 108, .int (i_n d), .long X] h Q := by
  have h5 := g.w.2.2.2.2.1
  have h48 := g.w.c48
  have nb := b.ne
  have hBC : C ≠ B := fun e => nb.1 e.symm
  have key : ∀ k, k ≤ 256 → ∀ h1, i_CO a t h1 → i_Fr [117, 118] [] h h1 → (∀ q, q ≠ C → aJ h1 q = aJ h q) → o_rw a h1 C 256 (fun V c => G V c || o_or (fun V2 => o_cm a F d V2 c && (o_uns a p c d m && (V2 ||| o_gn a (a (158 + 5 * p)) d m c) == V)) k) → ∀ (y5 y6 y7 : Option Value), i_P i_MT i_AT L xs 79 3 [some (.ref 108), some (.int (i_n d)), some (.long X), none, some (.int (i_n k)), y5, y6, y7] [] h1 0 0 Q := by
    refine l_up ?_ ?_
    · intro h1 g1 f1 fo hr y5 y6 y7
      refine d79_3 g1.l ?_
      try simp (disch := omega) only [n_lit, n_m, n_add, n_mul, n_div, n_mod, n_cl, n_lt, n_le, n_eq, n_in, n_eqm, n_meq, n_mlt, n_ltm, n_mle, n_lem, not_true_eq_false, not_false_eq_true, true_implies, false_implies, true_and, and_true, Nat.not_lt_zero, Nat.zero_le, Nat.le_refl]
      exact H h1 g1 f1 fo hr
    · intro k hk ih h1 g1 f1 fo hr y5 y6 y7
      have b1 := b.fr f1 (by simp) (by simp)
      have eB : aJ h1 B = aJ h B := fo B nb.1
      have gk1 : o_gok a (a (158 + 5 * p)) m h1 := by
        unfold o_gok
        rw [f1.rI (by decide), f1.rJ (by decide)]; exact gk
      have nx : ∀ h2, i_CO a t h2 → i_Fr [117, 118] [] h h2 → (∀ q, q ≠ C → aJ h2 q = aJ h q) → o_rw a h2 C 256 (fun V c => G V c || o_or (fun V2 => o_cm a F d V2 c && (o_uns a p c d m && (V2 ||| o_gn a (a (158 + 5 * p)) d m c) == V)) (k + 1)) → ∀ (y5 y6 y7 : Option Value), i_P i_MT i_AT L xs 79 114 [some (.ref 108), some (.int (i_n d)), some (.long X), none, some (.int (i_n k)), y5, y6, y7] [] h2 0 0 Q := by
        intro h2 g2 f2 fo2 hr2 y5 y6 y7
        refine d79_114 g2.l ?_
        try simp (disch := omega) only [n_lit, n_m, n_add, n_mul, n_div, n_mod, n_cl, n_lt, n_le, n_eq, n_in, n_eqm, n_meq, n_mlt, n_ltm, n_mle, n_lem, not_true_eq_false, not_false_eq_true, true_implies, false_implies, true_and, and_true, Nat.not_lt_zero, Nat.zero_le]
        exact ih h2 g2 f2 fo2 hr2 _ _ _
      have hFk := hF k (by omega)
      -- the cells come to
      have came : ∀ (S : Int64), o_is S (a 0 * a 1) (o_cm a F d k) → ∀ (y5 : Int32), ∀ (y6 y7 : Option Value), i_P i_MT i_AT L xs 79 71 [some (.ref 108), some (.int (i_n d)), some (.long X), none, some (.int (i_n k)), some (.int y5), y6, y7] [.long S] h1 0 0 Q := by
        intro S hS y5 y6 y7
        refine d79_71 g1.l ⟨C, b1.f11 g1.l, 256, aJ h1 C, (b1.aB g1.l).2, ?_⟩
        have hSX := hS.ia hX
        have g120 := (gk1 d (by omega)).2
        try simp (disch := omega) only [n_lit, n_m, n_add, n_mul, n_div, n_mod, n_cl, n_lt, n_le, n_eq, n_in, n_eqm, n_meq, n_mlt, n_ltm, n_mle, n_lem, not_true_eq_false, not_false_eq_true, true_implies, false_implies, true_and, and_true, Nat.not_lt_zero, Nat.zero_le]
        refine ⟨by omega, by omega, 256, aJ h1 C, (b1.aB g1.l).2, by omega, ?_⟩
        have fr : i_Fr [C] [] h1 (i_siJ h1 C k (aJ h1 C k ||| ((S &&& X) &&& (aJ h1 120 d ^^^ (-1 : Int64))))) := i_Fr.refl.siJ List.mem_cons_self
        have frb : i_Fr [117, 118] [] h1 (i_siJ h1 C k (aJ h1 C k ||| ((S &&& X) &&& (aJ h1 120 d ^^^ (-1 : Int64))))) := fr.mono (fun q hq => by simp only [List.mem_cons, List.not_mem_nil, or_false] at hq ⊢; omega) (fun _ z => z)
        have g2 := g1.fp frb g1.l.siJ (by decide) (by decide)
        have hr2 : o_rw a (i_siJ h1 C k (aJ h1 C k ||| ((S &&& X) &&& (aJ h1 120 d ^^^ (-1 : Int64))))) C 256 (fun V c => (G V c || o_or (fun V2 => o_cm a F d V2 c && (o_uns a p c d m && (V2 ||| o_gn a (a (158 + 5 * p)) d m c) == V)) k) || (V == k && ((o_cm a F d k c && o_uns a p c d m) && !(o_gn a (a (158 + 5 * p)) d m c != 0)))) := by
          intro V hV
          by_cases eV : V = k
          · subst eV
            rw [i_siJ_at (b1.aB g1.l).2]
            refine ((hr V hV).or (hSX.andn g120)).congr (fun c hc => ?_)
            dsimp only
            rw [show (V == V) = true by simp, Bool.true_and]
          · rw [i_siJ_no (b1.aB g1.l).2 eV]
            refine (hr V hV).congr (fun c hc => ?_)
            dsimp only
            rw [show (V == k) = false by simpa using eV, Bool.false_and, Bool.or_false]
        have fo2 : ∀ q, q ≠ C → aJ (i_siJ h1 C k (aJ h1 C k ||| ((S &&& X) &&& (aJ h1 120 d ^^^ (-1 : Int64))))) q = aJ h q := fun q hq => by rw [fr.rJ (by simp; exact hq)]; exact fo q hq
        have e120 : aJ (i_siJ h1 C k (aJ h1 C k ||| ((S &&& X) &&& (aJ h1 120 d ^^^ (-1 : Int64))))) 120 = aJ h1 120 := fr.rJ (by simp; omega)
        have gk2 := gk1.fr frb (by decide)
        have b2 := b1.fr frb (by simp) (by simp)
        have f2 := f1.trans frb
        generalize i_siJ h1 C k (aJ h1 C k ||| ((S &&& X) &&& (aJ h1 120 d ^^^ (-1 : Int64)))) = h2 at g2 hr2 fo2 e120 gk2 b2 f2 ⊢
        refine d79_98 g2.l ?_
        try simp (disch := omega) only [n_lit, n_m, n_add, n_mul, n_div, n_mod, n_cl, n_lt, n_le, n_eq, n_in, n_eqm, n_meq, n_mlt, n_ltm, n_mle, n_lem, not_true_eq_false, not_false_eq_true, true_implies, false_implies, true_and, and_true, Nat.not_lt_zero, Nat.zero_le]
        rw [e120]
        refine ⟨by omega, c80 g2 b2 gk2 (by omega) (by omega) (hSX.and g120) hr2 (fun h3 g3 f3 fo3 hr3 => ⟨rfl, nx h3 g3 (f2.trans f3) (fun q hq => (fo3 q hq).trans (fo2 q hq)) (fun V hV => (hr3 V hV).congr (fun c hc => ?_)) _ _ _⟩)⟩
        dsimp only
        rw [o_or]
        generalize o_or (fun V2 => o_cm a F d V2 c && (o_uns a p c d m && (V2 ||| o_gn a (a (158 + 5 * p)) d m c) == V)) k = O
        exact o_mrg _ _ _ _ _ _ _
      refine d79_3 g1.l ?_
      try simp (disch := omega) only [n_lit, n_m, i_bo01, j_cmpn, Classical.not_not, n_add, n_mul, n_div, n_mod, n_cl, n_lt, n_le, n_eq, n_in, n_eqm, n_meq, n_mlt, n_ltm, n_mle, n_lem, not_true_eq_false, not_false_eq_true, true_implies, false_implies, true_and, and_true, Nat.not_lt_zero, Nat.zero_le]
      refine ⟨fun e => by omega, fun _ => ⟨B, b1.f10 g1.l, 256, aJ h1 B, (b1.aB g1.l).1, by omega, ?_⟩⟩
      rw [eB]
      refine ⟨fun e => nx h1 g1 f1 fo (fun V hV => (hr V hV).congr (fun c hc => ?_)) _ _ _, fun e => ?_⟩
      · have z := (hFk.s0 (by omega)).mp e
        dsimp only
        rw [o_or]
        have zc : o_cm a F d k c = false := by
          rw [← Bool.not_eq_true]
          intro q
          unfold o_cm at q
          split at q
          · rw [(o_or_t (a 0 * a 1)).mpr ⟨c, hc, q⟩] at z; cases z
          · rw [o_bes_t] at q
            obtain ⟨-, b2, q1, q2, -⟩ := q
            rw [(o_or_t (a 0 * a 1)).mpr ⟨b2, q1, q2⟩] at z; cases z
        rw [zc, Bool.false_and, Bool.or_false]
      · have stay : (d = 0 ∨ d = 4) → ∀ (y5 y6 y7 : Option Value), i_P i_MT i_AT L xs 79 32 [some (.ref 108), some (.int (i_n d)), some (.long X), none, some (.int (i_n k)), y5, y6, y7] [] h1 0 0 Q := by
          intro ed y5 y6 y7
          refine d79_32 g1.l (d79_37 g1.l ⟨fun q => absurd q (by decide), fun _ => ⟨B, b1.f10 g1.l, 256, aJ h1 B, (b1.aB g1.l).1, (n_in (by omega)).mpr (by omega), ?_⟩⟩)
          rw [n_cl (by omega), eB]
          exact came _ (hFk.congr (fun c _ => by unfold o_cm; rw [if_pos ed])) _ _ _
        refine ⟨fun e2 => stay (Or.inl e2) _ _ _, fun e2 => ⟨fun e3 => ?_, fun e3 => stay (Or.inr e3) _ _ _⟩⟩
        refine d79_37 g1.l ⟨fun _ => ⟨B, b1.f10 g1.l, 256, aJ h1 B, (b1.aB g1.l).1, (n_in (by omega)).mpr (by omega), ?_⟩, fun q => absurd rfl q⟩
        rw [n_cl (by omega), eB]
        refine c23 g1.l g1.w g1.2.1 hFk (fun s2 e4 => ⟨_, rfl, came _ (e4.congr (fun c _ => ?_)) _ _ _⟩)
        unfold o_cm
        rw [if_neg (fun q => q.elim e2 e3)]
  refine e79 (d79_0 g.l ?_)
  try simp (disch := omega) only [n_lit, n_m, n_add, n_mul, n_div, n_mod, n_cl, n_lt, n_le, n_eq, n_in, n_eqm, n_meq, n_mlt, n_ltm, n_mle, n_lem, not_true_eq_false, not_false_eq_true, true_implies, false_implies, true_and, and_true, Nat.not_lt_zero, Nat.zero_le]
  refine key 0 (by omega) h g i_Fr.refl (fun _ _ => rfl) (fun V hV => (hG V hV).congr (fun c hc => ?_)) _ _ _
  dsimp only
  rw [show o_or (fun V2 => o_cm a F d V2 c && (o_uns a p c d m && (V2 ||| o_gn a (a (158 + 5 * p)) d m c) == V)) 0 = false from rfl, Bool.or_false]
end
