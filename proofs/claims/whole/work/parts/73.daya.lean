/-! LONGS OF NATURALS; FRACTIONS -/
section
variable {L : Nat} {xs : Nat → Int32} {h : iH} {Q : Option Value → iH → Prop} {a : Nat → Nat} {t : Nat}
set_option maxRecDepth 20000
def i_j (n : Nat) : Int64 := Int64.ofNat n
theorem jj_n {n : Nat} (h : n < 2147483648) : (i_n n).toInt64 = i_j n := Int32.toInt64_ofNat' (by show (n : Int) ≤ 2147483647; omega)
theorem jj_add (x y : Nat) : i_j x + i_j y = i_j (x + y) := (Int64.ofNat_add x y).symm
theorem jj_mul (x y : Nat) : i_j x * i_j y = i_j (x * y) := (Int64.ofNat_mul x y).symm
theorem jj_sub {x y : Nat} (h : y ≤ x) : i_j x - i_j y = i_j (x - y) := (Int64.ofNat_sub x y h).symm
theorem jj_div {x y : Nat} (hx : x < 9223372036854775808) (hy : y < 9223372036854775808) : i_j x / i_j y = i_j (x / y) := (Int64.ofNat_div hx hy).symm
theorem jj_mod {x y : Nat} (hx : x < 9223372036854775808) (hy : y < 9223372036854775808) : i_j x - i_j x / i_j y * i_j y = i_j (x % y) := by
  rw [jj_div hx hy, jj_mul, jj_sub (Nat.div_mul_le_self x y)]
  congr 1
  have := Nat.div_add_mod x y
  rw [Nat.mul_comm] at this
  omega
theorem jj_toInt {x : Nat} (hx : x < 9223372036854775808) : (i_j x).toInt = x := Int64.toInt_ofNat_of_lt hx
theorem jj_eq {x y : Nat} (hx : x < 9223372036854775808) (hy : y < 9223372036854775808) : i_j x = i_j y ↔ x = y := by
  constructor
  · intro z
    have := congrArg Int64.toInt z
    rw [jj_toInt hx, jj_toInt hy] at this
    omega
  · intro z; rw [z]
theorem jj_lt {x y : Nat} (hx : x < 9223372036854775808) (hy : y < 9223372036854775808) : i_j x < i_j y ↔ x < y := Int64.ofNat_lt_iff_lt hx hy
theorem jj_le {x y : Nat} (hx : x < 9223372036854775808) (hy : y < 9223372036854775808) : i_j x ≤ i_j y ↔ x ≤ y := Int64.ofNat_le_iff_le hx hy
theorem jj_0 : (0 : Int64) = i_j 0 := rfl
/-- the fraction told: n of d -/
def o_top (n d : Nat) : Int64 := i_j (n / Nat.gcd n d)
def o_bot (n d : Nat) : Int64 := i_j (d / Nat.gcd n d)
theorem gcd_step (x y : Nat) : Nat.gcd y (x % y) = Nat.gcd x y := by
  rw [Nat.gcd_comm x y, Nat.gcd_rec y x, Nat.gcd_comm]
theorem n_ne0 {k : Nat} (hk : k < 2147483648) : i_n k = i_n 0 ↔ k = 0 := n_eq hk (by omega)
abbrev i_FT (h h2 : iH) : Prop := i_Fr [] [(0, 1), (0, 2)] h h2
theorem c185 (hL : i_Lay h) {n d : Nat} (hn : n ≤ 30) (hd : 1 ≤ d ∧ d ≤ 30) (H : ∀ h2, i_Lay h2 → i_FT h h2 → fJ h2 0 1 = o_top n d → fJ h2 0 2 = o_bot n d → Q none h2) : i_C i_MT i_AT L xs 185 [.ref 0, .int (i_n n), .int (i_n d)] h Q := by
  have hg : 0 < Nat.gcd n d := Nat.gcd_pos_of_pos_right n (by omega)
  have hgd : Nat.gcd n d ≤ 30 := Nat.le_trans (Nat.le_of_dvd (by omega) (Nat.gcd_dvd_right n d)) hd.2
  have fin : ∀ (k : Nat) (y6 : Option Value), i_P i_MT i_AT L xs 185 39 [some (.ref 0), some (.int (i_n n)), some (.int (i_n d)), some (.int (i_n (Nat.gcd n d))), some (.int 0), some (.int (i_n k)), y6] [] h 0 0 Q := by
    intro k y6
    refine d185_39 hL ?_
    try simp (disch := omega) only [n_lit, n_m, n_add, n_mul, n_div, n_mod, n_cl, n_lt, n_le, n_eq, n_in, n_eqm, n_meq, n_mlt, n_ltm, n_mle, n_lem, not_true_eq_false, not_false_eq_true, true_implies, false_implies, true_and, and_true, Nat.not_lt_zero, Nat.zero_le]
    refine ⟨fun z => by omega, fun _ => ⟨by omega, ?_⟩⟩
    have hL2 : i_Lay (i_sf h 0 1 (.long (i_n (n / Nat.gcd n d)).toInt64)) := hL.sf hL.q0_1 rfl
    refine d185_51 hL2 ?_
    try simp (disch := omega) only [n_lit, n_m, n_add, n_mul, n_div, n_mod, n_cl, n_lt, n_le, n_eq, n_in, n_eqm, n_meq, n_mlt, n_ltm, n_mle, n_lem, not_true_eq_false, not_false_eq_true, true_implies, false_implies, true_and, and_true, Nat.not_lt_zero, Nat.zero_le]
    have hL3 : i_Lay (i_sf (i_sf h 0 1 (.long (i_n (n / Nat.gcd n d)).toInt64)) 0 2 (.long (i_n (d / Nat.gcd n d)).toInt64)) := hL2.sf hL2.q0_2 rfl
    have F : i_Fr [] [(0, 2)] (i_sf h 0 1 (.long (i_n (n / Nat.gcd n d)).toInt64)) (i_sf (i_sf h 0 1 (.long (i_n (n / Nat.gcd n d)).toInt64)) 0 2 (.long (i_n (d / Nat.gcd n d)).toInt64)) := i_Fr.refl.sf (by decide)
    have b1 : n / Nat.gcd n d ≤ n := Nat.div_le_self _ _
    have b2 : d / Nat.gcd n d ≤ d := Nat.div_le_self _ _
    refine ⟨by omega, d185_59 hL3 (H _ hL3 ((i_Fr.refl.sf (by decide)).sf (by decide)) ?_ ?_)⟩
    · rw [F.vJ (by decide), x_fJ_sf hL.q0_1, jj_n (by omega)]; rfl
    · rw [x_fJ_sf hL2.q0_2, jj_n (by omega)]; rfl
  have key : ∀ k, k ≤ 30 → ∀ (x y : Nat), x ≤ 30 → y ≤ 30 - k → Nat.gcd x y = Nat.gcd n d → ∀ (y6 : Option Value), i_P i_MT i_AT L xs 185 8 [some (.ref 0), some (.int (i_n n)), some (.int (i_n d)), some (.int (i_n x)), some (.int (i_n y)), some (.int (i_n k)), y6] [] h 0 0 Q := by
    refine l_up ?_ ?_
    · intro x y hx hy hxy y6
      refine d185_8 hL ?_
      have y0 : y = 0 := by omega
      subst y0
      rw [Nat.gcd_zero_right] at hxy
      subst hxy
      try simp (disch := omega) only [n_lit, n_m, n_add, n_mul, n_div, n_mod, n_cl, n_lt, n_le, n_eq, n_in, n_eqm, n_meq, n_mlt, n_ltm, n_mle, n_lem, not_true_eq_false, not_false_eq_true, true_implies, false_implies, true_and, and_true, Nat.not_lt_zero, Nat.zero_le, Nat.le_refl]
      exact fin 30 _
    · intro k hk ih x y hx hy hxy y6
      refine d185_8 hL ?_
      try simp (disch := omega) only [n_lit, n_m, n_add, n_mul, n_div, n_mod, n_cl, n_lt, n_le, n_eq, n_in, n_eqm, n_meq, n_mlt, n_ltm, n_mle, n_lem, not_true_eq_false, not_false_eq_true, true_implies, false_implies, true_and, and_true, Nat.not_lt_zero, Nat.zero_le]
      refine ⟨fun z => by omega, fun _ => ⟨fun z => ?_, fun z => ⟨z, ?_⟩⟩⟩
      · subst z
        rw [Nat.gcd_zero_right] at hxy
        subst hxy
        exact fin k _
      · have := Nat.mod_lt x (show y > 0 by omega)
        exact ih y (x % y) (by omega) (by omega) ((gcd_step x y).trans hxy) _
  -- the first step by hand: the rest is at most 30 behind it
  refine e185 (d185_0 hL ?_)
  try simp (disch := omega) only [n_lit, n_m, n_add, n_mul, n_div, n_mod, n_cl, n_lt, n_le, n_eq, n_in, n_eqm, n_meq, n_mlt, n_ltm, n_mle, n_lem, not_true_eq_false, not_false_eq_true, true_implies, false_implies, true_and, and_true, Nat.not_lt_zero, Nat.zero_le]
  exact key 0 (by omega) n d hn (by omega) rfl _
/-! DAYS AS THE CLASS IS ASKED -/
abbrev v_s (x : Int32) : Prop := 0 ≤ x ∧ x ≤ i_n 9999
abbrev dyA : List Nat := 135 :: fsA
abbrev dyF : List (Nat × Nat) := (134, 0) :: (134, 1) :: (134, 2) :: (134, 4) :: fsF
theorem c173 (g : i_ST a t h) {x : Int32} (H1 : ¬ v_s x → i_K0 a t h Q (-1, 1)) (H2 : ∀ s, x = i_n s → s ≤ 9999 → ∀ h2, i_ST a t h2 → i_Fr dyA dyF h h2 → fI h2 0 0 = 0 → fI h2 134 0 = i_n (a 5) → fI h2 134 2 = i_n (o_hid a (o_day a s)) → (∀ p, p < 8 → aI h2 135 p = i_n ((o_day a s).2.2 p)) → Q (some (.int (i_n (o_day a s).2.1))) h2) : i_C i_MT i_AT L xs 173 [.ref 0, .int x] h Q := by
  refine e173 (d173_0 g.l (c192 ⟨_, rfl, d173_8 g.l ?_⟩))
  rw [i_bo_0, Classical.not_not]
  refine ⟨fun z => ?_, fun z => m179 g (fun h2 g2 f2 s2 => ⟨_, rfl, d173_16 g2.l (H1 z h2 g2 f2 s2)⟩)⟩
  obtain ⟨s, hs, rfl⟩ := n_gle (k := 9999) z (by omega)
  refine c17 g.1 (y := 134) (Or.inl rfl) (by omega) (fun h1 g1 f1 e0 ey e2 => ⟨rfl, d173_29 g1.l ?_⟩)
  rw [ey.2.1]
  have G1 : i_ST a t h1 := ⟨g1, by rw [f1.vR (by decide)]; exact g.2⟩
  refine m181 G1 (fun h2 g2 f2 s2 => ⟨_, rfl, d173_40 g2.l (H2 s rfl hs h2 g2 ((f1.mono (by decide) (by decide)).trans (f2.mono (by decide) (by decide))) s2 ?_ ?_ ?_)⟩)
  · rw [f2.vI (by decide)]; exact e0
  · rw [f2.vI (by decide)]; exact e2
  · rw [f2.rI (by decide)]; exact ey.2.2
def o_sawA (n : Int32) (s : Nat → Int32) (x : Int32) : Int32 × Int32 := if 0 ≤ x ∧ x ≤ 7 then (if n ≤ x then (-1, 6) else (s x.toNatClampNeg, 0)) else (-1, 1)
def o_cauA (n c : Int32) : Int32 × Int32 := if n = -1 then (-1, 6) else (c, 0)
theorem c174 (g : i_ST a t h) {x : Int32} (H : i_K0 a t h Q (o_sawA (fI h 134 0) (aI h 135) x)) : i_C i_MT i_AT L xs 174 [.ref 0, .int x] h Q := by
  unfold o_sawA at H
  refine e174 (d174_0 g.l (c192 ⟨_, rfl, d174_7 g.l ?_⟩))
  rw [i_bo_0, Classical.not_not]
  refine ⟨fun z => ⟨fun z2 => ?_, fun z2 => m179 g (fun h2 g2 f2 s2 => ⟨_, rfl, d174_33 g2.l ?_⟩)⟩, fun z => m179 g (fun h2 g2 f2 s2 => ⟨_, rfl, d174_15 g2.l ?_⟩)⟩
  · rw [if_pos z, if_neg (Int32.not_le.mpr z2)] at H
    obtain ⟨p, hp, rfl⟩ := n_gle (k := 7) z (by omega)
    exact ⟨(n_in (by omega)).mpr (by omega), m181 g (fun h2 g2 f2 s2 => ⟨_, rfl, d174_47 g2.l (H h2 g2 f2 s2)⟩)⟩
  · rw [if_pos z, if_pos (Int32.not_lt.mp z2)] at H
    exact H h2 g2 f2 s2
  · rw [if_neg z] at H
    exact H h2 g2 f2 s2
theorem c175 (g : i_ST a t h) (H : i_K0 a t h Q (o_cauA (fI h 134 0) (fI h 134 2))) : i_C i_MT i_AT L xs 175 [.ref 0] h Q := by
  unfold o_cauA at H
  refine e175 (d175_0 g.l ⟨fun z => m181 g (fun h2 g2 f2 s2 => ⟨_, rfl, d175_31 g2.l ?_⟩), fun z => m179 g (fun h2 g2 f2 s2 => ⟨_, rfl, d175_17 g2.l (d175_31 g2.l ?_)⟩)⟩)
  · rw [if_neg z] at H; exact H h2 g2 f2 s2
  · rw [if_pos (Classical.not_not.mp z)] at H; exact H h2 g2 f2 s2
/-- in how many of these days nobody who hides is seen -/
def o_saf (a : Nat → Nat) (s : Nat) (k : Nat) : Nat := o_cn0 (fun i => o_hid a (o_day a (s + i)) == 0) k
abbrev v_sf (x y : Int32) : Prop := (1 ≤ y ∧ y ≤ 30) ∧ v_s x ∧ x.toNatClampNeg + y.toNatClampNeg ≤ 10000
theorem c176 (g : i_ST a t h) {x y : Int32} (H1 : ¬ v_sf x y → ∀ h2, i_ST a t h2 → i_F0 h h2 → fI h2 0 0 = 1 → Q (some (.int 0)) h2) (H2 : ∀ s m, x = i_n s → y = i_n m → v_sf x y → ∀ h2, i_ST a t h2 → i_Fr fsA ((0, 1) :: (0, 2) :: fsF) h h2 → fI h2 0 0 = 0 → fJ h2 0 1 = o_top (o_saf a s m) m → fJ h2 0 2 = o_bot (o_saf a s m) m → Q (some (.int 1)) h2) : i_C i_MT i_AT L xs 176 [.ref 0, .int x, .int y] h Q := by
  have bad : ¬ v_sf x y → ∀ (y3 y4 : Option Value), i_P i_MT i_AT L xs 176 23 [some (.ref 0), some (.int x), some (.int y), y3, y4] [] h 0 0 Q := by
    intro z y3 y4
    exact d176_23 g.l (m180 g (fun h2 g2 f2 s2 => ⟨_, rfl, d176_28 g2.l ⟨rfl, H1 z h2 g2 f2 s2⟩⟩))
  refine e176 (d176_0 g.l (c192 ⟨_, rfl, d176_7 g.l ?_⟩))
  rw [i_bo_0, Classical.not_not]
  refine ⟨fun z => bad (fun q => z q.1) _ _, fun z => ?_⟩
  obtain ⟨m, hm1, hm, rfl⟩ := n_g1 (j := 1) (k := 30) z (by omega) (by omega)
  try simp (disch := omega) only [n_lit, n_m, n_add, n_mul, n_div, n_mod, n_cl, n_lt, n_le, n_eq, n_in, n_eqm, n_meq, n_mlt, n_ltm, n_mle, n_lem, not_true_eq_false, not_false_eq_true, true_implies, false_implies, true_and, and_true, Nat.not_lt_zero, Nat.zero_le, n_sub]
  refine c192 ⟨_, rfl, d176_20 g.l ?_⟩
  rw [i_bo_0, Classical.not_not]
  refine ⟨fun z2 => ?_, fun z2 => bad (fun q => z2 ⟨q.2.1.1, ?_⟩) _ _⟩
  · obtain ⟨s, hs, rfl⟩ := n_gle (k := 10000 - m) z2 (by omega)
    have hv : v_sf (i_n s) (i_n m) := by
      refine ⟨z, ⟨z2.1, ?_⟩, ?_⟩
      · rw [n_le (by omega) (by omega)]; omega
      · rw [n_cl (by omega), n_cl (by omega)]; omega
    have H2 := H2 s m rfl rfl hv
    have key : ∀ k, k ≤ m → ∀ h1, i_ST a t h1 → i_FS h h1 → i_P i_MT i_AT L xs 176 34 [some (.ref 0), some (.int (i_n s)), some (.int (i_n m)), some (.int (i_n (o_saf a s k))), some (.int (i_n k))] [] h1 0 0 Q := by
      refine l_up ?_ ?_
      · intro h1 g1 f1
        have hl : o_saf a s m ≤ m := o_cn0_le m
        refine d176_34 g1.l ?_
        try simp (disch := omega) only [n_lit, n_m, n_add, n_mul, n_div, n_mod, n_cl, n_lt, n_le, n_eq, n_in, n_eqm, n_meq, n_mlt, n_ltm, n_mle, n_lem, not_true_eq_false, not_false_eq_true, true_implies, false_implies, true_and, and_true, Nat.not_lt_zero, Nat.zero_le, Nat.le_refl]
        refine c185 g1.l (by omega) (by omega) (fun h2 hL2 f2 e1 e2 => ⟨rfl, ?_⟩)
        have G2 : i_ST a t h2 := g1.fr hL2 f2 (by decide) (by decide)
        refine d176_85 G2.l (m184 G2 (fun h3 g3 f3 s3 => ⟨_, rfl, d176_89 g3.l ⟨rfl, H2 h3 g3 ((f1.mono (fun _ z => z) (by decide)).trans ((f2.mono (by decide) (by decide)).trans (f3.mono (by decide) (by decide)))) s3 ?_ ?_⟩⟩))
        · rw [f3.vJ (by decide)]; exact e1
        · rw [f3.vJ (by decide)]; exact e2
      · intro k hk ih h1 g1 f1
        have hl : o_saf a s k ≤ k := o_cn0_le k
        refine d176_34 g1.l ?_
        try simp (disch := omega) only [n_lit, n_m, n_add, n_mul, n_div, n_mod, n_cl, n_lt, n_le, n_eq, n_in, n_eqm, n_meq, n_mlt, n_ltm, n_mle, n_lem, not_true_eq_false, not_false_eq_true, true_implies, false_implies, true_and, and_true, Nat.not_lt_zero, Nat.zero_le]
        refine ⟨fun z => by omega, fun _ => c17 g1.1 (y := 136) (Or.inr rfl) (by omega) (fun h2 g2 f2 e0 ey e2 => ⟨rfl, ?_⟩)⟩
        have F2 : i_FS h h2 := f1.trans (f2.mono (by decide) (by decide))
        have G2 : i_ST a t h2 := g1.fs g2 (f2.mono (by decide) (by decide))
        have hb : o_hid a (o_day a (s + k)) ≤ a 5 := o_cn0_le _
        have h5 := g.w.2.2.2.2.1
        have nx : ∀ b : Nat, b = (if (o_hid a (o_day a (s + k)) == 0) = true then 1 else 0) → i_P i_MT i_AT L xs 176 71 [some (.ref 0), some (.int (i_n s)), some (.int (i_n m)), some (.int (i_n (o_saf a s k))), some (.int (i_n k))] [.int (i_n b), .int (i_n (o_saf a s k))] h2 0 0 Q := by
          intro b hb
          refine d176_71 G2.l ?_
          try simp (disch := omega) only [n_lit, n_m, n_add, n_mul, n_div, n_mod, n_cl, n_lt, n_le, n_eq, n_in, n_eqm, n_meq, n_mlt, n_ltm, n_mle, n_lem, not_true_eq_false, not_false_eq_true, true_implies, false_implies, true_and, and_true, Nat.not_lt_zero, Nat.zero_le]
          have := ih h2 G2 F2
          unfold o_saf at this ⊢
          rw [o_cn0, ← hb] at this
          exact this
        refine d176_55 G2.l ?_
        rw [e2]
        try simp (disch := omega) only [n_lit, n_m, i_bo01, j_cmpn, Classical.not_not, n_add, n_mul, n_div, n_mod, n_cl, n_lt, n_le, n_eq, n_in, n_eqm, n_meq, n_mlt, n_ltm, n_mle, n_lem, not_true_eq_false, not_false_eq_true, true_implies, false_implies, true_and, and_true, Nat.not_lt_zero, Nat.zero_le]
        exact ⟨fun z => nx 0 (by rw [if_neg (by simpa using z)]), fun z => nx 1 (by rw [if_pos (by simpa using z)])⟩
    try simp (disch := omega) only [n_lit, n_m, n_add, n_mul, n_div, n_mod, n_cl, n_lt, n_le, n_eq, n_in, n_eqm, n_meq, n_mlt, n_ltm, n_mle, n_lem, not_true_eq_false, not_false_eq_true, true_implies, false_implies, true_and, and_true, Nat.not_lt_zero, Nat.zero_le]
    exact key 0 (Nat.zero_le _) h g i_Fr.refl
  · obtain ⟨s, hs, rfl⟩ := n_gle (k := 9999) q.2.1 (by omega)
    have := q.2.2
    rw [n_cl (by omega), n_cl (by omega)] at this
    rw [n_le (by omega) (by omega)]; omega
/-! DAYS AS THE REFERENCE HAS THEM -/
theorem c204 (r : i_RA a h) {n d : Nat} (hn : n ≤ 30) (hd : 1 ≤ d ∧ d ≤ 30) (H : ∀ h2, i_RA a h2 → i_Fr [] [(138, 4), (138, 5), (138, 6)] h h2 → fI h2 138 4 = 0 → fJ h2 138 5 = o_top n d → fJ h2 138 6 = o_bot n d → Q (some (.int 1)) h2) : i_C i_MT i_AT L xs 204 [.ref 138, .long (i_j n), .long (i_j d)] h Q := by
  have hg : 0 < Nat.gcd n d := Nat.gcd_pos_of_pos_right n (by omega)
  have hgd : Nat.gcd n d ≤ 30 := Nat.le_trans (Nat.le_of_dvd (by omega) (Nat.gcd_dvd_right n d)) hd.2
  have key : ∀ k, ∀ (x y : Nat), y ≤ k → x ≤ 30 → y ≤ 30 → Nat.gcd x y = Nat.gcd n d → ∀ (y9 y10 : Option Value), i_P i_MT i_AT L xs 204 6 [some (.ref 138), some (.long (i_j n)), none, some (.long (i_j d)), none, some (.long (i_j x)), none, some (.long (i_j y)), none, y9, y10] [] h 0 0 Q := by
    intro k
    induction k with
    | zero =>
      intro x y hk hx hy hxy y9 y10
      have y0 : y = 0 := by omega
      subst y0
      rw [Nat.gcd_zero_right] at hxy
      subst hxy
      refine d204_6 r.1 ?_
      rw [show (0 : Int64) = i_j 0 from rfl]
      try simp (disch := omega) only [n_lit, n_m, i_bo01, j_cmpn, Classical.not_not, n_add, n_mul, n_div, n_mod, n_cl, n_lt, n_le, n_eq, n_in, n_eqm, n_meq, n_mlt, n_ltm, n_mle, n_lem, not_true_eq_false, not_false_eq_true, true_implies, false_implies, true_and, and_true, Nat.not_lt_zero, Nat.zero_le, jj_eq]
      refine ⟨by omega, ?_⟩
      rw [jj_div (by omega) (by omega)]
      have hL2 : i_Lay (i_sf h 138 5 (.long (i_j (n / Nat.gcd n d)))) := r.1.sf r.1.q138_5 rfl
      refine d204_39 hL2 ?_
      rw [show (0 : Int64) = i_j 0 from rfl]
      try simp (disch := omega) only [n_lit, n_m, i_bo01, j_cmpn, Classical.not_not, n_add, n_mul, n_div, n_mod, n_cl, n_lt, n_le, n_eq, n_in, n_eqm, n_meq, n_mlt, n_ltm, n_mle, n_lem, not_true_eq_false, not_false_eq_true, true_implies, false_implies, true_and, and_true, Nat.not_lt_zero, Nat.zero_le, jj_eq]
      refine ⟨by omega, ?_⟩
      rw [jj_div (by omega) (by omega)]
      have F1 : i_Fr [] [(138, 4), (138, 5), (138, 6)] h (i_sf h 138 5 (.long (i_j (n / Nat.gcd n d)))) := i_Fr.refl.sf (by decide)
      have F2 : i_Fr [] [(138, 6)] (i_sf h 138 5 (.long (i_j (n / Nat.gcd n d)))) (i_sf (i_sf h 138 5 (.long (i_j (n / Nat.gcd n d)))) 138 6 (.long (i_j (d / Nat.gcd n d)))) := i_Fr.refl.sf (by decide)
      have hL3 : i_Lay (i_sf (i_sf h 138 5 (.long (i_j (n / Nat.gcd n d)))) 138 6 (.long (i_j (d / Nat.gcd n d)))) := hL2.sf hL2.q138_6 rfl
      have F3 := F1.trans (F2.mono (by decide) (by decide))
      have r3 := r.fr hL3 F3 (by decide)
      have e5 : fJ (i_sf (i_sf h 138 5 (.long (i_j (n / Nat.gcd n d)))) 138 6 (.long (i_j (d / Nat.gcd n d)))) 138 5 = o_top n d := by rw [F2.vJ (by decide), x_fJ_sf r.1.q138_5]; rfl
      have e6 : fJ (i_sf (i_sf h 138 5 (.long (i_j (n / Nat.gcd n d)))) 138 6 (.long (i_j (d / Nat.gcd n d)))) 138 6 = o_bot n d := by rw [x_fJ_sf hL2.q138_6]; rfl
      generalize i_sf (i_sf h 138 5 (.long (i_j (n / Nat.gcd n d)))) 138 6 (.long (i_j (d / Nat.gcd n d))) = h3 at r3 F3 e5 e6 ⊢
      refine d204_47 r3.1 (m200 r3 (fun h4 g4 f4 s4 => ⟨_, rfl, d204_52 g4.1 ⟨i_bo_ret, ?_⟩⟩))
      rw [i_bo_t rfl]
      exact H h4 g4 (F3.trans (f4.mono (by decide) (by decide))) s4 (by rw [f4.vJ (by decide)]; exact e5) (by rw [f4.vJ (by decide)]; exact e6)
    | succ k ih =>
      intro x y hk hx hy hxy y9 y10
      by_cases y0 : y = 0
      · subst y0; exact ih x 0 (by omega) hx (by omega) hxy _ _
      · have := Nat.mod_lt x (show y > 0 by omega)
        refine d204_6 r.1 ?_
        rw [show (0 : Int64) = i_j 0 from rfl]
        try simp (disch := omega) only [n_lit, n_m, i_bo01, j_cmpn, Classical.not_not, n_add, n_mul, n_div, n_mod, n_cl, n_lt, n_le, n_eq, n_in, n_eqm, n_meq, n_mlt, n_ltm, n_mle, n_lem, not_true_eq_false, not_false_eq_true, true_implies, false_implies, true_and, and_true, Nat.not_lt_zero, Nat.zero_le, jj_eq]
        refine ⟨fun z => absurd z y0, fun _ => ⟨y0, ?_⟩⟩
        rw [jj_mod (by omega) (by omega)]
        exact ih y (x % y) (by omega) (by omega) (by omega) ((gcd_step x y).trans hxy) _ _
  exact e204 (d204_0 r.1 (key d n d (Nat.le_refl d) (by omega) (by omega) rfl _ _))
/-- the reference's days: draws, how often, who saw whom -/
def o_ry (h : iH) (s : dS) : Prop := fI h 138 50 = i_n s.1 ∧ fI h 138 51 = i_n s.2.1 ∧ ∀ p, p < 8 → aI h 171 p = i_n (s.2.2 p)
theorem c324 (r : i_RA a h) {d : Nat} (hd : d < 65536) (e : fI h 138 50 = i_n d) (H : Q (some (.int (i_n (o_dr d / 8 % 16)))) (i_sf h 138 50 (.int (i_n (o_dr d))))) : i_C i_MT i_AT L xs 324 [.ref 138] h Q := by
  have hr := o_dr_lt d
  refine e324 (d324_0 r.1 ?_)
  rw [e]
  try simp (disch := omega) only [n_lit, n_m, n_add, n_mul, n_div, n_mod, n_cl, n_lt, n_le, n_eq, n_in, n_eqm, n_meq, n_mlt, n_ltm, n_mle, n_lem, not_true_eq_false, not_false_eq_true, true_implies, false_implies, true_and, and_true, Nat.not_lt_zero, Nat.zero_le]
  have hL2 : i_Lay (i_sf h 138 50 (.int (i_n ((d * 2677 + 9029) % 65536)))) := r.1.sf r.1.q138_50 rfl
  refine d324_20 hL2 ?_
  rw [x_fI_sf r.1.q138_50]
  try simp (disch := omega) only [n_lit, n_m, n_add, n_mul, n_div, n_mod, n_cl, n_lt, n_le, n_eq, n_in, n_eqm, n_meq, n_mlt, n_ltm, n_mle, n_lem, not_true_eq_false, not_false_eq_true, true_implies, false_implies, true_and, and_true, Nat.not_lt_zero, Nat.zero_le]
  exact H
abbrev ryA : List Nat := [171]
abbrev ryF : List (Nat × Nat) := [(138, 50), (138, 51), (138, 52)]
theorem i_RA.ry (r : i_RA a h) {h2 : iH} (f : i_Fr ryA ryF h h2) (hL : i_Lay h2) : i_RA a h2 := r.fr hL f (by decide)
theorem i_RA.frf (r : i_RA a h) {h2 : iH} {A : List Nat} {F : List (Nat × Nat)} (f : i_Fr A F h h2) (hL : i_Lay h2) (hA : ∀ p, p ∈ [139, 141, 142, 151, 152, 153, 154] → p ∉ A) : i_RA a h2 := r.fr hL f hA
set_option maxHeartbeats 2000000 in
theorem c325 (r : i_RA a h) {s0 : Nat} (hs : s0 < 65536) (H : ∀ h2, i_RA a h2 → i_Fr ryA ryF h h2 → o_ry h2 (o_day a s0) → fI h2 138 52 = i_n (o_hid a (o_day a s0)) → Q none h2) : i_C i_MT i_AT L xs 325 [.ref 138, .int (i_n s0)] h Q := by
  have h5 := r.2.1.2.2.2.2.1
  have hD : o_Dw (o_day a s0) := o_d4_w h5 ⟨hs, fun _ => (by decide : (0:Nat) < 256)⟩ 60
  have sfF : ∀ (h1 : iH) (b : Nat) (v : Int32), (b = 50 ∨ b = 51 ∨ b = 52) → i_Fr ryA ryF h1 (i_sf h1 138 b (.int v)) := fun h1 b v hb => i_Fr.refl.sf (by simp; omega)
  have hid : ∀ k, k ≤ a 5 → ∀ h1, i_RA a h1 → i_Fr ryA ryF h h1 → o_ry h1 (o_day a s0) → fI h1 138 52 = i_n (o_cn0 (o_cau a (o_day a s0)) k) → ∀ (y3 y4 y5 : Option Value), i_P i_MT i_AT L xs 325 150 [some (.ref 138), some (.int (i_n s0)), some (.int (i_n k)), y3, y4, y5] [] h1 0 0 Q := by
    refine l_up ?_ ?_
    · intro h1 r1 f1 ey e2 y3 y4 y5
      refine d325_150 r1.1 ?_
      rw [r1.n5]
      try simp (disch := omega) only [n_lit, n_m, n_add, n_mul, n_div, n_mod, n_cl, n_lt, n_le, n_eq, n_in, n_eqm, n_meq, n_mlt, n_ltm, n_mle, n_lem, not_true_eq_false, not_false_eq_true, true_implies, false_implies, true_and, and_true, Nat.not_lt_zero, Nat.zero_le, Nat.le_refl]
      exact H h1 r1 f1 ey e2
    · intro k hk ih h1 r1 f1 ey e2 y3 y4 y5
      have fin : ∀ b : Nat, b = (if o_cau a (o_day a s0) k = true then 1 else 0) → ∀ (y3 y4 : Int32) (y5 : Option Value), i_P i_MT i_AT L xs 325 231 [some (.ref 138), some (.int (i_n s0)), some (.int (i_n k)), some (.int y3), some (.int y4), y5] [.int (i_n b), .int (i_n (o_cn0 (o_cau a (o_day a s0)) k)), .ref 138] h1 0 0 Q := by
        intro b hb y3 y4 y5
        refine d325_231 r1.1 ?_
        try simp (disch := omega) only [n_lit, n_m, n_add, n_mul, n_div, n_mod, n_cl, n_lt, n_le, n_eq, n_in, n_eqm, n_meq, n_mlt, n_ltm, n_mle, n_lem, not_true_eq_false, not_false_eq_true, true_implies, false_implies, true_and, and_true, Nat.not_lt_zero, Nat.zero_le]
        have F := sfF h1 52 (i_n (o_cn0 (o_cau a (o_day a s0)) k + b)) (by omega)
        have r2 := r1.ry F (r1.1.sf r1.1.q138_52 rfl)
        have F2 : i_Fr [] [(138, 52)] h1 (i_sf h1 138 52 (.int (i_n (o_cn0 (o_cau a (o_day a s0)) k + b)))) := i_Fr.refl.sf (by decide)
        refine d325_235 r2.1 ?_
        try simp (disch := omega) only [n_lit, n_m, n_add, n_mul, n_div, n_mod, n_cl, n_lt, n_le, n_eq, n_in, n_eqm, n_meq, n_mlt, n_ltm, n_mle, n_lem, not_true_eq_false, not_false_eq_true, true_implies, false_implies, true_and, and_true, Nat.not_lt_zero, Nat.zero_le]
        refine ih _ r2 (f1.trans F) ⟨by rw [F2.vI (by decide)]; exact ey.1, by rw [F2.vI (by decide)]; exact ey.2.1, by rw [F2.rI (by decide)]; exact ey.2.2⟩ ?_ _ _ _
        rw [x_fI_sf r1.1.q138_52, o_cn0, hb]
      have inn : ∀ j, j ≤ a 5 → ∀ (y5 : Option Value), i_P i_MT i_AT L xs 325 165 [some (.ref 138), some (.int (i_n s0)), some (.int (i_n k)), some (.int (i_bo (o_or (fun p => o_wat a p k && ((o_day a s0).2.2 p).testBit k) j = true))), some (.int (i_n j)), y5] [] h1 0 0 Q := by
        refine l_up ?_ ?_
        · intro y5
          refine d325_165 r1.1 ?_
          rw [r1.n5, e2]
          try simp (disch := omega) only [n_lit, n_m, i_bo01, j_cmpn, Classical.not_not, n_add, n_mul, n_div, n_mod, n_cl, n_lt, n_le, n_eq, n_in, n_eqm, n_meq, n_mlt, n_ltm, n_mle, n_lem, not_true_eq_false, not_false_eq_true, true_implies, false_implies, true_and, and_true, Nat.not_lt_zero, Nat.zero_le, Nat.le_refl]
          exact ⟨fun z => fin 0 (by unfold o_cau; rw [if_neg z]) _ _ _, fun z => fin 1 (by unfold o_cau; rw [if_pos z]) _ _ _⟩
        · intro j hj ih2 y5
          have w8 := hD.2 j
          rw [o_or] at ih2
          generalize o_or (fun p => o_wat a p k && ((o_day a s0).2.2 p).testBit k) j = O at ih2 ⊢
          have nx : ∀ v : Bool, v = (O || (o_wat a j k && ((o_day a s0).2.2 j).testBit k)) → ∀ (y5 : Option Value), i_P i_MT i_AT L xs 325 210 [some (.ref 138), some (.int (i_n s0)), some (.int (i_n k)), some (.int (i_bo (O = true))), some (.int (i_n j)), y5] [.int (i_bo (v = true))] h1 0 0 Q := by
            intro v hv y5
            subst hv
            refine d325_210 r1.1 ?_
            try simp (disch := omega) only [n_lit, n_m, n_add, n_mul, n_div, n_mod, n_cl, n_lt, n_le, n_eq, n_in, n_eqm, n_meq, n_mlt, n_ltm, n_mle, n_lem, not_true_eq_false, not_false_eq_true, true_implies, false_implies, true_and, and_true, Nat.not_lt_zero, Nat.zero_le]
            exact ih2 _
          have yes : (O || (o_wat a j k && ((o_day a s0).2.2 j).testBit k)) = true → ∀ (y5 : Option Value), i_P i_MT i_AT L xs 325 205 [some (.ref 138), some (.int (i_n s0)), some (.int (i_n k)), some (.int (i_bo (O = true))), some (.int (i_n j)), y5] [] h1 0 0 Q := fun z => fun y5 => d325_205 r1.1 (nx true z.symm _)
          have no : (O || (o_wat a j k && ((o_day a s0).2.2 j).testBit k)) = false → ∀ (y5 : Option Value), i_P i_MT i_AT L xs 325 209 [some (.ref 138), some (.int (i_n s0)), some (.int (i_n k)), some (.int (i_bo (O = true))), some (.int (i_n j)), y5] [] h1 0 0 Q := fun z => fun y5 => d325_209 r1.1 (nx false z.symm _)
          have hb1 := n_bitlt ((o_day a s0).2.2 j) k
          refine d325_165 r1.1 ?_
          rw [r1.n5]
          try simp (disch := omega) only [n_lit, n_m, i_bo01, j_cmpn, Classical.not_not, n_add, n_mul, n_div, n_mod, n_cl, n_lt, n_le, n_eq, n_in, n_eqm, n_meq, n_mlt, n_ltm, n_mle, n_lem, not_true_eq_false, not_false_eq_true, true_implies, false_implies, true_and, and_true, Nat.not_lt_zero, Nat.zero_le]
          refine ⟨fun z => by omega, fun _ => ⟨fun z => yes (by rw [z]; rfl) _, fun z => c282 r1 (by omega) hk ⟨_, rfl, d325_187 r1.1 ?_⟩⟩⟩
          try simp (disch := omega) only [n_lit, n_m, i_bo01, j_cmpn, Classical.not_not, n_add, n_mul, n_div, n_mod, n_cl, n_lt, n_le, n_eq, n_in, n_eqm, n_meq, n_mlt, n_ltm, n_mle, n_lem, not_true_eq_false, not_false_eq_true, true_implies, false_implies, true_and, and_true, Nat.not_lt_zero, Nat.zero_le, ey.2.2, n_shr2, n_and, n_bit1]
          exact ⟨fun z2 => no (by simp [z, z2]) _, fun z2 => ⟨by omega, fun z3 => no (by simp [z, z3]) _, fun z3 => yes (by simp [z2, z3]) _⟩⟩
      refine d325_150 r1.1 ?_
      rw [r1.n5]
      try simp (disch := omega) only [n_lit, n_m, n_add, n_mul, n_div, n_mod, n_cl, n_lt, n_le, n_eq, n_in, n_eqm, n_meq, n_mlt, n_ltm, n_mle, n_lem, not_true_eq_false, not_false_eq_true, true_implies, false_implies, true_and, and_true, Nat.not_lt_zero, Nat.zero_le]
      exact ⟨fun z => by omega, fun _ => inn 0 (Nat.zero_le _) _⟩
  have key : ∀ m, m ≤ 61 → 1 ≤ m → ∀ h1, i_RA a h1 → i_Fr ryA ryF h h1 → o_ry h1 (o_d4 a (m - 1) (s0, 0, fun _ => 0)) → ∀ (y3 y4 y5 : Option Value), i_P i_MT i_AT L xs 325 33 [some (.ref 138), some (.int (i_n s0)), some (.int (i_n m)), y3, y4, y5] [] h1 0 0 Q := by
    refine l_up ?_ ?_
    · intro _ h1 r1 f1 ey y3 y4 y5
      refine d325_33 r1.1 ?_
      try simp (disch := omega) only [n_lit, n_m, n_add, n_mul, n_div, n_mod, n_cl, n_lt, n_le, n_eq, n_in, n_eqm, n_meq, n_mlt, n_ltm, n_mle, n_lem, not_true_eq_false, not_false_eq_true, true_implies, false_implies, true_and, and_true, Nat.not_lt_zero, Nat.zero_le]
      refine ⟨fun _ => ?_, fun z => absurd (by omega) z⟩
      have F := sfF h1 52 (i_n 0) (by omega)
      have r2 := r1.ry F (r1.1.sf r1.1.q138_52 rfl)
      have F2 : i_Fr [] [(138, 52)] h1 (i_sf h1 138 52 (.int (i_n 0))) := i_Fr.refl.sf (by decide)
      refine d325_148 r2.1 ?_
      try simp (disch := omega) only [n_lit, n_m, n_add, n_mul, n_div, n_mod, n_cl, n_lt, n_le, n_eq, n_in, n_eqm, n_meq, n_mlt, n_ltm, n_mle, n_lem, not_true_eq_false, not_false_eq_true, true_implies, false_implies, true_and, and_true, Nat.not_lt_zero, Nat.zero_le]
      exact hid 0 (Nat.zero_le _) _ r2 (f1.trans F) ⟨by rw [F2.vI (by decide)]; exact ey.1, by rw [F2.vI (by decide)]; exact ey.2.1, by rw [F2.rI (by decide)]; exact ey.2.2⟩ (x_fI_sf r1.1.q138_52) _ _ _
    · intro m hm ih hm1 h1 r1 f1 ey y3 y4 y5
      have hDm : o_Dw (o_d4 a (m - 1) (s0, 0, fun _ => 0)) := o_d4_w h5 ⟨hs, fun _ => (by decide : (0:Nat) < 256)⟩ (m - 1)
      generalize hB : o_d4 a (m - 1) (s0, 0, fun _ => 0) = B at ey hDm
      have row : ∀ p, p ≤ a 5 → ∀ h2, i_RA a h2 → i_Fr ryA ryF h h2 → o_ry h2 (o_d3 a m p B) → ∀ (y4 y5 : Option Value), i_P i_MT i_AT L xs 325 41 [some (.ref 138), some (.int (i_n s0)), some (.int (i_n m)), some (.int (i_n p)), y4, y5] [] h2 0 0 Q := by
        refine l_up ?_ ?_
        · intro h2 r2 f2 ey y4 y5
          refine d325_41 r2.1 ?_
          rw [r2.n5]
          try simp (disch := omega) only [n_lit, n_m, n_add, n_mul, n_div, n_mod, n_cl, n_lt, n_le, n_eq, n_in, n_eqm, n_meq, n_mlt, n_ltm, n_mle, n_lem, not_true_eq_false, not_false_eq_true, true_implies, false_implies, true_and, and_true, Nat.not_lt_zero, Nat.zero_le, Nat.le_refl]
          refine ih (by omega) h2 r2 f2 ?_ _ _ _
          obtain ⟨j, rfl⟩ : ∃ j, m = j + 1 := ⟨m - 1, by omega⟩
          rw [show j + 1 + 1 - 1 = j + 1 by omega, o_d4]
          rw [show j + 1 - 1 = j by omega] at hB
          rw [hB]; exact ey
        · intro p hp ih2 h2 r2 f2 ey y4 y5
          have hDp := o_d3_w (m := m) h5 hDm p
          have col : ∀ q, q ≤ a 5 → ∀ h3, i_RA a h3 → i_Fr ryA ryF h h3 → o_ry h3 (o_d2 a m p q (o_d3 a m p B)) → ∀ (y5 : Option Value), i_P i_MT i_AT L xs 325 54 [some (.ref 138), some (.int (i_n s0)), some (.int (i_n m)), some (.int (i_n p)), some (.int (i_n q)), y5] [] h3 0 0 Q := by
            refine l_up ?_ ?_
            · intro h3 r3 f3 ey y5
              refine d325_54 r3.1 ?_
              rw [r3.n5]
              try simp (disch := omega) only [n_lit, n_m, n_add, n_mul, n_div, n_mod, n_cl, n_lt, n_le, n_eq, n_in, n_eqm, n_meq, n_mlt, n_ltm, n_mle, n_lem, not_true_eq_false, not_false_eq_true, true_implies, false_implies, true_and, and_true, Nat.not_lt_zero, Nat.zero_le, Nat.le_refl]
              exact ih2 h3 r3 f3 ey _ _
            · intro q hq ih3 h3 r3 f3 ey y5
              have hDq := o_d2_w (a := a) (m := m) (p := p) hDp q (by omega)
              rw [o_d2] at ih3
              generalize o_d2 a m p q (o_d3 a m p B) = S at ey hDq ih3
              have nx : ∀ h4, i_RA a h4 → i_Fr ryA ryF h h4 → o_ry h4 (o_d1 a m p q S) → ∀ y5 : Int32, i_P i_MT i_AT L xs 325 125 [some (.ref 138), some (.int (i_n s0)), some (.int (i_n m)), some (.int (i_n p)), some (.int (i_n q)), some (.int y5)] [] h4 0 0 Q := by
                intro h4 r4 f4 ey y5
                refine d325_125 r4.1 ?_
                try simp (disch := omega) only [n_lit, n_m, n_add, n_mul, n_div, n_mod, n_cl, n_lt, n_le, n_eq, n_in, n_eqm, n_meq, n_mlt, n_ltm, n_mle, n_lem, not_true_eq_false, not_false_eq_true, true_implies, false_implies, true_and, and_true, Nat.not_lt_zero, Nat.zero_le]
                exact ih3 h4 r4 f4 ey _
              have hwl : o_dw a m p q ≤ 16 := by
                unfold o_dw
                split
                · omega
                · exact o_wt_le r.2.1 hq (by omega)
              have wt : ∀ (y5 : Option Value), i_P i_MT i_AT L xs 325 83 [some (.ref 138), some (.int (i_n s0)), some (.int (i_n m)), some (.int (i_n p)), some (.int (i_n q)), y5] [.int (i_n (o_dw a m p q))] h3 0 0 Q := by
                intro y5
                refine d325_83 r3.1 ?_
                try simp (disch := omega) only [n_lit, n_m, n_add, n_mul, n_div, n_mod, n_cl, n_lt, n_le, n_eq, n_in, n_eqm, n_meq, n_mlt, n_ltm, n_mle, n_lem, not_true_eq_false, not_false_eq_true, true_implies, false_implies, true_and, and_true, Nat.not_lt_zero, Nat.zero_le]
                refine ⟨fun z => ?_, fun z => c324 r3 hDq.1 ey.1 ⟨_, rfl, ?_⟩⟩
                · rw [z]
                  refine nx h3 r3 f3 ?_ _
                  have : o_d1 a m p q S = S := by
                    unfold o_d1
                    rw [if_pos z]
                  rw [this]; exact ey
                · have Fs := sfF h3 50 (i_n (o_dr S.1)) (by omega)
                  have r5 := r3.ry Fs (r3.1.sf r3.1.q138_50 rfl)
                  have F2 : i_Fr [] [(138, 50)] h3 (i_sf h3 138 50 (.int (i_n (o_dr S.1)))) := i_Fr.refl.sf (by decide)
                  have ey5 : o_ry (i_sf h3 138 50 (.int (i_n (o_dr S.1)))) (o_dr S.1, S.2.1, S.2.2) := ⟨x_fI_sf r3.1.q138_50, by rw [F2.vI (by decide)]; exact ey.2.1, by rw [F2.rI (by decide)]; exact ey.2.2⟩
                  have F5 := f3.trans Fs
                  generalize i_sf h3 138 50 (.int (i_n (o_dr S.1))) = h5' at r5 ey5 F5 ⊢
                  have w8 := hDq.2 p
                  refine d325_94 r5.1 ?_
                  rw [ey5.2.1]
                  try simp (disch := omega) only [n_lit, n_m, n_add, n_mul, n_div, n_mod, n_cl, n_lt, n_le, n_eq, n_in, n_eqm, n_meq, n_mlt, n_ltm, n_mle, n_lem, not_true_eq_false, not_false_eq_true, true_implies, false_implies, true_and, and_true, Nat.not_lt_zero, Nat.zero_le]
                  refine ⟨fun z3 => ?_, fun z3 => nx h5' r5 F5 ?_ _⟩
                  · have Ft := sfF h5' 51 (i_n (S.2.1 + 1)) (by omega)
                    have r6 := r5.ry Ft (r5.1.sf r5.1.q138_51 rfl)
                    have F6 : i_Fr [] [(138, 51)] h5' (i_sf h5' 138 51 (.int (i_n (S.2.1 + 1)))) := i_Fr.refl.sf (by decide)
                    have ey6 : o_ry (i_sf h5' 138 51 (.int (i_n (S.2.1 + 1)))) (o_dr S.1, S.2.1 + 1, S.2.2) := ⟨by rw [F6.vI (by decide)]; exact ey5.1, x_fI_sf r5.1.q138_51, by rw [F6.rI (by decide)]; exact ey5.2.2⟩
                    have F7 := F5.trans Ft
                    generalize i_sf h5' 138 51 (.int (i_n (S.2.1 + 1))) = h6 at r6 ey6 F7 ⊢
                    refine d325_112 r6.1 ?_
                    try simp (disch := omega) only [n_lit, n_m, n_add, n_mul, n_div, n_mod, n_cl, n_lt, n_le, n_eq, n_in, n_eqm, n_meq, n_mlt, n_ltm, n_mle, n_lem, not_true_eq_false, not_false_eq_true, true_implies, false_implies, true_and, and_true, Nat.not_lt_zero, Nat.zero_le, ey6.2.2, n_or, n_shl2, n_and]
                    have Fi : i_Fr [171] [] h6 (i_siI h6 171 p (i_n (S.2.2 p ||| 1 <<< q))) := i_Fr.refl.siI (by decide)
                    have Fi2 := Fi.mono (B := ryA) (G := ryF) (by decide) (by decide)
                    refine ⟨by omega, by omega, nx _ (r6.ry Fi2 r6.1.siI) (F7.trans Fi2) ?_ _⟩
                    have : o_d1 a m p q S = (o_dr S.1, S.2.1 + 1, fun k => if k = p then S.2.2 k ||| (1 <<< q) else S.2.2 k) := by
                      unfold o_d1
                      rw [if_neg z, if_pos z3]
                    rw [this]
                    refine ⟨by rw [Fi.vI (by decide)]; exact ey6.1, by rw [Fi.vI (by decide)]; exact ey6.2.1, fun k hk => ?_⟩
                    rw [x_aI_siI r6.1.a171, x_upd]
                    by_cases e : k = p
                    · dsimp only; rw [if_pos e, if_pos e, e]
                    · dsimp only; rw [if_neg e, if_neg e]; exact ey6.2.2 k hk
                  · have : o_d1 a m p q S = (o_dr S.1, S.2.1, S.2.2) := by
                      unfold o_d1
                      rw [if_neg z, if_neg z3]
                    rw [this]; exact ey5
              refine d325_54 r3.1 ?_
              rw [r3.n5]
              try simp (disch := omega) only [n_lit, n_m, i_bo01, j_cmpn, Classical.not_not, n_add, n_mul, n_div, n_mod, n_cl, n_lt, n_le, n_eq, n_in, n_eqm, n_meq, n_mlt, n_ltm, n_mle, n_lem, not_true_eq_false, not_false_eq_true, true_implies, false_implies, true_and, and_true, Nat.not_lt_zero, Nat.zero_le]
              refine ⟨fun z => by omega, fun _ => ⟨fun z => c276 r3 hp hq (by omega) ⟨_, rfl, ?_⟩, fun z => ?_⟩⟩
              · have := wt y5
                unfold o_dw at this
                rw [if_neg z] at this
                exact this
              · have := wt y5
                unfold o_dw at this
                rw [if_pos z] at this
                exact this
          refine d325_41 r2.1 ?_
          rw [r2.n5]
          try simp (disch := omega) only [n_lit, n_m, n_add, n_mul, n_div, n_mod, n_cl, n_lt, n_le, n_eq, n_in, n_eqm, n_meq, n_mlt, n_ltm, n_mle, n_lem, not_true_eq_false, not_false_eq_true, true_implies, false_implies, true_and, and_true, Nat.not_lt_zero, Nat.zero_le]
          exact ⟨fun z => by omega, fun _ => col 0 (Nat.zero_le _) h2 r2 f2 ey _⟩
      refine d325_33 r1.1 ?_
      try simp (disch := omega) only [n_lit, n_m, n_add, n_mul, n_div, n_mod, n_cl, n_lt, n_le, n_eq, n_in, n_eqm, n_meq, n_mlt, n_ltm, n_mle, n_lem, not_true_eq_false, not_false_eq_true, true_implies, false_implies, true_and, and_true, Nat.not_lt_zero, Nat.zero_le]
      exact ⟨fun z => by omega, fun _ => row 0 (Nat.zero_le _) h1 r1 f1 ey _ _⟩
  have clr : ∀ k, k ≤ 8 → ∀ h1, i_RA a h1 → i_Fr ryA ryF h h1 → fI h1 138 50 = i_n s0 → fI h1 138 51 = i_n 0 → (∀ p, p < k → aI h1 171 p = i_n 0) → ∀ (y3 y4 y5 : Option Value), i_P i_MT i_AT L xs 325 12 [some (.ref 138), some (.int (i_n s0)), some (.int (i_n k)), y3, y4, y5] [] h1 0 0 Q := by
    refine l_up ?_ ?_
    · intro h1 r1 f1 e0 e1 ea y3 y4 y5
      refine d325_12 r1.1 ?_
      try simp (disch := omega) only [n_lit, n_m, n_add, n_mul, n_div, n_mod, n_cl, n_lt, n_le, n_eq, n_in, n_eqm, n_meq, n_mlt, n_ltm, n_mle, n_lem, not_true_eq_false, not_false_eq_true, true_implies, false_implies, true_and, and_true, Nat.not_lt_zero, Nat.zero_le, Nat.le_refl]
      exact key 1 (by omega) (Nat.le_refl 1) h1 r1 f1 ⟨e0, e1, ea⟩ _ _ _
    · intro k hk ih h1 r1 f1 e0 e1 ea y3 y4 y5
      refine d325_12 r1.1 ?_
      try simp (disch := omega) only [n_lit, n_m, n_add, n_mul, n_div, n_mod, n_cl, n_lt, n_le, n_eq, n_in, n_eqm, n_meq, n_mlt, n_ltm, n_mle, n_lem, not_true_eq_false, not_false_eq_true, true_implies, false_implies, true_and, and_true, Nat.not_lt_zero, Nat.zero_le]
      have Fi : i_Fr [171] [] h1 (i_siI h1 171 k (i_n 0)) := i_Fr.refl.siI (by decide)
      have Fi2 := Fi.mono (B := ryA) (G := ryF) (by decide) (by decide)
      have r2 := r1.ry Fi2 r1.1.siI
      refine ⟨fun z => by omega, fun _ => ⟨by omega, d325_25 r2.1 ?_⟩⟩
      try simp (disch := omega) only [n_lit, n_m, n_add, n_mul, n_div, n_mod, n_cl, n_lt, n_le, n_eq, n_in, n_eqm, n_meq, n_mlt, n_ltm, n_mle, n_lem, not_true_eq_false, not_false_eq_true, true_implies, false_implies, true_and, and_true, Nat.not_lt_zero, Nat.zero_le]
      refine ih _ r2 (f1.trans Fi2) (by rw [Fi.vI (by decide)]; exact e0) (by rw [Fi.vI (by decide)]; exact e1) (fun p hp => ?_) _ _ _
      rw [x_aI_siI r1.1.a171, x_upd]
      by_cases e : p = k
      · rw [if_pos e]
      · rw [if_neg e]; exact ea p (by omega)
  have F1 := sfF h 50 (i_n s0) (by omega)
  have r1 := r.ry F1 (r.1.sf r.1.q138_50 rfl)
  refine e325 (d325_0 r.1 (d325_5 r1.1 ?_))
  have e1 : fI (i_sf h 138 50 (.int (i_n s0))) 138 50 = i_n s0 := x_fI_sf r.1.q138_50
  generalize i_sf h 138 50 (.int (i_n s0)) = h1 at r1 F1 e1 ⊢
  try simp (disch := omega) only [n_lit, n_m, n_add, n_mul, n_div, n_mod, n_cl, n_lt, n_le, n_eq, n_in, n_eqm, n_meq, n_mlt, n_ltm, n_mle, n_lem, not_true_eq_false, not_false_eq_true, true_implies, false_implies, true_and, and_true, Nat.not_lt_zero, Nat.zero_le]
  have F2 := sfF h1 51 (i_n 0) (by omega)
  have r2 := r1.ry F2 (r1.1.sf r1.1.q138_51 rfl)
  have f2 : i_Fr [] [(138, 51)] h1 (i_sf h1 138 51 (.int (i_n 0))) := i_Fr.refl.sf (by decide)
  refine d325_10 r2.1 ?_
  try simp (disch := omega) only [n_lit, n_m, n_add, n_mul, n_div, n_mod, n_cl, n_lt, n_le, n_eq, n_in, n_eqm, n_meq, n_mlt, n_ltm, n_mle, n_lem, not_true_eq_false, not_false_eq_true, true_implies, false_implies, true_and, and_true, Nat.not_lt_zero, Nat.zero_le]
  exact clr 0 (Nat.zero_le _) _ r2 (F1.trans F2) (by rw [f2.vI (by decide)]; exact e1) (x_fI_sf r1.1.q138_51) (fun p hp => absurd hp (Nat.not_lt_zero p)) _ _ _
theorem c326 (r : i_RA a h) {x : Int32} (H1 : ¬ v_s x → i_R0 a h Q (-1, 1)) (H2 : ∀ s, x = i_n s → s ≤ 9999 → ∀ h2, i_RA a h2 → i_Fr (172 :: gsA) ((138, 55) :: (138, 56) :: gsF) h h2 → fI h2 138 4 = 0 → fI h2 138 55 = i_n (a 5) → fI h2 138 56 = i_n (o_hid a (o_day a s)) → (∀ p, p < 8 → aI h2 172 p = i_n ((o_day a s).2.2 p)) → Q (some (.int (i_n (o_day a s).2.1))) h2) : i_C i_MT i_AT L xs 326 [.ref 138, .int x] h Q := by
  refine e326 (d326_0 r.1 (c212i (y := 0) (z := 9999) r.1 rfl rfl ⟨_, rfl, d326_9 r.1 ?_⟩))
  rw [i_bo_0, Classical.not_not]
  refine ⟨fun z => ?_, fun z => m201 r (fun h2 g2 f2 s2 => ⟨_, rfl, d326_17 g2.1 (H1 z h2 g2 f2 s2)⟩)⟩
  obtain ⟨s, hs, rfl⟩ := n_gle (k := 9999) z (by omega)
  refine c325 r (by omega) (fun h1 r1 f1 ey e2 => ⟨rfl, d326_23 r1.1 ?_⟩)
  have key : ∀ k, k ≤ 8 → ∀ h2, i_RA a h2 → i_Fr (172 :: gsA) ((138, 55) :: (138, 56) :: gsF) h h2 → o_ry h2 (o_day a s) → fI h2 138 52 = i_n (o_hid a (o_day a s)) → (∀ p, p < k → aI h2 172 p = i_n ((o_day a s).2.2 p)) → i_P i_MT i_AT L xs 326 25 [some (.ref 138), some (.int (i_n s)), some (.int (i_n k))] [] h2 0 0 Q := by
    refine l_up ?_ ?_
    · intro h2 r2 f2 ey e2 ea
      refine d326_25 r2.1 ?_
      rw [r2.n5]
      try simp (disch := omega) only [n_lit, n_m, n_add, n_mul, n_div, n_mod, n_cl, n_lt, n_le, n_eq, n_in, n_eqm, n_meq, n_mlt, n_ltm, n_mle, n_lem, not_true_eq_false, not_false_eq_true, true_implies, false_implies, true_and, and_true, Nat.not_lt_zero, Nat.zero_le, Nat.le_refl]
      have F1 : i_Fr [] [(138, 55)] h2 (i_sf h2 138 55 (.int (i_n (a 5)))) := i_Fr.refl.sf (by decide)
      have r3 := r2.frf F1 (r2.1.sf r2.1.q138_55 rfl) (by decide)
      have e55 : fI (i_sf h2 138 55 (.int (i_n (a 5)))) 138 55 = i_n (a 5) := x_fI_sf r2.1.q138_55
      refine d326_59 r3.1 ?_
      rw [F1.vI (by decide), e2]
      have f3 := f2.trans (F1.mono (B := 172 :: gsA) (G := (138, 55) :: (138, 56) :: gsF) (by decide) (by decide))
      have ea3 : aI (i_sf h2 138 55 (.int (i_n (a 5)))) 172 = aI h2 172 := F1.rI (by decide)
      have et3 : fI (i_sf h2 138 55 (.int (i_n (a 5)))) 138 51 = i_n (o_day a s).2.1 := by rw [F1.vI (by decide)]; exact ey.2.1
      rw [← ea3] at ea
      generalize i_sf h2 138 55 (.int (i_n (a 5))) = h3 at r3 e55 f3 ea et3 ⊢
      have F2 : i_Fr [] [(138, 56)] h3 (i_sf h3 138 56 (.int (i_n (o_hid a (o_day a s))))) := i_Fr.refl.sf (by decide)
      have r4 := r3.frf F2 (r3.1.sf r3.1.q138_56 rfl) (by decide)
      refine d326_67 r4.1 ?_
      rw [F2.vI (by decide), et3]
      refine m202 r4 (fun h5 g5 f5 s5 => ⟨_, rfl, d326_75 g5.1 (H2 s rfl hs h5 g5 (f3.trans ((F2.mono (by decide) (by decide)).trans (f5.mono (by decide) (by decide)))) s5 ?_ ?_ ?_)⟩)
      · rw [f5.vI (by decide), F2.vI (by decide)]; exact e55
      · rw [f5.vI (by decide)]; exact x_fI_sf r3.1.q138_56
      · rw [f5.rI (by decide), F2.rI (by decide)]; exact ea
    · intro k hk ih h2 r2 f2 ey e2 ea
      refine d326_25 r2.1 ?_
      try simp (disch := omega) only [n_lit, n_m, n_add, n_mul, n_div, n_mod, n_cl, n_lt, n_le, n_eq, n_in, n_eqm, n_meq, n_mlt, n_ltm, n_mle, n_lem, not_true_eq_false, not_false_eq_true, true_implies, false_implies, true_and, and_true, Nat.not_lt_zero, Nat.zero_le, ey.2.2]
      have Fi : i_Fr [172] [] h2 (i_siI h2 172 k (i_n ((o_day a s).2.2 k))) := i_Fr.refl.siI (by decide)
      have r3 := r2.fr r2.1.siI Fi (by decide)
      refine ⟨fun z => by omega, fun _ => ⟨by omega, by omega, d326_43 r3.1 ?_⟩⟩
      try simp (disch := omega) only [n_lit, n_m, n_add, n_mul, n_div, n_mod, n_cl, n_lt, n_le, n_eq, n_in, n_eqm, n_meq, n_mlt, n_ltm, n_mle, n_lem, not_true_eq_false, not_false_eq_true, true_implies, false_implies, true_and, and_true, Nat.not_lt_zero, Nat.zero_le]
      refine ih _ r3 (f2.trans (Fi.mono (by decide) (by decide))) ⟨by rw [Fi.vI (by decide)]; exact ey.1, by rw [Fi.vI (by decide)]; exact ey.2.1, by rw [Fi.rI (by decide)]; exact ey.2.2⟩ (by rw [Fi.vI (by decide)]; exact e2) (fun p hp => ?_)
      rw [x_aI_siI r2.1.a172, x_upd]
      by_cases e : p = k
      · rw [if_pos e, e]
      · rw [if_neg e]; exact ea p (by omega)
  try simp (disch := omega) only [n_lit, n_m, n_add, n_mul, n_div, n_mod, n_cl, n_lt, n_le, n_eq, n_in, n_eqm, n_meq, n_mlt, n_ltm, n_mle, n_lem, not_true_eq_false, not_false_eq_true, true_implies, false_implies, true_and, and_true, Nat.not_lt_zero, Nat.zero_le]
  exact key 0 (Nat.zero_le _) h1 r1 (f1.mono (by decide) (by decide)) ey e2 (fun p hp => absurd hp (Nat.not_lt_zero p))
theorem c327 (r : i_RA a h) {x : Int32} (H : i_R0 a h Q (o_sawA (fI h 138 55) (aI h 172) x)) : i_C i_MT i_AT L xs 327 [.ref 138, .int x] h Q := by
  unfold o_sawA at H
  have bad : ¬ (0 ≤ x ∧ x ≤ 7) → i_P i_MT i_AT L xs 327 10 [some (.ref 138), some (.int x)] [] h 0 0 Q := by
    intro z
    rw [if_neg z] at H
    exact d327_10 r.1 (m201 r (fun h2 g2 f2 s2 => ⟨_, rfl, d327_15 g2.1 (d327_45 g2.1 (H h2 g2 f2 s2))⟩))
  refine e327 (d327_0 r.1 ⟨fun z => bad (fun q => absurd q.1 (Int32.not_le.mpr z)), fun z => ⟨fun z2 => ?_, fun z2 => bad (fun q => z2 ?_)⟩⟩)
  · have z3 : 0 ≤ x ∧ x ≤ 7 := by
      obtain ⟨p, hp, rfl⟩ := n_get (k := 8) ⟨Int32.not_lt.mp z, z2⟩ (by omega)
      refine ⟨Int32.not_lt.mp z, ?_⟩
      rw [show (7 : Int32) = i_n 7 from rfl, n_le (by omega) (by omega)]; omega
    rw [if_pos z3] at H
    refine ⟨fun z4 => ?_, fun z4 => m201 r (fun h2 g2 f2 s2 => ⟨_, rfl, d327_32 g2.1 (d327_45 g2.1 ?_)⟩)⟩
    · rw [if_neg (Int32.not_le.mpr z4)] at H
      obtain ⟨p, hp, rfl⟩ := n_gle (k := 7) z3 (by omega)
      exact ⟨(n_in (by omega)).mpr (by omega), m202 r (fun h2 g2 f2 s2 => ⟨_, rfl, d327_45 g2.1 (H h2 g2 f2 s2)⟩)⟩
    · rw [if_pos (Int32.not_lt.mp z4)] at H
      exact H h2 g2 f2 s2
  · obtain ⟨p, hp, rfl⟩ := n_gle (k := 7) q (by omega)
    rw [show (8 : Int32) = i_n 8 from rfl, n_lt (by omega) (by omega)]; omega
theorem c328 (r : i_RA a h) (H : i_R0 a h Q (o_cauA (fI h 138 55) (fI h 138 56))) : i_C i_MT i_AT L xs 328 [.ref 138] h Q := by
  unfold o_cauA at H
  refine e328 (d328_0 r.1 ⟨fun z => m202 r (fun h2 g2 f2 s2 => ⟨_, rfl, d328_25 g2.1 ?_⟩), fun z => m201 r (fun h2 g2 f2 s2 => ⟨_, rfl, d328_14 g2.1 (d328_25 g2.1 ?_)⟩)⟩)
  · rw [if_neg z] at H; exact H h2 g2 f2 s2
  · rw [if_pos (Classical.not_not.mp z)] at H; exact H h2 g2 f2 s2
theorem c329 (r : i_RA a h) {x y : Int32} (H1 : ¬ v_sf x y → ∀ h2, i_RA a h2 → i_G0 h h2 → fI h2 138 4 = 1 → Q (some (.int 0)) h2) (H2 : ∀ s m, x = i_n s → y = i_n m → v_sf x y → ∀ h2, i_RA a h2 → i_Fr gsA ((138, 5) :: (138, 6) :: gsF) h h2 → fI h2 138 4 = 0 → fJ h2 138 5 = o_top (o_saf a s m) m → fJ h2 138 6 = o_bot (o_saf a s m) m → Q (some (.int 1)) h2) : i_C i_MT i_AT L xs 329 [.ref 138, .int x, .int y] h Q := by
  have bad : ¬ v_sf x y → ∀ (y3 y4 : Option Value), i_P i_MT i_AT L xs 329 35 [some (.ref 138), some (.int x), some (.int y), y3, y4] [] h 0 0 Q := by
    intro z y3 y4
    refine d329_35 r.1 (m200 r (fun h2 g2 f2 s2 => ⟨_, rfl, d329_40 g2.1 ⟨i_bo_ret, ?_⟩⟩))
    rw [i_bo_f (by decide)]
    exact H1 z h2 g2 f2 s2
  refine e329 (d329_0 r.1 (c212i (y := 0) (z := 9999) r.1 rfl rfl ⟨_, rfl, d329_9 r.1 ?_⟩))
  rw [i_bo_0, Classical.not_not]
  refine ⟨fun z => bad (fun q => z q.2.1) _ _, fun z => c212i (y := 1) (z := 30) r.1 rfl rfl ⟨_, rfl, d329_21 r.1 ?_⟩⟩
  rw [i_bo_0, Classical.not_not]
  refine ⟨fun z2 => bad (fun q => z2 q.1) _ _, fun z2 => ?_⟩
  obtain ⟨m, hm1, hm, rfl⟩ := n_g1 (j := 1) (k := 30) z2 (by omega) (by omega)
  obtain ⟨s, hs, rfl⟩ := n_gle (k := 9999) z (by omega)
  try simp (disch := omega) only [n_lit, n_m, n_add, n_mul, n_div, n_mod, n_cl, n_lt, n_le, n_eq, n_in, n_eqm, n_meq, n_mlt, n_ltm, n_mle, n_lem, not_true_eq_false, not_false_eq_true, true_implies, false_implies, true_and, and_true, Nat.not_lt_zero, Nat.zero_le, n_sub]
  refine ⟨fun z3 => ?_, fun z3 => bad (fun q => z3 ?_) _ _⟩
  · have hv : v_sf (i_n s) (i_n m) := by
      refine ⟨z2, z, ?_⟩
      rw [n_cl (by omega), n_cl (by omega)]; omega
    have H2 := H2 s m rfl rfl hv
    have key : ∀ k, k ≤ m → ∀ h1, i_RA a h1 → i_GS h h1 → i_P i_MT i_AT L xs 329 46 [some (.ref 138), some (.int (i_n s)), some (.int (i_n m)), some (.int (i_n (o_saf a s k))), some (.int (i_n k))] [] h1 0 0 Q := by
      refine l_up ?_ ?_
      · intro h1 r1 f1
        have hl : o_saf a s m ≤ m := o_cn0_le m
        refine d329_46 r1.1 ?_
        try simp (disch := omega) only [n_lit, n_m, n_add, n_mul, n_div, n_mod, n_cl, n_lt, n_le, n_eq, n_in, n_eqm, n_meq, n_mlt, n_ltm, n_mle, n_lem, not_true_eq_false, not_false_eq_true, true_implies, false_implies, true_and, and_true, Nat.not_lt_zero, Nat.zero_le, Nat.le_refl, jj_n]
        refine c204 r1 (by omega) (by omega) (fun h2 r2 f2 e4 e5 e6 => ⟨_, rfl, d329_89 r2.1 ⟨rfl, H2 h2 r2 ((f1.mono (fun _ z => z) (by decide)).trans (f2.mono (by decide) (by decide))) e4 e5 e6⟩⟩)
      · intro k hk ih h1 r1 f1
        have hl : o_saf a s k ≤ k := o_cn0_le k
        refine d329_46 r1.1 ?_
        try simp (disch := omega) only [n_lit, n_m, n_add, n_mul, n_div, n_mod, n_cl, n_lt, n_le, n_eq, n_in, n_eqm, n_meq, n_mlt, n_ltm, n_mle, n_lem, not_true_eq_false, not_false_eq_true, true_implies, false_implies, true_and, and_true, Nat.not_lt_zero, Nat.zero_le]
        refine ⟨fun z => by omega, fun _ => c325 r1 (by omega) (fun h2 r2 f2 ey e2 => ⟨rfl, ?_⟩)⟩
        have F2 : i_GS h h2 := f1.trans (f2.mono (by decide) (by decide))
        have hb : o_hid a (o_day a (s + k)) ≤ a 5 := o_cn0_le _
        have h5 := r.2.1.2.2.2.2.1
        have nx : ∀ b : Nat, b = (if (o_hid a (o_day a (s + k)) == 0) = true then 1 else 0) → i_P i_MT i_AT L xs 329 73 [some (.ref 138), some (.int (i_n s)), some (.int (i_n m)), some (.int (i_n (o_saf a s k))), some (.int (i_n k))] [.int (i_n b), .int (i_n (o_saf a s k))] h2 0 0 Q := by
          intro b hb
          refine d329_73 r2.1 ?_
          try simp (disch := omega) only [n_lit, n_m, n_add, n_mul, n_div, n_mod, n_cl, n_lt, n_le, n_eq, n_in, n_eqm, n_meq, n_mlt, n_ltm, n_mle, n_lem, not_true_eq_false, not_false_eq_true, true_implies, false_implies, true_and, and_true, Nat.not_lt_zero, Nat.zero_le]
          have := ih h2 r2 F2
          unfold o_saf at this ⊢
          rw [o_cn0, ← hb] at this
          exact this
        refine d329_60 r2.1 ?_
        rw [e2]
        try simp (disch := omega) only [n_lit, n_m, i_bo01, j_cmpn, Classical.not_not, n_add, n_mul, n_div, n_mod, n_cl, n_lt, n_le, n_eq, n_in, n_eqm, n_meq, n_mlt, n_ltm, n_mle, n_lem, not_true_eq_false, not_false_eq_true, true_implies, false_implies, true_and, and_true, Nat.not_lt_zero, Nat.zero_le]
        exact ⟨fun z => nx 0 (by rw [if_neg (by simpa using z)]), fun z => nx 1 (by rw [if_pos (by simpa using z)])⟩
    exact key 0 (Nat.zero_le _) h r i_Fr.refl
  · have := q.2.2
    rw [n_cl (by omega), n_cl (by omega)] at this
    omega
end
