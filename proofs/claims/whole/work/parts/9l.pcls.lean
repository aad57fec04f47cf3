/-! THE CLASS READS A TOWN'S TEXT: its state on the way; what it takes -/
section
variable {L : Nat} {xs : Nat → Int32} {h : iH} {Q : Option Value → iH → Prop} {a : Nat → Nat} {t : Nat} {n k : Nat} {T : Nat → Nat}
set_option maxRecDepth 20000
def i_PC (a : Nat → Nat) (t n k : Nat) (T : Nat → Nat) (h : iH) : Prop := i_Lay h ∧ i_TX h n T ∧ fI h 10 5 = i_n k ∧ fR h 44 1 = t ∧ i_CT a t h ∧ i_NC a t h ∧ fI h 44 4 = i_n (a 799)
abbrev pcF (t : Nat) : List (Nat × Nat) := (44, 1) :: (44, 2) :: (44, 3) :: (44, 4) :: (tbF ++ tF t)
abbrev ceF : List (Nat × Nat) := (44, 2) :: (44, 3) :: tbF
def i_CR (t n : Nat) (T : Nat → Nat) (h : iH) (Q : Option Value → iH → Prop) (r : o_R) : Prop := match r with
  | .inl (f, p) => ∀ h2, i_Lay h2 → i_Fr (tA t) (pcF t) h h2 → i_BL h2 f p → Q (some (.int 0)) h2
  | .inr (k2, a2) => ∀ h2, i_Fr (tA t) (pcF t) h h2 → i_PC a2 t n k2 T h2 → Q (some (.int 1)) h2
theorem i_Fr.tb {h2 : iH} (f : i_Fr [] tbF h h2) : i_Fr (tA t) (pcF t) h h2 := f.mono (fun _ z => absurd z (by simp)) (fun _ z => List.mem_cons_of_mem _ (List.mem_cons_of_mem _ (List.mem_cons_of_mem _ (List.mem_cons_of_mem _ (List.mem_append_left _ z)))))
theorem i_Fr.tt {h2 : iH} (f : i_Fr [] tkF h h2) : i_Fr [] tbF h h2 := f.mono (fun _ z => z) (by decide)
theorem i_Fr.tl {h2 : iH} (f : i_Fr [] blF h h2) : i_Fr [] tbF h h2 := f.mono (fun _ z => z) (by decide)
theorem i_Fr.ce {h2 : iH} (f : i_Fr [] ceF h h2) : i_Fr (tA t) (pcF t) h h2 := f.mono (fun _ z => absurd z (by simp)) (fun x z => by
  rcases List.mem_cons.mp z with rfl | z
  · exact List.mem_cons_of_mem _ List.mem_cons_self
  rcases List.mem_cons.mp z with rfl | z
  · exact List.mem_cons_of_mem _ (List.mem_cons_of_mem _ List.mem_cons_self)
  · exact List.mem_cons_of_mem _ (List.mem_cons_of_mem _ (List.mem_cons_of_mem _ (List.mem_cons_of_mem _ (List.mem_append_left _ z)))))
theorem i_Fr.tw {h2 : iH} {A : List Nat} {F : List (Nat × Nat)} (f : i_Fr A F h h2) (hA : ∀ p, p ∈ A → p ∈ tA t) (hF : ∀ q, q ∈ F → q ∈ tF t) : i_Fr (tA t) (pcF t) h h2 := f.mono hA (fun _ z => List.mem_cons_of_mem _ (List.mem_cons_of_mem _ (List.mem_cons_of_mem _ (List.mem_cons_of_mem _ (List.mem_append_right _ (hF _ z))))))
theorem i_PC.l (g : i_PC a t n k T h) : i_Lay h := g.1
theorem i_PC.tw (g : i_PC a t n k T h) : i_fld h 44 9 1 = some (.ref t) := by
  have := g.1.fw (q := 44) (ci := 9) (b := 1) rfl rfl rfl
  rw [g.2.2.2.1] at this
  exact this
theorem i_NC.fr {h2 : iH} {A : List Nat} {F : List (Nat × Nat)} (g : i_NC a t h) (f : i_Fr A F h h2) (hA : t + 8 ∉ A) : i_NC a t h2 := by
  unfold i_NC
  rw [f.rJ hA]
  exact g
/-- the town stays, whatever is read -/
theorem i_PC.fr {h2 : iH} {F : List (Nat × Nat)} {k2 : Nat} (g : i_PC a t n k T h) (hT : i_T2 t) (hL : i_Lay h2) (f : i_Fr [] F h h2) (hF : ∀ q, q ∈ F → (q.1 = 10 ∧ q.2 ≠ 4) ∨ (q.1 = 44 ∧ q.2 ≠ 1 ∧ q.2 ≠ 4)) (e : fI h2 10 5 = i_n k2) : i_PC a t n k2 T h2 := by
  have ht : t = 14 ∨ t = 29 := hT
  have nF : ∀ q b, q ≠ 10 → q ≠ 44 → (q, b) ∉ F := fun q b h1 h2 z => by have := hF _ z; dsimp only at this; omega
  refine ⟨hL, g.2.1.fr f (fun _ _ => by simp) (fun z => by have := hF _ z; dsimp only at this; omega), e, ?_, g.2.2.2.2.1.fr f (fun _ _ _ => by simp) (fun b => ⟨nF _ _ (by omega) (by omega), nF _ _ (by omega) (by omega)⟩), g.2.2.2.2.2.1.fr f (by simp), ?_⟩
  · rw [f.vR (fun z => by have := hF _ z; dsimp only at this; omega)]; exact g.2.2.2.1
  · rw [f.vI (fun z => by have := hF _ z; dsimp only at this; omega)]; exact g.2.2.2.2.2.2
theorem i_PC.tb {h2 : iH} {k2 : Nat} (g : i_PC a t n k T h) (hT : i_T2 t) (hL : i_Lay h2) (f : i_Fr [] tbF h h2) (e : fI h2 10 5 = i_n k2) : i_PC a t n k2 T h2 := g.fr hT hL f (by decide) e
theorem m88 {k2 : Nat} (hk2 : k2 = o_tke T n k) (g : i_PC a t n k T h) (hT : i_T2 t) (hk : k ≤ n) (H1 : ∀ h2, i_PC a t n k2 T h2 → i_Fr [] tbF h h2 → i_TK h2 T n k → Q none h2) : i_C i_MT i_AT L xs 88 [.ref 10] h Q := by
  subst hk2
  exact c88 g.1 g.2.1 hk g.2.2.1 (fun h2 L2 f2 z2 => H1 h2 (g.tb hT L2 f2.tt z2.1) f2.tt z2)
theorem m91 {k2 : Nat} (hk2 : k2 = o_tke T n k) (g : i_PC a t n k T h) (hT : i_T2 t) (hk : k ≤ n) {w : Nat} (hw : w < 33) (H1 : o_wy T n k = w → ∀ h2, i_PC a t n k2 T h2 → i_Fr [] tbF h h2 → i_TK h2 T n k → Q (some (.int 1)) h2) (H0 : o_wy T n k ≠ w → ∀ h2, i_Lay h2 → i_Fr [] tbF h h2 → i_BL h2 (o_bad T n k) (o_tks T n k) → Q (some (.int 0)) h2) : i_C i_MT i_AT L xs 91 [.ref 10, .int (i_n w)] h Q := by
  subst hk2
  exact c91 g.1 g.2.1 hk g.2.2.1 hw (fun e h2 L2 f2 z2 => H1 e h2 (g.tb hT L2 f2.tt z2.1) f2.tt z2) H0
theorem m92 {k2 : Nat} (hk2 : k2 = o_tke T n k) (g : i_PC a t n k T h) (hT : i_T2 t) (hk : k ≤ n) (H1 : o_wy T n k < 8 → ∀ h2, i_PC a t n k2 T h2 → i_Fr [] tbF h h2 → i_TK h2 T n k → Q (some (.int 1)) h2) (H0 : ¬ o_wy T n k < 8 → ∀ h2, i_Lay h2 → i_Fr [] tbF h h2 → i_BL h2 (o_bad T n k) (o_tks T n k) → Q (some (.int 0)) h2) : i_C i_MT i_AT L xs 92 [.ref 10] h Q := by
  subst hk2
  exact c92 g.1 g.2.1 hk g.2.2.1 (fun e h2 L2 f2 z2 => H1 e h2 (g.tb hT L2 f2.tt z2.1) f2.tt z2) H0
theorem m93 {k2 : Nat} (hk2 : k2 = o_tke T n k) (g : i_PC a t n k T h) (hT : i_T2 t) (hk : k ≤ n) (H1 : o_nm T n k → ∀ h2, i_PC a t n k2 T h2 → i_Fr [] tbF h h2 → i_TK h2 T n k → Q (some (.int 1)) h2) (H0 : ¬ o_nm T n k → ∀ h2, i_Lay h2 → i_Fr [] tbF h h2 → i_BL h2 (o_bad T n k) (o_tks T n k) → Q (some (.int 0)) h2) : i_C i_MT i_AT L xs 93 [.ref 10] h Q := by
  subst hk2
  exact c93 g.1 g.2.1 hk g.2.2.1 (fun e h2 L2 f2 z2 => H1 e h2 (g.tb hT L2 f2.tt z2.1) f2.tt z2) H0
theorem m95 {k2 : Nat} (hk2 : k2 = o_tke T n k) (g : i_PC a t n k T h) (hT : i_T2 t) (hk : k ≤ n) {lo hi : Nat} (hl : lo < 1000) (hh : hi < 1000) (H1 : o_nf T n k lo hi = 0 → ∀ h2, i_PC a t n k2 T h2 → i_Fr [] tbF h h2 → i_TK h2 T n k → Q (some (.int 1)) h2) (H0 : o_nf T n k lo hi ≠ 0 → ∀ h2, i_Lay h2 → i_Fr [] tbF h h2 → i_BL h2 (o_nf T n k lo hi) (o_tks T n k) → Q (some (.int 0)) h2) : i_C i_MT i_AT L xs 95 [.ref 10, .int (i_n lo), .int (i_n hi)] h Q := by
  subst hk2
  exact c95 g.1 g.2.1 hk g.2.2.1 hl hh (fun e h2 L2 f2 z2 => H1 e h2 (g.tb hT L2 f2.tt z2.1) f2.tt z2) H0
/-- the stop behind a part -/
theorem m94 {h1 : iH} {Q2 : Option Value → iH → Prop} (g : i_PC a t n k T h1) (hT : i_T2 t) (hk : k ≤ n) (F : i_Fr (tA t) (pcF t) h h1) (K : i_CR t n T h Q (p_stop T n (.inr (k, a)))) (hq : ∀ r h2, i_Lay h2 → i_ret (some .boolean) r = true → Q (some (.int r)) h2 → Q2 (some (.int r)) h2) : i_C i_MT i_AT L xs 94 [.ref 10] h1 Q2 := by
  have K : i_CR t n T h Q (if o_tkk T n k = 3 then .inr (o_tke T n k, a) else o_no T n k) := K
  refine c94 g.1 g.2.1 hk g.2.2.1 (fun e h2 L2 f2 z2 => hq 1 h2 L2 rfl ?_) (fun e h2 L2 f2 z2 => hq 0 h2 L2 rfl ?_)
  · rw [if_pos e] at K
    exact K h2 (F.trans f2.tt.tb) (g.tb hT L2 f2.tt z2.1)
  · rw [if_neg e] at K
    exact K h2 L2 (F.trans f2.tb) z2
theorem c107 (g : i_PC a t n k T h) (hT : i_T2 t) {x y : Nat} (ex : fI h 44 2 = i_n x) (ey : fI h 44 3 = i_n y) (H : Q (some (.int (i_n (a 0 * y + x)))) h) : i_C i_MT i_AT L xs 107 [.ref 44] h Q := by
  refine e107 (d107_0 g.1 ⟨t, g.tw, hT.T, ?_⟩)
  rw [ex, ey, g.2.2.2.2.1.1.1]
  try simp (disch := omega) only [n_lit, n_m, n_add, n_mul, n_div, n_mod, n_cl, n_lt, n_le, n_eq, n_in, n_eqm, n_meq, n_mlt, n_ltm, n_mle, n_lem, not_true_eq_false, not_false_eq_true, true_implies, false_implies, true_and, and_true, Nat.not_lt_zero, Nat.zero_le]
  rw [Nat.mul_comm y]
  exact H
theorem c106 {k2 k3 : Nat} (hk2 : k2 = o_tke T n k) (hk3 : k3 = o_tke T n k2) (g : i_PC a t n k T h) (hT : i_T2 t) (w : o_PW a) (hk : k ≤ n) {lx ly : Nat} (hl : lx < 1000) (hh : ly < 1000)
    (H1 : o_nf T n k lx (a 0 - 1) = 0 → o_nf T n k2 ly (a 1 - 1) = 0 → ∀ h2, i_PC a t n k3 T h2 → i_Fr [] ceF h h2 → i_TK h2 T n k2 → fI h2 44 2 = i_n (o_tkv T n k) → fI h2 44 3 = i_n (o_tkv T n k2) → Q (some (.int 1)) h2)
    (H0 : o_nf T n k lx (a 0 - 1) ≠ 0 → ∀ h2, i_Lay h2 → i_Fr [] ceF h h2 → i_BL h2 (o_nf T n k lx (a 0 - 1)) (o_tks T n k) → Q (some (.int 0)) h2)
    (H2 : o_nf T n k lx (a 0 - 1) = 0 → o_nf T n k2 ly (a 1 - 1) ≠ 0 → ∀ h2, i_Lay h2 → i_Fr [] ceF h h2 → i_BL h2 (o_nf T n k2 ly (a 1 - 1)) (o_tks T n k2) → Q (some (.int 0)) h2) : i_C i_MT i_AT L xs 106 [.ref 44, .int (i_n lx), .int (i_n ly)] h Q := by
  subst hk3
  subst hk2
  have w1 := w.2.1
  have tl := o_tk_le (T := T) hk
  have cf : ∀ {h1 h2 : iH}, i_Fr [] tbF h1 h2 → i_Fr [] ceF h1 h2 := fun f => f.mono (fun _ z => z) (by decide)
  refine e106 (d106_0 g.1 ⟨t, g.tw, hT.T, ?_⟩)
  rw [g.2.2.2.2.1.1.1, show i_n (a 0) - 1 = i_n (a 0 - 1) from n_sub (a := a 0) (b := 1) (by omega)]
  refine m95 rfl g hT hk hl (by omega) (fun e1 h1 g1 f1 z1 => ⟨_, rfl, d106_17 g1.1 ⟨fun _ => ?_, fun z => absurd (by decide) z⟩⟩) (fun e1 h1 L1 f1 z1 => ⟨_, rfl, d106_17 L1 ⟨fun z => absurd rfl z, fun _ => H0 e1 h1 L1 (cf f1) z1⟩⟩)
  refine w_sfI (R := fun z => i_P i_MT i_AT L xs 106 33 [some (.ref 44), some (.int (i_n lx)), some (.int (i_n ly))] [] z 0 0 Q) g1.1 g1.1.q44_2 (fun h2 L2 F2 E2 => d106_33 L2 ?_)
  have g2 := g1.fr hT L2 F2 (by decide) (by rw [F2.vI (by decide)]; exact z1.1)
  refine ⟨t, g2.tw, hT.T, ?_⟩
  rw [g2.2.2.2.2.1.1.2, show i_n (a 1) - 1 = i_n (a 1 - 1) from n_sub (a := a 1) (b := 1) (by omega)]
  have F12 := (cf f1).trans (F2.mono (B := []) (G := ceF) (fun _ z => z) (by decide))
  refine m95 rfl g2 hT tl.2.2 hh (by omega) (fun e3 h3 g3 f3 z3 => ⟨_, rfl, d106_50 g3.1 ⟨fun _ => ?_, fun z => absurd (by decide) z⟩⟩) (fun e3 h3 L3 f3 z3 => ⟨_, rfl, d106_50 L3 ⟨fun z => absurd rfl z, fun _ => H2 e1 e3 h3 L3 (F12.trans (cf f3)) z3⟩⟩)
  refine w_sfI (R := fun z => i_P i_MT i_AT L xs 106 66 [some (.ref 44), some (.int (i_n lx)), some (.int (i_n ly))] [] z 0 0 Q) g3.1 g3.1.q44_3 (fun h4 L4 F4 E4 => d106_66 L4 ?_)
  have g4 := g3.fr hT L4 F4 (by decide) (by rw [F4.vI (by decide)]; exact z3.1)
  refine H1 e1 e3 h4 g4 ((F12.trans (cf f3)).trans (F4.mono (fun _ z => z) (by decide))) (z3.fr F4 (by decide)) ?_ ?_
  · rw [F4.vI (by decide), f3.vI (by decide), E2]; exact z1.2.2.2.1
  · rw [E4]; exact z3.2.2.2.1
theorem i_PC.n5 (g : i_PC a t n k T h) : fI h (t + 7) 0 = i_n (a 5) := g.2.2.2.2.1.2.2.2.2.2.2.2.1.1
theorem i_PC.n4 (g : i_PC a t n k T h) : fI h t 9 = i_n (a 4) := g.2.2.2.2.1.2.2.2.2.2.1.1
theorem i_PC.n3 (g : i_PC a t n k T h) : fI h t 5 = i_n (a 3) := g.2.2.2.2.1.2.2.2.2.1.1
theorem i_PC.lc (g : i_PC a t n k T h) {i : Nat} (hi : i < a 4) : aI h (t + 5) i = i_n (a (106 + i)) := g.2.2.2.2.1.2.2.2.2.2.1.2 i hi
theorem i_PC.pc (g : i_PC a t n k T h) {i : Nat} (hi : i < a 5) : aI h (t + 9) i = i_n (a (154 + 5 * i)) := (g.2.2.2.2.1.2.2.2.2.2.2.2.1.2 i hi).1
theorem c100 (g : i_PC a t n k T h) (hT : i_T2 t) (w : o_PW a) {s : Int64} (H : Q (some (.int (i_bo ((List.range (a 4)).any (fun k => i_b s (a (106 + k))) = true)))) h) : i_C i_MT i_AT L xs 100 [.ref t, .long s] h Q := by
  have h4 := w.1.2.2.2.1
  have c48 := w.c48
  have loop : ∀ i, i ≤ a 4 → (∀ j, j < i → i_b s (a (106 + j)) = false) → i_P i_MT i_AT L xs 100 2 [some (.ref t), some (.long s), none, some (.int (i_n i))] [] h 0 0 Q := by
    refine l_up ?_ ?_
    · intro z
      refine d100_2 g.1 hT.T ?_
      rw [g.n4]
      try simp (disch := omega) only [n_lit, n_m, n_add, n_mul, n_div, n_mod, n_cl, n_lt, n_le, n_eq, n_in, n_eqm, n_meq, n_mlt, n_ltm, n_mle, n_lem, not_true_eq_false, not_false_eq_true, true_implies, false_implies, true_and, and_true, Nat.not_lt_zero, Nat.zero_le, Nat.le_refl]
      rw [i_bo_f (by
        rw [Bool.not_eq_true, List.any_eq_false]
        intro j hj
        rw [z j (List.mem_range.mp hj)]; exact Bool.false_ne_true)] at H
      exact H
    · intro i hi ih z
      have cl := w.1.2.2.2.2.2.2.2.2.1 i hi
      refine d100_2 g.1 hT.T ?_
      rw [g.n4]
      try simp (disch := omega) only [n_lit, n_m, n_add, n_mul, n_div, n_mod, n_cl, n_lt, n_le, n_eq, n_in, n_eqm, n_meq, n_mlt, n_ltm, n_mle, n_lem, not_true_eq_false, not_false_eq_true, true_implies, false_implies, true_and, and_true, Nat.not_lt_zero, Nat.zero_le, g.lc hi]
      refine ⟨fun q => by omega, fun _ => ⟨by omega, c193 (by omega) ⟨_, rfl, d100_20 g.1 hT.T ?_⟩⟩⟩
      rw [i_bo_0]
      try simp (disch := omega) only [n_lit, n_m, n_add, n_mul, n_div, n_mod, n_cl, n_lt, n_le, n_eq, n_in, n_eqm, n_meq, n_mlt, n_ltm, n_mle, n_lem, not_true_eq_false, not_false_eq_true, true_implies, false_implies, true_and, and_true, Nat.not_lt_zero, Nat.zero_le]
      refine ⟨fun q => ih (fun j hj => ?_), fun q => ?_⟩
      · by_cases y : j = i
        · subst y; simpa using q
        · exact z j (by omega)
      · rw [i_bo_t (List.any_eq_true.mpr ⟨i, List.mem_range.mpr hi, Classical.not_not.mp q⟩)] at H
        exact H
  exact e100 (d100_0 g.1 hT.T (loop 0 (Nat.zero_le _) (fun j hj => absurd hj (by omega))))
theorem c36 (g : i_PC a t n k T h) (hT : i_T2 t) (w : o_PW a) {s : Int64} (H : Q (some (.int (i_bo ((List.range (a 5)).any (fun p => i_b s (a (154 + 5 * p))) = true)))) h) : i_C i_MT i_AT L xs 36 [.ref (t + 7), .long s] h Q := by
  have h5 := w.1.2.2.2.2.1
  have c48 := w.c48
  have loop : ∀ i, i ≤ a 5 → (∀ j, j < i → i_b s (a (154 + 5 * j)) = false) → i_P i_MT i_AT L xs 36 2 [some (.ref (t + 7)), some (.long s), none, some (.int (i_n i))] [] h 0 0 Q := by
    refine l_up ?_ ?_
    · intro z
      refine d36_2 g.1 hT.T ?_
      rw [g.n5]
      try simp (disch := omega) only [n_lit, n_m, n_add, n_mul, n_div, n_mod, n_cl, n_lt, n_le, n_eq, n_in, n_eqm, n_meq, n_mlt, n_ltm, n_mle, n_lem, not_true_eq_false, not_false_eq_true, true_implies, false_implies, true_and, and_true, Nat.not_lt_zero, Nat.zero_le, Nat.le_refl]
      rw [i_bo_f (by
        rw [Bool.not_eq_true, List.any_eq_false]
        intro j hj
        rw [z j (List.mem_range.mp hj)]; exact Bool.false_ne_true)] at H
      exact H
    · intro i hi ih z
      have cl := (w.1.2.2.2.2.2.2.2.2.2.2.1 i hi).1
      refine d36_2 g.1 hT.T ?_
      rw [g.n5]
      try simp (disch := omega) only [n_lit, n_m, n_add, n_mul, n_div, n_mod, n_cl, n_lt, n_le, n_eq, n_in, n_eqm, n_meq, n_mlt, n_ltm, n_mle, n_lem, not_true_eq_false, not_false_eq_true, true_implies, false_implies, true_and, and_true, Nat.not_lt_zero, Nat.zero_le, g.pc hi]
      refine ⟨fun q => by omega, fun _ => ⟨by omega, c193 (by omega) ⟨_, rfl, d36_20 g.1 hT.T ?_⟩⟩⟩
      rw [i_bo_0]
      try simp (disch := omega) only [n_lit, n_m, n_add, n_mul, n_div, n_mod, n_cl, n_lt, n_le, n_eq, n_in, n_eqm, n_meq, n_mlt, n_ltm, n_mle, n_lem, not_true_eq_false, not_false_eq_true, true_implies, false_implies, true_and, and_true, Nat.not_lt_zero, Nat.zero_le]
      refine ⟨fun q => ih (fun j hj => ?_), fun q => ?_⟩
      · by_cases y : j = i
        · subst y; simpa using q
        · exact z j (by omega)
      · rw [i_bo_t (List.any_eq_true.mpr ⟨i, List.mem_range.mpr hi, Classical.not_not.mp q⟩)] at H
        exact H
  exact e36 (d36_0 g.1 hT.T (loop 0 (Nat.zero_le _) (fun j hj => absurd hj (by omega))))
/-- what leaves the reading as it was: writes of the town -/
theorem i_PC.wr {h2 : iH} {A : List Nat} {F : List (Nat × Nat)} {b : Nat → Nat} (g : i_PC a t n k T h) (hT : i_T2 t) (hL : i_Lay h2) (f : i_Fr A F h h2) (hA : ∀ p, p ∈ A → p ∈ tA t) (hF : ∀ q, q ∈ F → q ∈ tF t) (c : i_CT b t h2) (nc : i_NC b t h2) (e : b 799 = a 799) : i_PC b t n k T h2 := by
  have ht : t = 14 ∨ t = 29 := hT
  have nA : ∀ p, p < 14 → p ∉ A := fun p hp z => by
    have := hA p z
    unfold tA at this
    simp only [List.mem_cons, List.not_mem_nil, or_false] at this
    omega
  have nF : ∀ q b, q < 14 ∨ q = 44 → (q, b) ∉ F := fun q b hq z => by
    have := hF _ z
    unfold tF at this
    simp only [List.mem_cons, List.not_mem_nil, or_false, Prod.mk.injEq] at this
    omega
  refine ⟨hL, g.2.1.fr f (fun p hp => nA p (by simp only [List.mem_cons, List.not_mem_nil, or_false] at hp; omega)) (nF _ _ (by omega)), ?_, ?_, c, nc, ?_⟩
  · rw [f.vI (nF _ _ (by omega))]; exact g.2.2.1
  · rw [f.vR (nF _ _ (by omega))]; exact g.2.2.2.1
  · rw [f.vI (nF _ _ (by omega)), e]; exact g.2.2.2.2.2.2
theorem i_TK.wr {h2 : iH} {A : List Nat} {F : List (Nat × Nat)} (z : i_TK h T n k) (hT : i_T2 t) (f : i_Fr A F h h2) (hF : ∀ q, q ∈ F → q ∈ tF t) : i_TK h2 T n k := by
  have ht : t = 14 ∨ t = 29 := hT
  refine z.fr f (fun p hp y => ?_)
  have y := hF _ y
  unfold tF at y
  obtain ⟨p1, p2⟩ := p
  simp only [List.mem_cons, List.not_mem_nil, or_false, Prod.mk.injEq] at y hp
  omega
end
