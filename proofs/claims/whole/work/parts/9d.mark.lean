/-! MARK, BACK -/
section
variable {L : Nat} {xs : Nat → Int32} {h : iH} {Q : Option Value → iH → Prop} {a : Nat → Nat} {t : Nat}
set_option maxRecDepth 20000
/-- the slot y is what the slot x was -/
def o_slot (x y : Nat) (h h2 : iH) : Prop := (∀ i, aI h2 139 i = if 680 * y ≤ i ∧ i < 680 * y + 680 then aI h 139 (680 * x + (i - 680 * y)) else aI h 139 i) ∧ (∀ i, aJ h2 140 i = if 8 * y ≤ i ∧ i < 8 * y + 8 then aJ h 140 (8 * x + (i - 8 * y)) else aJ h 140 i)
set_option maxHeartbeats 1000000 in
theorem c330 (hL : i_Lay h) {x y : Nat} (hx : x ≤ 4) (hy : y ≤ 4) (hxy : x ≠ y) (K : ∀ h2, i_Lay h2 → i_Fr [139, 140] [] h h2 → o_slot x y h h2 → Q none h2) : i_C i_MT i_AT L xs 330 [.ref 138, .int (i_n x), .int (i_n y)] h Q := by
  have names : ∀ k, k ≤ 8 → ∀ h1, i_Lay h1 → i_Fr [139, 140] [] h h1 → (∀ i, aI h1 139 i = if 680 * y ≤ i ∧ i < 680 * y + 680 then aI h 139 (680 * x + (i - 680 * y)) else aI h 139 i) → (∀ i, aJ h1 140 i = if 8 * y ≤ i ∧ i < 8 * y + k then aJ h 140 (8 * x + (i - 8 * y)) else aJ h 140 i) → i_P i_MT i_AT L xs 330 41 [some (.ref 138), some (.int (i_n x)), some (.int (i_n y)), some (.int (i_n k))] [] h1 0 0 Q := by
    refine l_up ?_ ?_
    · intro h1 L1 f1 z1 z2
      refine d330_41 L1 ?_
      try simp (disch := omega) only [n_lit, n_m, n_add, n_mul, n_div, n_mod, n_cl, n_lt, n_le, n_eq, n_in, n_eqm, n_meq, n_mlt, n_ltm, n_mle, n_lem, not_true_eq_false, not_false_eq_true, true_implies, false_implies, true_and, and_true, Nat.not_lt_zero, Nat.zero_le, Nat.le_refl]
      exact K h1 L1 f1 ⟨z1, z2⟩
    · intro k hk ih h1 L1 f1 z1 z2
      refine d330_41 L1 ?_
      try simp (disch := omega) only [n_lit, n_m, n_add, n_mul, n_div, n_mod, n_cl, n_lt, n_le, n_eq, n_in, n_eqm, n_meq, n_mlt, n_ltm, n_mle, n_lem, not_true_eq_false, not_false_eq_true, true_implies, false_implies, true_and, and_true, Nat.not_lt_zero, Nat.zero_le]
      refine ⟨fun e => by omega, fun _ => ⟨by omega, by omega, ?_⟩⟩
      have Fi : i_Fr [140] [] h1 (i_siJ h1 140 (8 * y + k) (aJ h1 140 (8 * x + k))) := i_Fr.refl.siJ (by decide)
      refine d330_69 L1.siJ ?_
      try simp (disch := omega) only [n_lit, n_m, n_add, n_mul, n_div, n_mod, n_cl, n_lt, n_le, n_eq, n_in, n_eqm, n_meq, n_mlt, n_ltm, n_mle, n_lem, not_true_eq_false, not_false_eq_true, true_implies, false_implies, true_and, and_true, Nat.not_lt_zero, Nat.zero_le]
      refine ih _ L1.siJ (f1.trans (Fi.mono (by decide) (fun _ z => z))) (fun i => ?_) (fun i => ?_)
      · rw [Fi.rI (by decide)]; exact z1 i
      · by_cases e : i = 8 * y + k
        · subst e
          rw [i_siJ_at L1.a140, z2, if_neg (by omega), if_pos (by omega), show 8 * y + k - 8 * y = k by omega]
        · rw [i_siJ_no L1.a140 e, z2]
          by_cases q : 8 * y ≤ i ∧ i < 8 * y + k
          · rw [if_pos q, if_pos (by omega)]
          · rw [if_neg q, if_neg (by omega)]
  have nums : ∀ k, k ≤ 680 → ∀ h1, i_Lay h1 → i_Fr [139, 140] [] h h1 → (∀ i, aI h1 139 i = if 680 * y ≤ i ∧ i < 680 * y + k then aI h 139 (680 * x + (i - 680 * y)) else aI h 139 i) → (∀ i, aJ h1 140 i = aJ h 140 i) → i_P i_MT i_AT L xs 330 2 [some (.ref 138), some (.int (i_n x)), some (.int (i_n y)), some (.int (i_n k))] [] h1 0 0 Q := by
    refine l_up ?_ ?_
    · intro h1 L1 f1 z1 z2
      refine d330_2 L1 ?_
      try simp (disch := omega) only [n_lit, n_m, n_add, n_mul, n_div, n_mod, n_cl, n_lt, n_le, n_eq, n_in, n_eqm, n_meq, n_mlt, n_ltm, n_mle, n_lem, not_true_eq_false, not_false_eq_true, true_implies, false_implies, true_and, and_true, Nat.not_lt_zero, Nat.zero_le, Nat.le_refl]
      exact names 0 (by omega) h1 L1 f1 z1 (fun i => by rw [if_neg (by omega)]; exact z2 i)
    · intro k hk ih h1 L1 f1 z1 z2
      refine d330_2 L1 ?_
      try simp (disch := omega) only [n_lit, n_m, n_add, n_mul, n_div, n_mod, n_cl, n_lt, n_le, n_eq, n_in, n_eqm, n_meq, n_mlt, n_ltm, n_mle, n_lem, not_true_eq_false, not_false_eq_true, true_implies, false_implies, true_and, and_true, Nat.not_lt_zero, Nat.zero_le]
      refine ⟨fun e => by omega, fun _ => ⟨by omega, by omega, ?_⟩⟩
      have Fi : i_Fr [139] [] h1 (i_siI h1 139 (680 * y + k) (aI h1 139 (680 * x + k))) := i_Fr.refl.siI (by decide)
      refine d330_33 L1.siI ?_
      try simp (disch := omega) only [n_lit, n_m, n_add, n_mul, n_div, n_mod, n_cl, n_lt, n_le, n_eq, n_in, n_eqm, n_meq, n_mlt, n_ltm, n_mle, n_lem, not_true_eq_false, not_false_eq_true, true_implies, false_implies, true_and, and_true, Nat.not_lt_zero, Nat.zero_le]
      refine ih _ L1.siI (f1.trans (Fi.mono (by decide) (fun _ z => z))) (fun i => ?_) (fun i => ?_)
      · rw [x_aI_siI L1.a139, x_upd]
        by_cases e : i = 680 * y + k
        · subst e
          rw [if_pos rfl, z1, if_neg (by omega), if_pos (by omega), show 680 * y + k - 680 * y = k by omega]
        · rw [if_neg e, z1]
          by_cases q : 680 * y ≤ i ∧ i < 680 * y + k
          · rw [if_pos q, if_pos (by omega)]
          · rw [if_neg q, if_neg (by omega)]
      · rw [Fi.rJ (by decide)]; exact z2 i
  refine e330 (d330_0 hL ?_)
  try simp (disch := omega) only [n_lit, n_m, n_add, n_mul, n_div, n_mod, n_cl, n_lt, n_le, n_eq, n_in, n_eqm, n_meq, n_mlt, n_ltm, n_mle, n_lem, not_true_eq_false, not_false_eq_true, true_implies, false_implies, true_and, and_true, Nat.not_lt_zero, Nat.zero_le]
  exact nums 0 (by omega) h hL i_Fr.refl (fun i => by rw [if_neg (by omega)]) (fun _ => rfl)
theorem q201 (hL : i_Lay h) {y : Int32} (H : ∀ h2, i_Lay h2 → i_G0 h h2 → fI h2 138 4 = y → Q (some (.int (-1))) h2) : i_C i_MT i_AT L xs 201 [.ref 138, .int y] h Q := e201 (b201_0 ⟨⟨_, hL.q138_4⟩, b201_5 (H _ (hL.sf hL.q138_4 rfl) (i_Fr.refl.sf (by decide)) (x_fI_sf hL.q138_4))⟩)
theorem q202 (hL : i_Lay h) {y : Int32} (H : ∀ h2, i_Lay h2 → i_G0 h h2 → fI h2 138 4 = 0 → Q (some (.int y)) h2) : i_C i_MT i_AT L xs 202 [.ref 138, .int y] h Q := e202 (b202_0 ⟨⟨_, hL.q138_4⟩, b202_5 (H _ (hL.sf hL.q138_4 rfl) (i_Fr.refl.sf (by decide)) (x_fI_sf hL.q138_4))⟩)
theorem c331 (hL : i_Lay h) {n : Nat} (hn : n ≤ 3) (e : fI h 138 57 = i_n n) (H0 : n = 3 → ∀ h2, i_Lay h2 → i_G0 h h2 → fI h2 138 4 = 4 → Q (some (.int (-1))) h2) (H1 : n < 3 → ∀ h2, i_Lay h2 → i_Fr [139, 140] [(138, 4), (138, 57)] h h2 → o_slot 0 (n + 1) h h2 → fI h2 138 57 = i_n (n + 1) → fI h2 138 4 = 0 → Q (some (.int (i_n (n + 1)))) h2) : i_C i_MT i_AT L xs 331 [.ref 138] h Q := by
  refine e331 (d331_0 hL ?_)
  rw [e, show (3 : Int32) = i_n 3 from rfl, n_eq (by omega) (by omega)]
  refine ⟨fun q => ?_, fun q => q201 hL (fun h2 L2 f2 s2 => ⟨_, rfl, d331_13 L2 (H0 (Classical.not_not.mp q) h2 L2 f2 s2)⟩)⟩
  rw [show i_n n + 1 = i_n (n + 1) from n_add n 1]
  refine w_sfI (R := fun z => i_P i_MT i_AT L xs 331 24 [some (.ref 138)] [] z 0 0 Q) hL hL.q138_57 (fun h1 L1 F1 E1 => d331_24 L1 ?_)
  rw [E1]
  refine c330 (x := 0) L1 (by omega) (by omega) (by omega) (fun h2 L2 f2 z2 => ⟨rfl, d331_33 L2 ?_⟩)
  rw [f2.vI (by simp), E1]
  refine q202 L2 (fun h3 L3 f3 s3 => ⟨_, rfl, d331_41 L3 (H1 (by omega) h3 L3 ((F1.mono (fun _ z => absurd z (by simp)) (by decide)).trans ((f2.mono (fun _ z => z) (fun _ z => absurd z (by simp))).trans (f3.mono (by decide) (by decide)))) ?_ ?_ s3)⟩)
  · unfold o_slot at z2 ⊢
    rw [f3.rI (by decide), f3.rJ (by decide)]
    rw [F1.rI (by simp), F1.rJ (by simp)] at z2
    exact z2
  · rw [f3.vI (by decide), f2.vI (by simp)]; exact E1
theorem c332 (hL : i_Lay h) {n : Nat} {b : Nat → Nat} (hn : n ≤ 3) (e : fI h 138 57 = i_n n) (es : ∀ k, k < 8 → aI h 141 k = i_n (o_ex k) - i_n 1 ∧ aI h 142 k = i_n (o_sy k) - i_n 1) (wb : 0 < n → o_WF b) (hb : 0 < n → ∀ i, i < 680 → aI h 139 (680 * n + i) = i_n (b i)) (H0 : n = 0 → ∀ h2, i_Lay h2 → i_G0 h h2 → fI h2 138 4 = 6 → Q (some (.int (-1))) h2) (H1 : 0 < n → ∀ h2, i_RA b h2 → i_Fr (139 :: 140 :: frA) [(138, 4), (138, 57)] h h2 → o_slot n 0 h h2 → fI h2 138 57 = i_n (n - 1) → fI h2 138 4 = 0 → Q (some (.int (i_n (n - 1)))) h2) : i_C i_MT i_AT L xs 332 [.ref 138] h Q := by
  refine e332 (d332_0 hL ?_)
  rw [e, show (0 : Int32) = i_n 0 from rfl, n_eq (by omega) (by omega)]
  refine ⟨fun q => c330 (y := 0) hL (by omega) (by omega) (by omega) (fun h1 L1 f1 z1 => ⟨rfl, d332_23 L1 ?_⟩), fun q => q201 hL (fun h2 L2 f2 s2 => ⟨_, rfl, d332_13 L2 (H0 (Classical.not_not.mp q) h2 L2 f2 s2)⟩)⟩
  rw [f1.vI (by simp), e, show i_n n - 1 = i_n (n - 1) from n_sub (a := n) (b := 1) (by omega)]
  refine w_sfI (R := fun z => i_P i_MT i_AT L xs 332 33 [some (.ref 138)] [] z 0 0 Q) L1 L1.q138_57 (fun h2 L2 F2 E2 => d332_33 L2 ?_)
  have rb : i_RB b h2 := by
    refine ⟨L2, wb (by omega), fun i hi => ?_, ?_, trivial⟩
    · rw [F2.rI (by simp), z1.1, if_pos (by omega), show 680 * n + (i - 680 * 0) = 680 * n + i by omega]
      exact hb (by omega) i hi
    · rw [F2.rI (by simp), F2.rI (by simp), f1.rI (by decide), f1.rI (by decide)]; exact es
  refine c252 rb (fun h3 r3 f3 => ⟨rfl, d332_37 r3.1 ?_⟩)
  rw [f3.vI (by simp), E2]
  refine m202 r3 (fun h4 r4 f4 s4 => ⟨_, rfl, d332_45 r4.1 (H1 (by omega) h4 r4 ?_ ?_ ?_ s4)⟩)
  · exact (f1.mono (by decide) (fun _ z => absurd z (by simp))).trans ((F2.mono (fun _ z => absurd z (by simp)) (by decide)).trans ((f3.mono (by decide) (fun _ z => absurd z (by simp))).trans (f4.mono (by decide) (by decide))))
  · unfold o_slot at z1 ⊢
    rw [f4.rI (by decide), f4.rJ (by decide), f3.rI (by decide), f3.rJ (by decide), F2.rI (by simp), F2.rJ (by simp)]
    exact z1
  · rw [f4.vI (by decide), f3.vI (by simp)]; exact E2
theorem q179 (hL : i_Lay h) {y : Int32} (H : ∀ h2, i_Lay h2 → i_Fr [] [(0, 0)] h h2 → fI h2 0 0 = y → Q (some (.int (-1))) h2) : i_C i_MT i_AT L xs 179 [.ref 0, .int y] h Q := e179 (d179_0 hL (w_sfI (R := fun z => i_P i_MT i_AT L xs 179 5 [some (.ref 0), some (.int y)] [] z 0 0 Q) hL hL.q0_0 (fun h1 L1 F1 E1 => d179_5 L1 (H h1 L1 F1 E1))))
theorem q181 (hL : i_Lay h) {y : Int32} (H : ∀ h2, i_Lay h2 → i_Fr [] [(0, 0)] h h2 → fI h2 0 0 = 0 → Q (some (.int y)) h2) : i_C i_MT i_AT L xs 181 [.ref 0, .int y] h Q := e181 (d181_0 hL (w_sfI (R := fun z => i_P i_MT i_AT L xs 181 5 [some (.ref 0), some (.int y)] [] z 0 0 Q) hL hL.q0_0 (fun h1 L1 F1 E1 => d181_5 L1 (H h1 L1 F1 E1))))
theorem i_mkp_T {n : Nat} (hn : n < 3) : i_T (i_mkp n) := by
  unfold i_T i_mkp
  omega
theorem i_mkp_ap {n : Nat} (hn : n < 3) (hT : i_T2 t) : o_ap (i_mkp n) t := by
  unfold i_T2 at hT
  unfold o_ap i_mkp
  omega
theorem o_cpd.on {m s : Nat} {h1 h2 : iH} (z : o_cpd m s h h1) (hm : 0 < m) (f : i_Fr [] [(0, 0), (0, 10)] h1 h2) : o_cpd m s h h2 := by
  have vI : ∀ b, fI h2 m b = fI h1 m b := fun b => f.vI (by simp; omega)
  have vJ : ∀ b, fJ h2 m b = fJ h1 m b := fun b => f.vJ (by simp; omega)
  have v7 : ∀ b, fI h2 (m + 7) b = fI h1 (m + 7) b := fun b => f.vI (by simp)
  have rI : ∀ p, aI h2 p = aI h1 p := fun p => f.rI (by simp)
  have rJ : ∀ p, aJ h2 p = aJ h1 p := fun p => f.rJ (by simp)
  unfold o_cpd o_cp7 at z ⊢
  simp only [vI, vJ, v7, rI, rJ]
  exact z
theorem c177 (hL : i_Lay h) {n : Nat} (hT : i_T2 t) (tw : i_fld h 0 11 5 = some (.ref t)) (hn : n ≤ 3) (e : fI h 0 10 = i_n n) (H0 : n = 3 → ∀ h2, i_Lay h2 → i_Fr [] [(0, 0)] h h2 → fI h2 0 0 = 4 → Q (some (.int (-1))) h2) (H1 : n < 3 → ∀ h2, i_Lay h2 → i_Fr (tA (i_mkp n)) ((0, 0) :: (0, 10) :: tF (i_mkp n)) h h2 → o_cpd (i_mkp n) t h h2 → fI h2 0 10 = i_n (n + 1) → fI h2 0 0 = 0 → Q (some (.int (i_n (n + 1)))) h2) : i_C i_MT i_AT L xs 177 [.ref 0] h Q := by
  refine e177 (d177_0 hL ?_)
  rw [e, show (3 : Int32) = i_n 3 from rfl, n_lt (by omega) (by omega)]
  refine ⟨fun q => ⟨(n_in (by omega)).mpr q, t, tw, hT.T, ?_⟩, fun q => q179 hL (fun h2 L2 f2 s2 => ⟨_, rfl, d177_13 L2 (H0 (by omega) h2 L2 f2 s2)⟩)⟩
  rw [n_cl (by omega)]
  have mF : ∀ b, (0, b) ∉ tF (i_mkp n) := fun b => by unfold tF i_mkp; simp; omega
  refine c98 hL (i_mkp_T q) hT.T (i_mkp_ap q hT) (fun h1 L1 f1 z1 => ⟨rfl, d177_30 L1 ?_⟩)
  rw [f1.vI (mF 10), e, show i_n n + 1 = i_n (n + 1) from n_add n 1]
  refine w_sfI (R := fun z => i_P i_MT i_AT L xs 177 40 [some (.ref 0)] [] z 0 0 Q) L1 L1.q0_10 (fun h2 L2 F2 E2 => d177_40 L2 ?_)
  rw [E2]
  refine q181 L2 (fun h3 L3 f3 s3 => ⟨_, rfl, d177_48 L3 (H1 q h3 L3 ?_ ?_ ?_ s3)⟩)
  · exact (f1.mono (fun _ z => z) (fun _ z => List.mem_cons_of_mem _ (List.mem_cons_of_mem _ z))).trans ((F2.mono (fun _ z => absurd z (by simp)) (fun z hz => by
      simp only [List.mem_cons, List.not_mem_nil, or_false] at hz
      subst hz
      exact List.mem_cons_of_mem _ List.mem_cons_self)).trans (f3.mono (fun _ z => absurd z (by simp)) (fun z hz => by
      simp only [List.mem_cons, List.not_mem_nil, or_false] at hz
      subst hz
      exact List.mem_cons_self)))
  · exact o_cpd.on z1 (by unfold i_mkp; omega) ((F2.mono (B := []) (G := [(0, 0), (0, 10)]) (fun _ z => z) (by decide)).trans (f3.mono (fun _ z => z) (by decide)))
  · rw [f3.vI (by decide)]; exact E2
theorem i_CT.on {m : Nat} {h1 h2 : iH} (z : i_CT a m h1) (hm : 0 < m) (f : i_Fr [] [(0, 0), (0, 10)] h1 h2) : i_CT a m h2 := z.fr f (fun k _ _ => by simp) (fun b => ⟨by simp; omega, by simp⟩)
abbrev bkA (t : Nat) : List Nat := tA t ++ foA
abbrev bkF (t : Nat) : List (Nat × Nat) := (0, 0) :: (0, 10) :: (tF t ++ foF)
set_option maxHeartbeats 1000000 in
theorem c178 (g : i_ST a t h) {n : Nat} {b : Nat → Nat} (hn : n ≤ 3) (e : fI h 0 10 = i_n n) (wb : 0 < n → o_WF b) (hb : 0 < n → i_CT b (i_mkp (n - 1)) h) (H0 : n = 0 → ∀ h2, i_Lay h2 → i_Fr [] [(0, 0)] h h2 → fI h2 0 0 = 6 → Q (some (.int (-1))) h2) (H1 : 0 < n → ∀ h2, i_ST b t h2 → i_Fr (bkA t) (bkF t) h h2 → (∀ j, j < 8 → aJ h2 (t + 8) j = aJ h (i_mkp (n - 1) + 8) j) → fI h2 0 10 = i_n (n - 1) → fI h2 0 0 = 0 → Q (some (.int (i_n (n - 1)))) h2) : i_C i_MT i_AT L xs 178 [.ref 0] h Q := by
  have hL := g.l
  have hT : i_T2 t := g.1.1.2.2.1
  have gq := i_GR.q g.1.2.1
  have w0 := g.w.wh
  refine e178 (d178_0 hL ?_)
  rw [e, show (0 : Int32) = i_n 0 from rfl, n_lt (by omega) (by omega)]
  refine ⟨fun q => ?_, fun q => q179 hL (fun h2 L2 f2 s2 => ⟨_, rfl, d178_13 L2 (H0 (by omega) h2 L2 f2 s2)⟩)⟩
  rw [show i_n n - 1 = i_n (n - 1) from n_sub (a := n) (b := 1) (by omega)]
  have hT1 : 0 < t ∧ t ≤ 29 := by unfold i_T2 at hT; omega
  refine w_sfI (R := fun z => i_P i_MT i_AT L xs 178 24 [some (.ref 0)] [] z 0 0 Q) hL hL.q0_10 (fun h1 L1 F1 E1 => d178_24 L1 ?_)
  have tw1 : i_fld h1 0 11 5 = some (.ref t) := by
    have := L1.fw (q := 0) (ci := 11) (b := 5) rfl rfl rfl
    rw [F1.vR (by decide), g.2] at this
    exact this
  rw [E1, n_cl (by omega)]
  have hm : n - 1 < 3 := by omega
  have ap : o_ap t (i_mkp (n - 1)) := by
    have := i_mkp_ap hm hT
    unfold o_ap at this ⊢
    omega
  refine ⟨t, tw1, hT.T, (n_in (by omega)).mpr hm, c98 L1 hT.T (i_mkp_T hm) ap (fun h2 L2 f2 z2 => ⟨rfl, d178_40 L2 ?_⟩)⟩
  have hb1 : i_CT b (i_mkp (n - 1)) h1 := (hb q).on (by unfold i_mkp; omega) (F1.mono (fun _ z => z) (by decide))
  have ct2 := z2.ct (wb q) hb1
  have n0F : ∀ b, (0, b) ∉ tF t := fun b => by unfold tF; simp; omega
  have n96 : ∀ b, (96, b) ∉ tF t := fun b => by unfold tF; simp; omega
  have nq : ∀ p, 44 < p → p ∉ tA t := fun p hp => by unfold tA; simp only [List.mem_cons, List.not_mem_nil, or_false]; omega
  have tw2 : i_fld h2 0 11 5 = some (.ref t) := by
    have := L2.fw (q := 0) (ci := 11) (b := 5) rfl rfl rfl
    rw [f2.vR (n0F 5), F1.vR (by decide), g.2] at this
    exact this
  have gq2 : i_GQ (a 0) (a 1) h2 := by
    unfold i_GQ at gq ⊢
    rw [f2.vI (n96 _), f2.vI (n96 _), f2.vI (n96 _), f2.vJ (n96 _), f2.vJ (n96 _), f2.vJ (n96 _), f2.rI (nq _ (by omega)), f2.rI (nq _ (by omega)), f2.rJ (nq _ (by omega)), f2.rJ (nq _ (by omega)), F1.vI (by decide), F1.vI (by decide), F1.vI (by decide), F1.vJ (by decide), F1.vJ (by decide), F1.vJ (by decide), F1.rI (by simp), F1.rI (by simp), F1.rJ (by simp), F1.rJ (by simp)]
    exact gq
  refine ⟨t, tw2, hT.T, c1 L2 (wb q) hT ct2 w0.1 w0.2 gq2 (fun h3 g3 f3 => ⟨rfl, d178_51 g3.l ?_⟩)⟩
  have E3 : fI h3 0 10 = i_n (n - 1) := by rw [f3.vI (by decide), f2.vI (n0F 10)]; exact E1
  rw [E3]
  refine q181 g3.l (fun h4 L4 f4 s4 => ⟨_, rfl, d178_59 L4 ?_⟩)
  have g4 : i_CO b t h4 := g3.fr L4 f4 (by simp) (fun q hq => by simp only [List.mem_cons, List.not_mem_nil, or_false] at hq; subst hq; exact Or.inl rfl)
  refine H1 q h4 ⟨g4, ?_⟩ ?_ (fun j hj => ?_) ?_ s4
  · rw [f4.vR (by decide), f3.vR (by decide), f2.vR (n0F 5), F1.vR (by decide)]; exact g.2
  · refine (F1.mono (fun _ z => absurd z (by simp)) (fun z hz => ?_)).trans ((f2.mono (fun z hz => List.mem_append_left _ hz) (fun z hz => List.mem_cons_of_mem _ (List.mem_cons_of_mem _ (List.mem_append_left _ hz)))).trans ((f3.mono (fun z hz => List.mem_append_right _ hz) (fun z hz => List.mem_cons_of_mem _ (List.mem_cons_of_mem _ (List.mem_append_right _ hz)))).trans (f4.mono (fun _ z => absurd z (by simp)) (fun z hz => ?_))))
    · simp only [List.mem_cons, List.not_mem_nil, or_false] at hz
      subst hz
      exact List.mem_cons_of_mem _ List.mem_cons_self
    · simp only [List.mem_cons, List.not_mem_nil, or_false] at hz
      subst hz
      exact List.mem_cons_self
  · rw [f4.rJ (by simp), f3.rJ (by simp only [List.mem_cons, List.not_mem_nil, or_false]; omega), z2.2.1.2.1 j hj, F1.rJ (by simp)]
  · rw [f4.vI (by decide)]; exact E3
end
