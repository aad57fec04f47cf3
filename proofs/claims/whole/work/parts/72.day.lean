/-! FILLS -/
section
variable {L : Nat} {xs : Nat → Int32} {h : iH} {Q : Option Value → iH → Prop} {a : Nat → Nat} {t : Nat}
set_option maxRecDepth 20000
theorem x_arI_f {q n : Nat} {f : Nat → Int32} (e : i_arI h 0 q = some (n, f)) : i_arI h 0 q = some (n, aI h q) := by
  rw [e]
  have := i_arI_s e
  unfold aI
  rw [this]
theorem x_arJ_f {q n : Nat} {f : Nat → Int64} (e : i_arJ h q = some (n, f)) : i_arJ h q = some (n, aJ h q) := by
  rw [e]
  have := i_arJ_s e
  unfold aJ
  rw [this]
theorem c349 (hL : i_Lay h) {q n : Nat} {f : Nat → Int32} {v : Int32} (e : i_arI h 0 q = some (n, f)) (hn : n < 1000000) (H : ∀ h2, i_Lay h2 → i_Fr [q] [] h h2 → (∀ j, j < n → aI h2 q j = v) → Q none h2) : i_C i_MT i_AT L xs 349 [.ref q, .int v] h Q := by
  have key : ∀ k, k ≤ n → ∀ h1, i_Lay h1 → i_Fr [q] [] h h1 → i_arI h1 0 q = some (n, aI h1 q) → (∀ j, j < k → aI h1 q j = v) → i_P i_MT i_AT L xs 349 5 [some (.ref q), some (.int v), some (.int (i_n k)), some (.int (i_n n))] [] h1 0 0 Q := by
    refine l_up ?_ ?_
    · intro h1 hL1 f1 e1 hj
      refine b349_5 ?_
      try simp (disch := omega) only [n_lit, n_m, n_add, n_mul, n_div, n_mod, n_cl, n_lt, n_le, n_eq, n_in, n_eqm, n_meq, n_mlt, n_ltm, n_mle, n_lem, not_true_eq_false, not_false_eq_true, true_implies, false_implies, true_and, and_true, Nat.not_lt_zero, Nat.zero_le, Nat.le_refl]
      exact H h1 hL1 f1 hj
    · intro k hk ih h1 hL1 f1 e1 hj
      refine b349_5 ?_
      try simp (disch := omega) only [n_lit, n_m, n_add, n_mul, n_div, n_mod, n_cl, n_lt, n_le, n_eq, n_in, n_eqm, n_meq, n_mlt, n_ltm, n_mle, n_lem, not_true_eq_false, not_false_eq_true, true_implies, false_implies, true_and, and_true, Nat.not_lt_zero, Nat.zero_le]
      refine ⟨fun z => by omega, fun _ => ⟨n, aI h1 q, e1, fun z => ?_, b349_14 ?_⟩⟩
      · rcases z with z | z
        · exact z.elim
        · omega
      · try simp (disch := omega) only [n_lit, n_m, n_add, n_mul, n_div, n_mod, n_cl, n_lt, n_le, n_eq, n_in, n_eqm, n_meq, n_mlt, n_ltm, n_mle, n_lem, not_true_eq_false, not_false_eq_true, true_implies, false_implies, true_and, and_true, Nat.not_lt_zero, Nat.zero_le]
        refine ih _ hL1.siI (f1.siI List.mem_cons_self) ?_ (fun j hj2 => ?_)
        · rw [x_aI_siI e1]; exact w_arI_siI e1
        · rw [x_aI_siI e1, x_upd]
          by_cases ej : j = k
          · rw [if_pos ej]
          · rw [if_neg ej]; exact hj j (by omega)
  refine e349 (b349_0 ⟨n, f, e, ?_⟩)
  exact key 0 (Nat.zero_le _) h hL i_Fr.refl (x_arI_f e) (fun j hj => absurd hj (Nat.not_lt_zero j))
theorem c348 (hL : i_Lay h) {q n : Nat} {f : Nat → Int64} {v : Int64} (e : i_arJ h q = some (n, f)) (hn : n < 1000000) (H : ∀ h2, i_Lay h2 → i_Fr [q] [] h h2 → (∀ j, j < n → aJ h2 q j = v) → Q none h2) : i_C i_MT i_AT L xs 348 [.ref q, .long v] h Q := by
  have key : ∀ k, k ≤ n → ∀ h1, i_Lay h1 → i_Fr [q] [] h h1 → i_arJ h1 q = some (n, aJ h1 q) → (∀ j, j < k → aJ h1 q j = v) → i_P i_MT i_AT L xs 348 6 [some (.ref q), some (.long v), none, some (.int (i_n k)), some (.int (i_n n))] [] h1 0 0 Q := by
    refine l_up ?_ ?_
    · intro h1 hL1 f1 e1 hj
      refine b348_6 ?_
      try simp (disch := omega) only [n_lit, n_m, n_add, n_mul, n_div, n_mod, n_cl, n_lt, n_le, n_eq, n_in, n_eqm, n_meq, n_mlt, n_ltm, n_mle, n_lem, not_true_eq_false, not_false_eq_true, true_implies, false_implies, true_and, and_true, Nat.not_lt_zero, Nat.zero_le, Nat.le_refl]
      exact H h1 hL1 f1 hj
    · intro k hk ih h1 hL1 f1 e1 hj
      refine b348_6 ?_
      try simp (disch := omega) only [n_lit, n_m, n_add, n_mul, n_div, n_mod, n_cl, n_lt, n_le, n_eq, n_in, n_eqm, n_meq, n_mlt, n_ltm, n_mle, n_lem, not_true_eq_false, not_false_eq_true, true_implies, false_implies, true_and, and_true, Nat.not_lt_zero, Nat.zero_le]
      refine ⟨fun z => by omega, fun _ => ⟨n, aJ h1 q, e1, fun z => ?_, b348_16 ?_⟩⟩
      · rcases z with z | z
        · exact z.elim
        · omega
      · try simp (disch := omega) only [n_lit, n_m, n_add, n_mul, n_div, n_mod, n_cl, n_lt, n_le, n_eq, n_in, n_eqm, n_meq, n_mlt, n_ltm, n_mle, n_lem, not_true_eq_false, not_false_eq_true, true_implies, false_implies, true_and, and_true, Nat.not_lt_zero, Nat.zero_le]
        refine ih _ hL1.siJ (f1.siJ List.mem_cons_self) ?_ (fun j hj2 => ?_)
        · rw [x_aJ_siJ e1]; exact w_arJ_siJ e1
        · rw [x_aJ_siJ e1, x_updJ]
          by_cases ej : j = k
          · rw [if_pos ej]
          · rw [if_neg ej]; exact hj j (by omega)
  refine e348 (b348_0 ⟨n, f, e, ?_⟩)
  exact key 0 (Nat.zero_le _) h hL i_Fr.refl (x_arJ_f e) (fun j hj => absurd hj (Nat.not_lt_zero j))
/-! DAYS -/
abbrev dS : Type := Nat × Nat × (Nat → Nat)
def o_dw (a : Nat → Nat) (m p q : Nat) : Nat := if p = q then 0 else o_wt a p q m
def o_dr (d : Nat) : Nat := (d * 2677 + 9029) % 65536
def o_d1 (a : Nat → Nat) (m p q : Nat) (s : dS) : dS := if o_dw a m p q = 0 then s else if o_dr s.1 / 8 % 16 < o_dw a m p q then (o_dr s.1, s.2.1 + 1, fun k => if k = p then s.2.2 k ||| (1 <<< q) else s.2.2 k) else (o_dr s.1, s.2.1, s.2.2)
def o_d2 (a : Nat → Nat) (m p : Nat) : Nat → dS → dS
  | 0, s => s
  | q + 1, s => o_d1 a m p q (o_d2 a m p q s)
def o_d3 (a : Nat → Nat) (m : Nat) : Nat → dS → dS
  | 0, s => s
  | p + 1, s => o_d2 a m p (a 5) (o_d3 a m p s)
def o_d4 (a : Nat → Nat) : Nat → dS → dS
  | 0, s => s
  | m + 1, s => o_d3 a (m + 1) (a 5) (o_d4 a m s)
def o_day (a : Nat → Nat) (seed : Nat) : dS := o_d4 a 60 (seed, 0, fun _ => 0)
def o_cau (a : Nat → Nat) (s : dS) (q : Nat) : Bool := o_or (fun p => o_wat a p q && (s.2.2 p).testBit q) (a 5)
def o_hid (a : Nat → Nat) (s : dS) : Nat := o_cn0 (o_cau a s) (a 5)
def o_Dw (s : dS) : Prop := s.1 < 65536 ∧ ∀ p, s.2.2 p < 256
theorem o_dr_lt (d : Nat) : o_dr d < 65536 := Nat.mod_lt _ (by decide)
theorem o_sh8 {q : Nat} (hq : q < 8) : 1 <<< q < 256 := by
  rw [Nat.one_shiftLeft]
  exact Nat.lt_of_le_of_lt (Nat.pow_le_pow_right (by omega) (show q ≤ 7 by omega)) (by decide)
theorem o_d1_w {m p q : Nat} {s : dS} (hq : q < 8) (w : o_Dw s) : o_Dw (o_d1 a m p q s) := by
  unfold o_d1
  split
  · exact w
  · split
    · refine ⟨o_dr_lt _, fun k => ?_⟩
      dsimp only
      split
      · exact Nat.or_lt_two_pow (n := 8) (w.2 k) (o_sh8 hq)
      · exact w.2 k
    · exact ⟨o_dr_lt _, w.2⟩
theorem o_d2_w {m p : Nat} {s : dS} (w : o_Dw s) : ∀ n, n ≤ 8 → o_Dw (o_d2 a m p n s)
  | 0, _ => w
  | n + 1, hn => o_d1_w (by omega) (o_d2_w w n (by omega))
theorem o_d3_w (h5 : a 5 ≤ 8) {m : Nat} {s : dS} (w : o_Dw s) : ∀ n, o_Dw (o_d3 a m n s)
  | 0 => w
  | n + 1 => o_d2_w (o_d3_w h5 w n) (a 5) h5
theorem o_d4_w (h5 : a 5 ≤ 8) {s : dS} (w : o_Dw s) : ∀ n, o_Dw (o_d4 a n s)
  | 0 => w
  | n + 1 => o_d3_w h5 (o_d4_w h5 w n) (a 5)
/-- the Day at y holds the draws, how often, who saw whom -/
def o_dy (y : Nat) (h : iH) (s : dS) : Prop := fI h y 4 = i_n s.1 ∧ fI h y 1 = i_n s.2.1 ∧ ∀ p, p < 8 → aI h (y + 1) p = i_n (s.2.2 p)
theorem i_Y_T {y : Nat} (hy : i_Y y) : 107 < y := by unfold i_Y at hy; omega
theorem c18 (hL : i_Lay h) {y w d : Nat} (hy : i_Y y) (hw : w ≤ 16) (hd : d < 65536) (e : fI h y 4 = i_n d) (H0 : w = 0 → Q (some (.int 0)) h) (H1 : w ≠ 0 → Q (some (.int (i_bo (o_dr d / 8 % 16 < w)))) (i_sf h y 4 (.int (i_n (o_dr d))))) : i_C i_MT i_AT L xs 18 [.ref y, .int (i_n w)] h Q := by
  unfold o_dr at H1
  refine e18 (d18_0 hL hy ?_)
  rw [e]
  try simp (disch := omega) only [n_lit, n_m, n_add, n_mul, n_div, n_mod, n_cl, n_lt, n_le, n_eq, n_in, n_eqm, n_meq, n_mlt, n_ltm, n_mle, n_lem, not_true_eq_false, not_false_eq_true, true_implies, false_implies, true_and, and_true, Nat.not_lt_zero, Nat.zero_le]
  refine ⟨fun z => ?_, fun z => H0 (by omega)⟩
  have H1 := H1 (by omega)
  have hL2 : i_Lay (i_sf h y 4 (.int (i_n ((d * 2677 + 9029) % 65536)))) := hL.sf (hL.d_4 hy) rfl
  refine d18_25 hL2 hy ?_
  rw [x_fI_sf (hL.d_4 hy)]
  try simp (disch := omega) only [n_lit, n_m, n_add, n_mul, n_div, n_mod, n_cl, n_lt, n_le, n_eq, n_in, n_eqm, n_meq, n_mlt, n_ltm, n_mle, n_lem, not_true_eq_false, not_false_eq_true, true_implies, false_implies, true_and, and_true, Nat.not_lt_zero, Nat.zero_le]
  refine ⟨fun z2 => d18_44 hL2 hy ⟨rfl, ?_⟩, fun z2 => d18_44 hL2 hy ⟨rfl, ?_⟩⟩
  · rw [i_bo_f (by omega)] at H1; exact H1
  · rw [i_bo_t (by omega)] at H1; exact H1
theorem c19 (hL : i_Lay h) {y p w : Nat} {s : dS} (hy : i_Y y) (h5 : a 5 ≤ 8) (e0 : fI h y 0 = i_n (a 5)) (ey : o_dy y h s) (ws : o_Dw s) (hp : p < 8) (hw : a (157 + 5 * p) < 256) (H : Q (some (.int (i_bo (o_cau a s p = true)))) h) : i_C i_MT i_AT L xs 19 [.ref y, .int (i_n p), .int (i_n (a (157 + 5 * p)))] h Q := by
  have key : ∀ k, k ≤ a 5 → o_or (fun b => o_wat a b p && (s.2.2 b).testBit p) k = false → i_P i_MT i_AT L xs 19 2 [some (.ref y), some (.int (i_n p)), some (.int (i_n (a (157 + 5 * p)))), some (.int (i_n k))] [] h 0 0 Q := by
    refine l_up ?_ ?_
    · intro z
      refine d19_2 hL hy ?_
      rw [e0]
      try simp (disch := omega) only [n_lit, n_m, n_add, n_mul, n_div, n_mod, n_cl, n_lt, n_le, n_eq, n_in, n_eqm, n_meq, n_mlt, n_ltm, n_mle, n_lem, not_true_eq_false, not_false_eq_true, true_implies, false_implies, true_and, and_true, Nat.not_lt_zero, Nat.zero_le, Nat.le_refl]
      rw [i_bo_f (by unfold o_cau; rw [z]; exact fun q => by cases q)] at H
      exact H
    · intro k hk ih z
      have nx : (o_wat a k p && (s.2.2 k).testBit p) = false → i_P i_MT i_AT L xs 19 35 [some (.ref y), some (.int (i_n p)), some (.int (i_n (a (157 + 5 * p)))), some (.int (i_n k))] [] h 0 0 Q := by
        intro z2
        refine d19_35 hL hy ?_
        try simp (disch := omega) only [n_lit, n_m, n_add, n_mul, n_div, n_mod, n_cl, n_lt, n_le, n_eq, n_in, n_eqm, n_meq, n_mlt, n_ltm, n_mle, n_lem, not_true_eq_false, not_false_eq_true, true_implies, false_implies, true_and, and_true, Nat.not_lt_zero, Nat.zero_le]
        exact ih (by rw [o_or, z, z2]; rfl)
      refine d19_2 hL hy ?_
      rw [e0]
      try simp (disch := omega) only [n_lit, n_m, n_add, n_mul, n_div, n_mod, n_cl, n_lt, n_le, n_eq, n_in, n_eqm, n_meq, n_mlt, n_ltm, n_mle, n_lem, not_true_eq_false, not_false_eq_true, true_implies, false_implies, true_and, and_true, Nat.not_lt_zero, Nat.zero_le]
      refine ⟨fun q => by omega, fun _ => c193 (by omega) ⟨_, rfl, d19_16 hL hy ?_⟩⟩
      rw [j_i2l (by omega) (by omega)]
      try simp (disch := omega) only [n_lit, n_m, i_bo01, j_cmpn, Classical.not_not, n_add, n_mul, n_div, n_mod, n_cl, n_lt, n_le, n_eq, n_in, n_eqm, n_meq, n_mlt, n_ltm, n_mle, n_lem, not_true_eq_false, not_false_eq_true, true_implies, false_implies, true_and, and_true, Nat.not_lt_zero, Nat.zero_le, ey.2.2]
      have w8 := ws.2 k
      refine ⟨fun z2 => nx (by unfold o_wat; simp [z2]), fun z2 => ⟨by omega, c193 (by omega) ⟨_, rfl, d19_30 hL hy ?_⟩⟩⟩
      rw [j_i2l (by omega) (by omega)]
      try simp (disch := omega) only [n_lit, n_m, i_bo01, j_cmpn, Classical.not_not, n_add, n_mul, n_div, n_mod, n_cl, n_lt, n_le, n_eq, n_in, n_eqm, n_meq, n_mlt, n_ltm, n_mle, n_lem, not_true_eq_false, not_false_eq_true, true_implies, false_implies, true_and, and_true, Nat.not_lt_zero, Nat.zero_le]
      refine ⟨fun z3 => nx (by simp [z3]), fun z3 => ?_⟩
      rw [i_bo_t (by unfold o_cau; rw [o_or_t]; exact ⟨k, hk, by unfold o_wat; simp [z2, z3]⟩)] at H
      exact H
  refine e19 (d19_0 hL hy ?_)
  try simp (disch := omega) only [n_lit, n_m, n_add, n_mul, n_div, n_mod, n_cl, n_lt, n_le, n_eq, n_in, n_eqm, n_meq, n_mlt, n_ltm, n_mle, n_lem, not_true_eq_false, not_false_eq_true, true_implies, false_implies, true_and, and_true, Nat.not_lt_zero, Nat.zero_le]
  exact key 0 (Nat.zero_le _) rfl
/-- what a day writes -/
abbrev i_FD (y : Nat) (h h2 : iH) : Prop := i_Fr [99, 100, 106, 107, y + 1] [(y, 0), (y, 1), (y, 2), (y, 4)] h h2
theorem i_CO.yf (g : i_CO a t h) {h2 : iH} {y : Nat} (hy : i_Y y) (hL : i_Lay h2) (f : i_Fr [y + 1] [(y, 0), (y, 1), (y, 2), (y, 4)] h h2) : i_CO a t h2 := by
  have := i_Y_T hy
  refine g.fr hL f (fun p hp => ?_) (fun q hq => ?_)
  · simp only [List.mem_cons, List.not_mem_nil, or_false] at hp; omega
  · simp only [List.mem_cons, List.not_mem_nil, or_false] at hq
    rcases hq with rfl | rfl | rfl | rfl <;> exact Or.inr (by dsimp only; omega)
theorem i_FD.d {y : Nat} {h h2 : iH} (f : i_Fr [y + 1] [(y, 0), (y, 1), (y, 2), (y, 4)] h h2) : i_FD y h h2 := f.mono (fun p hp => by simp only [List.mem_cons, List.not_mem_nil, or_false] at hp ⊢; omega) (fun _ z => z)
theorem i_FD.c {y : Nat} {h h2 : iH} (f : i_Fr [99, 100, 106, 107] [] h h2) : i_FD y h h2 := f.mono (fun p hp => by simp only [List.mem_cons, List.not_mem_nil, or_false] at hp ⊢; omega) (fun _ z => absurd z (by simp))
theorem y_rI {y : Nat} (hy : i_Y y) {h h2 : iH} (f : i_Fr [99, 100, 106, 107] [] h h2) : aI h2 (y + 1) = aI h (y + 1) := f.rI (by have := i_Y_T hy; simp only [List.mem_cons, List.not_mem_nil, or_false]; omega)
theorem y_vI {y b : Nat} {h h2 : iH} (f : i_Fr [99, 100, 106, 107] [] h h2) : fI h2 y b = fI h y b := f.vI (by simp)
set_option maxHeartbeats 2000000 in
theorem c17 (g : i_CO a t h) {y s0 : Nat} (hy : i_Y y) (hs : s0 < 65536) (H : ∀ h2, i_CO a t h2 → i_FD y h h2 → fI h2 y 0 = i_n (a 5) → o_dy y h2 (o_day a s0) → fI h2 y 2 = i_n (o_hid a (o_day a s0)) → Q none h2) : i_C i_MT i_AT L xs 17 [.ref y, .ref 95, .int (i_n s0)] h Q := by
  have h5 := g.w.2.2.2.2.1
  have sfF : ∀ (h1 : iH) (b : Nat) (v : Int32), (b = 0 ∨ b = 1 ∨ b = 2 ∨ b = 4) → i_Fr [y + 1] [(y, 0), (y, 1), (y, 2), (y, 4)] h1 (i_sf h1 y b (.int v)) := fun h1 b v hb => i_Fr.refl.sf (by simp; omega)
  -- who hid and was seen
  have hid : ∀ k, k ≤ a 5 → ∀ h1, i_CO a t h1 → i_FD y h h1 → fI h1 y 0 = i_n (a 5) → o_dy y h1 (o_day a s0) → fI h1 y 2 = i_n (o_cn0 (o_cau a (o_day a s0)) k) → ∀ (y4 y5 : Option Value), i_P i_MT i_AT L xs 17 136 [some (.ref y), some (.ref 95), some (.int (i_n s0)), some (.int (i_n k)), y4, y5] [] h1 0 0 Q := by
    have hD : o_Dw (o_day a s0) := o_d4_w h5 ⟨hs, fun _ => (by decide : (0:Nat) < 256)⟩ 60
    refine l_up ?_ ?_
    · intro h1 g1 f1 e0 ey e2 y4 y5
      refine d17_136 g1.l hy ?_
      rw [e0]
      try simp (disch := omega) only [n_lit, n_m, n_add, n_mul, n_div, n_mod, n_cl, n_lt, n_le, n_eq, n_in, n_eqm, n_meq, n_mlt, n_ltm, n_mle, n_lem, not_true_eq_false, not_false_eq_true, true_implies, false_implies, true_and, and_true, Nat.not_lt_zero, Nat.zero_le, Nat.le_refl]
      exact H h1 g1 f1 e0 ey e2
    · intro k hk ih h1 g1 f1 e0 ey e2 y4 y5
      refine d17_136 g1.l hy ?_
      rw [e0]
      try simp (disch := omega) only [n_lit, n_m, n_add, n_mul, n_div, n_mod, n_cl, n_lt, n_le, n_eq, n_in, n_eqm, n_meq, n_mlt, n_ltm, n_mle, n_lem, not_true_eq_false, not_false_eq_true, true_implies, false_implies, true_and, and_true, Nat.not_lt_zero, Nat.zero_le]
      refine ⟨fun q => by omega, fun _ => ⟨t, g1.tw, g1.T, by omega, ?_⟩⟩
      rw [g1.wa hk]
      refine c19 (w := 0) g1.l hy h5 e0 ey hD (by omega) (g.w.wb hk) ⟨_, rfl, d17_166 g1.l hy ?_⟩
      rw [e2]
      have fin : ∀ b : Nat, b = (if o_cau a (o_day a s0) k = true then 1 else 0) → ∀ (y4 y5 : Option Value), i_P i_MT i_AT L xs 17 174 [some (.ref y), some (.ref 95), some (.int (i_n s0)), some (.int (i_n k)), y4, y5] [.int (i_n b), .int (i_n (o_cn0 (o_cau a (o_day a s0)) k)), .ref y] h1 0 0 Q := by
        intro b hb y4 y5
        refine d17_174 g1.l hy ?_
        try simp (disch := omega) only [n_lit, n_m, n_add, n_mul, n_div, n_mod, n_cl, n_lt, n_le, n_eq, n_in, n_eqm, n_meq, n_mlt, n_ltm, n_mle, n_lem, not_true_eq_false, not_false_eq_true, true_implies, false_implies, true_and, and_true, Nat.not_lt_zero, Nat.zero_le]
        have F := sfF h1 2 (i_n (o_cn0 (o_cau a (o_day a s0)) k + b)) (by omega)
        have hL2 : i_Lay (i_sf h1 y 2 (.int (i_n (o_cn0 (o_cau a (o_day a s0)) k + b)))) := g1.l.sf (g1.l.d_2 hy) rfl
        have g2 := g1.yf hy hL2 F
        have F2 : i_Fr [] [(y, 2)] h1 (i_sf h1 y 2 (.int (i_n (o_cn0 (o_cau a (o_day a s0)) k + b)))) := i_Fr.refl.sf (by simp)
        refine d17_178 g2.l hy ?_
        try simp (disch := omega) only [n_lit, n_m, n_add, n_mul, n_div, n_mod, n_cl, n_lt, n_le, n_eq, n_in, n_eqm, n_meq, n_mlt, n_ltm, n_mle, n_lem, not_true_eq_false, not_false_eq_true, true_implies, false_implies, true_and, and_true, Nat.not_lt_zero, Nat.zero_le]
        refine ih _ g2 (f1.trans (i_FD.d F)) (by rw [F2.vI (by simp)]; exact e0) ⟨by rw [F2.vI (by simp)]; exact ey.1, by rw [F2.vI (by simp)]; exact ey.2.1, by rw [F2.rI (by simp)]; exact ey.2.2⟩ ?_ _ _
        rw [x_fI_sf (g1.l.d_2 hy), o_cn0, hb]
      try simp (disch := omega) only [n_lit, n_m, i_bo01, j_cmpn, Classical.not_not, n_add, n_mul, n_div, n_mod, n_cl, n_lt, n_le, n_eq, n_in, n_eqm, n_meq, n_mlt, n_ltm, n_mle, n_lem, not_true_eq_false, not_false_eq_true, true_implies, false_implies, true_and, and_true, Nat.not_lt_zero, Nat.zero_le]
      exact ⟨fun z => fin 0 (by rw [if_neg z]) _ _, fun z => fin 1 (by rw [if_pos z]) _ _⟩
  -- the minutes
  have key : ∀ m, m ≤ 61 → 1 ≤ m → ∀ h1, i_CO a t h1 → i_FD y h h1 → fI h1 y 0 = i_n (a 5) → o_dy y h1 (o_d4 a (m - 1) (s0, 0, fun _ => 0)) → ∀ (y4 y5 : Option Value), i_P i_MT i_AT L xs 17 34 [some (.ref y), some (.ref 95), some (.int (i_n s0)), some (.int (i_n m)), y4, y5] [] h1 0 0 Q := by
    refine l_up ?_ ?_
    · intro _ h1 g1 f1 e0 ey y4 y5
      refine d17_34 g1.l hy ?_
      try simp (disch := omega) only [n_lit, n_m, n_add, n_mul, n_div, n_mod, n_cl, n_lt, n_le, n_eq, n_in, n_eqm, n_meq, n_mlt, n_ltm, n_mle, n_lem, not_true_eq_false, not_false_eq_true, true_implies, false_implies, true_and, and_true, Nat.not_lt_zero, Nat.zero_le]
      refine ⟨fun _ => ?_, fun z => absurd (by omega) z⟩
      have F := sfF h1 2 (i_n 0) (by omega)
      have hL2 : i_Lay (i_sf h1 y 2 (.int (i_n 0))) := g1.l.sf (g1.l.d_2 hy) rfl
      have g2 := g1.yf hy hL2 F
      have F2 : i_Fr [] [(y, 2)] h1 (i_sf h1 y 2 (.int (i_n 0))) := i_Fr.refl.sf (by simp)
      refine d17_134 g2.l hy ?_
      try simp (disch := omega) only [n_lit, n_m, n_add, n_mul, n_div, n_mod, n_cl, n_lt, n_le, n_eq, n_in, n_eqm, n_meq, n_mlt, n_ltm, n_mle, n_lem, not_true_eq_false, not_false_eq_true, true_implies, false_implies, true_and, and_true, Nat.not_lt_zero, Nat.zero_le]
      exact hid 0 (Nat.zero_le _) _ g2 (f1.trans (i_FD.d F)) (by rw [F2.vI (by simp)]; exact e0) ⟨by rw [F2.vI (by simp)]; exact ey.1, by rw [F2.vI (by simp)]; exact ey.2.1, by rw [F2.rI (by simp)]; exact ey.2.2⟩ (x_fI_sf (g1.l.d_2 hy)) _ _
    · intro m hm ih hm1 h1 g1 f1 e0 ey y4 y5
      have hDm : o_Dw (o_d4 a (m - 1) (s0, 0, fun _ => 0)) := o_d4_w h5 ⟨hs, fun _ => (by decide : (0:Nat) < 256)⟩ (m - 1)
      generalize hB : o_d4 a (m - 1) (s0, 0, fun _ => 0) = B at ey hDm
      have row : ∀ p, p ≤ a 5 → ∀ h2, i_CO a t h2 → i_FD y h h2 → fI h2 y 0 = i_n (a 5) → o_dy y h2 (o_d3 a m p B) → ∀ (y5 : Option Value), i_P i_MT i_AT L xs 17 43 [some (.ref y), some (.ref 95), some (.int (i_n s0)), some (.int (i_n m)), some (.int (i_n p)), y5] [] h2 0 0 Q := by
        refine l_up ?_ ?_
        · intro h2 g2 f2 e0 ey y5
          refine d17_43 g2.l hy ?_
          rw [e0]
          try simp (disch := omega) only [n_lit, n_m, n_add, n_mul, n_div, n_mod, n_cl, n_lt, n_le, n_eq, n_in, n_eqm, n_meq, n_mlt, n_ltm, n_mle, n_lem, not_true_eq_false, not_false_eq_true, true_implies, false_implies, true_and, and_true, Nat.not_lt_zero, Nat.zero_le, Nat.le_refl]
          refine ih (by omega) h2 g2 f2 e0 ?_ _ _
          obtain ⟨j, rfl⟩ : ∃ j, m = j + 1 := ⟨m - 1, by omega⟩
          rw [show j + 1 + 1 - 1 = j + 1 by omega, o_d4]
          rw [show j + 1 - 1 = j by omega] at hB
          rw [hB]; exact ey
        · intro p hp ih2 h2 g2 f2 e0 ey y5
          have hDp := o_d3_w (m := m) h5 hDm p
          have col : ∀ q, q ≤ a 5 → ∀ h3, i_CO a t h3 → i_FD y h h3 → fI h3 y 0 = i_n (a 5) → o_dy y h3 (o_d2 a m p q (o_d3 a m p B)) → i_P i_MT i_AT L xs 17 55 [some (.ref y), some (.ref 95), some (.int (i_n s0)), some (.int (i_n m)), some (.int (i_n p)), some (.int (i_n q))] [] h3 0 0 Q := by
            refine l_up ?_ ?_
            · intro h3 g3 f3 e0 ey
              refine d17_55 g3.l hy ?_
              rw [e0]
              try simp (disch := omega) only [n_lit, n_m, n_add, n_mul, n_div, n_mod, n_cl, n_lt, n_le, n_eq, n_in, n_eqm, n_meq, n_mlt, n_ltm, n_mle, n_lem, not_true_eq_false, not_false_eq_true, true_implies, false_implies, true_and, and_true, Nat.not_lt_zero, Nat.zero_le, Nat.le_refl]
              exact ih2 h3 g3 f3 e0 ey _
            · intro q hq ih3 h3 g3 f3 e0 ey
              have hDq := o_d2_w (a := a) (m := m) (p := p) hDp q (by omega)
              rw [o_d2] at ih3
              generalize o_d2 a m p q (o_d3 a m p B) = S at ey hDq ih3
              have nx : ∀ h4, i_CO a t h4 → i_FD y h h4 → fI h4 y 0 = i_n (a 5) → o_dy y h4 (o_d1 a m p q S) → i_P i_MT i_AT L xs 17 111 [some (.ref y), some (.ref 95), some (.int (i_n s0)), some (.int (i_n m)), some (.int (i_n p)), some (.int (i_n q))] [] h4 0 0 Q := by
                intro h4 g4 f4 e0 ey
                refine d17_111 g4.l hy ?_
                try simp (disch := omega) only [n_lit, n_m, n_add, n_mul, n_div, n_mod, n_cl, n_lt, n_le, n_eq, n_in, n_eqm, n_meq, n_mlt, n_ltm, n_mle, n_lem, not_true_eq_false, not_false_eq_true, true_implies, false_implies, true_and, and_true, Nat.not_lt_zero, Nat.zero_le]
                exact ih3 h4 g4 f4 e0 ey
              refine d17_55 g3.l hy ?_
              rw [e0]
              try simp (disch := omega) only [n_lit, n_m, n_add, n_mul, n_div, n_mod, n_cl, n_lt, n_le, n_eq, n_in, n_eqm, n_meq, n_mlt, n_ltm, n_mle, n_lem, not_true_eq_false, not_false_eq_true, true_implies, false_implies, true_and, and_true, Nat.not_lt_zero, Nat.zero_le]
              refine ⟨fun z => by omega, fun _ => ⟨fun z => nx h3 g3 f3 e0 ?_, fun z => c12 g3 hp hq (by omega) (fun h4 g4 f4 => ?_)⟩⟩
              · have : o_d1 a m p q S = S := by
                  unfold o_d1 o_dw
                  rw [if_pos z.symm, if_pos rfl]
                rw [this]; exact ey
              have ew : o_dw a m p q = o_wt a p q m := by
                unfold o_dw
                rw [if_neg (fun q => z q.symm)]
              have e04 : fI h4 y 0 = i_n (a 5) := by rw [y_vI f4]; exact e0
              have ey4 : o_dy y h4 S := ⟨by rw [y_vI f4]; exact ey.1, by rw [y_vI f4]; exact ey.2.1, by rw [y_rI hy f4]; exact ey.2.2⟩
              have F4 := f3.trans (i_FD.c (y := y) f4)
              refine ⟨_, rfl, d17_81 g4.l hy (c18 g4.l hy (o_wt_le g.w hq (by omega)) hDq.1 ey4.1 (fun z2 => ⟨_, rfl, d17_84 g4.l hy ?_⟩) (fun z2 => ⟨_, rfl, ?_⟩))⟩
              · try simp (disch := omega) only [n_lit, n_m, n_add, n_mul, n_div, n_mod, n_cl, n_lt, n_le, n_eq, n_in, n_eqm, n_meq, n_mlt, n_ltm, n_mle, n_lem, not_true_eq_false, not_false_eq_true, true_implies, false_implies, true_and, and_true, Nat.not_lt_zero, Nat.zero_le]
                refine nx h4 g4 F4 e04 ?_
                have : o_d1 a m p q S = S := by
                  unfold o_d1
                  rw [if_pos (ew.trans z2)]
                rw [this]; exact ey4
              · have Fs := sfF h4 4 (i_n (o_dr S.1)) (by omega)
                have hL5 : i_Lay (i_sf h4 y 4 (.int (i_n (o_dr S.1)))) := g4.l.sf (g4.l.d_4 hy) rfl
                have g5 := g4.yf hy hL5 Fs
                have F2 : i_Fr [] [(y, 4)] h4 (i_sf h4 y 4 (.int (i_n (o_dr S.1)))) := i_Fr.refl.sf (by simp)
                have e05 : fI (i_sf h4 y 4 (.int (i_n (o_dr S.1)))) y 0 = i_n (a 5) := by rw [F2.vI (by simp)]; exact e04
                have ey5 : o_dy y (i_sf h4 y 4 (.int (i_n (o_dr S.1)))) (o_dr S.1, S.2.1, S.2.2) := ⟨x_fI_sf (g4.l.d_4 hy), by rw [F2.vI (by simp)]; exact ey4.2.1, by rw [F2.rI (by simp)]; exact ey4.2.2⟩
                have F5 := F4.trans (i_FD.d Fs)
                generalize i_sf h4 y 4 (.int (i_n (o_dr S.1))) = h5' at g5 e05 ey5 F5 ⊢
                have w8 := hDq.2 p
                refine d17_84 g5.l hy ?_
                try simp (disch := omega) only [n_lit, n_m, i_bo01, j_cmpn, Classical.not_not, n_add, n_mul, n_div, n_mod, n_cl, n_lt, n_le, n_eq, n_in, n_eqm, n_meq, n_mlt, n_ltm, n_mle, n_lem, not_true_eq_false, not_false_eq_true, true_implies, false_implies, true_and, and_true, Nat.not_lt_zero, Nat.zero_le, ey5.2.2, n_or, n_shl2, n_and]
                refine ⟨fun z3 => nx h5' g5 F5 e05 ?_, fun z3 => ⟨by omega, by omega, ?_⟩⟩
                · have : o_d1 a m p q S = (o_dr S.1, S.2.1, S.2.2) := by
                    unfold o_d1
                    rw [ew, if_neg z2, if_neg z3]
                  rw [this]; exact ey5
                · have Fi : i_Fr [y + 1] [(y, 0), (y, 1), (y, 2), (y, 4)] h5' (i_siI h5' (y + 1) p (i_n (S.2.2 p ||| 1 <<< q))) := i_Fr.refl.siI List.mem_cons_self
                  have g6 := g5.yf hy g5.l.siI Fi
                  have Fi2 : i_Fr [y + 1] [] h5' (i_siI h5' (y + 1) p (i_n (S.2.2 p ||| 1 <<< q))) := i_Fr.refl.siI List.mem_cons_self
                  have e06 : fI (i_siI h5' (y + 1) p (i_n (S.2.2 p ||| 1 <<< q))) y 0 = i_n (a 5) := by rw [Fi2.vI (by simp)]; exact e05
                  have ea6 : ∀ k, k < 8 → aI (i_siI h5' (y + 1) p (i_n (S.2.2 p ||| 1 <<< q))) (y + 1) k = i_n (if k = p then S.2.2 k ||| (1 <<< q) else S.2.2 k) := by
                    intro k hk
                    rw [x_aI_siI (g5.l.da hy), x_upd]
                    by_cases e : k = p
                    · rw [if_pos e, if_pos e, e]
                    · rw [if_neg e, if_neg e]; exact ey5.2.2 k hk
                  have ef6 : fI (i_siI h5' (y + 1) p (i_n (S.2.2 p ||| 1 <<< q))) y 4 = i_n (o_dr S.1) := by rw [Fi2.vI (by simp)]; exact ey5.1
                  have eg6 : fI (i_siI h5' (y + 1) p (i_n (S.2.2 p ||| 1 <<< q))) y 1 = i_n S.2.1 := by rw [Fi2.vI (by simp)]; exact ey5.2.1
                  have F6 := F5.trans (i_FD.d Fi)
                  generalize i_siI h5' (y + 1) p (i_n (S.2.2 p ||| 1 <<< q)) = h6 at g6 e06 ea6 ef6 eg6 F6 ⊢
                  refine d17_101 g6.l hy ?_
                  rw [eg6]
                  try simp (disch := omega) only [n_lit, n_m, n_add, n_mul, n_div, n_mod, n_cl, n_lt, n_le, n_eq, n_in, n_eqm, n_meq, n_mlt, n_ltm, n_mle, n_lem, not_true_eq_false, not_false_eq_true, true_implies, false_implies, true_and, and_true, Nat.not_lt_zero, Nat.zero_le]
                  have Ft := sfF h6 1 (i_n (S.2.1 + 1)) (by omega)
                  have hL7 : i_Lay (i_sf h6 y 1 (.int (i_n (S.2.1 + 1)))) := g6.l.sf (g6.l.d_1 hy) rfl
                  have F7 : i_Fr [] [(y, 1)] h6 (i_sf h6 y 1 (.int (i_n (S.2.1 + 1)))) := i_Fr.refl.sf (by simp)
                  refine nx _ (g6.yf hy hL7 Ft) (F6.trans (i_FD.d Ft)) (by rw [F7.vI (by simp)]; exact e06) ?_
                  have : o_d1 a m p q S = (o_dr S.1, S.2.1 + 1, fun k => if k = p then S.2.2 k ||| (1 <<< q) else S.2.2 k) := by
                    unfold o_d1
                    rw [ew, if_neg z2, if_pos z3]
                  rw [this]
                  exact ⟨by rw [F7.vI (by simp)]; exact ef6, x_fI_sf (g6.l.d_1 hy), by rw [F7.rI (by simp)]; exact ea6⟩
          refine d17_43 g2.l hy ?_
          rw [e0]
          try simp (disch := omega) only [n_lit, n_m, n_add, n_mul, n_div, n_mod, n_cl, n_lt, n_le, n_eq, n_in, n_eqm, n_meq, n_mlt, n_ltm, n_mle, n_lem, not_true_eq_false, not_false_eq_true, true_implies, false_implies, true_and, and_true, Nat.not_lt_zero, Nat.zero_le]
          exact ⟨fun z => by omega, fun _ => col 0 (Nat.zero_le _) h2 g2 f2 e0 ey⟩
      refine d17_34 g1.l hy ?_
      try simp (disch := omega) only [n_lit, n_m, n_add, n_mul, n_div, n_mod, n_cl, n_lt, n_le, n_eq, n_in, n_eqm, n_meq, n_mlt, n_ltm, n_mle, n_lem, not_true_eq_false, not_false_eq_true, true_implies, false_implies, true_and, and_true, Nat.not_lt_zero, Nat.zero_le]
      exact ⟨fun z => by omega, fun _ => row 0 (Nat.zero_le _) h1 g1 f1 e0 ey _⟩
  refine e17 (d17_0 g.l hy ⟨t, g.tw, g.T, ?_⟩)
  rw [g.np]
  have F1 := sfF h 0 (i_n (a 5)) (by omega)
  have hL1 : i_Lay (i_sf h y 0 (.int (i_n (a 5)))) := g.l.sf (g.l.d_0 hy) rfl
  have g1 := g.yf hy hL1 F1
  have e1 : fI (i_sf h y 0 (.int (i_n (a 5)))) y 0 = i_n (a 5) := x_fI_sf (g.l.d_0 hy)
  have D1 := i_FD.d F1
  generalize i_sf h y 0 (.int (i_n (a 5))) = h1 at g1 e1 D1 ⊢
  refine d17_14 g1.l hy ?_
  try simp (disch := omega) only [n_lit, n_m, n_add, n_mul, n_div, n_mod, n_cl, n_lt, n_le, n_eq, n_in, n_eqm, n_meq, n_mlt, n_ltm, n_mle, n_lem, not_true_eq_false, not_false_eq_true, true_implies, false_implies, true_and, and_true, Nat.not_lt_zero, Nat.zero_le]
  have F2 := sfF h1 1 (i_n 0) (by omega)
  have hL2 : i_Lay (i_sf h1 y 1 (.int (i_n 0))) := g1.l.sf (g1.l.d_1 hy) rfl
  have g2 := g1.yf hy hL2 F2
  have f2 : i_Fr [] [(y, 1)] h1 (i_sf h1 y 1 (.int (i_n 0))) := i_Fr.refl.sf (by simp)
  have e2 : fI (i_sf h1 y 1 (.int (i_n 0))) y 0 = i_n (a 5) := by rw [f2.vI (by simp)]; exact e1
  have e2b : fI (i_sf h1 y 1 (.int (i_n 0))) y 1 = i_n 0 := x_fI_sf (g1.l.d_1 hy)
  have D2 := D1.trans (i_FD.d F2)
  generalize i_sf h1 y 1 (.int (i_n 0)) = h2 at g2 e2 e2b D2 ⊢
  refine d17_19 g2.l hy ?_
  have F3 := sfF h2 4 (i_n s0) (by omega)
  have hL3 : i_Lay (i_sf h2 y 4 (.int (i_n s0))) := g2.l.sf (g2.l.d_4 hy) rfl
  have g3 := g2.yf hy hL3 F3
  have f3 : i_Fr [] [(y, 4)] h2 (i_sf h2 y 4 (.int (i_n s0))) := i_Fr.refl.sf (by simp)
  have e3 : fI (i_sf h2 y 4 (.int (i_n s0))) y 0 = i_n (a 5) := by rw [f3.vI (by simp)]; exact e2
  have e3b : fI (i_sf h2 y 4 (.int (i_n s0))) y 1 = i_n 0 := by rw [f3.vI (by simp)]; exact e2b
  have e3c : fI (i_sf h2 y 4 (.int (i_n s0))) y 4 = i_n s0 := x_fI_sf (g2.l.d_4 hy)
  have D3 := D2.trans (i_FD.d F3)
  generalize i_sf h2 y 4 (.int (i_n s0)) = h3 at g3 e3 e3b e3c D3 ⊢
  refine d17_24 g3.l hy (c349 g3.l (g3.l.da hy) (by omega) (fun h4 hL4 f4 e4 => ⟨rfl, d17_32 hL4 hy ?_⟩))
  have F4 : i_Fr [y + 1] [(y, 0), (y, 1), (y, 2), (y, 4)] h3 h4 := f4.mono (fun _ z => z) (fun _ z => absurd z (by simp))
  try simp (disch := omega) only [n_lit, n_m, n_add, n_mul, n_div, n_mod, n_cl, n_lt, n_le, n_eq, n_in, n_eqm, n_meq, n_mlt, n_ltm, n_mle, n_lem, not_true_eq_false, not_false_eq_true, true_implies, false_implies, true_and, and_true, Nat.not_lt_zero, Nat.zero_le]
  refine key 1 (by omega) (Nat.le_refl 1) h4 (g3.yf hy hL4 F4) (D3.trans (i_FD.d F4)) (by rw [f4.vI (by simp)]; exact e3) ⟨by rw [f4.vI (by simp)]; exact e3c, by rw [f4.vI (by simp)]; exact e3b, fun p hp => e4 p hp⟩ _ _
end
