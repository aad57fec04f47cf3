/-! WORDS -/
section
variable {L : Nat} {xs : Nat → Int32} {h : iH} {Q : Option Value → iH → Prop} {a : Nat → Nat} {t : Nat} {z q : Nat → Nat} {v : Nat → Nat → Int64}
set_option maxRecDepth 20000
theorem n_addm {k : Nat} (hk : 1 ≤ k) : i_n k + i_m = i_n (k - 1) := by
  have : i_n k + i_m = i_n k - i_n 1 := by rw [Int32.sub_eq_add_neg]; rfl
  rw [this, n_sub hk]
abbrev wF : Type := Nat → Int32
def o_li (f : wF) : Nat → Nat
  | 0 => 0
  | k + 1 => if f (k + 1) < f (o_li f k) then k + 1 else o_li f k
theorem o_li_le {f : wF} : ∀ k, o_li f k ≤ k
  | 0 => Nat.le_refl 0
  | k + 1 => by
    have := o_li_le (f := f) k
    rw [o_li]
    split <;> omega
/-- joined, and what is left, behind so many taken -/
def o_wj (n : Nat) (f : wF) : Nat → Int32 × wF
  | 0 => (0, f)
  | k + 1 => ((o_wj n f k).1 + (o_wj n f k).2 (o_li (o_wj n f k).2 (n - k - 1)), upd (o_wj n f k).2 (o_li (o_wj n f k).2 (n - k - 1)) ((o_wj n f k).2 (n - k - 1)))
def o_wr (K : Nat) : Nat → Nat → wF → Int32 → Int32
  | 0, _, _, s => s
  | r + 1, n, f, s => if n ≤ 1 then s else o_wr K r (n - K + 1) (upd (o_wj n f K).2 (n - K) (o_wj n f K).1) (s + (o_wj n f K).1)
def o_wp (K : Nat) : Nat → Nat → wF → Nat × wF
  | 0, n, f => (n, f)
  | r + 1, n, f => if (n - 1) % (K - 1) = 0 then (n, f) else o_wp K r (n + 1) (upd f n 0)
def o_wan (K n : Nat) (f : wF) : Int32 := o_wr K 20 (o_wp K 8 n f).1 (o_wp K 8 n f).2 0
theorem o_wp_0 {K n : Nat} {f : wF} (e : (n - 1) % (K - 1) = 0) : ∀ r, o_wp K r n f = (n, f)
  | 0 => rfl
  | r + 1 => by rw [o_wp, if_pos e]
theorem o_wr_1 {K n : Nat} {f : wF} {s : Int32} (e : n ≤ 1) : ∀ r, o_wr K r n f s = s
  | 0 => rfl
  | r + 1 => by rw [o_wr, if_pos e]
theorem w_K {K : Nat} (hK : 2 ≤ K ∧ K ≤ 8) : K = 2 ∨ K = 3 ∨ K = 4 ∨ K = 5 ∨ K = 6 ∨ K = 7 ∨ K = 8 := by omega
theorem w_d {K n : Nat} (hK : 2 ≤ K ∧ K ≤ 8) (h1 : (n - 1) % (K - 1) = 0) (h2 : 2 ≤ n) : K ≤ n ∧ (n - K + 1 - 1) % (K - 1) = 0 ∧ (n - K + 1 - 1) / (K - 1) + 1 = (n - 1) / (K - 1) := by
  rcases w_K hK with rfl | rfl | rfl | rfl | rfl | rfl | rfl <;> omega
theorem w_q {K n m : Nat} (hK : 2 ≤ K ∧ K ≤ 8) (h1 : n ≤ m + K - 2) (h2 : m ≤ 20) : (n - 1) / (K - 1) ≤ 20 := by
  rcases w_K hK with rfl | rfl | rfl | rfl | rfl | rfl | rfl <;> omega
theorem w_e {K m : Nat} (hK : 2 ≤ K ∧ K ≤ 8) : ∃ d, (m - 1 + d) % (K - 1) = 0 ∧ d < K - 1 := by
  refine ⟨(K - 1 - (m - 1) % (K - 1)) % (K - 1), ?_, Nat.mod_lt _ (by omega)⟩
  rcases w_K hK with rfl | rfl | rfl | rfl | rfl | rfl | rfl <;> omega
theorem w_s {K n d : Nat} (hK : 2 ≤ K ∧ K ≤ 8) (h1 : (n - 1 + d) % (K - 1) = 0) (h2 : d < K - 1) (h3 : ¬ (n - 1) % (K - 1) = 0) (hn : 1 ≤ n) : 1 ≤ d ∧ (n + 1 - 1 + (d - 1)) % (K - 1) = 0 ∧ d - 1 < K - 1 := by
  have : 1 ≤ d := by
    by_cases e : d = 0
    · subst e; exact absurd h1 h3
    · omega
  exact ⟨this, by rw [show n + 1 - 1 + (d - 1) = n - 1 + d by omega]; exact h1, by omega⟩
/-- an array holds the first n of f -/
def o_ag (x f : wF) (n : Nat) : Prop := ∀ i, i < n → x i = f i
theorem o_ag.up {x f : wF} {n : Nat} {y : Int32} (g : o_ag x f n) : o_ag (upd x n y) (upd f n y) (n + 1) := fun i hi => by
  rw [x_upd, x_upd]
  by_cases e : i = n
  · rw [if_pos e, if_pos e]
  · rw [if_neg e, if_neg e]; exact g i (by omega)
theorem o_ag.st {x f : wF} {n i : Nat} {y : Int32} (g : o_ag x f n) : o_ag (upd x i y) (upd f i y) n := fun j hj => by
  rw [x_upd, x_upd]
  by_cases e : j = i
  · rw [if_pos e, if_pos e]
  · rw [if_neg e, if_neg e]; exact g j hj
theorem o_ag.lt {x f : wF} {n m : Nat} (g : o_ag x f n) (hm : m ≤ n) : o_ag x f m := fun i hi => g i (by omega)
theorem c127 (hL : i_Lay h) {n : Nat} {f : wF} (hn : 1 ≤ n ∧ n ≤ 28) (g : o_ag (aI h 9) f n) (H : ∀ h2, i_Lay h2 → i_Fr [9] [] h h2 → aI h2 9 = upd (aI h 9) (o_li f (n - 1)) (f (n - 1)) → Q (some (.int (f (o_li f (n - 1))))) h2) : i_C i_MT i_AT L xs 127 [.ref 1, .int (i_n n)] h Q := by
  have key : ∀ k, k ≤ n → 1 ≤ k → i_P i_MT i_AT L xs 127 4 [some (.ref 1), some (.int (i_n n)), some (.int (i_n (o_li f (k - 1)))), some (.int (i_n k))] [] h 0 0 Q := by
    refine l_up ?_ ?_
    · intro _
      have hl := o_li_le (f := f) (n - 1)
      refine d127_4 hL ?_
      try simp (disch := omega) only [n_lit, n_m, n_add, n_mul, n_div, n_mod, n_cl, n_lt, n_le, n_eq, n_in, n_eqm, n_meq, n_mlt, n_ltm, n_mle, n_lem, not_true_eq_false, not_false_eq_true, true_implies, false_implies, true_and, and_true, Nat.not_lt_zero, Nat.zero_le, Nat.le_refl, n_sub]
      rw [g (o_li f (n - 1)) (by omega), g (n - 1) (by omega)]
      have fr : i_Fr [9] [] h (i_siI h 9 (o_li f (n - 1)) (f (n - 1))) := i_Fr.refl.siI (by decide)
      refine ⟨by omega, by omega, by omega, d127_53 hL.siI (H _ hL.siI fr ?_)⟩
      exact x_aI_siI hL.a9
    · intro k hk ih hk1
      have hl := o_li_le (f := f) (k - 1)
      have nx := ih (by omega)
      rw [show k + 1 - 1 = (k - 1) + 1 by omega, o_li, show k - 1 + 1 = k by omega] at nx
      refine d127_4 hL ?_
      try simp (disch := omega) only [n_lit, n_m, n_add, n_mul, n_div, n_mod, n_cl, n_lt, n_le, n_eq, n_in, n_eqm, n_meq, n_mlt, n_ltm, n_mle, n_lem, not_true_eq_false, not_false_eq_true, true_implies, false_implies, true_and, and_true, Nat.not_lt_zero, Nat.zero_le]
      rw [g (o_li f (k - 1)) (by omega), g k (by omega)]
      refine ⟨fun e => by omega, fun _ => ⟨by omega, by omega, fun e => d127_26 hL ?_, fun e => d127_26 hL ?_⟩⟩
      · try simp (disch := omega) only [n_lit, n_m, n_add, n_mul, n_div, n_mod, n_cl, n_lt, n_le, n_eq, n_in, n_eqm, n_meq, n_mlt, n_ltm, n_mle, n_lem, not_true_eq_false, not_false_eq_true, true_implies, false_implies, true_and, and_true, Nat.not_lt_zero, Nat.zero_le]
        rw [if_neg (Int32.not_lt.mpr e)] at nx; exact nx
      · try simp (disch := omega) only [n_lit, n_m, n_add, n_mul, n_div, n_mod, n_cl, n_lt, n_le, n_eq, n_in, n_eqm, n_meq, n_mlt, n_ltm, n_mle, n_lem, not_true_eq_false, not_false_eq_true, true_implies, false_implies, true_and, and_true, Nat.not_lt_zero, Nat.zero_le]
        rw [if_pos (Int32.not_le.mp e)] at nx; exact nx
  refine e127 (d127_0 hL ?_)
  try simp (disch := omega) only [n_lit, n_m, n_add, n_mul, n_div, n_mod, n_cl, n_lt, n_le, n_eq, n_in, n_eqm, n_meq, n_mlt, n_ltm, n_mle, n_lem, not_true_eq_false, not_false_eq_true, true_implies, false_implies, true_and, and_true, Nat.not_lt_zero, Nat.zero_le]
  exact key 1 hn.1 (Nat.le_refl 1)
set_option maxHeartbeats 1000000 in
theorem c126 (hL : i_Lay h) (k0 : i_TC z q v h) {j m K : Nat} (hj : j < 4) (hm : 2 ≤ m ∧ m ≤ 20) (hz : m < z j) (hK : 2 ≤ K ∧ K ≤ 8) (H : ∀ h2, i_Lay h2 → i_Fr [9] [] h h2 → Q (some (.int (o_wan K m (fun i => (v j i).toInt32)))) h2) : i_C i_MT i_AT L xs 126 [.ref 1, .int (i_n j), .int (i_n m), .int (i_n K)] h Q := by
  unfold o_wan at H
  -- rounds
  have rnd : ∀ i, i ≤ 20 → ∀ (n : Nat) (f : wF) (s : Int32) (h1 : iH), (n - 1) % (K - 1) = 0 → n ≤ 27 → 1 ≤ n → (n - 1) / (K - 1) ≤ 20 - i → o_ag (aI h1 9) f n → i_Lay h1 → i_Fr [9] [] h h1 → o_wr K (20 - i) n f s = o_wr K 20 (o_wp K 8 m (fun i => (v j i).toInt32)).1 (o_wp K 8 m (fun i => (v j i).toInt32)).2 0 → ∀ (y7 y8 : Option Value), i_P i_MT i_AT L xs 126 82 [some (.ref 1), some (.int (i_n j)), some (.int (i_n m)), some (.int (i_n K)), some (.int (i_n n)), some (.int s), some (.int (i_n i)), y7, y8] [] h1 0 0 Q := by
    refine l_up ?_ ?_
    · intro n f s h1 e1 e2 e3 e4 ag hL1 f1 ea y7 y8
      refine d126_82 hL1 ?_
      try simp (disch := omega) only [n_lit, n_m, n_add, n_mul, n_div, n_mod, n_cl, n_lt, n_le, n_eq, n_in, n_eqm, n_meq, n_mlt, n_ltm, n_mle, n_lem, not_true_eq_false, not_false_eq_true, true_implies, false_implies, true_and, and_true, Nat.not_lt_zero, Nat.zero_le, Nat.le_refl]
      refine d126_152 hL1 ?_
      have := H h1 hL1 f1
      rw [← ea] at this
      exact this
    · intro i hi ih n f s h1 e1 e2 e3 e4 ag hL1 f1 ea y7 y8
      refine d126_82 hL1 ?_
      try simp (disch := omega) only [n_lit, n_m, n_add, n_mul, n_div, n_mod, n_cl, n_lt, n_le, n_eq, n_in, n_eqm, n_meq, n_mlt, n_ltm, n_mle, n_lem, not_true_eq_false, not_false_eq_true, true_implies, false_implies, true_and, and_true, Nat.not_lt_zero, Nat.zero_le]
      refine ⟨fun e => by omega, fun _ => ⟨fun e => d126_152 hL1 ?_, fun e => ?_⟩⟩
      · have := H h1 hL1 f1
        rw [← ea, o_wr_1 (by omega)] at this
        exact this
      · obtain ⟨d1, d2, d3⟩ := w_d hK e1 (by omega)
        have kin : ∀ k, k ≤ K → ∀ h2, o_ag (aI h2 9) (o_wj n f k).2 (n - k) → i_Lay h2 → i_Fr [9] [] h h2 → i_P i_MT i_AT L xs 126 101 [some (.ref 1), some (.int (i_n j)), some (.int (i_n m)), some (.int (i_n K)), some (.int (i_n (n - k))), some (.int s), some (.int (i_n i)), some (.int ((o_wj n f k).1)), some (.int (i_n k))] [] h2 0 0 Q := by
          refine l_up ?_ ?_
          · intro h2 ag2 hL2 f2
            refine d126_101 hL2 ?_
            try simp (disch := omega) only [n_lit, n_m, n_add, n_mul, n_div, n_mod, n_cl, n_lt, n_le, n_eq, n_in, n_eqm, n_meq, n_mlt, n_ltm, n_mle, n_lem, not_true_eq_false, not_false_eq_true, true_implies, false_implies, true_and, and_true, Nat.not_lt_zero, Nat.zero_le, Nat.le_refl]
            have fr : i_Fr [9] [] h2 (i_siI h2 9 (n - K) (o_wj n f K).1) := i_Fr.refl.siI (by decide)
            refine ⟨by omega, d126_139 hL2.siI ?_⟩
            try simp (disch := omega) only [n_lit, n_m, n_add, n_mul, n_div, n_mod, n_cl, n_lt, n_le, n_eq, n_in, n_eqm, n_meq, n_mlt, n_ltm, n_mle, n_lem, not_true_eq_false, not_false_eq_true, true_implies, false_implies, true_and, and_true, Nat.not_lt_zero, Nat.zero_le]
            refine ih (n - K + 1) (upd (o_wj n f K).2 (n - K) (o_wj n f K).1) _ _ d2 (by omega) (by omega) (by omega) ?_ hL2.siI (f2.trans fr) ?_ _ _
            · rw [x_aI_siI hL2.a9]; exact ag2.up
            · rw [← ea, show 20 - i = (20 - (i + 1)) + 1 by omega, o_wr, if_neg (by omega)]
          · intro k hk ih2 h2 ag2 hL2 f2
            rw [o_wj] at ih2
            refine d126_101 hL2 ?_
            try simp (disch := omega) only [n_lit, n_m, n_add, n_mul, n_div, n_mod, n_cl, n_lt, n_le, n_eq, n_in, n_eqm, n_meq, n_mlt, n_ltm, n_mle, n_lem, not_true_eq_false, not_false_eq_true, true_implies, false_implies, true_and, and_true, Nat.not_lt_zero, Nat.zero_le]
            refine ⟨fun e => by omega, fun _ => c127 (f := (o_wj n f k).2) hL2 (by omega) ag2 (fun h3 hL3 f3 e3 => ⟨_, rfl, d126_118 hL3 ?_⟩)⟩
            try simp (disch := omega) only [n_lit, n_m, n_add, n_mul, n_div, n_mod, n_cl, n_lt, n_le, n_eq, n_in, n_eqm, n_meq, n_mlt, n_ltm, n_mle, n_lem, not_true_eq_false, not_false_eq_true, true_implies, false_implies, true_and, and_true, Nat.not_lt_zero, Nat.zero_le, n_addm]
            refine ih2 h3 ?_ hL3 (f2.trans f3)
            rw [e3]
            exact (ag2.st).lt (by omega)
        try simp (disch := omega) only [n_lit, n_m, n_add, n_mul, n_div, n_mod, n_cl, n_lt, n_le, n_eq, n_in, n_eqm, n_meq, n_mlt, n_ltm, n_mle, n_lem, not_true_eq_false, not_false_eq_true, true_implies, false_implies, true_and, and_true, Nat.not_lt_zero, Nat.zero_le]
        exact kin 0 (Nat.zero_le _) h1 ag hL1 f1
  -- the padding
  have pad : ∀ i, i ≤ 8 → ∀ (n d : Nat) (f : wF) (h1 : iH), (n - 1 + d) % (K - 1) = 0 → d < K - 1 → d ≤ 8 - i → 1 ≤ n → n + d ≤ m + K - 2 → o_ag (aI h1 9) f n → i_Lay h1 → i_Fr [9] [] h h1 → o_wp K (8 - i) n f = o_wp K 8 m (fun i => (v j i).toInt32) → ∀ (y6 y7 y8 : Option Value), i_P i_MT i_AT L xs 126 41 [some (.ref 1), some (.int (i_n j)), some (.int (i_n m)), some (.int (i_n K)), some (.int (i_n n)), some (.int (i_n i)), y6, y7, y8] [] h1 0 0 Q := by
    have fin : ∀ i (n : Nat) (f : wF) (h1 : iH), (n - 1) % (K - 1) = 0 → 1 ≤ n → n ≤ m + K - 2 → o_ag (aI h1 9) f n → i_Lay h1 → i_Fr [9] [] h h1 → (n, f) = o_wp K 8 m (fun i => (v j i).toInt32) → ∀ (y6 y7 y8 : Option Value), i_P i_MT i_AT L xs 126 76 [some (.ref 1), some (.int (i_n j)), some (.int (i_n m)), some (.int (i_n K)), some (.int (i_n n)), some (.int (i_n i)), y6, y7, y8] [] h1 0 0 Q := by
      intro i n f h1 e1 e2 e3 ag hL1 f1 ea y6 y7 y8
      refine d126_76 hL1 ?_
      try simp (disch := omega) only [n_lit, n_m, n_add, n_mul, n_div, n_mod, n_cl, n_lt, n_le, n_eq, n_in, n_eqm, n_meq, n_mlt, n_ltm, n_mle, n_lem, not_true_eq_false, not_false_eq_true, true_implies, false_implies, true_and, and_true, Nat.not_lt_zero, Nat.zero_le]
      exact rnd 0 (by omega) n f _ h1 e1 (by omega) e2 (by have := w_q hK e3 hm.2; omega) ag hL1 f1 (by rw [← ea]; rfl) _ _
    refine l_up ?_ ?_
    · intro n d f h1 e1 e2 e3 e4 e5 ag hL1 f1 ea y6 y7 y8
      have d0 : d = 0 := by omega
      subst d0
      refine d126_41 hL1 ?_
      try simp (disch := omega) only [n_lit, n_m, n_add, n_mul, n_div, n_mod, n_cl, n_lt, n_le, n_eq, n_in, n_eqm, n_meq, n_mlt, n_ltm, n_mle, n_lem, not_true_eq_false, not_false_eq_true, true_implies, false_implies, true_and, and_true, Nat.not_lt_zero, Nat.zero_le, Nat.le_refl]
      rw [o_wp_0 e1] at ea
      exact fin 8 n f h1 e1 e4 (by omega) ag hL1 f1 ea _ _ _
    · intro i hi ih n d f h1 e1 e2 e3 e4 e5 ag hL1 f1 ea y6 y7 y8
      have hml := Nat.mod_lt (n - 1) (show K - 1 > 0 by omega)
      refine d126_41 hL1 ?_
      try simp (disch := omega) only [n_lit, n_m, n_add, n_mul, n_div, n_mod, n_cl, n_lt, n_le, n_eq, n_in, n_eqm, n_meq, n_mlt, n_ltm, n_mle, n_lem, not_true_eq_false, not_false_eq_true, true_implies, false_implies, true_and, and_true, Nat.not_lt_zero, Nat.zero_le, n_sub]
      refine ⟨fun e => by omega, fun _ => ⟨by omega, fun e => ?_, fun e => ⟨by omega, ?_⟩⟩⟩
      · rw [o_wp_0 e] at ea
        exact fin i n f h1 e e4 (by omega) ag hL1 f1 ea _ _ _
      · obtain ⟨q1, q2, q3⟩ := w_s hK e1 e2 e e4
        have fr : i_Fr [9] [] h1 (i_siI h1 9 n (i_n 0)) := i_Fr.refl.siI (by decide)
        refine d126_70 hL1.siI ?_
        try simp (disch := omega) only [n_lit, n_m, n_add, n_mul, n_div, n_mod, n_cl, n_lt, n_le, n_eq, n_in, n_eqm, n_meq, n_mlt, n_ltm, n_mle, n_lem, not_true_eq_false, not_false_eq_true, true_implies, false_implies, true_and, and_true, Nat.not_lt_zero, Nat.zero_le]
        refine ih (n + 1) (d - 1) (upd f n 0) _ q2 q3 (by omega) (by omega) (by omega) ?_ hL1.siI (f1.trans fr) ?_ _ _ _
        · rw [x_aI_siI hL1.a9]; exact ag.up
        · rw [← ea, show 8 - i = (8 - (i + 1)) + 1 by omega, o_wp, if_neg e]
  have fil : ∀ i, i ≤ m → ∀ h1, o_ag (aI h1 9) (fun i => (v j i).toInt32) i → i_Lay h1 → i_Fr [9] [] h h1 → ∀ (y6 y7 y8 : Option Value), i_P i_MT i_AT L xs 126 6 [some (.ref 1), some (.int (i_n j)), some (.int (i_n m)), some (.int (i_n K)), some (.int (i_n i)), some (.int (i_n i)), y6, y7, y8] [] h1 0 0 Q := by
    refine l_up ?_ ?_
    · intro h1 ag hL1 f1 y6 y7 y8
      refine d126_6 hL1 ?_
      try simp (disch := omega) only [n_lit, n_m, n_add, n_mul, n_div, n_mod, n_cl, n_lt, n_le, n_eq, n_in, n_eqm, n_meq, n_mlt, n_ltm, n_mle, n_lem, not_true_eq_false, not_false_eq_true, true_implies, false_implies, true_and, and_true, Nat.not_lt_zero, Nat.zero_le, Nat.le_refl]
      obtain ⟨d, d1, d2⟩ := w_e (m := m) hK
      exact pad 0 (by omega) m d _ h1 d1 d2 (by omega) (by omega) (by omega) ag hL1 f1 rfl _ _ _
    · intro i hi ih h1 ag hL1 f1 y6 y7 y8
      have er : aJ h1 (3 + j) i = v j i := by rw [f1.rJ (by simp; omega)]; exact (k0 j hj).2.2 i (by omega)
      refine d126_6 hL1 ?_
      try simp (disch := omega) only [n_lit, n_m, n_add, n_mul, n_div, n_mod, n_cl, n_lt, n_le, n_eq, n_in, n_eqm, n_meq, n_mlt, n_ltm, n_mle, n_lem, not_true_eq_false, not_false_eq_true, true_implies, false_implies, true_and, and_true, Nat.not_lt_zero, Nat.zero_le, er]
      have fr : i_Fr [9] [] h1 (i_siI h1 9 i (v j i).toInt32) := i_Fr.refl.siI (by decide)
      refine ⟨fun e => by omega, fun _ => ⟨by omega, by omega, by omega, d126_32 hL1.siI ?_⟩⟩
      try simp (disch := omega) only [n_lit, n_m, n_add, n_mul, n_div, n_mod, n_cl, n_lt, n_le, n_eq, n_in, n_eqm, n_meq, n_mlt, n_ltm, n_mle, n_lem, not_true_eq_false, not_false_eq_true, true_implies, false_implies, true_and, and_true, Nat.not_lt_zero, Nat.zero_le]
      refine ih _ ?_ hL1.siI (f1.trans fr) _ _ _
      rw [x_aI_siI hL1.a9]
      intro i2 hi2
      rw [x_upd]
      by_cases e : i2 = i
      · rw [if_pos e, e]
      · rw [if_neg e]; exact ag i2 (by omega)
  refine e126 (d126_0 hL ?_)
  try simp (disch := omega) only [n_lit, n_m, n_add, n_mul, n_div, n_mod, n_cl, n_lt, n_le, n_eq, n_in, n_eqm, n_meq, n_mlt, n_ltm, n_mle, n_lem, not_true_eq_false, not_false_eq_true, true_implies, false_implies, true_and, and_true, Nat.not_lt_zero, Nat.zero_le]
  exact fil 0 (Nat.zero_le _) h (fun i hi => absurd hi (Nat.not_lt_zero i)) hL i_Fr.refl _ _ _
/-- what is wrong with words, else 0 -/
abbrev v_wd (x y n : Int32) : Prop := v_tr x ∧ (2 ≤ y ∧ y ≤ 20) ∧ (2 ≤ n ∧ n ≤ 8)
def o_wst (z : Nat → Nat) (v : Nat → Nat → Int64) (x y n : Int32) : Int32 := if v_wd x y n then (if z x.toNatClampNeg = 0 then 2 else if y.toNatClampNeg < z x.toNatClampNeg then (if o_al (fun i => decide (0 ≤ v x.toNatClampNeg i ∧ v x.toNatClampNeg i ≤ 9999)) y.toNatClampNeg = true then 0 else 5) else 3) else 1
theorem c125 (hL : i_Lay h) (w : o_TW z q) (k : i_TC z q v h) {x y n : Int32} (H : Q (some (.int (o_wst z v x y n))) h) : i_C i_MT i_AT L xs 125 [.ref 1, .int x, .int y, .int n] h Q := by
  unfold o_wst at H
  have bad : ¬ v_wd x y n → ∀ (y4 : Option Value), i_P i_MT i_AT L xs 125 27 [some (.ref 1), some (.int x), some (.int y), some (.int n), y4] [] h 0 0 Q := by
    intro e y4
    rw [if_neg e] at H
    exact d125_27 hL H
  refine e125 (d125_0 hL (c117 hL ⟨_, rfl, d125_4 hL ?_⟩))
  rw [i_bo_0, Classical.not_not]
  refine ⟨fun e => bad (fun q => e q.1) _, fun e => c192 ⟨_, rfl, d125_14 hL ?_⟩⟩
  rw [i_bo_0, Classical.not_not]
  refine ⟨fun e2 => bad (fun q => e2 q.2.1) _, fun e2 => c192 ⟨_, rfl, d125_24 hL ?_⟩⟩
  rw [i_bo_0, Classical.not_not]
  refine ⟨fun e3 => ?_, fun e3 => bad (fun q => e3 q.2.2) _⟩
  rw [if_pos ⟨e, e2, e3⟩] at H
  obtain ⟨j, hj, rfl⟩ := n_get e (by omega)
  obtain ⟨m, hm1, hm, rfl⟩ := n_g1 (j := 2) (k := 20) e2 (by omega) (by omega)
  obtain ⟨K, hK1, hK, rfl⟩ := n_g1 (j := 2) (k := 8) e3 (by omega) (by omega)
  rw [n_cl (by omega), n_cl (by omega)] at H
  have zj := (w j hj).1
  have hij : i_in (i_n j) 4 := (n_in (by omega)).mpr hj
  refine c118 hL w k hj ⟨_, rfl, d125_34 hL ?_⟩
  rw [i_bo_0, Classical.not_not]
  refine ⟨fun e4 => ?_, fun e4 => by rw [if_pos e4] at H; exact H⟩
  rw [if_neg e4] at H
  rw [n_cl (by omega), (k j hj).1, o_zI_s e4, n_le (by omega) (by omega)]
  refine ⟨hij, fun e5 => ?_, fun e5 => by rw [if_neg (by omega)] at H; exact H⟩
  rw [if_pos (by omega)] at H
  have key : ∀ i, i ≤ m → o_al (fun i => decide (0 ≤ v j i ∧ v j i ≤ 9999)) i = true → i_P i_MT i_AT L xs 125 54 [some (.ref 1), some (.int (i_n j)), some (.int (i_n m)), some (.int (i_n K)), some (.int (i_n i))] [] h 0 0 Q := by
    refine l_up ?_ ?_
    · intro ea
      refine d125_54 hL ?_
      try simp (disch := omega) only [n_lit, n_m, n_add, n_mul, n_div, n_mod, n_cl, n_lt, n_le, n_eq, n_in, n_eqm, n_meq, n_mlt, n_ltm, n_mle, n_lem, not_true_eq_false, not_false_eq_true, true_implies, false_implies, true_and, and_true, Nat.not_lt_zero, Nat.zero_le, Nat.le_refl]
      rw [if_pos ea] at H
      exact H
    · intro i hi ih ea
      refine d125_54 hL ?_
      try simp (disch := omega) only [n_lit, n_m, n_add, n_mul, n_div, n_mod, n_cl, n_lt, n_le, n_eq, n_in, n_eqm, n_meq, n_mlt, n_ltm, n_mle, n_lem, not_true_eq_false, not_false_eq_true, true_implies, false_implies, true_and, and_true, Nat.not_lt_zero, Nat.zero_le]
      rw [(k j hj).2.2 i (by omega), show (9999 : Int64) = 9999 from rfl]
      have bd : ¬ (0 ≤ v j i ∧ v j i ≤ 9999) → i_P i_MT i_AT L xs 125 90 [some (.ref 1), some (.int (i_n j)), some (.int (i_n m)), some (.int (i_n K)), some (.int (i_n i))] [] h 0 0 Q := by
        intro e6
        rw [if_neg (fun q => e6 (by simpa using (o_al_t m).mp q i hi))] at H
        exact d125_90 hL H
      refine ⟨fun e => by omega, fun _ => ⟨by omega, by omega, fun e6 => bd (fun q => ?_), fun e6 => ⟨by omega, by omega, fun e7 => ih ?_, fun e7 => bd (fun q => ?_)⟩⟩⟩
      · rw [show i_n 0 = (0 : Int32) from rfl, j_lt] at e6
        exact absurd q.1 (Int64.not_le.mpr e6)
      · rw [show i_n 0 = (0 : Int32) from rfl] at e6 e7
        rw [j_lt] at e6
        rw [j_le0] at e7
        rw [o_al, ea]
        simp
        exact ⟨Int64.not_lt.mp e6, e7⟩
      · rw [show i_n 0 = (0 : Int32) from rfl, j_le0] at e7
        exact e7 q.2
  exact key 0 (Nat.zero_le _) rfl
def o_wdA (z : Nat → Nat) (v : Nat → Nat → Int64) (x y n : Int32) : Int32 × Int32 := if o_wst z v x y n = 0 then (o_wan n.toNatClampNeg y.toNatClampNeg (fun i => (v x.toNatClampNeg i).toInt32), 0) else (-1, o_wst z v x y n)
theorem o_wst_0 {x y n : Int32} (w : o_TW z q) (e : o_wst z v x y n = 0) : ∃ j m K, x = i_n j ∧ y = i_n m ∧ n = i_n K ∧ j < 4 ∧ (2 ≤ m ∧ m ≤ 20) ∧ (2 ≤ K ∧ K ≤ 8) ∧ m < z j := by
  unfold o_wst at e
  split at e
  · rename_i hx
    obtain ⟨j, hj, rfl⟩ := n_get hx.1 (by omega)
    obtain ⟨m, hm1, hm, rfl⟩ := n_g1 (j := 2) (k := 20) hx.2.1 (by omega) (by omega)
    obtain ⟨K, hK1, hK, rfl⟩ := n_g1 (j := 2) (k := 8) hx.2.2 (by omega) (by omega)
    rw [n_cl (by omega), n_cl (by omega)] at e
    split at e
    · exact absurd e (by decide)
    · split at e
      · rename_i hz
        exact ⟨j, m, K, rfl, rfl, rfl, hj, ⟨hm1, hm⟩, ⟨hK1, hK⟩, hz⟩
      · exact absurd e (by decide)
  · exact absurd e (by decide)
theorem c164 (g : i_ST a t h) (w : o_TW z q) (k : i_TC z q v h) {x y n : Int32} (H : i_KS a t h Q (o_wdA z v x y n)) : i_C i_MT i_AT L xs 164 [.ref 0, .int x, .int y, .int n] h Q := by
  unfold o_wdA at H
  refine e164 (d164_0 g.l (c125 g.l w k ⟨_, rfl, d164_10 g.l ⟨fun e => ?_, fun e => ?_⟩⟩))
  · rw [if_pos e] at H
    obtain ⟨j, m, K, rfl, rfl, rfl, hj, hm, hK, hz⟩ := o_wst_0 w e
    rw [n_cl (by omega), n_cl (by omega), n_cl (by omega)] at H
    refine c126 g.l k hj hm hz hK (fun h1 hL1 f1 => ⟨_, rfl, ?_⟩)
    have f2 : i_FS h h1 := f1.mono (by decide) (by decide)
    have c := g.1
    have G1 : i_ST a t h1 := by
      refine ⟨⟨⟨hL1, c.1.2.1, c.1.2.2.1, ?_, ?_, ?_, ?_, ?_⟩, ?_, ?_, ?_⟩, ?_⟩
      · rw [f1.vR (by decide)]; exact c.1.2.2.2.1
      · have hT := c.1.2.2.1
        refine c.1.2.2.2.2.1.fr f1 (fun k h1 h2 => ?_) (fun b => ⟨by simp, by simp⟩)
        rcases hT with e | e <;> rw [e] <;> simp <;> omega
      · rw [f1.rJ (by decide)]; exact c.1.2.2.2.2.2.1
      · rw [f1.rI (by decide), f1.rI (by decide), f1.rI (by decide)]; exact c.1.2.2.2.2.2.2.1
      · rw [f1.rI (by decide)]; exact c.1.2.2.2.2.2.2.2
      · exact c.2.1.fr f1 (by decide) (fun b _ => by simp)
      · unfold i_VW; rw [f1.rJ (by decide)]; exact c.2.2.1
      · unfold i_WG; rw [f1.rI (by decide)]; exact c.2.2.2
      · rw [f1.vR (by decide)]; exact g.2
    exact d164_35 G1.l (m181 G1 (fun h2 g2 f3 s2 => ⟨_, rfl, d164_38 g2.l (H h2 g2 (f2.trans f3.s) s2)⟩))
  · rw [if_neg e] at H
    exact m179 g (fun h2 g2 f2 s2 => ⟨_, rfl, d164_23 g2.l (H h2 g2 f2.s s2)⟩)
set_option maxHeartbeats 1000000 in
theorem c310 (r : i_RA a h) (w : o_TW z q) (k : i_TR z q v h) {x y n : Int32} (H : i_RS a h Q (o_wdA z v x y n)) : i_C i_MT i_AT L xs 310 [.ref 138, .int x, .int y, .int n] h Q := by
  have rfr : ∀ h2, i_Lay h2 → i_Fr [170] [] h h2 → i_RA a h2 := fun h2 hL2 f => r.fr hL2 f (by decide)
  unfold o_wdA o_wst at H
  have bad : ¬ v_wd x y n → ∀ (y4 y5 y6 y7 y8 y9 : Option Value), i_P i_MT i_AT L xs 310 35 [some (.ref 138), some (.int x), some (.int y), some (.int n), y4, y5, y6, y7, y8, y9] [] h 0 0 Q := by
    intro e y4 y5 y6 y7 y8 y9
    rw [if_neg e, if_neg (by decide)] at H
    exact d310_35 r.1 (m201 r (fun h2 g2 f2 s2 => ⟨_, rfl, d310_40 g2.1 (H h2 g2 f2.s s2)⟩))
  refine e310 (d310_0 r.1 (c205 r.1 ⟨_, rfl, d310_4 r.1 ?_⟩))
  rw [i_bo_0, Classical.not_not]
  refine ⟨fun e => bad (fun q => e q.1) _ _ _ _ _ _, fun e => c212i (y := 2) (z := 20) r.1 rfl rfl ⟨_, rfl, d310_18 r.1 ?_⟩⟩
  rw [i_bo_0, Classical.not_not]
  refine ⟨fun e2 => bad (fun q => e2 q.2.1) _ _ _ _ _ _, fun e2 => c212i (y := 2) (z := 8) r.1 rfl rfl ⟨_, rfl, d310_32 r.1 ?_⟩⟩
  rw [i_bo_0, Classical.not_not]
  refine ⟨fun e3 => ?_, fun e3 => bad (fun q => e3 q.2.2) _ _ _ _ _ _⟩
  rw [if_pos (show v_wd x y n from ⟨e, e2, e3⟩)] at H
  obtain ⟨j, hj, rfl⟩ := n_get e (by omega)
  obtain ⟨m, hm1, hm, rfl⟩ := n_g1 (j := 2) (k := 20) e2 (by omega) (by omega)
  obtain ⟨K, hK1, hK8, rfl⟩ := n_g1 (j := 2) (k := 8) e3 (by omega) (by omega)
  have hK : 2 ≤ K ∧ K ≤ 8 := ⟨hK1, hK8⟩
  rw [n_cl (by omega), n_cl (by omega), n_cl (by omega)] at H
  have zj := (w j hj).1
  have hij : i_in (i_n j) 4 := (n_in (by omega)).mpr hj
  rw [n_cl (by omega), (k j hj).1, show (-1 : Int32) = i_m from rfl, o_zI_m zj]
  refine ⟨hij, fun e4 => ⟨hij, ?_⟩, fun e4 => (by
    rw [if_pos (Classical.not_not.mp e4), if_neg (by decide)] at H
    exact m201 r (fun h2 g2 f2 s2 => ⟨_, rfl, d310_56 g2.1 (H h2 g2 f2.s s2)⟩))⟩
  rw [if_neg e4] at H
  rw [o_zI_s e4, n_le (by omega) (by omega)]
  refine ⟨fun e5 => ?_, fun e5 => (by
    rw [if_neg (show ¬ m < z j by omega), if_neg (by decide)] at H
    exact m201 r (fun h2 g2 f2 s2 => ⟨_, rfl, d310_72 g2.1 (H h2 g2 f2.s s2)⟩))⟩
  rw [if_pos (show m < z j by omega)] at H
  have nine : ∀ i, i ≤ m → o_al (fun i => decide (0 ≤ v j i ∧ v j i ≤ 9999)) i = true → ∀ (y5 y6 y7 y8 y9 : Option Value), i_P i_MT i_AT L xs 310 76 [some (.ref 138), some (.int (i_n j)), some (.int (i_n m)), some (.int (i_n K)), some (.int (i_n i)), y5, y6, y7, y8, y9] [] h 0 0 Q := by
    refine l_up ?_ ?_
    · intro ea y5 y6 y7 y8 y9
      rw [if_pos ea, if_pos rfl] at H
      unfold o_wan at H
      have fin : ∀ r2 h1, i_RA a h1 → i_Fr [170] [] h h1 → r2 = o_wr K 20 (o_wp K 8 m (fun i => (v j i).toInt32)).1 (o_wp K 8 m (fun i => (v j i).toInt32)).2 0 → i_C i_MT i_AT L xs 202 [.ref 138, .int r2] h1 (fun w2 h2 => ∃ r3 : Int32, w2 = some (.int r3) ∧ i_RA a h2 ∧ Q (some (.int r3)) h2) := by
        intro r2 h1 r1 f1 e
        subst e
        exact m202 r1 (fun h2 g2 f2 s2 => ⟨_, rfl, g2, H h2 g2 ((f1.mono (by decide) (by decide)).trans f2.s) s2⟩)
      -- rounds
      have rnd : ∀ i, i ≤ 20 → ∀ (n : Nat) (f : wF) (s : Int32) (h1 : iH), (n - 1) % (K - 1) = 0 → n ≤ 27 → 1 ≤ n → (n - 1) / (K - 1) ≤ 20 - i → o_ag (aI h1 170) f n → i_RA a h1 → i_Fr [170] [] h h1 → o_wr K (20 - i) n f s = o_wr K 20 (o_wp K 8 m (fun i => (v j i).toInt32)).1 (o_wp K 8 m (fun i => (v j i).toInt32)).2 0 → ∀ (y6 y7 y8 y9 : Option Value), i_P i_MT i_AT L xs 310 182 [some (.ref 138), some (.int (i_n j)), some (.int (i_n m)), some (.int (i_n K)), some (.int (i_n n)), some (.int s), y6, y7, y8, y9] [] h1 0 0 Q := by
        have done : ∀ (n : Nat) (s : Int32) (h1 : iH), n ≤ 1 → i_RA a h1 → i_Fr [170] [] h h1 → s = o_wr K 20 (o_wp K 8 m (fun i => (v j i).toInt32)).1 (o_wp K 8 m (fun i => (v j i).toInt32)).2 0 → ∀ (y6 y7 y8 y9 : Option Value), i_P i_MT i_AT L xs 310 182 [some (.ref 138), some (.int (i_n j)), some (.int (i_n m)), some (.int (i_n K)), some (.int (i_n n)), some (.int s), y6, y7, y8, y9] [] h1 0 0 Q := by
          intro n s h1 hn r1 f1 ea y6 y7 y8 y9
          refine d310_182 r1.1 ?_
          try simp (disch := omega) only [n_lit, n_m, n_add, n_mul, n_div, n_mod, n_cl, n_lt, n_le, n_eq, n_in, n_eqm, n_meq, n_mlt, n_ltm, n_mle, n_lem, not_true_eq_false, not_false_eq_true, true_implies, false_implies, true_and, and_true, Nat.not_lt_zero, Nat.zero_le]
          refine ⟨fun _ => ?_, fun e => by omega⟩
          subst ea
          exact m202 r1 (fun h2 g2 f2 s2 => ⟨_, rfl, d310_308 g2.1 (H h2 g2 ((f1.mono (by decide) (by decide)).trans f2.s) s2)⟩)
        refine l_up ?_ ?_
        · intro n f s h1 e1 e2 e3 e4 ag r1 f1 ea y6 y7 y8 y9
          have n1 : n ≤ 1 := by
            by_cases e : n ≤ 1
            · exact e
            · have h0 := (w_d hK e1 (by omega)).2.2
              rw [← h0] at e4
              exact (Nat.not_succ_le_zero _ e4).elim
          exact done n s h1 n1 r1 f1 ea _ _ _ _
        · intro i hi ih n f s h1 e1 e2 e3 e4 ag r1 f1 ea y6 y7 y8 y9
          by_cases n1 : n ≤ 1
          · rw [o_wr_1 n1] at ea
            exact done n s h1 n1 r1 f1 ea _ _ _ _
          · obtain ⟨d1, d2, d3⟩ := w_d hK e1 (by omega)
            refine d310_182 r1.1 ?_
            try simp (disch := omega) only [n_lit, n_m, n_add, n_mul, n_div, n_mod, n_cl, n_lt, n_le, n_eq, n_in, n_eqm, n_meq, n_mlt, n_ltm, n_mle, n_lem, not_true_eq_false, not_false_eq_true, true_implies, false_implies, true_and, and_true, Nat.not_lt_zero, Nat.zero_le]
            refine ⟨fun e => absurd e n1, fun _ => ?_⟩
            have kin : ∀ k, k ≤ K → ∀ h2, o_ag (aI h2 170) (o_wj n f k).2 (n - k) → i_RA a h2 → i_Fr [170] [] h h2 → ∀ (y8 y9 : Option Value), i_P i_MT i_AT L xs 310 194 [some (.ref 138), some (.int (i_n j)), some (.int (i_n m)), some (.int (i_n K)), some (.int (i_n (n - k))), some (.int s), some (.int ((o_wj n f k).1)), some (.int (i_n k)), y8, y9] [] h2 0 0 Q := by
              refine l_up ?_ ?_
              · intro h2 ag2 r2 f2 y8 y9
                refine d310_194 r2.1 ?_
                try simp (disch := omega) only [n_lit, n_m, n_add, n_mul, n_div, n_mod, n_cl, n_lt, n_le, n_eq, n_in, n_eqm, n_meq, n_mlt, n_ltm, n_mle, n_lem, not_true_eq_false, not_false_eq_true, true_implies, false_implies, true_and, and_true, Nat.not_lt_zero, Nat.zero_le, Nat.le_refl]
                have fr : i_Fr [170] [] h2 (i_siI h2 170 (n - K) (o_wj n f K).1) := i_Fr.refl.siI (by decide)
                have r3 := rfr _ r2.1.siI (f2.trans fr)
                refine ⟨by omega, d310_289 r3.1 ?_⟩
                try simp (disch := omega) only [n_lit, n_m, n_add, n_mul, n_div, n_mod, n_cl, n_lt, n_le, n_eq, n_in, n_eqm, n_meq, n_mlt, n_ltm, n_mle, n_lem, not_true_eq_false, not_false_eq_true, true_implies, false_implies, true_and, and_true, Nat.not_lt_zero, Nat.zero_le]
                refine ih (n - K + 1) (upd (o_wj n f K).2 (n - K) (o_wj n f K).1) _ _ d2 (by omega) (by omega) (by omega) ?_ r3 (f2.trans fr) ?_ _ _ _ _
                · rw [x_aI_siI r2.1.a170]; exact ag2.up
                · rw [← ea, show 20 - i = (20 - (i + 1)) + 1 by omega, o_wr, if_neg (by omega)]
              · intro k hk ih2 h2 ag2 r2 f2 y8 y9
                rw [o_wj] at ih2
                generalize hF : o_wj n f k = F at ag2 ih2 ⊢
                have lea : ∀ c, c ≤ n - k → 1 ≤ c → i_P i_MT i_AT L xs 310 206 [some (.ref 138), some (.int (i_n j)), some (.int (i_n m)), some (.int (i_n K)), some (.int (i_n (n - k))), some (.int s), some (.int F.1), some (.int (i_n k)), some (.int (i_n (o_li F.2 (c - 1)))), some (.int (i_n c))] [] h2 0 0 Q := by
                  refine l_up ?_ ?_
                  · intro _
                    have hl := o_li_le (f := F.2) (n - k - 1)
                    refine d310_206 r2.1 ?_
                    try simp (disch := omega) only [n_lit, n_m, n_add, n_mul, n_div, n_mod, n_cl, n_lt, n_le, n_eq, n_in, n_eqm, n_meq, n_mlt, n_ltm, n_mle, n_lem, not_true_eq_false, not_false_eq_true, true_implies, false_implies, true_and, and_true, Nat.not_lt_zero, Nat.zero_le, Nat.le_refl, n_addm]
                    rw [ag2 (o_li F.2 (n - k - 1)) (by omega), ag2 (n - k - 1) (by omega)]
                    have fr : i_Fr [170] [] h2 (i_siI h2 170 (o_li F.2 (n - k - 1)) (F.2 (n - k - 1))) := i_Fr.refl.siI (by decide)
                    have r3 := rfr _ r2.1.siI (f2.trans fr)
                    refine ⟨by omega, by omega, by omega, d310_274 r3.1 ?_⟩
                    try simp (disch := omega) only [n_lit, n_m, n_add, n_mul, n_div, n_mod, n_cl, n_lt, n_le, n_eq, n_in, n_eqm, n_meq, n_mlt, n_ltm, n_mle, n_lem, not_true_eq_false, not_false_eq_true, true_implies, false_implies, true_and, and_true, Nat.not_lt_zero, Nat.zero_le]
                    refine ih2 _ ?_ r3 (f2.trans fr) _ _
                    rw [x_aI_siI r2.1.a170]
                    exact (ag2.st).lt (by omega)
                  · intro c hc ih3 hc1
                    have hl := o_li_le (f := F.2) (c - 1)
                    have nx := ih3 (by omega)
                    rw [show c + 1 - 1 = (c - 1) + 1 by omega, o_li, show c - 1 + 1 = c by omega] at nx
                    refine d310_206 r2.1 ?_
                    try simp (disch := omega) only [n_lit, n_m, n_add, n_mul, n_div, n_mod, n_cl, n_lt, n_le, n_eq, n_in, n_eqm, n_meq, n_mlt, n_ltm, n_mle, n_lem, not_true_eq_false, not_false_eq_true, true_implies, false_implies, true_and, and_true, Nat.not_lt_zero, Nat.zero_le]
                    rw [ag2 (o_li F.2 (c - 1)) (by omega), ag2 c (by omega)]
                    refine ⟨fun e => by omega, fun _ => ⟨by omega, by omega, fun e => d310_237 r2.1 ?_, fun e => d310_237 r2.1 ?_⟩⟩
                    · try simp (disch := omega) only [n_lit, n_m, n_add, n_mul, n_div, n_mod, n_cl, n_lt, n_le, n_eq, n_in, n_eqm, n_meq, n_mlt, n_ltm, n_mle, n_lem, not_true_eq_false, not_false_eq_true, true_implies, false_implies, true_and, and_true, Nat.not_lt_zero, Nat.zero_le]
                      rw [if_neg (Int32.not_lt.mpr e)] at nx; exact nx
                    · try simp (disch := omega) only [n_lit, n_m, n_add, n_mul, n_div, n_mod, n_cl, n_lt, n_le, n_eq, n_in, n_eqm, n_meq, n_mlt, n_ltm, n_mle, n_lem, not_true_eq_false, not_false_eq_true, true_implies, false_implies, true_and, and_true, Nat.not_lt_zero, Nat.zero_le]
                      rw [if_pos (Int32.not_le.mp e)] at nx; exact nx
                refine d310_194 r2.1 ?_
                try simp (disch := omega) only [n_lit, n_m, n_add, n_mul, n_div, n_mod, n_cl, n_lt, n_le, n_eq, n_in, n_eqm, n_meq, n_mlt, n_ltm, n_mle, n_lem, not_true_eq_false, not_false_eq_true, true_implies, false_implies, true_and, and_true, Nat.not_lt_zero, Nat.zero_le]
                exact ⟨fun e => by omega, fun _ => lea 1 (by omega) (Nat.le_refl 1)⟩
            exact kin 0 (Nat.zero_le _) h1 ag r1 f1 _ _
      -- the padding
      have pad : ∀ i, i ≤ 8 → ∀ (n d : Nat) (f : wF) (h1 : iH), (n - 1 + d) % (K - 1) = 0 → d < K - 1 → d ≤ 8 - i → 1 ≤ n → n + d ≤ m + K - 2 → o_ag (aI h1 170) f n → i_RA a h1 → i_Fr [170] [] h h1 → o_wp K (8 - i) n f = o_wp K 8 m (fun i => (v j i).toInt32) → ∀ y5 : Int32, ∀ (y6 y7 y8 y9 : Option Value), i_P i_MT i_AT L xs 310 154 [some (.ref 138), some (.int (i_n j)), some (.int (i_n m)), some (.int (i_n K)), some (.int (i_n n)), some (.int y5), y6, y7, y8, y9] [] h1 0 0 Q := by
        have stop : ∀ (n : Nat) (f : wF) (h1 : iH), (n - 1) % (K - 1) = 0 → 1 ≤ n → n ≤ m + K - 2 → o_ag (aI h1 170) f n → i_RA a h1 → i_Fr [170] [] h h1 → (n, f) = o_wp K 8 m (fun i => (v j i).toInt32) → ∀ y5 : Int32, ∀ (y6 y7 y8 y9 : Option Value), i_P i_MT i_AT L xs 310 154 [some (.ref 138), some (.int (i_n j)), some (.int (i_n m)), some (.int (i_n K)), some (.int (i_n n)), some (.int y5), y6, y7, y8, y9] [] h1 0 0 Q := by
          intro n f h1 e1 e2 e3 ag r1 f1 ea y5 y6 y7 y8 y9
          have hml := Nat.mod_lt (n - 1) (show K - 1 > 0 by omega)
          refine d310_154 r1.1 ?_
          try simp (disch := omega) only [n_lit, n_m, n_add, n_mul, n_div, n_mod, n_cl, n_lt, n_le, n_eq, n_in, n_eqm, n_meq, n_mlt, n_ltm, n_mle, n_lem, not_true_eq_false, not_false_eq_true, true_implies, false_implies, true_and, and_true, Nat.not_lt_zero, Nat.zero_le, n_sub]
          refine ⟨by omega, fun _ => ?_, fun e => absurd e1 e⟩
          exact rnd 0 (by omega) n f _ h1 e1 (by omega) e2 (by have := w_q hK e3 hm; omega) ag r1 f1 (by rw [← ea]; rfl) _ _ _ _
        refine l_up ?_ ?_
        · intro n d f h1 e1 e2 e3 e4 e5 ag r1 f1 ea y5 y6 y7 y8 y9
          have d0 : d = 0 := by omega
          subst d0
          rw [o_wp_0 e1] at ea
          exact stop n f h1 e1 e4 (by omega) ag r1 f1 ea y5 _ _ _ _
        · intro i hi ih n d f h1 e1 e2 e3 e4 e5 ag r1 f1 ea y5 y6 y7 y8 y9
          by_cases e : (n - 1) % (K - 1) = 0
          · rw [o_wp_0 e] at ea
            exact stop n f h1 e e4 (by omega) ag r1 f1 ea y5 _ _ _ _
          · obtain ⟨q1, q2, q3⟩ := w_s hK e1 e2 e e4
            have fr : i_Fr [170] [] h1 (i_siI h1 170 n (i_n 0)) := i_Fr.refl.siI (by decide)
            have r3 := rfr _ r1.1.siI (f1.trans fr)
            have hml := Nat.mod_lt (n - 1) (show K - 1 > 0 by omega)
            refine d310_154 r1.1 ?_
            try simp (disch := omega) only [n_lit, n_m, n_add, n_mul, n_div, n_mod, n_cl, n_lt, n_le, n_eq, n_in, n_eqm, n_meq, n_mlt, n_ltm, n_mle, n_lem, not_true_eq_false, not_false_eq_true, true_implies, false_implies, true_and, and_true, Nat.not_lt_zero, Nat.zero_le, n_sub]
            refine ⟨by omega, fun e6 => absurd e6 e, fun _ => ⟨by omega, d310_173 r3.1 ?_⟩⟩
            try simp (disch := omega) only [n_lit, n_m, n_add, n_mul, n_div, n_mod, n_cl, n_lt, n_le, n_eq, n_in, n_eqm, n_meq, n_mlt, n_ltm, n_mle, n_lem, not_true_eq_false, not_false_eq_true, true_implies, false_implies, true_and, and_true, Nat.not_lt_zero, Nat.zero_le]
            refine ih (n + 1) (d - 1) (upd f n 0) _ q2 q3 (by omega) (by omega) (by omega) ?_ r3 (f1.trans fr) ?_ _ _ _ _ _
            · rw [x_aI_siI r1.1.a170]; exact ag.up
            · rw [← ea, show 8 - i = (8 - (i + 1)) + 1 by omega, o_wp, if_neg e]
      have fil : ∀ i, i ≤ m → ∀ h1, o_ag (aI h1 170) (fun i => (v j i).toInt32) i → i_RA a h1 → i_Fr [170] [] h h1 → ∀ (y6 y7 y8 y9 : Option Value), i_P i_MT i_AT L xs 310 122 [some (.ref 138), some (.int (i_n j)), some (.int (i_n m)), some (.int (i_n K)), some (.int (i_n m)), some (.int (i_n i)), y6, y7, y8, y9] [] h1 0 0 Q := by
        refine l_up ?_ ?_
        · intro h1 ag r1 f1 y6 y7 y8 y9
          refine d310_122 r1.1 ?_
          try simp (disch := omega) only [n_lit, n_m, n_add, n_mul, n_div, n_mod, n_cl, n_lt, n_le, n_eq, n_in, n_eqm, n_meq, n_mlt, n_ltm, n_mle, n_lem, not_true_eq_false, not_false_eq_true, true_implies, false_implies, true_and, and_true, Nat.not_lt_zero, Nat.zero_le, Nat.le_refl]
          obtain ⟨d, d1, d2⟩ := w_e (m := m) hK
          exact pad 0 (by omega) m d _ h1 d1 d2 (by omega) (by omega) (by omega) ag r1 f1 rfl _ _ _ _ _
        · intro i hi ih h1 ag r1 f1 y6 y7 y8 y9
          have er : aJ h1 145 (60 * j + i) = v j i := by rw [f1.rJ (by decide)]; exact (k j hj).2.2 i (by omega)
          refine d310_122 r1.1 ?_
          try simp (disch := omega) only [n_lit, n_m, n_add, n_mul, n_div, n_mod, n_cl, n_lt, n_le, n_eq, n_in, n_eqm, n_meq, n_mlt, n_ltm, n_mle, n_lem, not_true_eq_false, not_false_eq_true, true_implies, false_implies, true_and, and_true, Nat.not_lt_zero, Nat.zero_le, er]
          have fr : i_Fr [170] [] h1 (i_siI h1 170 i (v j i).toInt32) := i_Fr.refl.siI (by decide)
          have r3 := rfr _ r1.1.siI (f1.trans fr)
          refine ⟨fun e => by omega, fun _ => ⟨by omega, by omega, d310_148 r3.1 ?_⟩⟩
          try simp (disch := omega) only [n_lit, n_m, n_add, n_mul, n_div, n_mod, n_cl, n_lt, n_le, n_eq, n_in, n_eqm, n_meq, n_mlt, n_ltm, n_mle, n_lem, not_true_eq_false, not_false_eq_true, true_implies, false_implies, true_and, and_true, Nat.not_lt_zero, Nat.zero_le]
          refine ih _ ?_ r3 (f1.trans fr) _ _ _ _
          rw [x_aI_siI r1.1.a170]
          intro i2 hi2
          rw [x_upd]
          by_cases e : i2 = i
          · rw [if_pos e, e]
          · rw [if_neg e]; exact ag i2 (by omega)
      refine d310_76 r.1 ?_
      try simp (disch := omega) only [n_lit, n_m, n_add, n_mul, n_div, n_mod, n_cl, n_lt, n_le, n_eq, n_in, n_eqm, n_meq, n_mlt, n_ltm, n_mle, n_lem, not_true_eq_false, not_false_eq_true, true_implies, false_implies, true_and, and_true, Nat.not_lt_zero, Nat.zero_le, Nat.le_refl]
      exact fil 0 (Nat.zero_le _) h (fun i hi => absurd hi (Nat.not_lt_zero i)) r i_Fr.refl _ _ _ _
    · intro i hi ih ea y5 y6 y7 y8 y9
      refine d310_76 r.1 ?_
      try simp (disch := omega) only [n_lit, n_m, n_add, n_mul, n_div, n_mod, n_cl, n_lt, n_le, n_eq, n_in, n_eqm, n_meq, n_mlt, n_ltm, n_mle, n_lem, not_true_eq_false, not_false_eq_true, true_implies, false_implies, true_and, and_true, Nat.not_lt_zero, Nat.zero_le, (k j hj).2.2]
      refine ⟨fun e => by omega, fun _ => ⟨by omega, c212 r.1 ⟨_, rfl, d310_101 r.1 ?_⟩⟩⟩
      rw [i_bo_0, Classical.not_not]
      refine ⟨fun e6 => ?_, fun e6 => ?_⟩
      · try simp (disch := omega) only [n_lit, n_m, n_add, n_mul, n_div, n_mod, n_cl, n_lt, n_le, n_eq, n_in, n_eqm, n_meq, n_mlt, n_ltm, n_mle, n_lem, not_true_eq_false, not_false_eq_true, true_implies, false_implies, true_and, and_true, Nat.not_lt_zero, Nat.zero_le]
        refine ih ?_ _ _ _ _ _
        rw [o_al, ea]
        simp
        exact e6
      · rw [if_neg (show ¬ o_al (fun i => decide (0 ≤ v j i ∧ v j i ≤ 9999)) m = true from fun q => e6 (by simpa using (o_al_t m).mp q i hi)), if_neg (by decide)] at H
        exact m201 r (fun h2 g2 f2 s2 => ⟨_, rfl, d310_109 g2.1 (H h2 g2 f2.s s2)⟩)
  exact nine 0 (Nat.zero_le _) rfl _ _ _ _ _
end
