/-! THE CLASS READS WALLS, TREES, LAMPS -/
section
variable {L : Nat} {xs : Nat → Int32} {h : iH} {Q : Option Value → iH → Prop} {a : Nat → Nat} {t : Nat} {n k0 : Nat} {T : Nat → Nat}
set_option maxRecDepth 20000
/-- the set of cells in the making: rows before r, and of r the columns before q -/
def o_bx (W x0 x1 y0 r q c : Nat) : Bool := decide (x0 ≤ c % W) && decide (c % W ≤ x1) && (decide (y0 ≤ c / W ∧ c / W < r) || decide (c / W = r ∧ c % W < q))
theorem o_bx_s {W H x0 x1 y0 r q : Nat} {s : Int64} (hW : 2 ≤ W) (hH : W * H ≤ 48) (h0 : x0 ≤ q) (h1 : q ≤ x1) (h2 : x1 < W) (h3 : y0 ≤ r) (h4 : r < H) (z : o_is s (W * H) (o_bx W x0 x1 y0 r q)) : o_is (s ||| ((1 : Int64) <<< ((i_n (r * W + q)).toInt64 &&& (63 : Int64)))) (W * H) (o_bx W x0 x1 y0 r (q + 1)) := by
  have hr : r * W + W ≤ W * H := by
    rw [← Nat.succ_mul, Nat.mul_comm]
    exact Nat.mul_le_mul_left _ (by omega)
  intro c hc
  rw [j_or, j_one (by omega), z c hc]
  have e1 : (r * W + q) / W = r := by rw [Nat.mul_comm, Nat.mul_add_div (by omega), Nat.div_eq_of_lt (by omega)]; omega
  have e2 : (r * W + q) % W = q := by rw [Nat.mul_comm, Nat.mul_add_mod, Nat.mod_eq_of_lt (by omega)]
  by_cases y : c = r * W + q
  · subst y
    unfold o_bx
    rw [e1, e2]
    simp [h0, h1, show r * W + q < W * H by omega]
  · have : ¬ (c / W = r ∧ c % W = q) := by
      rintro ⟨y1, y2⟩
      apply y
      have := Nat.div_add_mod c W
      rw [y1, y2, Nat.mul_comm] at this
      exact this.symm
    unfold o_bx
    by_cases y1 : c / W = r
    · have y2 : ¬ c % W = q := fun y2 => this ⟨y1, y2⟩
      have y3 : (c % W < q + 1) = (c % W < q) := propext ⟨fun _ => by omega, fun _ => by omega⟩
      simp [y, y1, y3]
    · simp [y, y1]
theorem o_bx_n {W H x0 x1 y0 r : Nat} {s : Int64} (h3 : y0 ≤ r) (z : o_is s (W * H) (o_bx W x0 x1 y0 r (x1 + 1))) : o_is s (W * H) (o_bx W x0 x1 y0 (r + 1) x0) := z.congr (fun c hc => by
  unfold o_bx
  by_cases y1 : x0 ≤ c % W <;> by_cases y2 : c % W ≤ x1 <;> simp [y1, y2]
  have e1 : (c % W < x1 + 1) = True := eq_true (by omega)
  have e2 : (c % W < x0) = False := eq_false (by omega)
  simp only [e1, e2, and_true, and_false, decide_false, Bool.or_false]
  by_cases q1 : c / W = r
  · simp [q1, h3]
  · by_cases q2 : c / W < r
    · simp [q1, q2, show c / W < r + 1 by omega]
    · simp [q1, q2, show ¬ c / W < r + 1 by omega])
theorem o_bx_b {W H x0 x1 y0 y1 : Nat} {s : Int64} (z : o_is s (W * H) (o_bx W x0 x1 y0 (y1 + 1) x0)) : o_is s (W * H) (o_btw W x0 y0 x1 y1) := z.congr (fun c hc => by
  unfold o_bx o_btw
  by_cases q1 : x0 ≤ c % W <;> by_cases q2 : c % W ≤ x1 <;> simp [q1, q2]
  have e2 : (c % W < x0) = False := eq_false (by omega)
  simp only [e2, and_false, decide_false, Bool.or_false]
  by_cases q3 : y0 ≤ c / W <;> by_cases q4 : c / W ≤ y1 <;> simp [q3, q4] <;> omega)
theorem o_hit_iff {x0 y0 x1 y1 : Nat} (w : o_PW a) : o_hit a x0 y0 x1 y1 = true ↔ ((∃ c, c < a 0 * a 1 ∧ o_btw (a 0) x0 y0 x1 y1 c = true ∧ a (58 + c) ≠ 4294967295) ∨ (∃ k, k < a 4 ∧ o_btw (a 0) x0 y0 x1 y1 (a (106 + k)) = true) ∨ (∃ p, p < a 5 ∧ o_btw (a 0) x0 y0 x1 y1 (a (154 + 5 * p)) = true)) := by
  unfold o_hit
  rw [List.any_eq_true]
  constructor
  · rintro ⟨c, hc, z⟩
    rw [Bool.and_eq_true] at z
    obtain ⟨z1, z2⟩ := z
    unfold o_held at z2
    rw [Bool.or_eq_true, Bool.or_eq_true] at z2
    rcases z2 with (z2 | z2) | z2
    · exact Or.inl ⟨c, List.mem_range.mp hc, z1, by simpa using z2⟩
    · obtain ⟨k, hk, e⟩ := List.any_eq_true.mp z2
      have e : a (106 + k) = c := by simpa using e
      exact Or.inr (Or.inl ⟨k, List.mem_range.mp hk, by rw [e]; exact z1⟩)
    · obtain ⟨k, hk, e⟩ := List.any_eq_true.mp z2
      have e : a (154 + 5 * k) = c := by simpa using e
      exact Or.inr (Or.inr ⟨k, List.mem_range.mp hk, by rw [e]; exact z1⟩)
  · rintro (⟨c, hc, z1, z2⟩ | ⟨k, hk, z1⟩ | ⟨p, hp, z1⟩)
    · refine ⟨c, List.mem_range.mpr hc, ?_⟩
      rw [z1, Bool.true_and]
      unfold o_held
      simp [z2]
    · refine ⟨a (106 + k), List.mem_range.mpr (w.1.2.2.2.2.2.2.2.2.1 k hk), ?_⟩
      rw [z1, Bool.true_and]
      unfold o_held
      rw [Bool.or_eq_true, Bool.or_eq_true]
      exact Or.inl (Or.inr (List.any_eq_true.mpr ⟨k, List.mem_range.mpr hk, by simp⟩))
    · refine ⟨a (154 + 5 * p), List.mem_range.mpr (w.1.2.2.2.2.2.2.2.2.2.2.1 p hp).1, ?_⟩
      rw [z1, Bool.true_and]
      unfold o_held
      rw [Bool.or_eq_true]
      exact Or.inr (List.any_eq_true.mpr ⟨p, List.mem_range.mpr hp, by simp⟩)
theorem i_CT.wld {x0 y0 x1 y1 : Nat} {s : Int64} {h2 : iH} (w : o_PW a) (hT : i_T2 t) (g : i_CT a t h) (f : i_Fr [] [(t, 2)] h h2) (e : fJ h2 t 2 = fJ h t 2 ||| s) (z : o_is s (a 0 * a 1) (o_btw (a 0) x0 y0 x1 y1)) : i_CT (o_wld a x0 y0 x1 y1) t h2 := by
  have ht : t = 14 ∨ t = 29 := hT
  have c48 := w.c48
  have out : ∀ i, i < 10 ∨ 58 ≤ i → o_wld a x0 y0 x1 y1 i = a i := fun i hi => o_wld_o w hi
  have v0 : ∀ b, b ≠ 2 → fI h2 t b = fI h t b := fun b hb => f.vI (by simp; omega)
  have v7 : ∀ b, fI h2 (t + 7) b = fI h (t + 7) b := fun b => f.vI (by simp)
  obtain ⟨g1, g2, g3, g4, g5, g6, g7, g8, g9⟩ := g
  unfold i_CT
  rw [v0 0 (by omega), v0 1 (by omega), v0 5 (by omega), v0 9 (by omega), v7, e, f.vJ (p := t) (c := 3) (by simp), f.rI (p := t + 1) (by simp), f.rI (p := t + 2) (by simp), f.rI (p := t + 3) (by simp), f.rI (p := t + 4) (by simp), f.rI (p := t + 5) (by simp), f.rI (p := t + 6) (by simp), f.rI (p := t + 9) (by simp), f.rI (p := t + 10) (by simp), f.rI (p := t + 11) (by simp), f.rI (p := t + 12) (by simp), f.rI (p := t + 13) (by simp), f.rI (p := t + 14) (by simp)]
  rw [out 0 (by omega), out 1 (by omega), out 3 (by omega), out 4 (by omega), out 5 (by omega)]
  refine ⟨g1, ?_, ?_, ?_, ⟨g5.1, fun k hk => ?_⟩, ⟨g6.1, fun k hk => ?_⟩, fun k hk => ?_, ⟨g8.1, fun p hp => ?_⟩, fun j hj => ?_⟩
  · intro c hc
    rw [j_or, g2 c hc, z c hc]
    unfold o_wall
    rw [o_wld_i]
    by_cases q : c < a 0 * a 1
    · by_cases q2 : o_btw (a 0) x0 y0 x1 y1 c = true
      · rw [if_pos ⟨q, q2⟩, q2]; simp [q]
      · rw [if_neg (fun y => q2 y.2), show o_btw (a 0) x0 y0 x1 y1 c = false by simpa using q2]; simp [q]
    · simp [q]
  · exact g3.congr (fun c hc => by rw [out _ (by omega)])
  · intro c hc
    unfold o_sway
    rw [out _ (by omega)]
    exact g4 c hc
  · rw [out _ (by omega), out (115 + 10 * k) (by omega)]
    refine ⟨(g5.2 k hk).1, (g5.2 k hk).2.1, fun j hj => ?_⟩
    rw [out _ (by omega)]; exact (g5.2 k hk).2.2 j hj
  · rw [out _ (by omega)]; exact g6.2 k hk
  · rw [out _ (by omega)]; exact g7 k hk
  · rw [out _ (by omega), out (155 + 5 * p) (by omega), out (156 + 5 * p) (by omega), out (157 + 5 * p) (by omega), out (158 + 5 * p) (by omega)]; exact g8.2 p hp
  · rw [out _ (by omega)]; exact g9 j hj
theorem i_NC.ch {b : Nat → Nat} (g : i_NC a t h) (e5 : b 5 = a 5) (e8 : ∀ p, p < 8 → b (800 + p) = a (800 + p)) (h5 : a 5 ≤ 8) : i_NC b t h := by
  intro p hp
  rw [e5] at hp
  rw [e8 p (by omega)]
  exact g p hp
set_option maxHeartbeats 2000000 in
theorem c108 (g : i_PC a t n (o_ke T n 1 k0) T h) (hT : i_T2 t) (w : o_PW a) (hk : k0 ≤ n) (K : i_CR t n T h Q (p_stop T n (p_wall T n k0 a))) : i_C i_MT i_AT L xs 108 [.ref 44] h Q := by
  have ht : t = 14 ∨ t = 29 := hT
  have c48 := w.c48
  have w1 := w.2.1
  have l1 := o_ke_le (T := T) hk 1
  have l3 := o_ke_le (T := T) hk 3
  have l4 := o_ke_le (T := T) hk 4
  have l5 := o_ke_le (T := T) hk 5
  have l6 := o_ke_le (T := T) hk 6
  unfold p_wall at K
  refine e108 (d108_0 g.1 (c106 (k2 := o_ke T n 2 k0) (k3 := o_ke T n 3 k0) (lx := 0) (ly := 0) rfl rfl g hT w l1.2 (by omega) (by omega) (fun e1 e2 h1 g1 f1 z1 x1 y1 => ⟨_, rfl, d108_6 g1.1 ⟨fun _ => ?_, fun z => absurd (by decide) z⟩⟩) (fun e1 h1 L1 f1 b1 => ⟨_, rfl, d108_6 L1 ⟨fun z => absurd rfl z, fun _ => ?_⟩⟩) (fun e1 e2 h1 L1 f1 b1 => ⟨_, rfl, d108_6 L1 ⟨fun z => absurd rfl z, fun _ => ?_⟩⟩)))
  rotate_left
  · rw [o_nu_f e1] at K
    exact K h1 L1 f1.ce b1
  · rw [o_nu_t e1, o_nu_f e2] at K
    exact K h1 L1 f1.ce b1
  rw [o_nu_t e1, o_nu_t e2] at K
  have a1 := o_nf_0 e1
  have a2 := o_nf_0 e2
  have f1 := f1.ce (t := t)
  rw [x1, y1]
  refine m91 (k2 := o_ke T n 4 k0) (w := 10) rfl g1 hT l3.2 (by omega) (fun e3 h2 g2 f2 z2 => ⟨_, rfl, d108_30 g2.1 ⟨fun z => absurd z (by decide), fun _ => ?_⟩⟩) (fun e3 h2 L2 f2 b2 => ⟨_, rfl, d108_30 L2 ⟨fun _ => d108_42 L2 ?_, fun z => absurd rfl z⟩⟩)
  rotate_left
  · rw [o_wo_f e3] at K
    exact K h2 L2 (f1.trans f2.tb) b2
  rw [o_wo_t e3] at K
  have f2 := f1.trans f2.tb
  refine c106 (k2 := o_ke T n 5 k0) (k3 := o_ke T n 6 k0) rfl rfl g2 hT w l4.2 (by omega) (by omega) (fun e4 e5 h3 g3 f3 z3 x3 y3 => ⟨_, rfl, d108_39 g3.1 ⟨fun _ => ?_, fun z => absurd (by decide) z⟩⟩) (fun e4 h3 L3 f3 b3 => ⟨_, rfl, d108_39 L3 ⟨fun z => absurd rfl z, fun _ => d108_42 L3 ?_⟩⟩) (fun e4 e5 h3 L3 f3 b3 => ⟨_, rfl, d108_39 L3 ⟨fun z => absurd rfl z, fun _ => d108_42 L3 ?_⟩⟩)
  rotate_left
  · rw [o_nu_f e4] at K
    exact K h3 L3 (f2.trans f3.ce) b3
  · rw [o_nu_t e4, o_nu_f e5] at K
    exact K h3 L3 (f2.trans f3.ce) b3
  rw [o_nu_t e4, o_nu_t e5] at K
  have a4 := o_nf_0 e4
  have a5 := o_nf_0 e5
  have f3 := f2.trans f3.ce
  generalize o_tkv T n (o_ke T n 1 k0) = X0 at *
  generalize o_tkv T n (o_ke T n 2 k0) = Y0 at *
  generalize o_tkv T n (o_ke T n 4 k0) = X1 at *
  generalize o_tkv T n (o_ke T n 5 k0) = Y1 at *
  have tw := g3.tw
  have W0 := g3.2.2.2.2.1.1.1
  -- what stands once the set is laid
  have behind : ∀ s, o_is s (a 0 * a 1) (o_btw (a 0) X0 Y0 X1 Y1) → ∀ (y6 : Option Value), i_P i_MT i_AT L xs 108 49 [some (.ref 44), some (.int (i_n X0)), some (.int (i_n Y0)), some (.long s), none, some (.int (i_n (Y1 + 1))), y6] [] h3 0 0 Q := by
    intro s zs y6
    have hbit : ∀ c, c < a 0 * a 1 → i_b s c = o_btw (a 0) X0 Y0 X1 Y1 c := fun c hc => zs.b hc (by omega)
    have bad : o_hit a X0 Y0 X1 Y1 = true → i_P i_MT i_AT L xs 108 139 [some (.ref 44), some (.int (i_n X0)), some (.int (i_n Y0)), some (.long s), none, some (.int (i_n (Y1 + 1))), y6] [] h3 0 0 Q := fun q => by
      rw [if_pos q] at K
      refine d108_139 g3.1 (c86 g3.1 z3 (x := 5) (fun h4 L4 f4 b4 => ⟨_, rfl, d108_147 L4 ⟨rfl, K h4 L4 (f3.trans f4.tl.tb) b4⟩⟩))
    refine d108_49 g3.1 ?_
    rw [y3]
    try simp (disch := omega) only [n_lit, n_m, n_add, n_mul, n_div, n_mod, n_cl, n_lt, n_le, n_eq, n_in, n_eqm, n_meq, n_mlt, n_ltm, n_mle, n_lem, not_true_eq_false, not_false_eq_true, true_implies, false_implies, true_and, and_true, Nat.not_lt_zero, Nat.zero_le]
    refine ⟨fun _ => ⟨t, tw, hT.T, fun q => bad ?_, fun q => ⟨t, tw, hT.T, c100 g3 hT w ⟨_, rfl, d108_122 g3.1 ⟨fun q2 => bad ?_, fun q2 => ⟨t, tw, hT.T, c36 g3 hT w ⟨_, rfl, d108_136 g3.1 ⟨fun q3 => ⟨t, tw, hT.T, ?_⟩, fun q3 => bad ?_⟩⟩⟩⟩⟩⟩⟩, fun z => absurd (by omega) z⟩
    · rw [j_cmpn] at q
      rw [o_hit_iff w]
      refine Or.inl ?_
      refine Classical.byContradiction (fun no => q ?_)
      rw [j_eq0]
      intro c hc
      rw [j_and, zs c hc, g3.2.2.2.2.1.2.2.1 c hc]
      by_cases y1 : c < a 0 * a 1
      · by_cases y2 : o_btw (a 0) X0 Y0 X1 Y1 c = true
        · by_cases y3 : a (58 + c) = 4294967295
          · simp [y3]
          · exact absurd ⟨c, y1, y2, y3⟩ no
        · simp [show o_btw (a 0) X0 Y0 X1 Y1 c = false by simpa using y2]
      · simp [y1]
    · rw [i_bo_0] at q2
      have q2 := Classical.not_not.mp q2
      obtain ⟨k, hk, e⟩ := List.any_eq_true.mp q2
      have hk := List.mem_range.mp hk
      rw [hbit _ (w.1.2.2.2.2.2.2.2.2.1 k hk)] at e
      rw [o_hit_iff w]
      exact Or.inr (Or.inl ⟨k, hk, e⟩)
    · have nohit : ¬ o_hit a X0 Y0 X1 Y1 = true := by
        rw [o_hit_iff w]
        rintro (⟨c, hc, y1, y2⟩ | ⟨k, hk, y1⟩ | ⟨p, hp, y1⟩)
        · have q := Classical.not_not.mp q
          rw [j_cmpn] at q
          have := j_eq0.mp q c (by omega)
          rw [j_and, hbit c hc, y1, g3.2.2.2.2.1.2.2.1 c (by omega)] at this
          simp [y2] at this
          omega
        · rw [i_bo_0] at q2
          apply q2
          intro y2
          exact y2 (List.any_eq_true.mpr ⟨k, List.mem_range.mpr hk, by rw [hbit _ (w.1.2.2.2.2.2.2.2.2.1 k hk)]; exact y1⟩)
        · rw [i_bo_0] at q3
          exact q3 (List.any_eq_true.mpr ⟨p, List.mem_range.mpr hp, by rw [hbit _ (w.1.2.2.2.2.2.2.2.2.2.2.1 p hp).1]; exact y1⟩)
      rw [if_neg nohit] at K
      refine w_sfJ (R := fun z => i_P i_MT i_AT L xs 108 161 [some (.ref 44), some (.int (i_n X0)), some (.int (i_n Y0)), some (.long s), none, some (.int (i_n (Y1 + 1))), y6] [] z 0 0 Q) g3.1 (g3.1.t_2 hT.T) (fun h4 L4 F4 E4 => d108_161 L4 ?_)
      have g4 : i_PC (o_wld a X0 Y0 X1 Y1) t n (o_ke T n 6 k0) T h4 := g3.wr hT L4 F4 (fun _ z => absurd z (by simp)) (fun q hq => by
        simp only [List.mem_cons, List.not_mem_nil, or_false] at hq
        subst hq
        simp [tF]) (i_CT.wld w hT g3.2.2.2.2.1 F4 E4 zs) ((g3.2.2.2.2.2.1.fr F4 (by simp)).ch (o_wld_o w (by omega)) (fun p hp => o_wld_o w (by omega)) w.1.2.2.2.2.1) (o_wld_o w (by omega))
      exact m94 g4 hT l6.2 (f3.trans (F4.tw (fun _ z => absurd z (by simp)) (fun q hq => by
        simp only [List.mem_cons, List.not_mem_nil, or_false] at hq
        subst hq
        simp [tF]))) K (fun r h5 L5 hr q => ⟨_, rfl, d108_168 L5 ⟨hr, q⟩⟩)
    · rw [i_bo_0] at q3
      have q3 := Classical.not_not.mp q3
      obtain ⟨p, hp, e⟩ := List.any_eq_true.mp q3
      have hp := List.mem_range.mp hp
      rw [hbit _ (w.1.2.2.2.2.2.2.2.2.2.2.1 p hp).1] at e
      rw [o_hit_iff w]
      exact Or.inr (Or.inr ⟨p, hp, e⟩)
  have rows : ∀ r, r ≤ Y1 + 1 → Y0 ≤ r → ∀ s, o_is s (a 0 * a 1) (o_bx (a 0) X0 X1 Y0 r X0) → ∀ (y6 : Option Value), i_P i_MT i_AT L xs 108 49 [some (.ref 44), some (.int (i_n X0)), some (.int (i_n Y0)), some (.long s), none, some (.int (i_n r)), y6] [] h3 0 0 Q := by
    refine l_up ?_ ?_
    · intro _ s zs y6
      exact behind s (o_bx_b zs) _
    · intro r hr ih h0 s zs y6
      have cols : ∀ q, q ≤ X1 + 1 → X0 ≤ q → ∀ s, o_is s (a 0 * a 1) (o_bx (a 0) X0 X1 Y0 r q) → i_P i_MT i_AT L xs 108 61 [some (.ref 44), some (.int (i_n X0)), some (.int (i_n Y0)), some (.long s), none, some (.int (i_n r)), some (.int (i_n q))] [] h3 0 0 Q := by
        refine l_up ?_ ?_
        · intro _ s zs
          refine d108_61 g3.1 ?_
          rw [x3]
          try simp (disch := omega) only [n_lit, n_m, n_add, n_mul, n_div, n_mod, n_cl, n_lt, n_le, n_eq, n_in, n_eqm, n_meq, n_mlt, n_ltm, n_mle, n_lem, not_true_eq_false, not_false_eq_true, true_implies, false_implies, true_and, and_true, Nat.not_lt_zero, Nat.zero_le]
          exact ⟨fun _ => ih (by omega) s (o_bx_n h0 zs) _, fun z => absurd (by omega) z⟩
        · intro q hq ihq hq0 s zs
          refine d108_61 g3.1 ?_
          rw [x3]
          try simp (disch := omega) only [n_lit, n_m, n_add, n_mul, n_div, n_mod, n_cl, n_lt, n_le, n_eq, n_in, n_eqm, n_meq, n_mlt, n_ltm, n_mle, n_lem, not_true_eq_false, not_false_eq_true, true_implies, false_implies, true_and, and_true, Nat.not_lt_zero, Nat.zero_le]
          refine ⟨fun z => by omega, fun _ => ⟨t, tw, hT.T, ?_⟩⟩
          rw [W0]
          try simp (disch := omega) only [n_lit, n_m, n_add, n_mul, n_div, n_mod, n_cl, n_lt, n_le, n_eq, n_in, n_eqm, n_meq, n_mlt, n_ltm, n_mle, n_lem, not_true_eq_false, not_false_eq_true, true_implies, false_implies, true_and, and_true, Nat.not_lt_zero, Nat.zero_le]
          exact ihq (by omega) _ (o_bx_s w1.1 c48 hq0 (by omega) (by omega) h0 (by omega) zs)
      refine d108_49 g3.1 ?_
      rw [y3]
      try simp (disch := omega) only [n_lit, n_m, n_add, n_mul, n_div, n_mod, n_cl, n_lt, n_le, n_eq, n_in, n_eqm, n_meq, n_mlt, n_ltm, n_mle, n_lem, not_true_eq_false, not_false_eq_true, true_implies, false_implies, true_and, and_true, Nat.not_lt_zero, Nat.zero_le]
      exact ⟨fun z => by omega, fun _ => cols X0 (by omega) (Nat.le_refl _) s zs⟩
  exact rows Y0 (by omega) (Nat.le_refl _) 0 (fun c hc => by
    rw [j_0]
    unfold o_bx
    by_cases y1 : X0 ≤ c % a 0 <;> by_cases y2 : c / a 0 = Y0 <;> simp [y1, y2] <;> omega) _
end
