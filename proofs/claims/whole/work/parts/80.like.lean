/-! LIKELIEST -/
section
variable {L : Nat} {xs : Nat → Int32} {h : iH} {Q : Option Value → iH → Prop} {a : Nat → Nat} {t : Nat}
set_option maxRecDepth 20000
/-- neighbours are those a way on -/
theorem o_nb {W H c b : Nat} (hW : 0 < W) (hc : c < W * H) (hb : b < W * H) : o_far W b c = 1 ↔ ∃ w, w < 8 ∧ o_lead W H c w = some b := by
  obtain ⟨x, y, hx, rfl⟩ := o_split hW c
  obtain ⟨u, v, hu, rfl⟩ := o_split hW b
  have hy : y < H := by
    have : (W * y + x) / W < H := by rw [Nat.div_lt_iff_lt_mul hW, Nat.mul_comm H W]; exact hc
    rwa [(o_xy hx).2] at this
  have hv : v < H := by
    have : (W * v + u) / W < H := by rw [Nat.div_lt_iff_lt_mul hW, Nat.mul_comm H W]; exact hb
    rwa [(o_xy hu).2] at this
  rw [o_far_xy hu hx]
  unfold o_lead
  rw [(o_xy hx).1, (o_xy hx).2]
  constructor
  · intro e
    have fin : ∀ w, w < 8 → x + o_ex w = u + 1 → y + o_sy w = v + 1 → ∃ w, w < 8 ∧ (if 1 ≤ x + o_ex w ∧ x + o_ex w ≤ W ∧ 1 ≤ y + o_sy w ∧ y + o_sy w ≤ H then some (W * (y + o_sy w - 1) + (x + o_ex w - 1)) else none) = some (W * v + u) := by
      intro w hw e1 e2
      refine ⟨w, hw, ?_⟩
      rw [if_pos (by omega), e1, e2]
      rfl
    have cx : u + 1 = x ∨ u = x ∨ u = x + 1 := by omega
    have cy : v + 1 = y ∨ v = y ∨ v = y + 1 := by omega
    rcases cx with q | q | q <;> rcases cy with s | s | s
    · exact fin 7 (by omega) (by show x + 0 = u + 1; omega) (by show y + 0 = v + 1; omega)
    · exact fin 6 (by omega) (by show x + 0 = u + 1; omega) (by show y + 1 = v + 1; omega)
    · exact fin 5 (by omega) (by show x + 0 = u + 1; omega) (by show y + 2 = v + 1; omega)
    · exact fin 0 (by omega) (by show x + 1 = u + 1; omega) (by show y + 0 = v + 1; omega)
    · omega
    · exact fin 4 (by omega) (by show x + 1 = u + 1; omega) (by show y + 2 = v + 1; omega)
    · exact fin 1 (by omega) (by show x + 2 = u + 1; omega) (by show y + 0 = v + 1; omega)
    · exact fin 2 (by omega) (by show x + 2 = u + 1; omega) (by show y + 1 = v + 1; omega)
    · exact fin 3 (by omega) (by show x + 2 = u + 1; omega) (by show y + 2 = v + 1; omega)
  · rintro ⟨w, hw, e⟩
    split at e
    · rename_i h1
      have e2 := Option.some.inj e
      have q1 := o_xy (W := W) (x := x + o_ex w - 1) (y := y + o_sy w - 1) (by omega)
      rw [e2, (o_xy hu).1, (o_xy hu).2] at q1
      have tb : ∀ w, w < 8 → (o_ex w = 1 ∧ o_sy w = 0) ∨ (o_ex w = 2 ∧ o_sy w = 0) ∨ (o_ex w = 2 ∧ o_sy w = 1) ∨ (o_ex w = 2 ∧ o_sy w = 2) ∨ (o_ex w = 1 ∧ o_sy w = 2) ∨ (o_ex w = 0 ∧ o_sy w = 2) ∨ (o_ex w = 0 ∧ o_sy w = 1) ∨ (o_ex w = 0 ∧ o_sy w = 0) := by
        intro w hw
        have : ∀ j : Fin 8, (o_ex j.val = 1 ∧ o_sy j.val = 0) ∨ (o_ex j.val = 2 ∧ o_sy j.val = 0) ∨ (o_ex j.val = 2 ∧ o_sy j.val = 1) ∨ (o_ex j.val = 2 ∧ o_sy j.val = 2) ∨ (o_ex j.val = 1 ∧ o_sy j.val = 2) ∨ (o_ex j.val = 0 ∧ o_sy j.val = 2) ∨ (o_ex j.val = 0 ∧ o_sy j.val = 1) ∨ (o_ex j.val = 0 ∧ o_sy j.val = 0) := by decide
        exact this ⟨w, hw⟩
      rcases tb w hw with z | z | z | z | z | z | z | z <;> rw [z.1, z.2] at q1 h1 <;> omega
    · cases e
def o_chn (a : Nat → Nat) (p c d m v : Nat) : Nat → Nat
  | 0 => v
  | k + 1 => if o_wat a k p = true then o_chn a p c d m v k * (16 - o_wgh a k c d m) / 16 else o_chn a p c d m v k
def o_ch (a : Nat → Nat) (p c d m : Nat) : Nat → Nat
  | 0 => 0
  | v + 1 => o_chn a p c d m v (a 5) + 1
theorem o_chn_le {p c d m v : Nat} : ∀ k, o_chn a p c d m v k ≤ v
  | 0 => Nat.le_refl v
  | k + 1 => by
    have ih := o_chn_le (p := p) (c := c) (d := d) (m := m) (v := v) k
    rw [o_chn]
    split
    · have : o_chn a p c d m v k * (16 - o_wgh a k c d m) ≤ v * 16 := Nat.mul_le_mul ih (by omega)
      omega
    · exact ih
theorem o_chn_0 {p c d m v : Nat} {k : Nat} (e : o_chn a p c d m v k = 0) : ∀ n, k ≤ n → o_chn a p c d m v n = 0
  | 0, hk => by
    have q : k = 0 := by omega
    subst q; exact e
  | n + 1, hk => by
    by_cases q : k = n + 1
    · rw [← q]; exact e
    · rw [o_chn, o_chn_0 e n (by omega)]
      split
      · rw [Nat.zero_mul]
      · rfl
theorem o_chn_mono (w : o_WF a) {p c m v : Nat} : ∀ k, o_chn a p c 1 m v k ≤ o_chn a p c 2 m v k
  | 0 => Nat.le_refl v
  | k + 1 => by
    have ih := o_chn_mono w (p := p) (c := c) (m := m) (v := v) k
    have hm := o_wgh_mono w (b := k) (c := c) (m := m)
    rw [o_chn, o_chn]
    split
    · exact Nat.div_le_div_right (Nat.mul_le_mul ih (by omega))
    · exact ih
def o_sup (P : Nat → Nat) : Nat → Nat
  | 0 => 0
  | k + 1 => max (o_sup P k) (P k)
theorem o_sup_le {P : Nat → Nat} {m : Nat} : ∀ n, o_sup P n ≤ m ↔ ∀ i, i < n → P i ≤ m
  | 0 => ⟨fun _ i z => absurd z (Nat.not_lt_zero i), fun _ => Nat.zero_le m⟩
  | n + 1 => by
    rw [o_sup, Nat.max_le, o_sup_le n]
    constructor
    · rintro ⟨z1, z2⟩ i hi
      by_cases e : i = n
      · subst e; exact z2
      · exact z1 i (by omega)
    · intro z; exact ⟨fun i hi => z i (by omega), z n (by omega)⟩
def o_ldv (a F : Nat → Nat) (c w : Nat) : Nat := match o_lead (a 0) (a 1) c w with
  | some b => F b
  | none => 0
def o_bst (a F : Nat → Nat) (c : Nat) : Nat := if o_wall a c = true then 0 else o_sup (o_ldv a F c) 8
/-- the best behind m minutes: 0 none, else one more than it -/
def o_lik (a : Nat → Nat) (p : Nat) : Nat → Nat → Nat
  | 0, c => if c = a (154 + 5 * p) then 1000001 else 0
  | m + 1, c => max (o_ch a p c 0 (m + 1) (o_lik a p m c)) (o_ch a p c 2 (m + 1) (o_bst a (o_lik a p m) c))
theorem o_ch_le {p c d m : Nat} : ∀ v, o_ch a p c d m v ≤ v
  | 0 => Nat.le_refl 0
  | v + 1 => Nat.succ_le_succ (o_chn_le (a 5))
theorem o_lik_le {p : Nat} : ∀ m c, o_lik a p m c ≤ 1000001
  | 0, c => by rw [o_lik]; split <;> omega
  | m + 1, c => by
    have h1 := o_ch_le (a := a) (p := p) (c := c) (d := 0) (m := m + 1) (o_lik a p m c)
    have h2 := o_ch_le (a := a) (p := p) (c := c) (d := 2) (m := m + 1) (o_bst a (o_lik a p m) c)
    have h3 := o_lik_le (p := p) m c
    have h4 : o_bst a (o_lik a p m) c ≤ 1000001 := by
      unfold o_bst
      split
      · omega
      · rw [o_sup_le]
        intro i _
        unfold o_ldv
        split
        · exact o_lik_le m _
        · omega
    rw [o_lik]
    omega
theorem o_bst_nb {F : Nat → Nat} (w : o_WF a) {c : Nat} (hc : c < a 0 * a 1) : o_sup (o_ldv a F c) 8 = o_sup (fun b => if o_far (a 0) b c = 1 then F b else 0) (a 0 * a 1) := by
  have hp := w.pos hc
  apply Nat.le_antisymm
  · rw [o_sup_le]
    intro k hk
    unfold o_ldv
    cases hl : o_lead (a 0) (a 1) c k with
    | none => exact Nat.zero_le _
    | some b =>
      have hb := o_lead_lt hl
      have := (o_sup_le (P := fun b => if o_far (a 0) b c = 1 then F b else 0) (a 0 * a 1)).mp (Nat.le_refl _) b hb
      try dsimp only at this
      rw [if_pos ((o_nb (by omega) hc hb).mpr ⟨k, hk, hl⟩)] at this
      exact this
  · rw [o_sup_le]
    intro b hb
    try dsimp only
    split
    · rename_i e
      obtain ⟨k, hk, hl⟩ := (o_nb (by omega) hc hb).mp e
      have := (o_sup_le (P := o_ldv a F c) 8).mp (Nat.le_refl _) k hk
      unfold o_ldv at this
      rw [hl] at this
      exact this
    · exact Nat.zero_le _
def o_dec (v : Nat) : Option Nat := if v = 0 then none else some (v - 1)
theorem o_zI_dec (v : Nat) : o_zI v = o_op (o_dec v) := by
  cases v with
  | zero => rfl
  | succ k => rfl
def o_likA (a : Nat → Nat) (x y z : Int32) : Int32 × Int32 := o_A6 (v_p a x ∧ v_f a y ∧ v_mi z) (o_dec (o_lik a x.toNatClampNeg z.toNatClampNeg y.toNatClampNeg))
theorem c336z {x y : Nat} (hx : x < 2147483648) (hy : y < 2147483648) (H : Q (some (.int (o_zI (max x y)))) h) : i_C i_MT i_AT L xs 336 [.int (o_zI x), .int (o_zI y)] h Q := by
  cases x with
  | zero =>
    cases y with
    | zero => exact c336 H
    | succ k =>
      refine c336 ?_
      rw [show o_zI 0 = i_m from rfl, show o_zI (k + 1) = i_n k from rfl, if_pos (of_eq_true (n_mlt (by omega)))]
      rw [Nat.zero_max] at H; exact H
  | succ j =>
    cases y with
    | zero =>
      refine c336 ?_
      rw [show o_zI 0 = i_m from rfl, show o_zI (j + 1) = i_n j from rfl, if_neg (of_eq_false (n_ltm (by omega)))]
      rw [Nat.max_zero] at H; exact H
    | succ k =>
      refine c336n (by omega) (by omega) ?_
      rw [show max (j + 1) (k + 1) = max j k + 1 by omega] at H
      exact H
/-! the class's -/
theorem c75 (g : i_CO a t h) {p c d m v : Nat} (hp : p < a 5) (hc : c < a 0 * a 1) (hd : d ≤ 4) (hm : m ≤ 60) (hv : v ≤ 1000001) (H : ∀ h2, i_CO a t h2 → i_Fr [99, 100, 106, 107] [] h h2 → Q (some (.int (o_zI (o_ch a p c d m v)))) h2) : i_C i_MT i_AT L xs 75 [.ref 108, .int (o_zI v), .int (i_n (a (157 + 5 * p))), .int (i_n c), .int (i_n d), .int (i_n m)] h Q := by
  have h5 := g.w.2.2.2.2.1
  have h48 := g.w.c48
  have hwb := g.w.wb hp
  refine e75 (d75_0 g.l ?_)
  try simp (disch := omega) only [n_lit, n_m, n_add, n_mul, n_div, n_mod, n_cl, n_lt, n_le, n_eq, n_in, n_eqm, n_meq, n_mlt, n_ltm, n_mle, n_lem, not_true_eq_false, not_false_eq_true, true_implies, false_implies, true_and, and_true, Nat.not_lt_zero, Nat.zero_le]
  cases v with
  | zero =>
    refine d75_6 g.l ⟨t, g.tw, g.T, ?_⟩
    rw [g.np]
    have : o_zI 0 ≤ i_n 0 := by decide
    refine ⟨fun _ => d75_66 g.l (H h g i_Fr.refl), fun _ => ⟨fun _ => d75_66 g.l (H h g i_Fr.refl), fun e => absurd this e⟩⟩
  | succ v =>
    have hv2 : v ≤ 1000000 := by omega
    rw [show o_zI (v + 1) = i_n v from rfl]
    have key : ∀ k, k ≤ a 5 → ∀ h1, i_CO a t h1 → i_Fr [99, 100, 106, 107] [] h h1 → i_P i_MT i_AT L xs 75 6 [some (.ref 108), some (.int (i_n v)), some (.int (i_n (a (157 + 5 * p)))), some (.int (i_n c)), some (.int (i_n d)), some (.int (i_n m)), some (.int (i_n (o_chn a p c d m v k))), some (.int (i_n k))] [] h1 0 0 Q := by
      refine l_up ?_ ?_
      · intro h1 g1 f1
        refine d75_6 g1.l ⟨t, g1.tw, g1.T, ?_⟩
        rw [g1.np]
        try simp (disch := omega) only [n_lit, n_m, n_add, n_mul, n_div, n_mod, n_cl, n_lt, n_le, n_eq, n_in, n_eqm, n_meq, n_mlt, n_ltm, n_mle, n_lem, not_true_eq_false, not_false_eq_true, true_implies, false_implies, true_and, and_true, Nat.not_lt_zero, Nat.zero_le, Nat.le_refl]
        exact d75_66 g1.l (H h1 g1 f1)
      · intro k hk ih h1 g1 f1
        have hl := o_chn_le (a := a) (p := p) (c := c) (d := d) (m := m) (v := v) k
        have hwl := o_wgh_le g.w (p := k) (c := c) (m := m) hd (by omega)
        have hml : o_chn a p c d m v k * (16 - o_wgh a k c d m) ≤ 1000000 * 16 := Nat.mul_le_mul (by omega) (by omega)
        refine d75_6 g1.l ⟨t, g1.tw, g1.T, ?_⟩
        rw [g1.np]
        try simp (disch := omega) only [n_lit, n_m, n_add, n_mul, n_div, n_mod, n_cl, n_lt, n_le, n_eq, n_in, n_eqm, n_meq, n_mlt, n_ltm, n_mle, n_lem, not_true_eq_false, not_false_eq_true, true_implies, false_implies, true_and, and_true, Nat.not_lt_zero, Nat.zero_le]
        refine ⟨fun e => by omega, fun _ => ⟨fun e => d75_66 g1.l ?_, fun e => c193 (by omega) ⟨_, rfl, d75_36 g1.l ?_⟩⟩⟩
        · have e0 : o_chn a p c d m v k = 0 := by omega
          have := H h1 g1 f1
          rw [o_ch, o_chn_0 e0 (a 5) (by omega)] at this
          rw [e0]; exact this
        · rw [j_i2l (by omega) (by omega)]
          rw [o_chn] at ih
          try simp (disch := omega) only [n_lit, n_m, i_bo01, j_cmpn, Classical.not_not, n_add, n_mul, n_div, n_mod, n_cl, n_lt, n_le, n_eq, n_in, n_eqm, n_meq, n_mlt, n_ltm, n_mle, n_lem, not_true_eq_false, not_false_eq_true, true_implies, false_implies, true_and, and_true, Nat.not_lt_zero, Nat.zero_le]
          refine ⟨fun e2 => d75_60 g1.l ?_, fun e2 => c11 g1 hk hc hd hm (fun h2 g2 f2 => ⟨_, rfl, d75_55 g2.l (c194 ⟨_, rfl, d75_58 g2.l (d75_60 g2.l ?_)⟩)⟩)⟩
          · try simp (disch := omega) only [n_lit, n_m, n_add, n_mul, n_div, n_mod, n_cl, n_lt, n_le, n_eq, n_in, n_eqm, n_meq, n_mlt, n_ltm, n_mle, n_lem, not_true_eq_false, not_false_eq_true, true_implies, false_implies, true_and, and_true, Nat.not_lt_zero, Nat.zero_le]
            have := ih h1 g1 f1
            rw [if_neg (show ¬ o_wat a k p = true by unfold o_wat; exact e2)] at this
            exact this
          · try simp (disch := omega) only [n_lit, n_m, n_add, n_mul, n_div, n_mod, n_cl, n_lt, n_le, n_eq, n_in, n_eqm, n_meq, n_mlt, n_ltm, n_mle, n_lem, not_true_eq_false, not_false_eq_true, true_implies, false_implies, true_and, and_true, Nat.not_lt_zero, Nat.zero_le, n_sub]
            have := ih h2 g2 (f1.trans f2)
            rw [if_pos (show o_wat a k p = true from e2)] at this
            exact this
    exact key 0 (Nat.zero_le _) h g i_Fr.refl
/-- the two rows of the best -/
def o_bB (h : iH) (B C : Nat) : Prop := fR h 108 8 = B ∧ fR h 108 9 = C ∧ ((B = 115 ∧ C = 116) ∨ (B = 116 ∧ C = 115))
theorem o_bB.f8 (hL : i_Lay h) {B C : Nat} (b : o_bB h B C) : i_fld h 108 6 8 = some (.ref B) := by
  have := hL.fw (q := 108) (ci := 6) (b := 8) rfl rfl rfl
  rw [b.1] at this; exact this
theorem o_bB.f9 (hL : i_Lay h) {B C : Nat} (b : o_bB h B C) : i_fld h 108 6 9 = some (.ref C) := by
  have := hL.fw (q := 108) (ci := 6) (b := 9) rfl rfl rfl
  rw [b.2.1] at this; exact this
theorem o_bB.aB (hL : i_Lay h) {B C : Nat} (b : o_bB h B C) : i_arI h 0 B = some (48, aI h B) ∧ i_arI h 0 C = some (48, aI h C) := by
  rcases b.2.2 with e | e <;> rw [e.1, e.2]
  · exact ⟨hL.a115, hL.a116⟩
  · exact ⟨hL.a116, hL.a115⟩
theorem o_bB.fr {h2 : iH} {A : List Nat} {F : List (Nat × Nat)} {B C : Nat} (b : o_bB h B C) (f : i_Fr A F h h2) (h8 : (108, 8) ∉ F) (h9 : (108, 9) ∉ F) : o_bB h2 B C := by
  unfold o_bB
  rw [f.vR h8, f.vR h9]; exact b
theorem c74 (g : i_CO a t h) {c B C : Nat} {F : Nat → Nat} (b : o_bB h B C) (hF : ∀ c, c < a 0 * a 1 → aI h B c = o_zI (F c) ∧ F c ≤ 1000001) (hc : c < a 0 * a 1) (H : Q (some (.int (o_zI (o_bst a F c)))) h) : i_C i_MT i_AT L xs 74 [.ref 108, .int (i_n c)] h Q := by
  have h48 := g.w.c48
  have fr4 : o_is (fJ h 96 4) (a 0 * a 1) (fun c => !o_wall a c) := g.2.1.2.1.2.1
  have hle : ∀ k, o_sup (o_ldv a F c) k ≤ 1000001 := by
    intro k
    rw [o_sup_le]
    intro i _
    unfold o_ldv
    split
    · rename_i tt ht
      exact (hF _ (o_lead_lt ht)).2
    · omega
  unfold o_bst at H
  refine e74 (d74_0 g.l (c193 (by omega) ⟨_, rfl, d74_14 g.l ?_⟩))
  rw [fr4.b hc (by omega)]
  try simp (disch := omega) only [n_lit, n_m, i_bo01, j_cmpn, Classical.not_not, n_add, n_mul, n_div, n_mod, n_cl, n_lt, n_le, n_eq, n_in, n_eqm, n_meq, n_mlt, n_ltm, n_mle, n_lem, not_true_eq_false, not_false_eq_true, true_implies, false_implies, true_and, and_true, Nat.not_lt_zero, Nat.zero_le]
  refine ⟨fun e => ?_, fun e => ?_⟩
  · rw [if_neg (by simpa using e)] at H
    have key : ∀ k, k ≤ 8 → ∀ (y4 : Option Value), i_P i_MT i_AT L xs 74 23 [some (.ref 108), some (.int (i_n c)), some (.int (o_zI (o_sup (o_ldv a F c) k))), some (.int (i_n k)), y4] [] h 0 0 Q := by
      refine l_up ?_ ?_
      · intro y4
        refine d74_23 g.l ?_
        try simp (disch := omega) only [n_lit, n_m, n_add, n_mul, n_div, n_mod, n_cl, n_lt, n_le, n_eq, n_in, n_eqm, n_meq, n_mlt, n_ltm, n_mle, n_lem, not_true_eq_false, not_false_eq_true, true_implies, false_implies, true_and, and_true, Nat.not_lt_zero, Nat.zero_le, Nat.le_refl]
        exact H
      · intro k hk ih y4
        rw [o_sup] at ih
        refine d74_23 g.l ?_
        try simp (disch := omega) only [n_lit, n_m, n_add, n_mul, n_div, n_mod, n_cl, n_lt, n_le, n_eq, n_in, n_eqm, n_meq, n_mlt, n_ltm, n_mle, n_lem, not_true_eq_false, not_false_eq_true, true_implies, false_implies, true_and, and_true, Nat.not_lt_zero, Nat.zero_le]
        refine ⟨fun e => by omega, fun _ => c25 g.l g.w g.2.1 hc hk ⟨_, rfl, d74_41 g.l ?_⟩⟩
        have hld : o_ldv a F c k ≤ 1000001 := by
          unfold o_ldv
          split
          · rename_i tt ht
            exact (hF _ (o_lead_lt ht)).2
          · omega
        cases hl : o_lead (a 0) (a 1) c k with
        | none =>
          have e0 : o_ldv a F c k = 0 := by unfold o_ldv; rw [hl]
          rw [e0, Nat.max_zero] at ih
          refine ⟨fun _ => d74_61 g.l ?_, fun e => absurd rfl e⟩
          try simp (disch := omega) only [n_lit, n_m, n_add, n_mul, n_div, n_mod, n_cl, n_lt, n_le, n_eq, n_in, n_eqm, n_meq, n_mlt, n_ltm, n_mle, n_lem, not_true_eq_false, not_false_eq_true, true_implies, false_implies, true_and, and_true, Nat.not_lt_zero, Nat.zero_le]
          exact ih _
        | some tt =>
          have htt := o_lead_lt hl
          have e0 : o_ldv a F c k = F tt := by unfold o_ldv; rw [hl]
          rw [e0] at ih hld
          have hk1 := hle k
          dsimp only [o_op]
          try simp (disch := omega) only [n_lit, n_m, n_add, n_mul, n_div, n_mod, n_cl, n_lt, n_le, n_eq, n_in, n_eqm, n_meq, n_mlt, n_ltm, n_mle, n_lem, not_true_eq_false, not_false_eq_true, true_implies, false_implies, true_and, and_true, Nat.not_lt_zero, Nat.zero_le]
          refine ⟨B, b.f8 g.l, 48, aI h B, (b.aB g.l).1, by omega, ?_⟩
          rw [(hF tt htt).1]
          refine c336z (by omega) (by omega) ⟨_, rfl, d74_60 g.l (d74_61 g.l ?_)⟩
          try simp (disch := omega) only [n_lit, n_m, n_add, n_mul, n_div, n_mod, n_cl, n_lt, n_le, n_eq, n_in, n_eqm, n_meq, n_mlt, n_ltm, n_mle, n_lem, not_true_eq_false, not_false_eq_true, true_implies, false_implies, true_and, and_true, Nat.not_lt_zero, Nat.zero_le]
          exact ih _
    try simp (disch := omega) only [n_lit, n_m, n_add, n_mul, n_div, n_mod, n_cl, n_lt, n_le, n_eq, n_in, n_eqm, n_meq, n_mlt, n_ltm, n_mle, n_lem, not_true_eq_false, not_false_eq_true, true_implies, false_implies, true_and, and_true, Nat.not_lt_zero, Nat.zero_le]
    exact key 0 (by omega) _
  · rw [if_pos (by simpa using e)] at H
    exact H
end
