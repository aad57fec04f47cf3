/-! THE CLASS: plain questions -/
section
variable {L : Nat} {xs : Nat → Int32} {h : iH} {Q : Option Value → iH → Prop} {a : Nat → Nat} {t : Nat}
set_option maxRecDepth 20000
def o_wallA (a : Nat → Nat) (x : Int32) : Int32 × Int32 := o_A (v_c a x) (i_n (if o_wall a x.toNatClampNeg = true then 1 else 0))
def o_swayA (a : Nat → Nat) (x : Int32) : Int32 × Int32 := o_A (v_c a x) (i_n (o_sway a x.toNatClampNeg))
def o_cartA (a : Nat → Nat) (x y : Int32) : Int32 × Int32 := o_A ((0 ≤ x ∧ x < i_n (a 3)) ∧ v_t y) (i_n (o_cart a x.toNatClampNeg y.toNatClampNeg))
def o_lampA (a : Nat → Nat) (x : Int32) : Int32 × Int32 := o_A (0 ≤ x ∧ x < i_n (a 4)) (i_n (a (106 + x.toNatClampNeg)))
def o_persA (a : Nat → Nat) (x y : Int32) : Int32 × Int32 := o_A (v_p a x ∧ 0 ≤ y ∧ y ≤ 2) (i_n (a (156 + 5 * x.toNatClampNeg + y.toNatClampNeg)))
def o_atA (a : Nat → Nat) (x y : Int32) : Int32 × Int32 := o_A (v_p a x ∧ v_t y) (i_n (o_cell a x.toNatClampNeg y.toNatClampNeg))
def o_lookA (a : Nat → Nat) (x y : Int32) : Int32 × Int32 := o_A (v_p a x ∧ v_t y) (i_n (o_look a x.toNatClampNeg y.toNatClampNeg))
def o_didA (a : Nat → Nat) (x y : Int32) : Int32 × Int32 := o_A (v_p a x ∧ v_mi y) (i_n (o_did a x.toNatClampNeg y.toNatClampNeg))
def o_sightA (a : Nat → Nat) (x y : Int32) : Int64 × Int32 := o_AJ (v_p a x ∧ v_t y) (o_mk (fun c => o_sees a x.toNatClampNeg c y.toNatClampNeg) (a 0 * a 1))
def o_wtA (a : Nat → Nat) (x y z : Int32) : Int32 × Int32 := o_A (v_2 a x y ∧ v_mi z) (i_n (o_wt a x.toNatClampNeg y.toNatClampNeg z.toNatClampNeg))
theorem c141 (g : i_ST a t h) {x : Int32} (H : i_K0 a t h Q (o_wallA a x)) : i_C i_MT i_AT L xs 141 [.ref 0, .int x] h Q := by
  have h48 := g.w.c48
  unfold o_wallA at H
  refine e141 (d141_0 g.l (c188 g ⟨_, rfl, d141_5 g.l ?_⟩))
  rw [i_bo_0, Classical.not_not]
  refine ⟨fun z => ⟨t, g.tw, g.T, ?_⟩, fun z => m179 g (fun h2 g2 f2 s2 => ⟨_, rfl, d141_13 g2.l ?_⟩)⟩
  · rw [o_A_t z] at H
    obtain ⟨c, hc, rfl⟩ := n_get z (by omega)
    rw [n_cl (by omega)] at H
    refine c193 (by omega) ⟨_, rfl, d141_26 g.l ?_⟩
    rw [i_bo_0, g.ct.2.1.b hc (by omega)]
    refine ⟨fun z2 => d141_34 g.l (m181 g (fun h2 g2 f2 s2 => ⟨_, rfl, d141_37 g2.l ?_⟩)), fun z2 => d141_34 g.l (m181 g (fun h2 g2 f2 s2 => ⟨_, rfl, d141_37 g2.l ?_⟩))⟩
    · rw [if_neg z2] at H; exact H h2 g2 f2 s2
    · rw [if_pos (Classical.not_not.mp z2)] at H; exact H h2 g2 f2 s2
  · rw [o_A_f z] at H
    exact H h2 g2 f2 s2
theorem c142 (g : i_ST a t h) {x : Int32} (H : i_K0 a t h Q (o_swayA a x)) : i_C i_MT i_AT L xs 142 [.ref 0, .int x] h Q := by
  have h48 := g.w.c48
  unfold o_swayA at H
  refine e142 (d142_0 g.l (c188 g ⟨_, rfl, d142_5 g.l ?_⟩))
  rw [i_bo_0, Classical.not_not]
  refine ⟨fun z => ⟨t, g.tw, g.T, ?_⟩, fun z => m179 g (fun h2 g2 f2 s2 => ⟨_, rfl, d142_13 g2.l ?_⟩)⟩
  · rw [o_A_t z] at H
    obtain ⟨c, hc, rfl⟩ := n_get z (by omega)
    rw [n_cl (by omega)] at H
    rw [n_cl (by omega), n_in (by omega), g.ct.2.2.2.1 c (by omega)]
    exact ⟨by omega, m181 g (fun h2 g2 f2 s2 => ⟨_, rfl, d142_27 g2.l (H h2 g2 f2 s2)⟩)⟩
  · rw [o_A_f z] at H
    exact H h2 g2 f2 s2
theorem n_sub1 {x : Int32} {k : Nat} (hk : k < 1000) : (0 ≤ x ∧ x ≤ i_n k - 1) ↔ (0 ≤ x ∧ x < i_n k) := by
  have e : i_n k - 1 = Int32.ofInt ((k : Int) - 1) := by rw [show (1 : Int32) = i_n 1 from rfl, n_sz]; rfl
  constructor
  · rintro ⟨q1, q2⟩
    refine ⟨q1, ?_⟩
    rcases n_cases x with ⟨p, hp, rfl⟩ | z
    · rw [n_lt hp (by omega)]
      rw [Int32.le_iff_toInt_le, n_int hp, e, Int32.toInt_ofInt_of_le (by omega) (by omega)] at q2
      omega
    · exact absurd q1 (Int32.not_le.mpr z)
  · rintro ⟨q1, q2⟩
    refine ⟨q1, ?_⟩
    obtain ⟨p, hp, rfl⟩ := n_get ⟨q1, q2⟩ (by omega)
    rw [Int32.le_iff_toInt_le, n_int (by omega), e, Int32.toInt_ofInt_of_le (by omega) (by omega)]
    omega
theorem c143 (g : i_ST a t h) {x y : Int32} (H : i_K0 a t h Q (o_cartA a x y)) : i_C i_MT i_AT L xs 143 [.ref 0, .int x, .int y] h Q := by
  have h3 := g.w.2.2.1
  unfold o_cartA at H
  have bad : ¬ ((0 ≤ x ∧ x < i_n (a 3)) ∧ v_t y) → i_P i_MT i_AT L xs 143 24 [some (.ref 0), some (.int x), some (.int y)] [] h 0 0 Q := by
    intro z
    rw [o_A_f z] at H
    exact d143_24 g.l (m179 g (fun h2 g2 f2 s2 => ⟨_, rfl, d143_29 g2.l (H h2 g2 f2 s2)⟩))
  refine e143 (d143_0 g.l ⟨t, g.tw, g.T, ?_⟩)
  rw [g.ct.2.2.2.2.1.1]
  refine c192 ⟨_, rfl, d143_14 g.l ?_⟩
  rw [i_bo_0, Classical.not_not, n_sub1 (by omega)]
  refine ⟨fun z => bad (fun q => z q.1), fun z => c190 ⟨_, rfl, d143_21 g.l ?_⟩⟩
  rw [i_bo_0, Classical.not_not]
  refine ⟨fun z2 => ?_, fun z2 => bad (fun q => z2 q.2)⟩
  rw [o_A_t ⟨z, z2⟩] at H
  obtain ⟨k, hk, rfl⟩ := n_get z (by omega)
  obtain ⟨m, hm, rfl⟩ := n_gle (k := 60) z2 (by omega)
  rw [n_cl (by omega), n_cl (by omega)] at H
  exact c7 g.1 hk hm ⟨_, rfl, d143_40 g.l (m181 g (fun h2 g2 f2 s2 => ⟨_, rfl, d143_43 g2.l (H h2 g2 f2 s2)⟩))⟩
theorem c144 (g : i_ST a t h) {x : Int32} (H : i_K0 a t h Q (o_lampA a x)) : i_C i_MT i_AT L xs 144 [.ref 0, .int x] h Q := by
  have h4 := g.w.2.2.2.1
  unfold o_lampA at H
  refine e144 (d144_0 g.l ⟨t, g.tw, g.T, ?_⟩)
  rw [g.ct.2.2.2.2.2.1.1]
  refine c192 ⟨_, rfl, d144_14 g.l ?_⟩
  rw [i_bo_0, Classical.not_not, n_sub1 (by omega)]
  refine ⟨fun z => ⟨t, g.tw, g.T, ?_⟩, fun z => m179 g (fun h2 g2 f2 s2 => ⟨_, rfl, d144_22 g2.l ?_⟩)⟩
  · rw [o_A_t z] at H
    obtain ⟨k, hk, rfl⟩ := n_get z (by omega)
    rw [n_cl (by omega)] at H
    rw [n_cl (by omega), n_in (by omega), g.ct.2.2.2.2.2.1.2 k hk]
    exact ⟨by omega, m181 g (fun h2 g2 f2 s2 => ⟨_, rfl, d144_36 g2.l (H h2 g2 f2 s2)⟩)⟩
  · rw [o_A_f z] at H
    exact H h2 g2 f2 s2
theorem c145 (g : i_ST a t h) {x y : Int32} (H : i_K0 a t h Q (o_persA a x y)) : i_C i_MT i_AT L xs 145 [.ref 0, .int x, .int y] h Q := by
  have h5 := g.w.2.2.2.2.1
  unfold o_persA at H
  have bad : ¬ (v_p a x ∧ 0 ≤ y ∧ y ≤ 2) → i_P i_MT i_AT L xs 145 17 [some (.ref 0), some (.int x), some (.int y)] [] h 0 0 Q := by
    intro z
    rw [o_A_f z] at H
    exact d145_17 g.l (m179 g (fun h2 g2 f2 s2 => ⟨_, rfl, d145_22 g2.l (H h2 g2 f2 s2)⟩))
  refine e145 (d145_0 g.l (c186 g ⟨_, rfl, d145_5 g.l ?_⟩))
  rw [i_bo_0, Classical.not_not]
  refine ⟨fun z => bad (fun q => z q.1), fun z => c192 ⟨_, rfl, d145_14 g.l ?_⟩⟩
  rw [i_bo_0, Classical.not_not]
  refine ⟨fun z2 => ?_, fun z2 => bad (fun q => z2 q.2)⟩
  rw [o_A_t ⟨z, z2⟩] at H
  obtain ⟨p, hp, rfl⟩ := n_get z (by omega)
  obtain ⟨k, hk, rfl⟩ := n_gle (k := 2) z2 (by omega)
  rw [n_cl (by omega), n_cl (by omega)] at H
  have pp := g.ct.2.2.2.2.2.2.2.1.2 p hp
  have fin : ∀ v : Int32, v = i_n (a (156 + 5 * p + k)) → i_P i_MT i_AT L xs 145 77 [some (.ref 0), some (.int (i_n p)), some (.int (i_n k))] [.int v, .ref 0] h 0 0 Q := by
    intro v hv
    subst hv
    exact d145_77 g.l (m181 g (fun h2 g2 f2 s2 => ⟨_, rfl, d145_80 g2.l (H h2 g2 f2 s2)⟩))
  try simp (disch := omega) only [n_lit, n_m, n_add, n_mul, n_div, n_mod, n_cl, n_lt, n_le, n_eq, n_in, n_eqm, n_meq, n_mlt, n_ltm, n_mle, n_lem, not_true_eq_false, not_false_eq_true, true_implies, false_implies, true_and, and_true, Nat.not_lt_zero, Nat.zero_le]
  refine ⟨fun q => ⟨fun q2 => ⟨t, g.tw, g.T, by omega, fin _ ?_⟩, fun q2 => ⟨t, g.tw, g.T, by omega, fin _ ?_⟩⟩, fun q => ⟨t, g.tw, g.T, by omega, ?_⟩⟩
  · rw [pp.2.2.2.2]; congr 2; omega
  · rw [pp.2.2.2.1]; congr 2; omega
  · have hk0 : k = 0 := by omega
    subst hk0
    rw [pp.2.2.1]
    exact m181 g (fun h2 g2 f2 s2 => ⟨_, rfl, d145_43 g2.l (H h2 g2 f2 s2)⟩)
theorem c146 (g : i_ST a t h) {x y : Int32} (H : i_K0 a t h Q (o_atA a x y)) : i_C i_MT i_AT L xs 146 [.ref 0, .int x, .int y] h Q := by
  have h5 := g.w.2.2.2.2.1
  unfold o_atA at H
  have bad : ¬ (v_p a x ∧ v_t y) → i_P i_MT i_AT L xs 146 15 [some (.ref 0), some (.int x), some (.int y)] [] h 0 0 Q := by
    intro z
    rw [o_A_f z] at H
    exact d146_15 g.l (m179 g (fun h2 g2 f2 s2 => ⟨_, rfl, d146_20 g2.l (H h2 g2 f2 s2)⟩))
  refine e146 (d146_0 g.l (c186 g ⟨_, rfl, d146_5 g.l ?_⟩))
  rw [i_bo_0, Classical.not_not]
  refine ⟨fun z => bad (fun q => z q.1), fun z => c190 ⟨_, rfl, d146_12 g.l ?_⟩⟩
  rw [i_bo_0, Classical.not_not]
  refine ⟨fun z2 => ?_, fun z2 => bad (fun q => z2 q.2)⟩
  rw [o_A_t ⟨z, z2⟩] at H
  obtain ⟨p, hp, rfl⟩ := n_get z (by omega)
  obtain ⟨m, hm, rfl⟩ := n_gle (k := 60) z2 (by omega)
  rw [n_cl (by omega), n_cl (by omega)] at H
  exact c4 g.1 hp hm ⟨_, rfl, d146_31 g.l (m181 g (fun h2 g2 f2 s2 => ⟨_, rfl, d146_34 g2.l (H h2 g2 f2 s2)⟩))⟩
theorem c147 (g : i_ST a t h) {x y : Int32} (H : i_K0 a t h Q (o_lookA a x y)) : i_C i_MT i_AT L xs 147 [.ref 0, .int x, .int y] h Q := by
  have h5 := g.w.2.2.2.2.1
  unfold o_lookA at H
  have bad : ¬ (v_p a x ∧ v_t y) → i_P i_MT i_AT L xs 147 15 [some (.ref 0), some (.int x), some (.int y)] [] h 0 0 Q := by
    intro z
    rw [o_A_f z] at H
    exact d147_15 g.l (m179 g (fun h2 g2 f2 s2 => ⟨_, rfl, d147_20 g2.l (H h2 g2 f2 s2)⟩))
  refine e147 (d147_0 g.l (c186 g ⟨_, rfl, d147_5 g.l ?_⟩))
  rw [i_bo_0, Classical.not_not]
  refine ⟨fun z => bad (fun q => z q.1), fun z => c190 ⟨_, rfl, d147_12 g.l ?_⟩⟩
  rw [i_bo_0, Classical.not_not]
  refine ⟨fun z2 => ?_, fun z2 => bad (fun q => z2 q.2)⟩
  rw [o_A_t ⟨z, z2⟩] at H
  obtain ⟨p, hp, rfl⟩ := n_get z (by omega)
  obtain ⟨m, hm, rfl⟩ := n_gle (k := 60) z2 (by omega)
  rw [n_cl (by omega), n_cl (by omega)] at H
  exact c5 g.1 hp hm ⟨_, rfl, d147_31 g.l (m181 g (fun h2 g2 f2 s2 => ⟨_, rfl, d147_34 g2.l (H h2 g2 f2 s2)⟩))⟩
theorem c148 (g : i_ST a t h) {x y : Int32} (H : i_K0 a t h Q (o_didA a x y)) : i_C i_MT i_AT L xs 148 [.ref 0, .int x, .int y] h Q := by
  have h5 := g.w.2.2.2.2.1
  unfold o_didA at H
  have bad : ¬ (v_p a x ∧ v_mi y) → i_P i_MT i_AT L xs 148 15 [some (.ref 0), some (.int x), some (.int y)] [] h 0 0 Q := by
    intro z
    rw [o_A_f z] at H
    exact d148_15 g.l (m179 g (fun h2 g2 f2 s2 => ⟨_, rfl, d148_20 g2.l (H h2 g2 f2 s2)⟩))
  refine e148 (d148_0 g.l (c186 g ⟨_, rfl, d148_5 g.l ?_⟩))
  rw [i_bo_0, Classical.not_not]
  refine ⟨fun z => bad (fun q => z q.1), fun z => c191 ⟨_, rfl, d148_12 g.l ?_⟩⟩
  rw [i_bo_0, Classical.not_not]
  refine ⟨fun z2 => ?_, fun z2 => bad (fun q => z2 q.2)⟩
  rw [o_A_t ⟨z, z2⟩] at H
  obtain ⟨p, hp, rfl⟩ := n_get z (by omega)
  obtain ⟨m, hm1, hm, rfl⟩ := n_g1 (j := 1) (k := 60) z2 (by omega) (by omega)
  rw [n_cl (by omega), n_cl (by omega)] at H
  exact c6 g.1 hp hm ⟨_, rfl, d148_31 g.l (m181 g (fun h2 g2 f2 s2 => ⟨_, rfl, d148_34 g2.l (H h2 g2 f2 s2)⟩))⟩
theorem c149 (g : i_ST a t h) {x y : Int32} (H : ∀ h2, i_ST a t h2 → i_F0 h h2 → fI h2 0 0 = (o_sightA a x y).2 → Q (some (.long (o_sightA a x y).1)) h2) : i_C i_MT i_AT L xs 149 [.ref 0, .int x, .int y] h Q := by
  have h5 := g.w.2.2.2.2.1
  have h48 := g.w.c48
  unfold o_sightA at H
  have bad : ¬ (v_p a x ∧ v_t y) → i_P i_MT i_AT L xs 149 15 [some (.ref 0), some (.int x), some (.int y)] [] h 0 0 Q := by
    intro z
    rw [o_AJ_f z] at H
    exact d149_15 g.l (m179 g (fun h2 g2 f2 s2 => ⟨_, rfl, d149_20 g2.l (H h2 g2 f2 s2)⟩))
  refine e149 (d149_0 g.l (c186 g ⟨_, rfl, d149_5 g.l ?_⟩))
  rw [i_bo_0, Classical.not_not]
  refine ⟨fun z => bad (fun q => z q.1), fun z => c190 ⟨_, rfl, d149_12 g.l ?_⟩⟩
  rw [i_bo_0, Classical.not_not]
  refine ⟨fun z2 => ?_, fun z2 => bad (fun q => z2 q.2)⟩
  rw [o_AJ_t ⟨z, z2⟩] at H
  obtain ⟨p, hp, rfl⟩ := n_get z (by omega)
  obtain ⟨m, hm, rfl⟩ := n_gle (k := 60) z2 (by omega)
  rw [n_cl (by omega), n_cl (by omega)] at H
  refine c10 g.1 hp hm ?_
  intro s h1 hs g1 f1
  have G1 := g.co g1 f1
  refine ⟨_, rfl, d149_32 G1.l (m182 G1 (fun h2 g2 f2 s2 => ⟨_, rfl, d149_35 g2.l ?_⟩))⟩
  rw [hs.eq (by omega)]
  exact H h2 g2 (f1.z.trans f2) s2
theorem c150 (g : i_ST a t h) {x y z : Int32} (H : i_K0 a t h Q (o_wtA a x y z)) : i_C i_MT i_AT L xs 150 [.ref 0, .int x, .int y, .int z] h Q := by
  have h5 := g.w.2.2.2.2.1
  unfold o_wtA at H
  have bad : ¬ (v_2 a x y ∧ v_mi z) → i_P i_MT i_AT L xs 150 16 [some (.ref 0), some (.int x), some (.int y), some (.int z)] [] h 0 0 Q := by
    intro z
    rw [o_A_f z] at H
    exact d150_16 g.l (m179 g (fun h2 g2 f2 s2 => ⟨_, rfl, d150_21 g2.l (H h2 g2 f2 s2)⟩))
  refine e150 (d150_0 g.l (c187 g ⟨_, rfl, d150_6 g.l ?_⟩))
  rw [i_bo_0, Classical.not_not]
  refine ⟨fun z => bad (fun q => z q.1), fun z => c191 ⟨_, rfl, d150_13 g.l ?_⟩⟩
  rw [i_bo_0, Classical.not_not]
  refine ⟨fun z2 => ?_, fun z2 => bad (fun q => z2 q.2)⟩
  rw [o_A_t ⟨z, z2⟩] at H
  obtain ⟨p, hp, rfl⟩ := n_get z.1 (by omega)
  obtain ⟨q, hq, rfl⟩ := n_get z.2.1 (by omega)
  obtain ⟨m, hm1, hm, rfl⟩ := n_g1 (j := 1) (k := 60) z2 (by omega) (by omega)
  rw [n_cl (by omega), n_cl (by omega), n_cl (by omega)] at H
  refine c12 g.1 hp hq hm (fun h1 g1 f1 => ?_)
  have G1 := g.co g1 f1
  exact ⟨_, rfl, d150_33 G1.l (m181 G1 (fun h2 g2 f2 s2 => ⟨_, rfl, d150_36 g2.l (H h2 g2 (f1.z.trans f2) s2)⟩))⟩
end
