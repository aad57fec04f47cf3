/-! THE CLASS READS A PART; A WHOLE TOWN -/
section
variable {L : Nat} {xs : Nat → Int32} {h : iH} {Q : Option Value → iH → Prop} {a : Nat → Nat} {t : Nat} {n k0 : Nat} {T : Nat → Nat}
set_option maxRecDepth 20000
theorem i_CR.mono {Q2 : Option Value → iH → Prop} {r : o_R} (K : i_CR t n T h Q r) (H : ∀ x h2, i_Lay h2 → i_ret (some .boolean) x = true → Q (some (.int x)) h2 → Q2 (some (.int x)) h2) : i_CR t n T h Q2 r := by
  match r, K with
  | .inl (f, p), K => exact fun h2 L2 F2 b2 => H 0 h2 L2 rfl (K h2 L2 F2 b2)
  | .inr (k2, a2), K => exact fun h2 F2 g2 => H 1 h2 g2.1 rfl (K h2 F2 g2)
theorem i_TK.wi (z : i_TK h T n k0) {w : Nat} (hw : w < 33) : (fI h 10 10).toInt = (w : Int) ↔ o_wy T n k0 = w := by
  rw [← z.w hw]
  constructor
  · intro e
    refine Int32.toInt_inj.mp ?_
    rw [e, n_int (by omega)]
  · intro e
    rw [e, n_int (by omega)]
theorem i_TK.wn (z : i_TK h T n k0) (e : (fI h 10 10).toInt < 9 ∨ 23 < (fI h 10 10).toInt) : o_wy T n k0 < 9 ∨ 23 < o_wy T n k0 := by
  rw [z.2.2.2.2.2] at e
  rcases o_wy_cases (T := T) (n := n) (k := k0) with ⟨q, y⟩ | ⟨u, hu, q, y⟩
  · omega
  · rw [q, show o_op (some u) = i_n u from rfl, n_int (by omega)] at e
    omega
theorem p_part_n (e : o_wy T n k0 ≠ 9 ∧ o_wy T n k0 ≠ 11 ∧ o_wy T n k0 ≠ 13 ∧ o_wy T n k0 ≠ 15 ∧ o_wy T n k0 ≠ 16 ∧ o_wy T n k0 ≠ 20 ∧ o_wy T n k0 ≠ 22 ∧ o_wy T n k0 ≠ 23) : p_part T n k0 a = o_no T n k0 := by
  unfold p_part
  rw [if_neg e.1, if_neg e.2.1, if_neg e.2.2.1, if_neg e.2.2.2.1, if_neg e.2.2.2.2.1, if_neg e.2.2.2.2.2.1, if_neg e.2.2.2.2.2.2.1, if_neg e.2.2.2.2.2.2.2]
set_option maxHeartbeats 1000000 in
theorem c105 (g : i_PC a t n (o_ke T n 1 k0) T h) (z0 : i_TK h T n k0) (hT : i_T2 t) (w : o_PW a) (hk : k0 ≤ n) (K : i_CR t n T h Q (p_stop T n (p_part T n k0 a))) : i_C i_MT i_AT L xs 105 [.ref 44] h Q := by
  have no : (o_wy T n k0 ≠ 9 ∧ o_wy T n k0 ≠ 11 ∧ o_wy T n k0 ≠ 13 ∧ o_wy T n k0 ≠ 15 ∧ o_wy T n k0 ≠ 16 ∧ o_wy T n k0 ≠ 20 ∧ o_wy T n k0 ≠ 22 ∧ o_wy T n k0 ≠ 23) → i_C i_MT i_AT L xs 87 [.ref 10] h (fun v h1 => ∃ r2 : Int32, v = some (.int r2) ∧ i_P i_MT i_AT L xs 105 151 [some (.ref 44)] [.int r2] h1 0 0 Q) := fun e => by
    rw [p_part_n e] at K
    exact c87 g.1 z0 (fun h1 L1 f1 b1 => ⟨_, rfl, d105_151 L1 ⟨rfl, K h1 L1 f1.tl.tb b1⟩⟩)
  have tk : ∀ w : Nat, w < 33 → (fI h 10 10).toInt = (w : Int) → o_wy T n k0 = w := fun w hw e => (z0.wi hw).mp e
  refine e105 (d105_0 g.1 ⟨fun e => no (by have := z0.wn e; omega), fun e => ?_, fun e => no (by have := tk 10 (by omega) e; omega), fun e => ?_, fun e => no (by have := tk 12 (by omega) e; omega), fun e => ?_, fun e => no (by have := tk 14 (by omega) e; omega), fun e => ?_, fun e => ?_, fun e => no (by have := tk 17 (by omega) e; omega), fun e => no (by have := tk 18 (by omega) e; omega), fun e => no (by have := tk 19 (by omega) e; omega), fun e => ⟨t, g.tw, hT.T, ?_⟩, fun e => no (by have := tk 21 (by omega) e; omega), fun e => ⟨t, g.tw, hT.T, ?_⟩, fun e => ?_⟩)
  · have e := tk 9 (by omega) e
    unfold p_part at K
    rw [if_pos e] at K
    exact c108 g hT w hk (K.mono (fun x h2 L2 hr q => ⟨x, rfl, d105_84 L2 ⟨hr, q⟩⟩))
  · have e := tk 11 (by omega) e
    unfold p_part at K
    rw [if_neg (by omega), if_pos e] at K
    exact c109 g z0 hT w hk (K.mono (fun x h2 L2 hr q => ⟨x, rfl, d105_89 L2 ⟨hr, q⟩⟩))
  · have e := tk 13 (by omega) e
    unfold p_part at K
    rw [if_neg (by omega), if_neg (by omega), if_pos e] at K
    exact c110 g z0 hT w hk (K.mono (fun x h2 L2 hr q => ⟨x, rfl, d105_94 L2 ⟨hr, q⟩⟩))
  · have e := tk 15 (by omega) e
    unfold p_part at K
    rw [if_neg (by omega), if_neg (by omega), if_neg (by omega), if_pos e] at K
    exact c111 g z0 hT w hk (K.mono (fun x h2 L2 hr q => ⟨x, rfl, d105_99 L2 ⟨hr, q⟩⟩))
  · have e := tk 16 (by omega) e
    unfold p_part at K
    rw [if_neg (by omega), if_neg (by omega), if_neg (by omega), if_neg (by omega), if_pos e] at K
    exact c112 g z0 hT w hk (K.mono (fun x h2 L2 hr q => ⟨x, rfl, d105_104 L2 ⟨hr, q⟩⟩))
  · have e := tk 20 (by omega) e
    unfold p_part at K
    rw [if_neg (by omega), if_neg (by omega), if_neg (by omega), if_neg (by omega), if_neg (by omega), if_pos e] at K
    exact c113 (off := 157) (w0 := 21) (Or.inl rfl) (by omega) g hT w hk (K.mono (fun x h2 L2 hr q => ⟨x, rfl, d105_121 L2 ⟨hr, q⟩⟩))
  · have e := tk 22 (by omega) e
    unfold p_part at K
    rw [if_neg (by omega), if_neg (by omega), if_neg (by omega), if_neg (by omega), if_neg (by omega), if_neg (by omega), if_pos e] at K
    exact c113 (off := 158) (w0 := 10) (Or.inr rfl) (by omega) g hT w hk (K.mono (fun x h2 L2 hr q => ⟨x, rfl, d105_138 L2 ⟨hr, q⟩⟩))
  · have e := tk 23 (by omega) e
    unfold p_part at K
    rw [if_neg (by omega), if_neg (by omega), if_neg (by omega), if_neg (by omega), if_neg (by omega), if_neg (by omega), if_neg (by omega), if_pos e] at K
    exact c115 g z0 hT w hk (K.mono (fun x h2 L2 hr q => ⟨x, rfl, d105_143 L2 ⟨hr, q⟩⟩))
/-- an empty town of size W, H -/
theorem i_CT.siz {W H : Nat} {b : Nat → Nat} {h2 : iH} (g : i_CT b t h) (b0 : b 0 * b 1 = 0) (bo : ∀ i, 2 ≤ i → b i = o_new i) (f : i_Fr [] [(t, 0), (t, 1)] h h2) (e0 : fI h2 t 0 = i_n W) (e1 : fI h2 t 1 = i_n H) : i_CT (o_siz W H) t h2 := by
  obtain ⟨g1, g2, g3, g4, g5, g6, g7, g8, g9⟩ := g
  have z : ∀ i, i < 6 → o_new i = 0 := fun i hi => o_new_0 (Or.inl hi) (by omega)
  have out : ∀ i, 2 ≤ i → o_siz W H i = b i := fun i hi => (o_siz_o hi).trans (bo i hi).symm
  unfold i_CT
  rw [e0, e1, f.vI (p := t) (c := 5) (by simp), f.vI (p := t) (c := 9) (by simp), f.vI (p := t + 7) (c := 0) (by simp), f.vJ (p := t) (c := 2) (by simp), f.vJ (p := t) (c := 3) (by simp), f.rI (p := t + 1) (by simp), f.rI (p := t + 2) (by simp), f.rI (p := t + 3) (by simp), f.rI (p := t + 4) (by simp), f.rI (p := t + 5) (by simp), f.rI (p := t + 6) (by simp), f.rI (p := t + 9) (by simp), f.rI (p := t + 10) (by simp), f.rI (p := t + 11) (by simp), f.rI (p := t + 12) (by simp), f.rI (p := t + 13) (by simp), f.rI (p := t + 14) (by simp)]
  rw [o_siz_0, o_siz_1, out 3 (by omega), out 4 (by omega), out 5 (by omega)]
  refine ⟨⟨rfl, rfl⟩, ?_, ?_, ?_, ⟨g5.1, fun k hk => ?_⟩, ⟨g6.1, fun k hk => ?_⟩, fun k hk => ?_, ⟨g8.1, fun q hq => ?_⟩, fun j hj => ?_⟩
  · intro c hc
    rw [g2 c hc, b0]
    unfold o_wall
    rw [out _ (by omega), bo _ (by omega)]
    have : o_new (10 + c) ≠ 1 := by
      by_cases q : 58 ≤ 10 + c
      · rw [show 10 + c = 58 + (c - 48) by omega, o_new_s (by omega)]; omega
      · rw [o_new_0 (by omega) (by omega)]; omega
    simp [this]
  · exact g3.congr (fun d hd => by rw [out _ (by omega)])
  · intro d hd
    unfold o_sway
    rw [out _ (by omega)]; exact g4 d hd
  · rw [bo 3 (by omega), z 3 (by omega)] at hk; omega
  · rw [bo 4 (by omega), z 4 (by omega)] at hk; omega
  · rw [out _ (by omega)]; exact g7 k hk
  · rw [bo 5 (by omega), z 5 (by omega)] at hq; omega
  · rw [out _ (by omega)]; exact g9 j hj
def p_siz (T : Nat → Nat) (n : Nat) : o_R :=
  o_wo T n (o_ke T n 0 0) 8 (
  o_nu T n (o_ke T n 1 0) 2 8 (
  o_nu T n (o_ke T n 2 0) 2 6 (
  p_stop T n (.inr (o_ke T n 3 0, o_siz (o_tkv T n (o_ke T n 1 0)) (o_tkv T n (o_ke T n 2 0)))))))
theorem i_NC.no (g : i_PC a t n k0 T h) {b : Nat → Nat} {h2 : iH} (e : b 5 = 0) : i_NC b t h2 := by
  intro p hp
  omega
set_option maxHeartbeats 1000000 in
theorem c104 (g : i_PC o_new t n 0 T h) (hT : i_T2 t) (K : i_CR t n T h Q (p_siz T n)) : i_C i_MT i_AT L xs 104 [.ref 44] h Q := by
  have ht : t = 14 ∨ t = 29 := hT
  have l1 := o_ke_le (T := T) (Nat.zero_le n) 1
  have l2 := o_ke_le (T := T) (Nat.zero_le n) 2
  have l3 := o_ke_le (T := T) (Nat.zero_le n) 3
  have z5 : ∀ W H, o_siz W H 5 = 0 := fun W H => by rw [o_siz_o (by omega)]; exact o_new_0 (by omega) (by omega)
  have z799 : ∀ W H, o_siz W H 799 = o_new 799 := fun W H => o_siz_o (by omega)
  have hF : ∀ b, b = 0 ∨ b = 1 → ∀ q, q ∈ [(t, b)] → q ∈ tF t := fun b hb q hq => by
    simp only [List.mem_cons, List.not_mem_nil, or_false] at hq
    subst hq
    rcases hb with rfl | rfl <;> simp [tF]
  unfold p_siz at K
  refine e104 (d104_0 g.1 (m91 (k2 := o_ke T n 1 0) (w := 8) rfl g hT (Nat.zero_le n) (by omega) (fun e1 h1 g1 f1 z1 => ⟨_, rfl, d104_9 g1.1 ⟨fun z => absurd z (by decide), fun _ => ?_⟩⟩) (fun e1 h1 L1 f1 b1 => ⟨_, rfl, d104_9 L1 ⟨fun _ => d104_25 L1 ?_, fun z => absurd rfl z⟩⟩)))
  rotate_left
  · rw [o_wo_f e1] at K
    exact K h1 L1 f1.tb b1
  rw [o_wo_t e1] at K
  have f1 := f1.tb (t := t)
  refine m95 (k2 := o_ke T n 2 0) (lo := 2) (hi := 8) rfl g1 hT l1.2 (by omega) (by omega) (fun e2 h2 g2 f2 z2 => ⟨_, rfl, d104_22 g2.1 ⟨fun _ => ⟨t, g2.tw, hT.T, ?_⟩, fun z => absurd (by decide) z⟩⟩) (fun e2 h2 L2 f2 b2 => ⟨_, rfl, d104_22 L2 ⟨fun z => absurd rfl z, fun _ => d104_25 L2 ?_⟩⟩)
  rotate_left
  · rw [o_nu_f e2] at K
    exact K h2 L2 (f1.trans f2.tb) b2
  rw [o_nu_t e2] at K
  have f2 := f1.trans f2.tb
  rw [z2.2.2.2.1]
  refine w_sfI (R := fun z => i_P i_MT i_AT L xs 104 41 [some (.ref 44)] [] z 0 0 Q) g2.1 (g2.1.t_0 hT.T) (fun h3 L3 F3 E3 => d104_41 L3 ?_)
  have e01 : fI h3 t 1 = i_n 0 := by
    rw [F3.vI (by simp), g2.2.2.2.2.1.1.2, o_new_0 (by omega) (by omega)]
  have ct3 := i_CT.siz (W := o_tkv T n (o_ke T n 1 0)) (H := 0) g2.2.2.2.2.1 (by rw [o_new_0 (by omega) (by omega), Nat.zero_mul]) (fun _ _ => rfl) (F3.mono (fun _ z => z) (by simp)) E3 e01
  have g3 := g2.wr hT L3 F3 (fun _ z => absurd z (by simp)) (hF 0 (by omega)) ct3 (i_NC.no g2 (z5 _ _)) (z799 _ _)
  have f3 := f2.trans (F3.tw (t := t) (fun _ z => absurd z (by simp)) (hF 0 (by omega)))
  refine m95 (k2 := o_ke T n 3 0) (lo := 2) (hi := 6) rfl g3 hT l2.2 (by omega) (by omega) (fun e3 h4 g4 f4 z4 => ⟨_, rfl, d104_51 g4.1 ⟨fun _ => ⟨t, g4.tw, hT.T, ?_⟩, fun z => absurd (by decide) z⟩⟩) (fun e3 h4 L4 f4 b4 => ⟨_, rfl, d104_51 L4 ⟨fun z => absurd rfl z, fun _ => ?_⟩⟩)
  rotate_left
  · rw [o_nu_f e3] at K
    exact K h4 L4 (f3.trans f4.tb) b4
  rw [o_nu_t e3] at K
  have f4 := f3.trans f4.tb
  rw [z4.2.2.2.1]
  refine w_sfI (R := fun z => i_P i_MT i_AT L xs 104 70 [some (.ref 44)] [] z 0 0 Q) g4.1 (g4.1.t_1 hT.T) (fun h5 L5 F5 E5 => d104_70 L5 ?_)
  have ct5 := i_CT.siz (W := o_tkv T n (o_ke T n 1 0)) (H := o_tkv T n (o_ke T n 2 0)) g4.2.2.2.2.1 (by rw [o_siz_1, Nat.mul_zero]) (fun i hi => o_siz_o hi) (F5.mono (fun _ z => z) (by simp)) (by rw [F5.vI (by simp), g4.2.2.2.2.1.1.1, o_siz_0]) E5
  have g5 := g4.wr hT L5 F5 (fun _ z => absurd z (by simp)) (hF 1 (by omega)) ct5 (i_NC.no g4 (z5 _ _)) ((z799 _ _).trans (z799 _ _).symm)
  exact m94 g5 hT l3.2 (f4.trans (F5.tw (fun _ z => absurd z (by simp)) (hF 1 (by omega)))) K (fun r h6 L6 hr q => ⟨_, rfl, d104_77 L6 ⟨hr, q⟩⟩)
/-- the Town emptied -/
abbrev clA (t : Nat) : List Nat := [t + 1, t + 6, t + 14]
theorem i_SEEN_4 : ∀ j, j < 4 → i_SEEN j = i_n (o_new (6 + j)) := by
  have : ∀ j : Fin 4, i_SEEN j.val = i_n (o_new (6 + j.val)) := by decide +kernel
  exact fun j hj => this ⟨j, hj⟩
set_option maxHeartbeats 1000000 in
theorem c97 (hL : i_Lay h) (ht : i_T t) (K : ∀ h2, i_Lay h2 → i_Fr (tA t) (tF t) h h2 → i_CT o_new t h2 → Q none h2) : i_C i_MT i_AT L xs 97 [.ref t] h Q := by
  have upF : ∀ {q b : Nat} {h1 h2 : iH}, (q, b) ∈ tF t → i_Fr [] [(q, b)] h1 h2 → i_Fr (tA t) (tF t) h1 h2 := fun hq f => f.mono (fun _ z => absurd z (by simp)) (fun z hz => by
    simp only [List.mem_cons, List.not_mem_nil, or_false] at hz
    subst hz
    exact hq)
  have upA : ∀ {q : Nat} {h1 h2 : iH}, q ∈ tA t → i_Fr [q] [] h1 h2 → i_Fr (tA t) (tF t) h1 h2 := fun hq f => f.mono (fun z hz => by
    simp only [List.mem_cons, List.not_mem_nil, or_false] at hz
    subst hz
    exact hq) (fun _ z => absurd z (by simp))
  refine e97 (d97_0 hL ht ?_)
  refine w_sfI (R := fun z => i_P i_MT i_AT L xs 97 5 [some (.ref t)] [] z 0 0 Q) hL (hL.t_0 ht) (fun h1 L1 F1 E1 => d97_5 L1 ht ?_)
  refine w_sfI (R := fun z => i_P i_MT i_AT L xs 97 10 [some (.ref t)] [] z 0 0 Q) L1 (L1.t_1 ht) (fun h2 L2 F2 E2 => d97_10 L2 ht ?_)
  refine w_sfJ (R := fun z => i_P i_MT i_AT L xs 97 15 [some (.ref t)] [] z 0 0 Q) L2 (L2.t_2 ht) (fun h3 L3 F3 E3 => d97_15 L3 ht ?_)
  refine w_sfJ (R := fun z => i_P i_MT i_AT L xs 97 20 [some (.ref t)] [] z 0 0 Q) L3 (L3.t_3 ht) (fun h4 L4 F4 E4 => d97_20 L4 ht ?_)
  refine c349 L4 (L4.ta_1 ht) (by omega) (fun h5 L5 F5 E5 => ⟨rfl, d97_28 L5 ht ?_⟩)
  refine w_sfI (R := fun z => i_P i_MT i_AT L xs 97 33 [some (.ref t)] [] z 0 0 Q) L5 (L5.t_5 ht) (fun h6 L6 F6 E6 => d97_33 L6 ht ?_)
  refine w_sfI (R := fun z => i_P i_MT i_AT L xs 97 38 [some (.ref t)] [] z 0 0 Q) L6 (L6.t_9 ht) (fun h7 L7 F7 E7 => d97_38 L7 ht ?_)
  have w8 : ∀ {R : iH → Prop}, (∀ h8, i_Lay h8 → i_Fr [t + 6] [] h7 h8 → (∀ j, j < 4 → aI h8 (t + 6) j = i_SEEN j) → R h8) → R (h7.set (t + 6) (.inl (0, 4, .inl (va_cpy i_SEEN (aI h7 (t + 6)) (0 : Int32).toNatClampNeg (0 : Int32).toNatClampNeg (4 : Int32).toNatClampNeg)))) := fun k => by
    refine k _ (L7.setI (L7.ta_6 ht)) (i_Fr.refl.set (by simp) (i_arI_s (L7.ta_6 ht))) (fun j hj => ?_)
    rw [x_aI_set (L7.ta_6 ht)]
    show (if 0 ≤ j ∧ j < 0 + 4 then i_SEEN (0 + (j - 0)) else aI h7 (t + 6) j) = _
    rw [if_pos ⟨Nat.zero_le _, by omega⟩, Nat.zero_add, Nat.sub_zero]
  refine w8 (R := fun z => i_P i_MT i_AT L xs 97 51 [some (.ref t)] [] z 0 0 Q) (fun h8 L8 F8 E8 => d97_51 L8 ht ?_)
  refine w_sfI (R := fun z => i_P i_MT i_AT L xs 97 59 [some (.ref t)] [] z 0 0 Q) L8 (L8.p_0 ht) (fun h9 L9 F9 E9 => d97_59 L9 ht ?_)
  refine c349 L9 (L9.ta_14 ht) (by omega) (fun h10 L10 F10 E10 => ⟨rfl, d97_67 L10 ht (K h10 L10 ?_ ?_)⟩)
  · exact (upF (by simp [tF]) F1).trans ((upF (by simp [tF]) F2).trans ((upF (by simp [tF]) F3).trans ((upF (by simp [tF]) F4).trans ((upA (by simp [tA]) F5).trans ((upF (by simp [tF]) F6).trans ((upF (by simp [tF]) F7).trans ((upA (by simp [tA]) F8).trans ((upF (by simp [tF]) F9).trans (upA (by simp [tA]) F10)))))))))
  have z : ∀ i, i < 6 → o_new i = 0 := fun i hi => o_new_0 (Or.inl hi) (by omega)
  have n5 : ∀ (P : Nat → Prop), (∀ k, k < o_new 5 → P k) := fun P k hk => by rw [z 5 (by omega)] at hk; omega
  have n4 : ∀ (P : Nat → Prop), (∀ k, k < o_new 4 → P k) := fun P k hk => by rw [z 4 (by omega)] at hk; omega
  have n3 : ∀ (P : Nat → Prop), (∀ k, k < o_new 3 → P k) := fun P k hk => by rw [z 3 (by omega)] at hk; omega
  refine ⟨⟨?_, ?_⟩, ?_, ?_, ?_, ⟨?_, n3 _⟩, ⟨?_, n4 _⟩, ?_, ⟨?_, n5 _⟩, ?_⟩
  · rw [F10.vI (by simp), F9.vI (by simp), F8.vI (by simp), F7.vI (by simp), F6.vI (by simp), F5.vI (by simp), F4.vI (by simp), F3.vI (by simp), F2.vI (by simp), E1, z 0 (by omega)]; rfl
  · rw [F10.vI (by simp), F9.vI (by simp), F8.vI (by simp), F7.vI (by simp), F6.vI (by simp), F5.vI (by simp), F4.vI (by simp), F3.vI (by simp), E2, z 1 (by omega)]; rfl
  · rw [F10.vJ (by simp), F9.vJ (by simp), F8.vJ (by simp), F7.vJ (by simp), F6.vJ (by simp), F5.vJ (by simp), F4.vJ (by simp), E3, z 0 (by omega), Nat.zero_mul]
    exact o_is.zero
  · rw [F10.vJ (by simp), F9.vJ (by simp), F8.vJ (by simp), F7.vJ (by simp), F6.vJ (by simp), F5.vJ (by simp), E4]
    intro c hc
    rw [j_0]
    show false = (decide (c < 48) && (o_new (58 + c) != 4294967295))
    by_cases q : c < 48
    · rw [o_new_s q]; simp
    · simp [q]
  · intro c hc
    rw [F10.rI (by simp), F9.rI (by simp), F8.rI (by simp), F7.rI (by simp), F6.rI (by simp), E5 c hc]
    unfold o_sway
    rw [if_pos (o_new_s hc)]; rfl
  · rw [F10.vI (by simp), F9.vI (by simp), F8.vI (by simp), F7.vI (by simp), E6, z 3 (by omega)]; rfl
  · rw [F10.vI (by simp), F9.vI (by simp), F8.vI (by simp), E7, z 4 (by omega)]; rfl
  · intro k hk
    rw [F10.rI (by simp), F9.rI (by simp), E8 k hk, i_SEEN_4 k hk]
  · rw [F10.vI (by simp), E9, z 5 (by omega)]; rfl
  · intro j hj
    rw [E10 j hj, o_new_0 (by omega) (by omega)]; rfl
theorem p_parts_s {f k : Nat} : p_parts T n (f + 1) k a = if o_tkk T n k = 0 then .inr (k, a) else (match p_stop T n (p_part T n k a) with
    | .inl e => .inl e
    | .inr (k2, a2) => p_parts T n f k2 a2) := rfl
theorem p_town_e : p_town T n = (match p_siz T n with
    | .inl e => .inl e
    | .inr (k2, a2) => p_parts T n 900 k2 a2) := by
  unfold p_town p_siz o_wo o_nu
  split
  · split
    · split
      · rw [p_stop_i]
        split
        · rfl
        · rfl
      · rfl
    · rfl
  · rfl
/-- how a whole text of a town ends, in the class -/
def i_CE (t n : Nat) (T : Nat → Nat) (h : iH) (Q : Option Value → iH → Prop) (r : o_R) : Prop := match r with
  | .inl (f, p) => ∀ h2, i_Lay h2 → i_Fr (tA t) (pcF t) h h2 → i_BL h2 f p → Q (some (.int 0)) h2
  | .inr (_, a2) => ∀ k3 h2, i_Fr (tA t) (pcF t) h h2 → i_PC a2 t n k3 T h2 → Q (some (.int 1)) h2
set_option maxHeartbeats 1000000 in
theorem c103 (hL : i_Lay h) (hT : i_T2 t) (x : i_TX h n T) (e : fI h 10 5 = i_n 0) (K : i_CE t n T h Q (p_town T n)) : i_C i_MT i_AT L xs 103 [.ref 44, .ref t] h Q := by
  have ht : t = 14 ∨ t = 29 := hT
  have hn := x.2.2.1
  have loop : ∀ f k (b : Nat → Nat), f ≤ 900 → n - k < f → k ≤ n → o_PW b → ∀ h1, i_PC b t n k T h1 → i_Fr (tA t) (pcF t) h h1 → i_CE t n T h Q (p_parts T n f k b) → i_P i_MT i_AT L xs 103 28 [some (.ref 44), some (.ref t), some (.int (i_n (900 - f)))] [] h1 0 0 Q := by
    intro f
    induction f with
    | zero => intro k b _ h; omega
    | succ f ih =>
      intro k b hf hn hk w h1 g1 f1 K
      rw [p_parts_s] at K
      have k5 := o_tkk_le (T := T) (n := n) (k := k)
      refine d103_28 g1.1 hT.T ?_
      try simp (disch := omega) only [n_lit, n_m, n_add, n_mul, n_div, n_mod, n_cl, n_lt, n_le, n_eq, n_in, n_eqm, n_meq, n_mlt, n_ltm, n_mle, n_lem, not_true_eq_false, not_false_eq_true, true_implies, false_implies, true_and, and_true, Nat.not_lt_zero, Nat.zero_le]
      refine ⟨fun q => by omega, fun _ => m88 (k := k) (k2 := o_ke T n 1 k) rfl g1 hT hk (fun h2 g2 f2 z2 => ⟨rfl, d103_42 g2.1 hT.T ?_⟩)⟩
      have f2 := f1.trans f2.tb
      rw [z2.2.1]
      try simp (disch := omega) only [n_lit, n_m, n_add, n_mul, n_div, n_mod, n_cl, n_lt, n_le, n_eq, n_in, n_eqm, n_meq, n_mlt, n_ltm, n_mle, n_lem, not_true_eq_false, not_false_eq_true, true_implies, false_implies, true_and, and_true, Nat.not_lt_zero, Nat.zero_le]
      refine ⟨fun q => c105 g2 z2 hT w hk ?_, fun q => ?_⟩
      · rw [if_neg q] at K
        have gd := p_part_g (T := T) w hk
        cases he : p_stop T n (p_part T n k b) with
        | inl r =>
          obtain ⟨f3, p3⟩ := r
          rw [he] at K
          exact fun h3 L3 F3 b3 => ⟨_, rfl, d103_58 L3 hT.T ⟨fun z => absurd rfl z, fun _ => K h3 L3 (f2.trans F3) b3⟩⟩
        | inr r =>
          obtain ⟨k3, b3⟩ := r
          rw [he] at K
          have gr := p_stop_r gd he
          intro h3 F3 g3
          refine ⟨_, rfl, d103_58 g3.1 hT.T ⟨fun _ => ?_, fun z => absurd (by decide) z⟩⟩
          have := ih k3 b3 (by omega) (by omega) gr.2.1 gr.2.2 h3 g3 (f2.trans F3) K
          try simp (disch := omega) only [n_lit, n_m, n_add, n_mul, n_div, n_mod, n_cl, n_lt, n_le, n_eq, n_in, n_eqm, n_meq, n_mlt, n_ltm, n_mle, n_lem, not_true_eq_false, not_false_eq_true, true_implies, false_implies, true_and, and_true, Nat.not_lt_zero, Nat.zero_le]
          rw [show 900 - (f + 1) + 1 = 900 - f by omega]
          exact this
      · rw [if_pos (Classical.not_not.mp q)] at K
        exact K _ h2 f2 g2
  refine e103 (d103_0 hL hT.T ⟨⟨_, hL.fw (q := 44) (ci := 9) (b := 1) rfl rfl rfl⟩, ?_⟩)
  have L1 : i_Lay (i_sf h 44 1 (.ref t)) := hL.sf (hL.fw (q := 44) (ci := 9) (b := 1) rfl rfl rfl) rfl
  have F1 : i_Fr [] [(44, 1)] h (i_sf h 44 1 (.ref t)) := i_Fr.refl.sf (by simp)
  have E1 : fR (i_sf h 44 1 (.ref t)) 44 1 = t := x_fR_sf (hL.fw (q := 44) (ci := 9) (b := 1) rfl rfl rfl)
  generalize i_sf h 44 1 (.ref t) = h1 at L1 F1 E1 ⊢
  have tw1 : i_fld h1 44 9 1 = some (.ref t) := by
    have := L1.fw (q := 44) (ci := 9) (b := 1) rfl rfl rfl
    rw [E1] at this
    exact this
  refine d103_5 L1 hT.T ⟨t, tw1, hT.T, c97 L1 hT.T (fun h2 L2 F2 ct2 => ⟨rfl, d103_12 L2 hT.T ⟨by decide, ?_⟩⟩)⟩
  refine w_sfI (R := fun z => i_P i_MT i_AT L xs 103 17 [some (.ref 44), some (.ref t), none] [] z 0 0 Q) L2 L2.q44_4 (fun h3 L3 F3 E3 => d103_17 L3 hT.T ?_)
  have n44 : ∀ b, (44, b) ∉ tF t := fun b => by unfold tF; simp; omega
  have n10 : ∀ b, (10, b) ∉ tF t := fun b => by unfold tF; simp; omega
  have nA : ∀ p, p < 14 → p ∉ tA t := fun p hp => by unfold tA; simp; omega
  have g3 : i_PC o_new t n 0 T h3 := by
    refine ⟨L3, ((x.fr F1 (fun _ _ => by simp) (by simp)).fr F2 (fun p hp => nA p (by simp at hp; omega)) (n10 4)).fr F3 (fun _ _ => by simp) (by simp), ?_, ?_, ?_, ?_, ?_⟩
    · rw [F3.vI (by simp), F2.vI (n10 5), F1.vI (by simp)]; exact e
    · rw [F3.vR (by simp), F2.vR (n44 1)]; exact E1
    · exact ct2.fr F3 (fun _ _ _ => by simp) (fun b => ⟨by simp; omega, by simp; omega⟩)
    · intro p hp
      rw [o_new_0 (by omega) (by omega)] at hp
      omega
    · rw [E3, o_new_0 (by omega) (by omega)]; rfl
  have f3 : i_Fr (tA t) (pcF t) h h3 := (F1.mono (fun _ z => absurd z (by simp)) (fun q hq => by
      simp only [List.mem_cons, List.not_mem_nil, or_false] at hq
      subst hq
      simp)).trans ((F2.tw (t := t) (fun _ z => z) (fun _ z => z)).trans (F3.mono (fun _ z => absurd z (by simp)) (fun q hq => by
      simp only [List.mem_cons, List.not_mem_nil, or_false] at hq
      subst hq
      simp)))
  rw [p_town_e] at K
  refine c104 g3 hT ?_
  cases he : p_siz T n with
  | inl r =>
    obtain ⟨f4, p4⟩ := r
    rw [he] at K
    exact fun h4 L4 F4 b4 => ⟨_, rfl, d103_21 L4 hT.T ⟨fun z => absurd rfl z, fun _ => K h4 L4 (f3.trans F4) b4⟩⟩
  | inr r =>
    obtain ⟨k4, b4⟩ := r
    rw [he] at K
    have gd : 0 < k4 ∧ k4 ≤ n ∧ o_PW b4 := by
      have l3 := o_ke_le (T := T) (Nat.zero_le n) 3
      unfold p_siz o_wo o_nu at he
      split at he
      · split at he
        · rename_i y2
          split at he
          · rename_i y3
            exact p_stop_r (T := T) (n := n) (k0 := 0) (r := .inr (o_ke T n 3 0, o_siz (o_tkv T n (o_ke T n 1 0)) (o_tkv T n (o_ke T n 2 0)))) ⟨Nat.zero_le _, l3.2, o_siz_w (o_nf_0 y2).2 (o_nf_0 y3).2⟩ he
          · cases he
        · cases he
      · cases he
    intro h4 F4 g4
    refine ⟨_, rfl, d103_21 g4.1 hT.T ⟨fun _ => ?_, fun z => absurd (by decide) z⟩⟩
    have := loop 900 k4 b4 (Nat.le_refl _) (by omega) gd.2.1 gd.2.2 h4 g4 (f3.trans F4) K
    exact this
end
