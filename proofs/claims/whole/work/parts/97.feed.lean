/-! FEED, FAULT, TOLD -/
section
variable {L : Nat} {xs : Nat → Int32} {h : iH} {Q : Option Value → iH → Prop} {a : Nat → Nat} {t : Nat}
set_option maxRecDepth 20000
/-- the byte of x above s bits -/
def o_fb (x : Int32) (s : Nat) : Nat := (x.toBitVec.toNat >>> s) % 256
theorem o_fb_lt {x : Int32} {s : Nat} : o_fb x s < 256 := Nat.mod_lt _ (by decide)
theorem o_fb_b (x : Int32) (s c : Nat) : (o_fb x s).testBit c = (decide (c < 8) && x.toBitVec.getLsbD (s + c)) := by
  unfold o_fb
  rw [show (256 : Nat) = 2 ^ 8 from rfl, Nat.testBit_mod_two_pow, Nat.testBit_shiftRight]
  rfl
theorem n_u (x : Int32) {s : Nat} (hs : s < 32) : ((x.toUInt32 >>> ((i_n s).toUInt32 &&& Int32.toUInt32 31)).toInt32) &&& (255 : Int32) = i_n (o_fb x s) := by
  refine n_ext (fun c hc => ?_)
  have am : ∀ j : Fin 32, (((i_n j.val).toUInt32 &&& Int32.toUInt32 31).toBitVec % (32 : BitVec 32)).toNat = j.val := by decide +kernel
  rw [Int32.toBitVec_and, BitVec.getLsbD_and]
  rw [show ∀ z : UInt32, z.toInt32.toBitVec = z.toBitVec from fun _ => rfl, UInt32.toBitVec_shiftRight, BitVec.ushiftRight_eq', BitVec.getLsbD_ushiftRight]
  erw [am ⟨s, hs⟩]
  rw [n_bv, BitVec.getLsbD_ofNat, o_fb_b]
  rw [show (255 : Int32).toBitVec = BitVec.ofNat 32 255 from rfl, BitVec.getLsbD_ofNat, show (255 : Nat) = 2 ^ 8 - 1 from rfl, Nat.testBit_two_pow_sub_one]
  rw [show x.toUInt32.toBitVec = x.toBitVec from rfl]
  simp [hc]
  by_cases h8 : c < 8
  · simp [h8]
  · simp [h8]
theorem n_i8 (x : Int32) {s : Nat} (hs : s ≤ 24) : (vp_nar .byte ((x >>> (i_n s &&& i_n 31)).toInt8.toInt32)) &&& (255 : Int32) = i_n (o_fb x s) := by
  have e : ∀ y : Int32, vp_nar .byte y = y.toInt8.toInt32 := fun y => rfl
  rw [e]
  refine n_ext (fun c hc => ?_)
  rw [Int32.toBitVec_and, BitVec.getLsbD_and, n_bv, BitVec.getLsbD_ofNat, o_fb_b]
  rw [show (255 : Int32).toBitVec = BitVec.ofNat 32 255 from rfl, BitVec.getLsbD_ofNat, show (255 : Nat) = 2 ^ 8 - 1 from rfl, Nat.testBit_two_pow_sub_one]
  by_cases h8 : c < 8
  · have lo : ∀ y : Int32, y.toInt8.toInt32.toBitVec.getLsbD c = y.toBitVec.getLsbD c := fun y => by
      rw [Int8.toBitVec_toInt32, BitVec.getLsbD_signExtend, Int32.toBitVec_toInt8, if_pos h8, BitVec.getLsbD_signExtend, if_pos hc]
      simp [h8, hc]
    rw [lo, lo, Int32.toBitVec_shiftRight, BitVec.getLsbD_sshiftRight']
    erw [n_amt (show s < 32 by omega)]
    simp [h8, hc, show s + c < 32 by omega]
  · simp [h8]
/-- the tape, of the class and of the reference: n bytes, T -/
def i_TPc (h : iH) (n : Nat) (T : Nat → Nat) : Prop := fI h 10 3 = i_n n ∧ n ≤ 900 ∧ ∀ i, i < n → T i < 256 ∧ aI h 11 i = i_n (T i)
def i_TPr (h : iH) (n : Nat) (T : Nat → Nat) : Prop := fI h 138 12 = i_n n ∧ n ≤ 900 ∧ ∀ i, i < n → T i < 256 ∧ aI h 146 i &&& (255 : Int32) = i_n (T i)
def o_put (n : Nat) (T : Nat → Nat) (x : Int32) (i : Nat) : Nat := if i < n then T i else o_fb x (24 - 8 * (i - n))
theorem c83 (hL : i_Lay h) {n : Nat} {T : Nat → Nat} {x : Int32} (hn : n + 4 ≤ 900) (e : i_TPc h n T) (H : ∀ h2, i_Lay h2 → i_Fr [11] [(10, 3)] h h2 → i_TPc h2 (n + 4) (o_put n T x) → Q none h2) : i_C i_MT i_AT L xs 83 [.ref 10, .int x] h Q := by
  have step : ∀ j, j < 4 → ∀ h1, i_Lay h1 → i_Fr [11] [(10, 3)] h h1 → i_TPc h1 (n + j) (o_put n T x) → (∀ h2, i_Lay h2 → i_Fr [11] [(10, 3)] h h2 → i_TPc h2 (n + (j + 1)) (o_put n T x) → i_P i_MT i_AT L xs 83 40 [some (.ref 10), some (.int x), some (.int (i_n (24 - 8 * j)))] [] h2 0 0 Q) → i_P i_MT i_AT L xs 83 3 [some (.ref 10), some (.int x), some (.int (i_n (24 - 8 * j)))] [] h1 0 0 Q := by
    intro j hj h1 L1 f1 z nx
    refine d83_3 L1 ?_
    rw [z.1]
    try simp (disch := omega) only [n_lit, n_m, n_add, n_mul, n_div, n_mod, n_cl, n_lt, n_le, n_eq, n_in, n_eqm, n_meq, n_mlt, n_ltm, n_mle, n_lem, not_true_eq_false, not_false_eq_true, true_implies, false_implies, true_and, and_true, Nat.not_lt_zero, Nat.zero_le]
    refine ⟨fun e => by omega, fun _ => ?_⟩
    have Fs : i_Fr [] [(10, 3)] h1 (i_sf h1 10 3 (.int (i_n (n + j + 1)))) := i_Fr.refl.sf (by decide)
    have L2 : i_Lay (i_sf h1 10 3 (.int (i_n (n + j + 1)))) := L1.sf L1.q10_3 rfl
    have e3 : fI (i_sf h1 10 3 (.int (i_n (n + j + 1)))) 10 3 = i_n (n + j + 1) := x_fI_sf L1.q10_3
    generalize i_sf h1 10 3 (.int (i_n (n + j + 1))) = h2 at Fs L2 e3 ⊢
    refine d83_32 L2 ⟨_, _, L2.a11, ?_⟩
    rw [n_cl (by omega), n_u x (by omega)]
    refine ⟨(n_in (by omega)).mpr (by omega), ?_⟩
    have Fi : i_Fr [11] [] h2 (i_siI h2 11 (n + j) (i_n (o_fb x (24 - 8 * j)))) := i_Fr.refl.siI (by decide)
    refine nx _ L2.siI (f1.trans ((Fs.mono (by decide) (fun _ z => z)).trans (Fi.mono (fun _ z => z) (by decide)))) ⟨by rw [Fi.vI (by decide)]; exact e3, by omega, fun i hi => ?_⟩
    rw [x_aI_siI L2.a11, x_upd]
    by_cases q : i = n + j
    · subst q
      have ep : o_put n T x (n + j) = o_fb x (24 - 8 * j) := by
        unfold o_put
        rw [if_neg (by omega), show n + j - n = j by omega]
      rw [if_pos rfl, ep]
      exact ⟨o_fb_lt, rfl⟩
    · rw [if_neg q, Fs.rI (by decide)]
      exact z.2.2 i (by omega)
  have z0 : i_TPc h (n + 0) (o_put n T x) := ⟨e.1, by omega, fun i hi => by
    have : o_put n T x i = T i := by unfold o_put; rw [if_pos (by omega)]
    rw [this]; exact e.2.2 i (by omega)⟩
  refine e83 (d83_0 hL ?_)
  refine step 0 (by omega) h hL i_Fr.refl z0 (fun h1 L1 f1 z1 => d83_40 L1 ?_)
  refine step 1 (by omega) h1 L1 f1 z1 (fun h2 L2 f2 z2 => d83_40 L2 ?_)
  refine step 2 (by omega) h2 L2 f2 z2 (fun h3 L3 f3 z3 => d83_40 L3 ?_)
  refine step 3 (by omega) h3 L3 f3 z3 (fun h4 L4 f4 z4 => d83_40 L4 ?_)
  refine d83_3 L4 ⟨fun _ => d83_46 L4 (H h4 L4 f4 z4), fun q => absurd (by decide) q⟩
theorem c214 (hL : i_Lay h) {n : Nat} {T : Nat → Nat} {x : Int32} (hn : n + 4 ≤ 900) (e : i_TPr h n T) (H : ∀ h2, i_Lay h2 → i_Fr [146] [(138, 12)] h h2 → i_TPr h2 (n + 4) (o_put n T x) → Q none h2) : i_C i_MT i_AT L xs 214 [.ref 138, .int x] h Q := by
  have step : ∀ j, j < 4 → ∀ h1, i_Lay h1 → i_Fr [146] [(138, 12)] h h1 → i_TPr h1 (n + j) (o_put n T x) → (∀ h2, i_Lay h2 → i_Fr [146] [(138, 12)] h h2 → i_TPr h2 (n + (j + 1)) (o_put n T x) → i_P i_MT i_AT L xs 214 30 [some (.ref 138), some (.int x), some (.int (i_n (24 - 8 * j)))] [] h2 0 0 Q) → i_P i_MT i_AT L xs 214 3 [some (.ref 138), some (.int x), some (.int (i_n (24 - 8 * j)))] [] h1 0 0 Q := by
    intro j hj h1 L1 f1 z nx
    refine d214_3 L1 ?_
    rw [z.1, n_cl (by omega)]
    refine ⟨fun q => ?_, fun _ => ⟨(n_in (by omega)).mpr (by omega), ?_⟩⟩
    · rw [show (0 : Int32) = i_n 0 from rfl, n_lt (by omega) (by omega)] at q
      omega
    have e8 := n_i8 x (s := 24 - 8 * j) (by omega)
    rw [show i_n 31 = (31 : Int32) from rfl] at e8
    generalize vp_nar .byte ((x >>> (i_n (24 - 8 * j) &&& (31 : Int32))).toInt8.toInt32) = v at e8 ⊢
    have Fi : i_Fr [146] [] h1 (i_siI h1 146 (n + j) v) := i_Fr.refl.siI (by decide)
    have ea : ∀ i, aI (i_siI h1 146 (n + j) v) 146 i = if i = n + j then v else aI h1 146 i := fun i => by rw [x_aI_siI L1.a146, x_upd]
    have L2 := L1.siI (q := 146) (i := n + j) (x := v)
    have e12 : fI (i_siI h1 146 (n + j) v) 138 12 = i_n (n + j) := by rw [Fi.vI (by decide)]; exact z.1
    generalize i_siI h1 146 (n + j) v = h2 at Fi ea L2 e12 ⊢
    refine d214_20 L2 ?_
    rw [e12]
    try simp (disch := omega) only [n_lit, n_m, n_add, n_mul, n_div, n_mod, n_cl, n_lt, n_le, n_eq, n_in, n_eqm, n_meq, n_mlt, n_ltm, n_mle, n_lem, not_true_eq_false, not_false_eq_true, true_implies, false_implies, true_and, and_true, Nat.not_lt_zero, Nat.zero_le]
    have Fs : i_Fr [] [(138, 12)] h2 (i_sf h2 138 12 (.int (i_n (n + j + 1)))) := i_Fr.refl.sf (by decide)
    refine nx _ (L2.sf L2.q138_12 rfl) (f1.trans ((Fi.mono (fun _ z => z) (by decide)).trans (Fs.mono (by decide) (fun _ z => z)))) ⟨x_fI_sf L2.q138_12, by omega, fun i hi => ?_⟩
    rw [Fs.rI (by decide), ea]
    by_cases q : i = n + j
    · subst q
      have ep : o_put n T x (n + j) = o_fb x (24 - 8 * j) := by
        unfold o_put
        rw [if_neg (by omega), show n + j - n = j by omega]
      rw [if_pos rfl, ep]
      exact ⟨o_fb_lt, e8⟩
    · rw [if_neg q]
      exact z.2.2 i (by omega)
  have z0 : i_TPr h (n + 0) (o_put n T x) := ⟨e.1, by omega, fun i hi => by
    have : o_put n T x i = T i := by unfold o_put; rw [if_pos (by omega)]
    rw [this]; exact e.2.2 i (by omega)⟩
  refine e214 (d214_0 hL ?_)
  refine step 0 (by omega) h hL i_Fr.refl z0 (fun h1 L1 f1 z1 => d214_30 L1 ?_)
  refine step 1 (by omega) h1 L1 f1 z1 (fun h2 L2 f2 z2 => d214_30 L2 ?_)
  refine step 2 (by omega) h2 L2 f2 z2 (fun h3 L3 f3 z3 => d214_30 L3 ?_)
  refine step 3 (by omega) h3 L3 f3 z3 (fun h4 L4 f4 z4 => d214_30 L4 ?_)
  refine d214_3 L4 ⟨fun _ => H h4 L4 f4 z4, fun q => absurd (by decide) q⟩
def o_feed (n : Nat) (T : Nat → Nat) (x1 x2 x3 x4 x5 : Int32) : Nat → Nat := o_put (n + 16) (o_put (n + 12) (o_put (n + 8) (o_put (n + 4) (o_put n T x1) x2) x3) x4) x5
theorem c136 (hL : i_Lay h) {n : Nat} {T : Nat → Nat} {x1 x2 x3 x4 x5 : Int32} (e : i_TPc h n T) (H0 : ¬ n + 20 ≤ 900 → Q (some (.int (-1))) h) (H1 : n + 20 ≤ 900 → ∀ h2, i_Lay h2 → i_Fr [11] [(10, 3)] h h2 → i_TPc h2 (n + 20) (o_feed n T x1 x2 x3 x4 x5) → Q (some (.int (i_n (n + 20)))) h2) : i_C i_MT i_AT L xs 136 [.ref 0, .int x1, .int x2, .int x3, .int x4, .int x5] h Q := by
  have hn := e.2.1
  refine e136 (d136_0 hL ?_)
  rw [e.1]
  try simp (disch := omega) only [n_lit, n_m, n_add, n_mul, n_div, n_mod, n_cl, n_lt, n_le, n_eq, n_in, n_eqm, n_meq, n_mlt, n_ltm, n_mle, n_lem, not_true_eq_false, not_false_eq_true, true_implies, false_implies, true_and, and_true, Nat.not_lt_zero, Nat.zero_le]
  refine ⟨fun q => c83 hL (by omega) e (fun h1 L1 f1 z1 => ⟨rfl, d136_26 L1 (c83 L1 (by omega) z1 (fun h2 L2 f2 z2 => ⟨rfl, d136_34 L2 (c83 L2 (by omega) z2 (fun h3 L3 f3 z3 => ⟨rfl, d136_42 L3 (c83 L3 (by omega) z3 (fun h4 L4 f4 z4 => ⟨rfl, d136_51 L4 (c83 L4 (by omega) z4 (fun h5 L5 f5 z5 => ⟨rfl, d136_60 L5 ?_⟩))⟩))⟩))⟩))⟩), fun q => H0 q⟩
  have := H1 q h5 L5 ((((f1.trans f2).trans f3).trans f4).trans f5) z5
  rw [z5.1]; exact this
theorem c213 (hL : i_Lay h) {n : Nat} {T : Nat → Nat} {x1 x2 x3 x4 x5 : Int32} (e : i_TPr h n T) (H0 : ¬ n + 20 ≤ 900 → Q (some (.int (-1))) h) (H1 : n + 20 ≤ 900 → ∀ h2, i_Lay h2 → i_Fr [146] [(138, 12)] h h2 → i_TPr h2 (n + 20) (o_feed n T x1 x2 x3 x4 x5) → Q (some (.int (i_n (n + 20)))) h2) : i_C i_MT i_AT L xs 213 [.ref 138, .int x1, .int x2, .int x3, .int x4, .int x5] h Q := by
  have hn := e.2.1
  refine e213 (d213_0 hL ?_)
  rw [e.1]
  try simp (disch := omega) only [n_lit, n_m, n_add, n_mul, n_div, n_mod, n_cl, n_lt, n_le, n_eq, n_in, n_eqm, n_meq, n_mlt, n_ltm, n_mle, n_lem, not_true_eq_false, not_false_eq_true, true_implies, false_implies, true_and, and_true, Nat.not_lt_zero, Nat.zero_le]
  refine ⟨fun q => c214 hL (by omega) e (fun h1 L1 f1 z1 => ⟨rfl, d213_20 L1 (c214 L1 (by omega) z1 (fun h2 L2 f2 z2 => ⟨rfl, d213_25 L2 (c214 L2 (by omega) z2 (fun h3 L3 f3 z3 => ⟨rfl, d213_30 L3 (c214 L3 (by omega) z3 (fun h4 L4 f4 z4 => ⟨rfl, d213_36 L4 (c214 L4 (by omega) z4 (fun h5 L5 f5 z5 => ⟨rfl, d213_42 L5 ?_⟩))⟩))⟩))⟩))⟩), fun q => H0 q⟩
  have := H1 q h5 L5 ((((f1.trans f2).trans f3).trans f4).trans f5) z5
  rw [z5.1]; exact this
theorem c139 (hL : i_Lay h) {x : Int32} (H : Q (some (.int (if x = 0 then fI h 10 11 else if x = 1 then fI h 10 12 else -1))) h) : i_C i_MT i_AT L xs 139 [.ref 0, .int x] h Q := by
  refine e139 (d139_0 hL ⟨fun e => ⟨fun e2 => d139_28 hL ?_, fun e2 => d139_28 hL ?_⟩, fun e => ?_⟩)
  · rw [if_neg e, if_neg e2] at H; exact H
  · rw [if_neg e, if_pos (Classical.not_not.mp e2)] at H; exact H
  · rw [if_pos (Classical.not_not.mp e)] at H; exact H
theorem c229 (hL : i_Lay h) {x : Int32} (H : Q (some (.int (if x = 0 then fI h 138 18 else if x = 1 then fI h 138 19 else -1))) h) : i_C i_MT i_AT L xs 229 [.ref 138, .int x] h Q := by
  refine e229 (d229_0 hL ⟨fun e => ⟨fun e2 => d229_24 hL ?_, fun e2 => d229_24 hL ?_⟩, fun e => d229_24 hL ?_⟩)
  · rw [if_neg e, if_neg e2] at H; exact H
  · rw [if_neg e, if_pos (Classical.not_not.mp e2)] at H; exact H
  · rw [if_pos (Classical.not_not.mp e)] at H; exact H
theorem c129 (hL : i_Lay h) (H : Q (some (.int (fI h 0 0))) h) : i_C i_MT i_AT L xs 129 [.ref 0] h Q := e129 (d129_0 hL H)
theorem c130 (hL : i_Lay h) (H : Q (some (.long (fJ h 0 1))) h) : i_C i_MT i_AT L xs 130 [.ref 0] h Q := e130 (d130_0 hL H)
theorem c131 (hL : i_Lay h) (H : Q (some (.long (fJ h 0 2))) h) : i_C i_MT i_AT L xs 131 [.ref 0] h Q := e131 (d131_0 hL H)
theorem c197 (hL : i_Lay h) (H : Q (some (.int (fI h 138 4))) h) : i_C i_MT i_AT L xs 197 [.ref 138] h Q := e197 (d197_0 hL H)
theorem c198 (hL : i_Lay h) (H : Q (some (.long (fJ h 138 5))) h) : i_C i_MT i_AT L xs 198 [.ref 138] h Q := e198 (d198_0 hL H)
theorem c199 (hL : i_Lay h) (H : Q (some (.long (fJ h 138 6))) h) : i_C i_MT i_AT L xs 199 [.ref 138] h Q := e199 (d199_0 hL H)
end
