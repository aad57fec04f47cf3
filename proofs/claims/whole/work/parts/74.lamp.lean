/-! BITS COUNTED; THE LEAST SET -/
section
variable {L : Nat} {xs : Nat → Int32} {h : iH} {Q : Option Value → iH → Prop} {a : Nat → Nat} {t : Nat}
set_option maxRecDepth 20000
def o_pc (v : Nat) : Nat := o_cn0 (fun i => v.testBit i) 8
def f333 (x0 : Int32) : Int32 := ((((((((x0 - (((x0.toUInt32 >>> ((1 : Int32).toUInt32 &&& Int32.toUInt32 31)).toInt32) &&& (1431655765 : Int32))) &&& (858993459 : Int32)) + ((((x0 - (((x0.toUInt32 >>> ((1 : Int32).toUInt32 &&& Int32.toUInt32 31)).toInt32) &&& (1431655765 : Int32))).toUInt32 >>> ((2 : Int32).toUInt32 &&& Int32.toUInt32 31)).toInt32) &&& (858993459 : Int32))) + (((((x0 - (((x0.toUInt32 >>> ((1 : Int32).toUInt32 &&& Int32.toUInt32 31)).toInt32) &&& (1431655765 : Int32))) &&& (858993459 : Int32)) + ((((x0 - (((x0.toUInt32 >>> ((1 : Int32).toUInt32 &&& Int32.toUInt32 31)).toInt32) &&& (1431655765 : Int32))).toUInt32 >>> ((2 : Int32).toUInt32 &&& Int32.toUInt32 31)).toInt32) &&& (858993459 : Int32))).toUInt32 >>> ((4 : Int32).toUInt32 &&& Int32.toUInt32 31)).toInt32)) &&& (252645135 : Int32)) + (((((((x0 - (((x0.toUInt32 >>> ((1 : Int32).toUInt32 &&& Int32.toUInt32 31)).toInt32) &&& (1431655765 : Int32))) &&& (858993459 : Int32)) + ((((x0 - (((x0.toUInt32 >>> ((1 : Int32).toUInt32 &&& Int32.toUInt32 31)).toInt32) &&& (1431655765 : Int32))).toUInt32 >>> ((2 : Int32).toUInt32 &&& Int32.toUInt32 31)).toInt32) &&& (858993459 : Int32))) + (((((x0 - (((x0.toUInt32 >>> ((1 : Int32).toUInt32 &&& Int32.toUInt32 31)).toInt32) &&& (1431655765 : Int32))) &&& (858993459 : Int32)) + ((((x0 - (((x0.toUInt32 >>> ((1 : Int32).toUInt32 &&& Int32.toUInt32 31)).toInt32) &&& (1431655765 : Int32))).toUInt32 >>> ((2 : Int32).toUInt32 &&& Int32.toUInt32 31)).toInt32) &&& (858993459 : Int32))).toUInt32 >>> ((4 : Int32).toUInt32 &&& Int32.toUInt32 31)).toInt32)) &&& (252645135 : Int32)).toUInt32 >>> ((8 : Int32).toUInt32 &&& Int32.toUInt32 31)).toInt32)) + ((((((((x0 - (((x0.toUInt32 >>> ((1 : Int32).toUInt32 &&& Int32.toUInt32 31)).toInt32) &&& (1431655765 : Int32))) &&& (858993459 : Int32)) + ((((x0 - (((x0.toUInt32 >>> ((1 : Int32).toUInt32 &&& Int32.toUInt32 31)).toInt32) &&& (1431655765 : Int32))).toUInt32 >>> ((2 : Int32).toUInt32 &&& Int32.toUInt32 31)).toInt32) &&& (858993459 : Int32))) + (((((x0 - (((x0.toUInt32 >>> ((1 : Int32).toUInt32 &&& Int32.toUInt32 31)).toInt32) &&& (1431655765 : Int32))) &&& (858993459 : Int32)) + ((((x0 - (((x0.toUInt32 >>> ((1 : Int32).toUInt32 &&& Int32.toUInt32 31)).toInt32) &&& (1431655765 : Int32))).toUInt32 >>> ((2 : Int32).toUInt32 &&& Int32.toUInt32 31)).toInt32) &&& (858993459 : Int32))).toUInt32 >>> ((4 : Int32).toUInt32 &&& Int32.toUInt32 31)).toInt32)) &&& (252645135 : Int32)) + (((((((x0 - (((x0.toUInt32 >>> ((1 : Int32).toUInt32 &&& Int32.toUInt32 31)).toInt32) &&& (1431655765 : Int32))) &&& (858993459 : Int32)) + ((((x0 - (((x0.toUInt32 >>> ((1 : Int32).toUInt32 &&& Int32.toUInt32 31)).toInt32) &&& (1431655765 : Int32))).toUInt32 >>> ((2 : Int32).toUInt32 &&& Int32.toUInt32 31)).toInt32) &&& (858993459 : Int32))) + (((((x0 - (((x0.toUInt32 >>> ((1 : Int32).toUInt32 &&& Int32.toUInt32 31)).toInt32) &&& (1431655765 : Int32))) &&& (858993459 : Int32)) + ((((x0 - (((x0.toUInt32 >>> ((1 : Int32).toUInt32 &&& Int32.toUInt32 31)).toInt32) &&& (1431655765 : Int32))).toUInt32 >>> ((2 : Int32).toUInt32 &&& Int32.toUInt32 31)).toInt32) &&& (858993459 : Int32))).toUInt32 >>> ((4 : Int32).toUInt32 &&& Int32.toUInt32 31)).toInt32)) &&& (252645135 : Int32)).toUInt32 >>> ((8 : Int32).toUInt32 &&& Int32.toUInt32 31)).toInt32)).toUInt32 >>> ((16 : Int32).toUInt32 &&& Int32.toUInt32 31)).toInt32)) &&& (63 : Int32))
set_option maxHeartbeats 4000000 in
theorem f333_ok : ∀ j : Fin 256, f333 (i_n j.val) = i_n (o_pc j.val) := by decide +kernel
theorem c333 {v : Nat} (hv : v < 256) (H : Q (some (.int (i_n (o_pc v)))) h) : i_C i_MT i_AT L xs 333 [.int (i_n v)] h Q := by
  refine e333 (b333_0 ?_)
  show Q (some (.int (f333 (i_n v)))) h
  rw [f333_ok ⟨v, hv⟩]
  exact H
theorem o_pc_le {v m : Nat} (hv : v < 2 ^ m) : o_pc v ≤ m := by
  have : ∀ k, o_cn0 (fun i => v.testBit i) k ≤ m := by
    intro k
    have h1 : ∀ k, o_cn0 (fun i => v.testBit i) k ≤ k ∧ (m ≤ k → o_cn0 (fun i => v.testBit i) k ≤ m) := by
      intro k
      induction k with
      | zero => exact ⟨Nat.le_refl 0, fun _ => Nat.zero_le m⟩
      | succ k ih =>
        rw [o_cn0]
        refine ⟨by split <;> omega, fun hk => ?_⟩
        by_cases e : m ≤ k
        · rw [if_neg (by rw [Nat.testBit_lt_two_pow (Nat.lt_of_lt_of_le hv (Nat.pow_le_pow_right (by omega) e))]; exact fun z => by cases z)]
          exact ih.2 e
        · split <;> omega
    by_cases e : m ≤ k
    · exact (h1 k).2 e
    · have := (h1 k).1; omega
  exact this 8
theorem o_pc_and : ∀ j : Fin 256, j.val ≠ 0 → o_pc (j.val &&& (j.val - 1)) + 1 = o_pc j.val ∧ j.val &&& (j.val - 1) < j.val := by decide +kernel
theorem c307 (hL : i_Lay h) {v : Nat} (hv : v < 256) (H : Q (some (.int (i_n (o_pc v)))) h) : i_C i_MT i_AT L xs 307 [.int (i_n v)] h Q := by
  have key : ∀ m w k, w ≤ m → w < 256 → k + o_pc w = o_pc v → i_P i_MT i_AT L xs 307 4 [some (.int (i_n v)), some (.int (i_n k)), some (.int (i_n w))] [] h 0 0 Q := by
    intro m
    induction m with
    | zero =>
      intro w k hw hw2 hk
      have w0 : w = 0 := by omega
      subst w0
      refine d307_4 hL ?_
      try simp (disch := omega) only [n_lit, n_m, n_add, n_mul, n_div, n_mod, n_cl, n_lt, n_le, n_eq, n_in, n_eqm, n_meq, n_mlt, n_ltm, n_mle, n_lem, not_true_eq_false, not_false_eq_true, true_implies, false_implies, true_and, and_true, Nat.not_lt_zero, Nat.zero_le]
      rw [show o_pc 0 = 0 from by decide, Nat.add_zero] at hk
      rw [hk]; exact H
    | succ m ih =>
      intro w k hw hw2 hk
      refine d307_4 hL ?_
      by_cases w0 : w = 0
      · subst w0
        rw [show o_pc 0 = 0 from by decide, Nat.add_zero] at hk
        try simp (disch := omega) only [n_lit, n_m, n_add, n_mul, n_div, n_mod, n_cl, n_lt, n_le, n_eq, n_in, n_eqm, n_meq, n_mlt, n_ltm, n_mle, n_lem, not_true_eq_false, not_false_eq_true, true_implies, false_implies, true_and, and_true, Nat.not_lt_zero, Nat.zero_le]
        rw [hk]; exact H
      · have q := o_pc_and ⟨w, hw2⟩ w0
        dsimp only at q
        try simp (disch := omega) only [n_lit, n_m, n_add, n_mul, n_div, n_mod, n_cl, n_lt, n_le, n_eq, n_in, n_eqm, n_meq, n_mlt, n_ltm, n_mle, n_lem, not_true_eq_false, not_false_eq_true, true_implies, false_implies, true_and, and_true, Nat.not_lt_zero, Nat.zero_le, n_sub, n_and]
        exact ⟨fun z => absurd z w0, fun _ => ih _ _ (by omega) (by omega) (by omega)⟩
  refine e307 (d307_0 hL ?_)
  try simp (disch := omega) only [n_lit, n_m, n_add, n_mul, n_div, n_mod, n_cl, n_lt, n_le, n_eq, n_in, n_eqm, n_meq, n_mlt, n_ltm, n_mle, n_lem, not_true_eq_false, not_false_eq_true, true_implies, false_implies, true_and, and_true, Nat.not_lt_zero, Nat.zero_le]
  exact key v v 0 (Nat.le_refl v) hv (by omega)
/-- better than what there is -/
def o_few (m : Nat) : Option Nat → Nat
  | none => m + 1
  | some b => o_pc b
def o_bet (k : Nat) : Option Nat → Bool
  | none => true
  | some b => decide (o_pc k < o_pc b)
/-- of those below, the least of the fewest -/
def o_ls (E : Nat → Bool) : Nat → Option Nat
  | 0 => none
  | k + 1 => if (E k && o_bet k (o_ls E k)) = true then some k else o_ls E k
theorem o_ls_lt {E : Nat → Bool} : ∀ k b, o_ls E k = some b → b < k
  | 0, b, z => by cases z
  | k + 1, b, z => by
    rw [o_ls] at z
    split at z
    · cases z; omega
    · have := o_ls_lt k b z; omega
theorem o_ls_congr {E F : Nat → Bool} : ∀ k, (∀ i, i < k → E i = F i) → o_ls E k = o_ls F k
  | 0, _ => rfl
  | k + 1, z => by rw [o_ls, o_ls, o_ls_congr k (fun i hi => z i (by omega)), z k (by omega)]
theorem c65 (hL : i_Lay h) {S c n : Nat} {Hd : Nat → Nat} (hS : S < 256) (hc : c ≤ 48) (hn : n ≤ 8) (he : ∀ i, i < c → aI h 133 i = i_n (Hd i)) (H : Q (some (.int (i_bo (o_al (fun i => decide (n ≤ o_pc (S &&& Hd i))) c = true)))) h) : i_C i_MT i_AT L xs 65 [.ref 121, .int (i_n S), .int (i_n c), .int (i_n n)] h Q := by
  have key : ∀ k, k ≤ c → o_al (fun i => decide (n ≤ o_pc (S &&& Hd i))) k = true → i_P i_MT i_AT L xs 65 3 [some (.ref 121), some (.int (i_n S)), some (.int (i_n c)), some (.int (i_n n)), some (.int (i_n k))] [] h 0 0 Q := by
    refine l_up ?_ ?_
    · intro z
      refine d65_3 hL ?_
      try simp (disch := omega) only [n_lit, n_m, n_add, n_mul, n_div, n_mod, n_cl, n_lt, n_le, n_eq, n_in, n_eqm, n_meq, n_mlt, n_ltm, n_mle, n_lem, not_true_eq_false, not_false_eq_true, true_implies, false_implies, true_and, and_true, Nat.not_lt_zero, Nat.zero_le, Nat.le_refl]
      rw [i_bo_t z] at H
      exact H
    · intro k hk ih z
      have hb : S &&& Hd k < 256 := Nat.lt_of_le_of_lt Nat.and_le_left hS
      have hp : o_pc (S &&& Hd k) ≤ 8 := o_cn0_le 8
      refine d65_3 hL ?_
      try simp (disch := omega) only [n_lit, n_m, n_add, n_mul, n_div, n_mod, n_cl, n_lt, n_le, n_eq, n_in, n_eqm, n_meq, n_mlt, n_ltm, n_mle, n_lem, not_true_eq_false, not_false_eq_true, true_implies, false_implies, true_and, and_true, Nat.not_lt_zero, Nat.zero_le, he, n_and]
      refine ⟨fun q => by omega, fun _ => ⟨by omega, c333 hb ⟨_, rfl, d65_21 hL ?_⟩⟩⟩
      try simp (disch := omega) only [n_lit, n_m, n_add, n_mul, n_div, n_mod, n_cl, n_lt, n_le, n_eq, n_in, n_eqm, n_meq, n_mlt, n_ltm, n_mle, n_lem, not_true_eq_false, not_false_eq_true, true_implies, false_implies, true_and, and_true, Nat.not_lt_zero, Nat.zero_le]
      refine ⟨fun q => ih (by rw [o_al, z]; simpa using q), fun q => ?_⟩
      rw [i_bo_f (fun w => q (by simpa using (o_al_t c).mp w k hk))] at H
      exact H
  refine e65 (d65_0 hL ?_)
  try simp (disch := omega) only [n_lit, n_m, n_add, n_mul, n_div, n_mod, n_cl, n_lt, n_le, n_eq, n_in, n_eqm, n_meq, n_mlt, n_ltm, n_mle, n_lem, not_true_eq_false, not_false_eq_true, true_implies, false_implies, true_and, and_true, Nat.not_lt_zero, Nat.zero_le]
  exact key 0 (Nat.zero_le _) rfl
theorem c64 (hL : i_Lay h) {c m n : Nat} {Hd : Nat → Nat} (hc : c ≤ 48) (hm : m ≤ 8) (hn : n ≤ 8) (he : ∀ i, i < c → aI h 133 i = i_n (Hd i)) (H : Q (some (.int (o_op (o_ls (fun S => o_al (fun i => decide (n ≤ o_pc (S &&& Hd i))) c) (2 ^ m))))) h) : i_C i_MT i_AT L xs 64 [.ref 121, .int (i_n c), .int (i_n m), .int (i_n n)] h Q := by
  have h8 : 2 ^ m ≤ 256 := Nat.pow_le_pow_right (n := 2) (i := m) (j := 8) (by omega) hm
  have e1 : 1 <<< m = 2 ^ m := Nat.one_shiftLeft m
  have few : ∀ k, k ≤ 2 ^ m → ∀ (y7 : Option Value), i_P i_MT i_AT L xs 64 11 [some (.ref 121), some (.int (i_n c)), some (.int (i_n m)), some (.int (i_n n)), some (.int (o_op (o_ls (fun S => o_al (fun i => decide (n ≤ o_pc (S &&& Hd i))) c) k))), some (.int (i_n (o_few m (o_ls (fun S => o_al (fun i => decide (n ≤ o_pc (S &&& Hd i))) c) k)))), some (.int (i_n k)), y7] [] h 0 0 Q := by
    refine l_up ?_ ?_
    · intro y7
      refine d64_11 hL ?_
      try simp (disch := omega) only [n_lit, n_m, n_add, n_mul, n_div, n_mod, n_cl, n_lt, n_le, n_eq, n_in, n_eqm, n_meq, n_mlt, n_ltm, n_mle, n_lem, not_true_eq_false, not_false_eq_true, true_implies, false_implies, true_and, and_true, Nat.not_lt_zero, Nat.zero_le, n_shl2, n_and, e1, Nat.le_refl]
      exact H
    · intro k hk ih y7
      rw [o_ls] at ih
      have hle : ∀ b, o_ls (fun S => o_al (fun i => decide (n ≤ o_pc (S &&& Hd i))) c) k = some b → b < k := o_ls_lt k
      generalize hO : o_ls (fun S => o_al (fun i => decide (n ≤ o_pc (S &&& Hd i))) c) k = O at ih hle ⊢
      have hp := o_pc_le hk
      have hp8 : o_pc k ≤ 8 := o_cn0_le 8
      have hfew : (o_few m O) ≤ 9 := by
        cases O with
        | none => show m + 1 ≤ 9; omega
        | some b => exact Nat.le_succ_of_le (o_cn0_le 8)
      have hbet : o_bet k O = decide (o_pc k < (o_few m O)) := by
        cases O with
        | none => show true = decide (o_pc k < m + 1); simp; omega
        | some b => rfl
      have no : ¬ (o_al (fun i => decide (n ≤ o_pc (k &&& Hd i))) c && o_bet k O) = true →  i_P i_MT i_AT L xs 64 52 [some (.ref 121), some (.int (i_n c)), some (.int (i_n m)), some (.int (i_n n)), some (.int (o_op O)), some (.int (i_n (o_few m O))), some (.int (i_n k)), some (.int (i_n (o_pc k)))] [] h 0 0 Q := by
        intro z 
        rw [if_neg z] at ih
        refine d64_52 hL ?_
        try simp (disch := omega) only [n_lit, n_m, n_add, n_mul, n_div, n_mod, n_cl, n_lt, n_le, n_eq, n_in, n_eqm, n_meq, n_mlt, n_ltm, n_mle, n_lem, not_true_eq_false, not_false_eq_true, true_implies, false_implies, true_and, and_true, Nat.not_lt_zero, Nat.zero_le]
        exact ih _
      have yes : (o_al (fun i => decide (n ≤ o_pc (k &&& Hd i))) c && o_bet k O) = true →  i_P i_MT i_AT L xs 64 52 [some (.ref 121), some (.int (i_n c)), some (.int (i_n m)), some (.int (i_n n)), some (.int (i_n k)), some (.int (i_n (o_pc k))), some (.int (i_n k)), some (.int (i_n (o_pc k)))] [] h 0 0 Q := by
        intro z 
        rw [if_pos z] at ih
        refine d64_52 hL ?_
        try simp (disch := omega) only [n_lit, n_m, n_add, n_mul, n_div, n_mod, n_cl, n_lt, n_le, n_eq, n_in, n_eqm, n_meq, n_mlt, n_ltm, n_mle, n_lem, not_true_eq_false, not_false_eq_true, true_implies, false_implies, true_and, and_true, Nat.not_lt_zero, Nat.zero_le]
        exact ih _
      refine d64_11 hL ?_
      generalize o_few m O = fw at *
      try simp (disch := omega) only [n_lit, n_m, n_add, n_mul, n_div, n_mod, n_cl, n_lt, n_le, n_eq, n_in, n_eqm, n_meq, n_mlt, n_ltm, n_mle, n_lem, not_true_eq_false, not_false_eq_true, true_implies, false_implies, true_and, and_true, Nat.not_lt_zero, Nat.zero_le, n_shl2, n_and, e1]
      refine ⟨fun z => by omega, fun _ => c333 (by omega) ⟨_, rfl, d64_24 hL ?_⟩⟩
      try simp (disch := omega) only [n_lit, n_m, n_add, n_mul, n_div, n_mod, n_cl, n_lt, n_le, n_eq, n_in, n_eqm, n_meq, n_mlt, n_ltm, n_mle, n_lem, not_true_eq_false, not_false_eq_true, true_implies, false_implies, true_and, and_true, Nat.not_lt_zero, Nat.zero_le]
      refine ⟨fun z => no (by rw [hbet]; simp; omega) , fun z => c65 (Hd := Hd) hL (by omega) hc hn he ⟨_, rfl, d64_41 hL ?_⟩⟩
      try simp (disch := omega) only [n_lit, n_m, i_bo01, j_cmpn, Classical.not_not, n_add, n_mul, n_div, n_mod, n_cl, n_lt, n_le, n_eq, n_in, n_eqm, n_meq, n_mlt, n_ltm, n_mle, n_lem, not_true_eq_false, not_false_eq_true, true_implies, false_implies, true_and, and_true, Nat.not_lt_zero, Nat.zero_le]
      exact ⟨fun z2 => no (by simp [z2]) , fun z2 => yes (by rw [z2, hbet]; simp; omega) ⟩
  refine e64 (d64_0 hL ?_)
  try simp (disch := omega) only [n_lit, n_m, n_add, n_mul, n_div, n_mod, n_cl, n_lt, n_le, n_eq, n_in, n_eqm, n_meq, n_mlt, n_ltm, n_mle, n_lem, not_true_eq_false, not_false_eq_true, true_implies, false_implies, true_and, and_true, Nat.not_lt_zero, Nat.zero_le]
  exact few 0 (Nat.zero_le _) _
/-! LAMPS, GALLERY -/
theorem o_pc_st {S m : Nat} {P : Nat → Bool} (hm : m ≤ 8) : o_pc (S &&& o_st P m) = o_cn0 (fun k => S.testBit k && P k) m := by
  have : ∀ k, o_cn0 (fun i => (S &&& o_st P m).testBit i) k = o_cn0 (fun k => S.testBit k && P k) (min k m) := by
    intro k
    induction k with
    | zero => rw [Nat.zero_min]; rfl
    | succ k ih =>
      rw [o_cn0, ih, Nat.testBit_and, o_st_b]
      by_cases e : k < m
      · rw [Nat.min_eq_left (by omega), Nat.min_eq_left (by omega), o_cn0]
        simp [e]
      · rw [Nat.min_eq_right (by omega), Nat.min_eq_right (by omega)]
        simp [e]
  unfold o_pc
  rw [this, Nat.min_eq_right hm]
def o_lit (a : Nat → Nat) (n S : Nat) : Bool := o_al (fun p => decide (n ≤ o_cn0 (fun k => S.testBit k && o_sees a p (a (106 + k)) 0) (a 4))) (a 5)
def o_lmpA (a : Nat → Nat) (x : Int32) : Int32 × Int32 := o_A6 (0 ≤ x ∧ x ≤ 8) (o_ls (o_lit a x.toNatClampNeg) (2 ^ a 4))
def o_gar (a : Nat → Nat) (n S : Nat) : Bool := o_al (fun c => o_wall a c || decide (n ≤ o_cn0 (fun p => S.testBit p && (a (154 + 5 * p) == c || o_sees a p c 0)) (a 5))) (a 0 * a 1)
def o_galA (a : Nat → Nat) (x : Int32) : Int32 × Int32 := o_A6 (0 ≤ x ∧ x ≤ 8) (o_ls (o_gar a x.toNatClampNeg) (2 ^ a 5))
theorem i_CO.nl (g : i_CO a t h) : fI h t 9 = i_n (a 4) := g.ct.2.2.2.2.2.1.1
theorem i_CO.ll (g : i_CO a t h) {k : Nat} (hk : k < a 4) : aI h (t + 5) k = i_n (a (106 + k)) ∧ a (106 + k) < a 0 * a 1 := ⟨g.ct.2.2.2.2.2.1.2 k hk, g.w.2.2.2.2.2.2.2.2.1 k hk⟩
theorem o_st_0 {P : Nat → Bool} : o_st P 0 = 0 := rfl
set_option maxHeartbeats 1000000 in
theorem c62 (g : i_CO a t h) {n : Nat} (hn : n ≤ 8) (H : ∀ h2, i_CO a t h2 → i_FS h h2 → Q (some (.int (o_op (o_ls (o_lit a n) (2 ^ a 4))))) h2) : i_C i_MT i_AT L xs 62 [.ref 121, .int (i_n n)] h Q := by
  have h5 := g.w.2.2.2.2.1
  have h4 := g.w.2.2.2.1
  have h48 := g.w.c48
  have key : ∀ p, p ≤ a 5 → ∀ h1, i_CO a t h1 → i_FS h h1 → (∀ q, q < p → aI h1 133 q = i_n (o_st (fun k => o_sees a q (a (106 + k)) 0) (a 4))) → ∀ (y4 : Option Value), i_P i_MT i_AT L xs 62 10 [some (.ref 121), some (.int (i_n n)), some (.ref t), some (.int (i_n p)), y4] [] h1 0 0 Q := by
    refine l_up ?_ ?_
    · intro h1 g1 f1 ea y4
      refine d62_10 g1.l g1.T ?_
      rw [g1.np, g1.nl]
      try simp (disch := omega) only [n_lit, n_m, n_add, n_mul, n_div, n_mod, n_cl, n_lt, n_le, n_eq, n_in, n_eqm, n_meq, n_mlt, n_ltm, n_mle, n_lem, not_true_eq_false, not_false_eq_true, true_implies, false_implies, true_and, and_true, Nat.not_lt_zero, Nat.zero_le, Nat.le_refl]
      refine c64 (Hd := fun p => o_st (fun k => o_sees a p (a (106 + k)) 0) (a 4)) g1.l (by omega) h4 hn ea ⟨_, rfl, d62_103 g1.l g1.T ?_⟩
      have := H h1 g1 f1
      rw [o_ls_congr (F := o_lit a n) (2 ^ a 4) (fun S _ => ?_)]
      · exact this
      · unfold o_lit
        congr 1
        funext p
        rw [o_pc_st h4]
    · intro p hp ih h1 g1 f1 ea y4
      have inn : ∀ k, k ≤ a 4 → ∀ h2, i_CO a t h2 → i_FS h h2 → (∀ q, q < p → aI h2 133 q = i_n (o_st (fun k => o_sees a q (a (106 + k)) 0) (a 4))) → aI h2 133 p = i_n (o_st (fun k => o_sees a p (a (106 + k)) 0) k) → i_P i_MT i_AT L xs 62 31 [some (.ref 121), some (.int (i_n n)), some (.ref t), some (.int (i_n p)), some (.int (i_n k))] [] h2 0 0 Q := by
        refine l_up ?_ ?_
        · intro h2 g2 f2 ea ep
          refine d62_31 g2.l g2.T ?_
          rw [g2.nl]
          try simp (disch := omega) only [n_lit, n_m, n_add, n_mul, n_div, n_mod, n_cl, n_lt, n_le, n_eq, n_in, n_eqm, n_meq, n_mlt, n_ltm, n_mle, n_lem, not_true_eq_false, not_false_eq_true, true_implies, false_implies, true_and, and_true, Nat.not_lt_zero, Nat.zero_le, Nat.le_refl]
          refine ih h2 g2 f2 (fun q hq => ?_) _
          by_cases e : q = p
          · subst e; exact ep
          · exact ea q (by omega)
        · intro k hk ih2 h2 g2 f2 ea ep
          rw [o_st] at ih2
          refine d62_31 g2.l g2.T ?_
          rw [g2.nl]
          try simp (disch := omega) only [n_lit, n_m, n_add, n_mul, n_div, n_mod, n_cl, n_lt, n_le, n_eq, n_in, n_eqm, n_meq, n_mlt, n_ltm, n_mle, n_lem, not_true_eq_false, not_false_eq_true, true_implies, false_implies, true_and, and_true, Nat.not_lt_zero, Nat.zero_le]
          refine ⟨fun z => by omega, fun _ => c10 g2 hp (by omega) (fun s h3 hs g3 f3 => ⟨_, rfl, d62_49 g3.l g3.T ?_⟩)⟩
          have hlk := (g3.ll hk).2
          try simp (disch := omega) only [n_lit, n_m, n_add, n_mul, n_div, n_mod, n_cl, n_lt, n_le, n_eq, n_in, n_eqm, n_meq, n_mlt, n_ltm, n_mle, n_lem, not_true_eq_false, not_false_eq_true, true_implies, false_implies, true_and, and_true, Nat.not_lt_zero, Nat.zero_le, (g3.ll hk).1]
          have e3 : aI h3 133 = aI h2 133 := f3.rI (by decide)
          refine ⟨by omega, c193 (by omega) ⟨_, rfl, d62_59 g3.l g3.T ?_⟩⟩
          rw [hs.b hlk (by omega)]
          rw [← e3] at ea ep
          try simp (disch := omega) only [n_lit, n_m, i_bo01, j_cmpn, Classical.not_not, n_add, n_mul, n_div, n_mod, n_cl, n_lt, n_le, n_eq, n_in, n_eqm, n_meq, n_mlt, n_ltm, n_mle, n_lem, not_true_eq_false, not_false_eq_true, true_implies, false_implies, true_and, and_true, Nat.not_lt_zero, Nat.zero_le, ep, n_or, n_shl2, n_and]
          refine ⟨fun z => d62_75 g3.l g3.T ?_, fun z => ⟨by omega, by omega, ?_⟩⟩
          · try simp (disch := omega) only [n_lit, n_m, n_add, n_mul, n_div, n_mod, n_cl, n_lt, n_le, n_eq, n_in, n_eqm, n_meq, n_mlt, n_ltm, n_mle, n_lem, not_true_eq_false, not_false_eq_true, true_implies, false_implies, true_and, and_true, Nat.not_lt_zero, Nat.zero_le]
            refine ih2 h3 g3 (f2.trans f3.s4) ea ?_
            rw [if_neg z]; exact ep
          · have Fi : i_Fr [133] [] h3 (i_siI h3 133 p (i_n (o_st (fun k => o_sees a p (a (106 + k)) 0) k ||| 1 <<< k))) := i_Fr.refl.siI (by decide)
            have g4 := g3.fr g3.l.siI Fi (by decide) (by decide)
            refine d62_75 g4.l g4.T ?_
            try simp (disch := omega) only [n_lit, n_m, n_add, n_mul, n_div, n_mod, n_cl, n_lt, n_le, n_eq, n_in, n_eqm, n_meq, n_mlt, n_ltm, n_mle, n_lem, not_true_eq_false, not_false_eq_true, true_implies, false_implies, true_and, and_true, Nat.not_lt_zero, Nat.zero_le]
            refine ih2 _ g4 ((f2.trans f3.s4).trans (Fi.mono (by decide) (by decide))) (fun q hq => ?_) ?_
            · rw [x_aI_siI g3.l.a133, x_upd, if_neg (by omega)]; exact ea q hq
            · rw [x_aI_siI g3.l.a133, x_upd, if_pos rfl, if_pos z]
      have Fi : i_Fr [133] [] h1 (i_siI h1 133 p (i_n 0)) := i_Fr.refl.siI (by decide)
      have g2 := g1.fr g1.l.siI Fi (by decide) (by decide)
      refine d62_10 g1.l g1.T ?_
      rw [g1.np]
      try simp (disch := omega) only [n_lit, n_m, n_add, n_mul, n_div, n_mod, n_cl, n_lt, n_le, n_eq, n_in, n_eqm, n_meq, n_mlt, n_ltm, n_mle, n_lem, not_true_eq_false, not_false_eq_true, true_implies, false_implies, true_and, and_true, Nat.not_lt_zero, Nat.zero_le]
      refine ⟨fun z => by omega, fun _ => ⟨by omega, d62_28 g2.l g2.T ?_⟩⟩
      try simp (disch := omega) only [n_lit, n_m, n_add, n_mul, n_div, n_mod, n_cl, n_lt, n_le, n_eq, n_in, n_eqm, n_meq, n_mlt, n_ltm, n_mle, n_lem, not_true_eq_false, not_false_eq_true, true_implies, false_implies, true_and, and_true, Nat.not_lt_zero, Nat.zero_le]
      refine inn 0 (Nat.zero_le _) _ g2 (f1.trans (Fi.mono (by decide) (by decide))) (fun q hq => ?_) ?_
      · rw [x_aI_siI g1.l.a133, x_upd, if_neg (by omega)]; exact ea q hq
      · rw [x_aI_siI g1.l.a133, x_upd, if_pos rfl]; rfl
  refine e62 (d62_0 g.l ⟨t, g.tw, g.T, ?_⟩)
  try simp (disch := omega) only [n_lit, n_m, n_add, n_mul, n_div, n_mod, n_cl, n_lt, n_le, n_eq, n_in, n_eqm, n_meq, n_mlt, n_ltm, n_mle, n_lem, not_true_eq_false, not_false_eq_true, true_implies, false_implies, true_and, and_true, Nat.not_lt_zero, Nat.zero_le]
  exact key 0 (Nat.zero_le _) h g i_Fr.refl (fun q hq => absurd hq (Nat.not_lt_zero q)) _
def o_s6 : Option Nat → Int32
  | some _ => 0
  | none => 6
/-- an answer if any -/
theorem m183 (g : i_ST a t h) {v : Option Nat} (hv : ∀ k, v = some k → k < 2147483648) (H : ∀ h2, i_ST a t h2 → i_F0 h h2 → fI h2 0 0 = o_s6 v → Q (some (.int (o_op v))) h2) : i_C i_MT i_AT L xs 183 [.ref 0, .int (o_op v)] h Q := by
  refine c183 g.l.q0_0 (H _ (g.s0 _).1 (g.s0 _).2.1 ?_)
  rw [(g.s0 _).2.2]
  cases v with
  | none => rfl
  | some k =>
    have : ¬ o_op (some k) = -1 := by
      show ¬ i_n k = i_m
      rw [n_eqm (hv k rfl)]; exact fun z => z
    rw [if_neg this]
    rfl
theorem i_KS.a6 {P : Prop} [Decidable P] {v : Option Nat} (H : i_KS a t h Q (o_A6 P v)) (hP : P) : ∀ h2, i_ST a t h2 → i_FS h h2 → fI h2 0 0 = o_s6 v → Q (some (.int (o_op v))) h2 := by
  intro h2 g2 f2 s2
  cases v with
  | none => rw [o_A6_n hP rfl] at H; exact H h2 g2 f2 s2
  | some k => rw [o_A6_t hP rfl] at H; exact H h2 g2 f2 s2
theorem i_RS.a6 {P : Prop} [Decidable P] {v : Option Nat} (H : i_RS a h Q (o_A6 P v)) (hP : P) : (∀ k, v = some k → ∀ h2, i_RA a h2 → i_GS h h2 → fI h2 138 4 = 0 → Q (some (.int (i_n k))) h2) ∧ (v = none → ∀ h2, i_RA a h2 → i_GS h h2 → fI h2 138 4 = 6 → Q (some (.int (-1))) h2) := by
  refine ⟨fun k e h2 g2 f2 s2 => ?_, fun e h2 g2 f2 s2 => ?_⟩
  · rw [o_A6_t hP e] at H; exact H h2 g2 f2 s2
  · rw [o_A6_n hP e] at H; exact H h2 g2 f2 s2
theorem c163 (g : i_ST a t h) {x : Int32} (H : i_KS a t h Q (o_lmpA a x)) : i_C i_MT i_AT L xs 163 [.ref 0, .int x] h Q := by
  have h4 := g.w.2.2.2.1
  have h8 : 2 ^ a 4 ≤ 256 := Nat.pow_le_pow_right (n := 2) (j := 8) (by omega) h4
  unfold o_lmpA at H
  refine e163 (d163_0 g.l (c192 ⟨_, rfl, d163_7 g.l ?_⟩))
  rw [i_bo_0, Classical.not_not]
  refine ⟨fun z => ?_, fun z => m179 g (fun h2 g2 f2 s2 => ⟨_, rfl, d163_15 g2.l (by rw [o_A6_f z] at H; exact H h2 g2 f2.s s2)⟩)⟩
  obtain ⟨n, hn, rfl⟩ := n_gle (k := 8) z (by omega)
  have H := H.a6 z
  rw [n_cl (by omega)] at H
  refine c62 g.1 hn (fun h1 g1 f1 => ?_)
  have G1 := g.fs g1 f1
  exact ⟨_, rfl, d163_25 G1.l (m183 G1 (fun k e => by have := o_ls_lt _ _ e; omega) (fun h2 g2 f2 s2 => ⟨_, rfl, d163_28 g2.l (H h2 g2 (f1.trans f2.s) s2)⟩))⟩
/-- which of the free cells -/
theorem o_cn0_mono {P : Nat → Bool} : ∀ n k, k ≤ n → o_cn0 P k ≤ o_cn0 P n
  | 0, k, hk => by rw [show k = 0 by omega]; exact Nat.le_refl _
  | n + 1, k, hk => by
    by_cases e : k = n + 1
    · rw [e]; exact Nat.le_refl _
    · have := o_cn0_mono (P := P) n k (by omega)
      rw [o_cn0]; omega
theorem o_cn0_on {P : Nat → Bool} : ∀ n i, i < o_cn0 P n → ∃ c, c < n ∧ P c = true ∧ o_cn0 P c = i
  | 0, i, z => absurd z (Nat.not_lt_zero i)
  | n + 1, i, z => by
    rw [o_cn0] at z
    by_cases hp : P n = true
    · rw [if_pos hp] at z
      by_cases e : i = o_cn0 P n
      · exact ⟨n, by omega, hp, e.symm⟩
      · obtain ⟨c, h1, h2, h3⟩ := o_cn0_on (P := P) n i (by omega)
        exact ⟨c, by omega, h2, h3⟩
    · rw [if_neg hp] at z
      obtain ⟨c, h1, h2, h3⟩ := o_cn0_on (P := P) n i (by omega)
      exact ⟨c, by omega, h2, h3⟩
set_option maxHeartbeats 1000000 in
theorem c63 (g : i_CO a t h) {n : Nat} (hn : n ≤ 8) (H : ∀ h2, i_CO a t h2 → i_FS h h2 → Q (some (.int (o_op (o_ls (o_gar a n) (2 ^ a 5))))) h2) : i_C i_MT i_AT L xs 63 [.ref 121, .int (i_n n)] h Q := by
  have h5 := g.w.2.2.2.2.1
  have h48 := g.w.c48
  have fr4 : ∀ h1, i_CO a t h1 → o_is (fJ h1 96 4) (a 0 * a 1) (fun c => !o_wall a c) := fun h1 g1 => g1.2.1.2.1.2.1
  have key : ∀ c, c ≤ a 0 * a 1 → ∀ h1, i_CO a t h1 → i_FS h h1 → (∀ d, d < c → o_wall a d = false → aI h1 133 (o_cn0 (fun c => !o_wall a c) d) = i_n (o_st (fun p => a (154 + 5 * p) == d || o_sees a p d 0) (a 5))) → ∀ (y5 : Option Value), i_P i_MT i_AT L xs 63 16 [some (.ref 121), some (.int (i_n n)), some (.ref (t + 7)), some (.int (i_n (o_cn0 (fun c => !o_wall a c) c))), some (.int (i_n c)), y5] [] h1 0 0 Q := by
    refine l_up ?_ ?_
    · intro h1 g1 f1 ea y5
      refine d63_16 g1.l g1.T ?_
      rw [g1.2.1.1.2.2, g1.np]
      try simp (disch := omega) only [n_lit, n_m, n_add, n_mul, n_div, n_mod, n_cl, n_lt, n_le, n_eq, n_in, n_eqm, n_meq, n_mlt, n_ltm, n_mle, n_lem, not_true_eq_false, not_false_eq_true, true_implies, false_implies, true_and, and_true, Nat.not_lt_zero, Nat.zero_le, Nat.le_refl]
      have hcn : o_cn0 (fun c => !o_wall a c) (a 0 * a 1) ≤ a 0 * a 1 := o_cn0_le _
      have hbd : ∀ d, o_st (fun p => a (154 + 5 * p) == d || o_sees a p d 0) (a 5) < 256 := fun d => o_st_8 h5
      have hHd : ∀ i, i < o_cn0 (fun c => !o_wall a c) (a 0 * a 1) → aI h1 133 i = i_n ((aI h1 133 i).toNatClampNeg) := by
        intro i hi
        obtain ⟨c, e1, e2, e3⟩ := o_cn0_on _ _ hi
        rw [← e3, ea c e1 (by simpa using e2), n_cl (by have := hbd c; omega)]
      refine c64 (Hd := fun i => (aI h1 133 i).toNatClampNeg) g1.l (by omega) h5 hn hHd ⟨_, rfl, d63_136 g1.l g1.T ?_⟩
      rw [o_ls_congr (F := o_gar a n) (2 ^ a 5) (fun S _ => ?_)]
      · exact H h1 g1 f1
      · unfold o_gar
        rw [Bool.eq_iff_iff, o_al_t, o_al_t]
        constructor
        · intro z c hc
          cases hw : o_wall a c with
          | true => rfl
          | false =>
            have hlt : o_cn0 (fun c => !o_wall a c) c < o_cn0 (fun c => !o_wall a c) (a 0 * a 1) := by
              have := o_cn0_mono (P := fun c => !o_wall a c) (a 0 * a 1) (c + 1) hc
              rw [o_cn0, if_pos (by simp [hw])] at this
              omega
            have := z _ hlt
            rw [ea c hc hw, n_cl (by have := hbd c; omega), o_pc_st h5] at this
            rw [this]; rfl
        · intro z i hi
          obtain ⟨c, e1, e2, e3⟩ := o_cn0_on _ _ hi
          have hw : o_wall a c = false := by simpa using e2
          have := z c e1
          rw [← e3, ea c e1 hw, n_cl (by have := hbd c; omega), o_pc_st h5]
          rw [hw, Bool.false_or] at this
          exact this
    · intro c hc ih h1 g1 f1 ea y5
      rw [o_cn0] at ih
      have hcn : o_cn0 (fun c => !o_wall a c) c ≤ c := o_cn0_le c
      generalize hN : o_cn0 (fun c => !o_wall a c) c = N at ih hcn ⊢
      refine d63_16 g1.l g1.T ?_
      rw [g1.2.1.1.2.2]
      try simp (disch := omega) only [n_lit, n_m, n_add, n_mul, n_div, n_mod, n_cl, n_lt, n_le, n_eq, n_in, n_eqm, n_meq, n_mlt, n_ltm, n_mle, n_lem, not_true_eq_false, not_false_eq_true, true_implies, false_implies, true_and, and_true, Nat.not_lt_zero, Nat.zero_le]
      refine ⟨fun z => by omega, fun _ => c193 (by omega) ⟨_, rfl, d63_46 g1.l g1.T ?_⟩⟩
      rw [(fr4 h1 g1).b hc (by omega)]
      try simp (disch := omega) only [n_lit, n_m, i_bo01, j_cmpn, Classical.not_not, n_add, n_mul, n_div, n_mod, n_cl, n_lt, n_le, n_eq, n_in, n_eqm, n_meq, n_mlt, n_ltm, n_mle, n_lem, not_true_eq_false, not_false_eq_true, true_implies, false_implies, true_and, and_true, Nat.not_lt_zero, Nat.zero_le]
      refine ⟨fun z => d63_120 g1.l g1.T ?_, fun z => ⟨by omega, ?_⟩⟩
      · try simp (disch := omega) only [n_lit, n_m, n_add, n_mul, n_div, n_mod, n_cl, n_lt, n_le, n_eq, n_in, n_eqm, n_meq, n_mlt, n_ltm, n_mle, n_lem, not_true_eq_false, not_false_eq_true, true_implies, false_implies, true_and, and_true, Nat.not_lt_zero, Nat.zero_le]
        rw [if_neg z, Nat.add_zero] at ih
        refine ih h1 g1 f1 (fun d hd hw => ?_) _
        by_cases e : d = c
        · subst e; simp [hw] at z
        · exact ea d (by omega) hw
      · rw [if_pos z] at ih
        have inn : ∀ p, p ≤ a 5 → ∀ h2, i_CO a t h2 → i_FS h h2 → (∀ d, d < c → o_wall a d = false → aI h2 133 (o_cn0 (fun c => !o_wall a c) d) = i_n (o_st (fun p => a (154 + 5 * p) == d || o_sees a p d 0) (a 5))) → aI h2 133 N = i_n (o_st (fun p => a (154 + 5 * p) == c || o_sees a p c 0) p) → i_P i_MT i_AT L xs 63 59 [some (.ref 121), some (.int (i_n n)), some (.ref (t + 7)), some (.int (i_n N)), some (.int (i_n c)), some (.int (i_n p))] [] h2 0 0 Q := by
          refine l_up ?_ ?_
          · intro h2 g2 f2 ea ep
            refine d63_59 g2.l g2.T ?_
            rw [g2.np]
            try simp (disch := omega) only [n_lit, n_m, n_add, n_mul, n_div, n_mod, n_cl, n_lt, n_le, n_eq, n_in, n_eqm, n_meq, n_mlt, n_ltm, n_mle, n_lem, not_true_eq_false, not_false_eq_true, true_implies, false_implies, true_and, and_true, Nat.not_lt_zero, Nat.zero_le, Nat.le_refl]
            refine d63_120 g2.l g2.T ?_
            try simp (disch := omega) only [n_lit, n_m, n_add, n_mul, n_div, n_mod, n_cl, n_lt, n_le, n_eq, n_in, n_eqm, n_meq, n_mlt, n_ltm, n_mle, n_lem, not_true_eq_false, not_false_eq_true, true_implies, false_implies, true_and, and_true, Nat.not_lt_zero, Nat.zero_le]
            refine ih h2 g2 f2 (fun d hd hw => ?_) _
            by_cases e : d = c
            · subst e; rw [hN]; exact ep
            · exact ea d (by omega) hw
          · intro p hp ih2 h2 g2 f2 ea ep
            rw [o_st] at ih2
            have hst := g2.st hp
            have idx : ∀ d, d < c → o_wall a d = false → o_cn0 (fun c => !o_wall a c) d ≠ N := by
              intro d hd hw e
              have := o_cn0_mono (P := fun c => !o_wall a c) c (d + 1) hd
              rw [o_cn0, if_pos (by simp [hw])] at this
              omega
            have yes : (a (154 + 5 * p) == c || o_sees a p c 0) = true → ∀ h3, i_CO a t h3 → i_FS h h3 → aI h3 133 = aI h2 133 → i_P i_MT i_AT L xs 63 98 [some (.ref 121), some (.int (i_n n)), some (.ref (t + 7)), some (.int (i_n N)), some (.int (i_n c)), some (.int (i_n p))] [] h3 0 0 Q := by
              intro e h3 g3 f3 e3
              rw [← e3] at ea ep
              refine d63_98 g3.l g3.T ?_
              try simp (disch := omega) only [n_lit, n_m, n_add, n_mul, n_div, n_mod, n_cl, n_lt, n_le, n_eq, n_in, n_eqm, n_meq, n_mlt, n_ltm, n_mle, n_lem, not_true_eq_false, not_false_eq_true, true_implies, false_implies, true_and, and_true, Nat.not_lt_zero, Nat.zero_le, ep, n_or, n_shl2, n_and]
              have Fi : i_Fr [133] [] h3 (i_siI h3 133 N (i_n (o_st (fun p => a (154 + 5 * p) == c || o_sees a p c 0) p ||| 1 <<< p))) := i_Fr.refl.siI (by decide)
              have g4 := g3.fr g3.l.siI Fi (by decide) (by decide)
              refine ⟨by omega, by omega, d63_111 g4.l g4.T ?_⟩
              try simp (disch := omega) only [n_lit, n_m, n_add, n_mul, n_div, n_mod, n_cl, n_lt, n_le, n_eq, n_in, n_eqm, n_meq, n_mlt, n_ltm, n_mle, n_lem, not_true_eq_false, not_false_eq_true, true_implies, false_implies, true_and, and_true, Nat.not_lt_zero, Nat.zero_le]
              refine ih2 _ g4 (f3.trans (Fi.mono (by decide) (by decide))) (fun d hd hw => ?_) ?_
              · rw [x_aI_siI g3.l.a133, x_upd, if_neg (idx d hd hw)]; exact ea d hd hw
              · rw [x_aI_siI g3.l.a133, x_upd, if_pos rfl, if_pos e]
            refine d63_59 g2.l g2.T ?_
            rw [g2.np]
            try simp (disch := omega) only [n_lit, n_m, n_add, n_mul, n_div, n_mod, n_cl, n_lt, n_le, n_eq, n_in, n_eqm, n_meq, n_mlt, n_ltm, n_mle, n_lem, not_true_eq_false, not_false_eq_true, true_implies, false_implies, true_and, and_true, Nat.not_lt_zero, Nat.zero_le, hst.1]
            refine ⟨fun z => by omega, fun _ => ⟨by omega, fun e => yes (by simp [e]) h2 g2 f2 rfl, fun e => c10 g2 hp (by omega) (fun s h3 hs g3 f3 => ⟨_, rfl, d63_90 g3.l g3.T (c193 (by omega) ⟨_, rfl, d63_95 g3.l g3.T ?_⟩)⟩)⟩⟩
            rw [hs.b hc (by omega)]
            have e3 : aI h3 133 = aI h2 133 := f3.rI (by decide)
            try simp (disch := omega) only [n_lit, n_m, i_bo01, j_cmpn, Classical.not_not, n_add, n_mul, n_div, n_mod, n_cl, n_lt, n_le, n_eq, n_in, n_eqm, n_meq, n_mlt, n_ltm, n_mle, n_lem, not_true_eq_false, not_false_eq_true, true_implies, false_implies, true_and, and_true, Nat.not_lt_zero, Nat.zero_le]
            refine ⟨fun e2 => d63_111 g3.l g3.T ?_, fun e2 => yes (by simp [e2]) h3 g3 (f2.trans f3.s4) e3⟩
            try simp (disch := omega) only [n_lit, n_m, n_add, n_mul, n_div, n_mod, n_cl, n_lt, n_le, n_eq, n_in, n_eqm, n_meq, n_mlt, n_ltm, n_mle, n_lem, not_true_eq_false, not_false_eq_true, true_implies, false_implies, true_and, and_true, Nat.not_lt_zero, Nat.zero_le]
            refine ih2 h3 g3 (f2.trans f3.s4) (fun d hd hw => by rw [e3]; exact ea d hd hw) ?_
            rw [e3, if_neg (by simp [e, e2])]; exact ep
        have Fi : i_Fr [133] [] h1 (i_siI h1 133 N (i_n 0)) := i_Fr.refl.siI (by decide)
        have g2 := g1.fr g1.l.siI Fi (by decide) (by decide)
        refine d63_56 g2.l g2.T ?_
        try simp (disch := omega) only [n_lit, n_m, n_add, n_mul, n_div, n_mod, n_cl, n_lt, n_le, n_eq, n_in, n_eqm, n_meq, n_mlt, n_ltm, n_mle, n_lem, not_true_eq_false, not_false_eq_true, true_implies, false_implies, true_and, and_true, Nat.not_lt_zero, Nat.zero_le]
        refine inn 0 (Nat.zero_le _) _ g2 (f1.trans (Fi.mono (by decide) (by decide))) (fun d hd hw => ?_) ?_
        · have := o_cn0_mono (P := fun c => !o_wall a c) c (d + 1) hd
          rw [o_cn0, if_pos (by simp [hw])] at this
          rw [x_aI_siI g1.l.a133, x_upd, if_neg (by omega)]; exact ea d hd hw
        · rw [x_aI_siI g1.l.a133, x_upd, if_pos rfl]; rfl
  refine e63 (d63_0 g.l ⟨t, g.tw, g.T, ?_⟩)
  try simp (disch := omega) only [n_lit, n_m, n_add, n_mul, n_div, n_mod, n_cl, n_lt, n_le, n_eq, n_in, n_eqm, n_meq, n_mlt, n_ltm, n_mle, n_lem, not_true_eq_false, not_false_eq_true, true_implies, false_implies, true_and, and_true, Nat.not_lt_zero, Nat.zero_le]
  exact key 0 (Nat.zero_le _) h g i_Fr.refl (fun q hq => absurd hq (Nat.not_lt_zero q)) _
theorem c172 (g : i_ST a t h) {x : Int32} (H : i_KS a t h Q (o_galA a x)) : i_C i_MT i_AT L xs 172 [.ref 0, .int x] h Q := by
  have h5 := g.w.2.2.2.2.1
  have h8 : 2 ^ a 5 ≤ 256 := Nat.pow_le_pow_right (n := 2) (j := 8) (by omega) h5
  unfold o_galA at H
  refine e172 (d172_0 g.l (c192 ⟨_, rfl, d172_7 g.l ?_⟩))
  rw [i_bo_0, Classical.not_not]
  refine ⟨fun z => ?_, fun z => m179 g (fun h2 g2 f2 s2 => ⟨_, rfl, d172_15 g2.l (by rw [o_A6_f z] at H; exact H h2 g2 f2.s s2)⟩)⟩
  obtain ⟨n, hn, rfl⟩ := n_gle (k := 8) z (by omega)
  have H := H.a6 z
  rw [n_cl (by omega)] at H
  refine c63 g.1 hn (fun h1 g1 f1 => ?_)
  have G1 := g.fs g1 f1
  exact ⟨_, rfl, d172_25 G1.l (m183 G1 (fun k e => by have := o_ls_lt _ _ e; omega) (fun h2 g2 f2 s2 => ⟨_, rfl, d172_28 g2.l (H h2 g2 (f1.trans f2.s) s2)⟩))⟩
/-! the reference's -/
theorem i_RA.n4 (r : i_RA a h) : aI h 139 (4 : Int32).toNatClampNeg = i_n (a 4) := r.2.2.1 4 (by omega)
theorem c308 (r : i_RA a h) {S n : Nat} (hS : S < 256) (hn : n ≤ 8) (H : Q (some (.int (i_bo (o_lit a n S = true)))) h) : i_C i_MT i_AT L xs 308 [.ref 138, .int (i_n S), .int (i_n n)] h Q := by
  have h5 := r.2.1.2.2.2.2.1
  have h4 := r.2.1.2.2.2.1
  have hA := r.2.2.1
  have key : ∀ p, p ≤ a 5 → o_al (fun p => decide (n ≤ o_cn0 (fun k => S.testBit k && o_sees a p (a (106 + k)) 0) (a 4))) p = true → ∀ (y4 y5 : Option Value), i_P i_MT i_AT L xs 308 2 [some (.ref 138), some (.int (i_n S)), some (.int (i_n n)), some (.int (i_n p)), y4, y5] [] h 0 0 Q := by
    refine l_up ?_ ?_
    · intro z y4 y5
      refine d308_2 r.1 ?_
      rw [r.n5]
      try simp (disch := omega) only [n_lit, n_m, n_add, n_mul, n_div, n_mod, n_cl, n_lt, n_le, n_eq, n_in, n_eqm, n_meq, n_mlt, n_ltm, n_mle, n_lem, not_true_eq_false, not_false_eq_true, true_implies, false_implies, true_and, and_true, Nat.not_lt_zero, Nat.zero_le, Nat.le_refl]
      rw [i_bo_t (show o_lit a n S = true from z)] at H
      exact H
    · intro p hp ih z y4 y5
      have inn : ∀ k, k ≤ a 4 → i_P i_MT i_AT L xs 308 18 [some (.ref 138), some (.int (i_n S)), some (.int (i_n n)), some (.int (i_n p)), some (.int (i_n (o_cn0 (fun k => S.testBit k && o_sees a p (a (106 + k)) 0) k))), some (.int (i_n k))] [] h 0 0 Q := by
        refine l_up ?_ ?_
        · have hl : o_cn0 (fun k => S.testBit k && o_sees a p (a (106 + k)) 0) (a 4) ≤ a 4 := o_cn0_le _
          refine d308_18 r.1 ?_
          rw [r.n4]
          try simp (disch := omega) only [n_lit, n_m, n_add, n_mul, n_div, n_mod, n_cl, n_lt, n_le, n_eq, n_in, n_eqm, n_meq, n_mlt, n_ltm, n_mle, n_lem, not_true_eq_false, not_false_eq_true, true_implies, false_implies, true_and, and_true, Nat.not_lt_zero, Nat.zero_le, Nat.le_refl]
          refine ⟨fun q => ih (by rw [o_al, z]; simpa using q) _ _, fun q => ?_⟩
          rw [i_bo_f (fun w => q (by simpa using (o_al_t (a 5)).mp w p hp))] at H
          exact H
        · intro k hk ih2
          have hl : o_cn0 (fun k => S.testBit k && o_sees a p (a (106 + k)) 0) k ≤ k := o_cn0_le _
          have hlk := r.2.1.2.2.2.2.2.2.2.2.1 k hk
          have hb1 := n_bitlt S k
          rw [o_cn0] at ih2
          have nx : ∀ b : Nat, b = (if (S.testBit k && o_sees a p (a (106 + k)) 0) = true then 1 else 0) → i_P i_MT i_AT L xs 308 65 [some (.ref 138), some (.int (i_n S)), some (.int (i_n n)), some (.int (i_n p)), some (.int (i_n (o_cn0 (fun k => S.testBit k && o_sees a p (a (106 + k)) 0) k))), some (.int (i_n k))] [.int (i_n b), .int (i_n (o_cn0 (fun k => S.testBit k && o_sees a p (a (106 + k)) 0) k))] h 0 0 Q := by
            intro b hb
            refine d308_65 r.1 ?_
            try simp (disch := omega) only [n_lit, n_m, n_add, n_mul, n_div, n_mod, n_cl, n_lt, n_le, n_eq, n_in, n_eqm, n_meq, n_mlt, n_ltm, n_mle, n_lem, not_true_eq_false, not_false_eq_true, true_implies, false_implies, true_and, and_true, Nat.not_lt_zero, Nat.zero_le]
            rw [← hb] at ih2
            exact ih2
          refine d308_18 r.1 ?_
          rw [r.n4]
          try simp (disch := omega) only [n_lit, n_m, i_bo01, j_cmpn, Classical.not_not, n_add, n_mul, n_div, n_mod, n_cl, n_lt, n_le, n_eq, n_in, n_eqm, n_meq, n_mlt, n_ltm, n_mle, n_lem, not_true_eq_false, not_false_eq_true, true_implies, false_implies, true_and, and_true, Nat.not_lt_zero, Nat.zero_le, n_shr2, n_and, n_bit1, hA]
          refine ⟨fun q => by omega, fun _ => ⟨fun e => d308_64 r.1 (nx 0 (by rw [if_neg (by simp [e])])), fun e => ⟨by omega, c272 r hp hlk (by omega) ⟨_, rfl, d308_57 r.1 ?_⟩⟩⟩⟩
          try simp (disch := omega) only [n_lit, n_m, i_bo01, j_cmpn, Classical.not_not, n_add, n_mul, n_div, n_mod, n_cl, n_lt, n_le, n_eq, n_in, n_eqm, n_meq, n_mlt, n_ltm, n_mle, n_lem, not_true_eq_false, not_false_eq_true, true_implies, false_implies, true_and, and_true, Nat.not_lt_zero, Nat.zero_le]
          exact ⟨fun e2 => d308_64 r.1 (nx 0 (by rw [if_neg (by simp [e2])])), fun e2 => nx 1 (by rw [if_pos (by simp [e, e2])])⟩
      refine d308_2 r.1 ?_
      rw [r.n5]
      try simp (disch := omega) only [n_lit, n_m, n_add, n_mul, n_div, n_mod, n_cl, n_lt, n_le, n_eq, n_in, n_eqm, n_meq, n_mlt, n_ltm, n_mle, n_lem, not_true_eq_false, not_false_eq_true, true_implies, false_implies, true_and, and_true, Nat.not_lt_zero, Nat.zero_le]
      exact ⟨fun q => by omega, fun _ => inn 0 (Nat.zero_le _)⟩
  refine e308 (d308_0 r.1 ?_)
  try simp (disch := omega) only [n_lit, n_m, n_add, n_mul, n_div, n_mod, n_cl, n_lt, n_le, n_eq, n_in, n_eqm, n_meq, n_mlt, n_ltm, n_mle, n_lem, not_true_eq_false, not_false_eq_true, true_implies, false_implies, true_and, and_true, Nat.not_lt_zero, Nat.zero_le]
  exact key 0 (Nat.zero_le _) rfl _ _
theorem c322 (r : i_RA a h) {S n : Nat} (hS : S < 256) (hn : n ≤ 8) (H : Q (some (.int (i_bo (o_gar a n S = true)))) h) : i_C i_MT i_AT L xs 322 [.ref 138, .int (i_n S), .int (i_n n)] h Q := by
  have h5 := r.2.1.2.2.2.2.1
  have h48 := r.2.1.c48
  have hA := r.2.2.1
  have hC0 : ∀ p, p < a 5 → aI h 151 (61 * p) = i_n (a (154 + 5 * p)) := fun p hp => r.hC p 0 hp (by omega)
  have key : ∀ c, c ≤ a 0 * a 1 → o_al (fun c => o_wall a c || decide (n ≤ o_cn0 (fun p => S.testBit p && (a (154 + 5 * p) == c || o_sees a p c 0)) (a 5))) c = true → ∀ (y4 y5 : Option Value), i_P i_MT i_AT L xs 322 2 [some (.ref 138), some (.int (i_n S)), some (.int (i_n n)), some (.int (i_n c)), y4, y5] [] h 0 0 Q := by
    refine l_up ?_ ?_
    · intro z y4 y5
      refine d322_2 r.1 (c248 r ⟨_, rfl, d322_7 r.1 ?_⟩)
      try simp (disch := omega) only [n_lit, n_m, n_add, n_mul, n_div, n_mod, n_cl, n_lt, n_le, n_eq, n_in, n_eqm, n_meq, n_mlt, n_ltm, n_mle, n_lem, not_true_eq_false, not_false_eq_true, true_implies, false_implies, true_and, and_true, Nat.not_lt_zero, Nat.zero_le, Nat.le_refl]
      rw [i_bo_t (show o_gar a n S = true from z)] at H
      exact H
    · intro c hc ih z y4 y5
      have inn : ∀ p, p ≤ a 5 → i_P i_MT i_AT L xs 322 16 [some (.ref 138), some (.int (i_n S)), some (.int (i_n n)), some (.int (i_n c)), some (.int (i_n (o_cn0 (fun p => S.testBit p && (a (154 + 5 * p) == c || o_sees a p c 0)) p))), some (.int (i_n p))] [] h 0 0 Q := by
        refine l_up ?_ ?_
        · have hl : o_cn0 (fun p => S.testBit p && (a (154 + 5 * p) == c || o_sees a p c 0)) (a 5) ≤ a 5 := o_cn0_le _
          have nx : (o_wall a c || decide (n ≤ o_cn0 (fun p => S.testBit p && (a (154 + 5 * p) == c || o_sees a p c 0)) (a 5))) = true → i_P i_MT i_AT L xs 322 94 [some (.ref 138), some (.int (i_n S)), some (.int (i_n n)), some (.int (i_n c)), some (.int (i_n (o_cn0 (fun p => S.testBit p && (a (154 + 5 * p) == c || o_sees a p c 0)) (a 5)))), some (.int (i_n (a 5)))] [] h 0 0 Q := by
            intro e
            refine d322_94 r.1 ?_
            try simp (disch := omega) only [n_lit, n_m, n_add, n_mul, n_div, n_mod, n_cl, n_lt, n_le, n_eq, n_in, n_eqm, n_meq, n_mlt, n_ltm, n_mle, n_lem, not_true_eq_false, not_false_eq_true, true_implies, false_implies, true_and, and_true, Nat.not_lt_zero, Nat.zero_le]
            exact ih (by rw [o_al, z, e]; rfl) _ _
          refine d322_16 r.1 ?_
          rw [r.n5]
          try simp (disch := omega) only [n_lit, n_m, n_add, n_mul, n_div, n_mod, n_cl, n_lt, n_le, n_eq, n_in, n_eqm, n_meq, n_mlt, n_ltm, n_mle, n_lem, not_true_eq_false, not_false_eq_true, true_implies, false_implies, true_and, and_true, Nat.not_lt_zero, Nat.zero_le, Nat.le_refl]
          refine c250 r (by omega) ⟨_, rfl, d322_83 r.1 ?_⟩
          try simp (disch := omega) only [n_lit, n_m, i_bo01, j_cmpn, Classical.not_not, n_add, n_mul, n_div, n_mod, n_cl, n_lt, n_le, n_eq, n_in, n_eqm, n_meq, n_mlt, n_ltm, n_mle, n_lem, not_true_eq_false, not_false_eq_true, true_implies, false_implies, true_and, and_true, Nat.not_lt_zero, Nat.zero_le]
          refine ⟨fun e => nx (by simp at e; simp [e]), fun e => ⟨fun e2 => nx (by simp [e2]), fun e2 => ?_⟩⟩
          rw [i_bo_f (fun w => by have := (o_al_t (a 0 * a 1)).mp w c hc; rw [e] at this; simp at this; omega)] at H
          exact H
        · intro p hp ih2
          have hl : o_cn0 (fun p => S.testBit p && (a (154 + 5 * p) == c || o_sees a p c 0)) p ≤ p := o_cn0_le _
          have hst := (r.2.1.2.2.2.2.2.2.2.2.2.2.1 p hp).1
          have hb1 := n_bitlt S p
          rw [o_cn0] at ih2
          have nx : ∀ b : Nat, b = (if (S.testBit p && (a (154 + 5 * p) == c || o_sees a p c 0)) = true then 1 else 0) → i_P i_MT i_AT L xs 322 69 [some (.ref 138), some (.int (i_n S)), some (.int (i_n n)), some (.int (i_n c)), some (.int (i_n (o_cn0 (fun p => S.testBit p && (a (154 + 5 * p) == c || o_sees a p c 0)) p))), some (.int (i_n p))] [.int (i_n b), .int (i_n (o_cn0 (fun p => S.testBit p && (a (154 + 5 * p) == c || o_sees a p c 0)) p))] h 0 0 Q := by
            intro b hb
            refine d322_69 r.1 ?_
            try simp (disch := omega) only [n_lit, n_m, n_add, n_mul, n_div, n_mod, n_cl, n_lt, n_le, n_eq, n_in, n_eqm, n_meq, n_mlt, n_ltm, n_mle, n_lem, not_true_eq_false, not_false_eq_true, true_implies, false_implies, true_and, and_true, Nat.not_lt_zero, Nat.zero_le]
            rw [← hb] at ih2
            exact ih2
          refine d322_16 r.1 ?_
          rw [r.n5]
          try simp (disch := omega) only [n_lit, n_m, i_bo01, j_cmpn, Classical.not_not, n_add, n_mul, n_div, n_mod, n_cl, n_lt, n_le, n_eq, n_in, n_eqm, n_meq, n_mlt, n_ltm, n_mle, n_lem, not_true_eq_false, not_false_eq_true, true_implies, false_implies, true_and, and_true, Nat.not_lt_zero, Nat.zero_le, n_shr2, n_and, n_bit1, hC0]
          refine ⟨fun q => by omega, fun _ => ⟨fun e => d322_68 r.1 (nx 0 (by rw [if_neg (by simp [e])])), fun e => ⟨by omega, fun e2 => d322_64 r.1 (nx 1 (by rw [if_pos (by simp [e, e2])])), fun e2 => c272 r hp hc (by omega) ⟨_, rfl, d322_61 r.1 ?_⟩⟩⟩⟩
          try simp (disch := omega) only [n_lit, n_m, i_bo01, j_cmpn, Classical.not_not, n_add, n_mul, n_div, n_mod, n_cl, n_lt, n_le, n_eq, n_in, n_eqm, n_meq, n_mlt, n_ltm, n_mle, n_lem, not_true_eq_false, not_false_eq_true, true_implies, false_implies, true_and, and_true, Nat.not_lt_zero, Nat.zero_le]
          exact ⟨fun e3 => d322_68 r.1 (nx 0 (by rw [if_neg (by simp [e2, e3])])), fun e3 => d322_64 r.1 (nx 1 (by rw [if_pos (by simp [e, e3])]))⟩
      refine d322_2 r.1 (c248 r ⟨_, rfl, d322_7 r.1 ?_⟩)
      try simp (disch := omega) only [n_lit, n_m, n_add, n_mul, n_div, n_mod, n_cl, n_lt, n_le, n_eq, n_in, n_eqm, n_meq, n_mlt, n_ltm, n_mle, n_lem, not_true_eq_false, not_false_eq_true, true_implies, false_implies, true_and, and_true, Nat.not_lt_zero, Nat.zero_le]
      exact ⟨fun q => by omega, fun _ => inn 0 (Nat.zero_le _)⟩
  refine e322 (d322_0 r.1 ?_)
  try simp (disch := omega) only [n_lit, n_m, n_add, n_mul, n_div, n_mod, n_cl, n_lt, n_le, n_eq, n_in, n_eqm, n_meq, n_mlt, n_ltm, n_mle, n_lem, not_true_eq_false, not_false_eq_true, true_implies, false_implies, true_and, and_true, Nat.not_lt_zero, Nat.zero_le]
  exact key 0 (Nat.zero_le _) rfl _ _
theorem c309 (r : i_RA a h) {x : Int32} (H : i_RS a h Q (o_lmpA a x)) : i_C i_MT i_AT L xs 309 [.ref 138, .int x] h Q := by
  have hm : a 4 ≤ 8 := r.2.1.2.2.2.1
  have h8 : 2 ^ a 4 ≤ 256 := Nat.pow_le_pow_right (n := 2) (j := 8) (by omega) hm
  have e1 : 1 <<< a 4 = 2 ^ a 4 := Nat.one_shiftLeft _
  unfold o_lmpA at H
  refine e309 (d309_0 r.1 (c212i (y := 0) (z := 8) r.1 rfl rfl ⟨_, rfl, d309_9 r.1 ?_⟩))
  rw [i_bo_0, Classical.not_not]
  refine ⟨fun z => ?_, fun z => m201 r (fun h2 g2 f2 s2 => ⟨_, rfl, d309_17 g2.1 (by rw [o_A6_f z] at H; exact H h2 g2 f2.s s2)⟩)⟩
  obtain ⟨n, hn, rfl⟩ := n_gle (k := 8) z (by omega)
  have H := H.a6 z
  rw [n_cl (by omega)] at H
  have key : ∀ k, k ≤ 2 ^ a 4 → i_P i_MT i_AT L xs 309 22 [some (.ref 138), some (.int (i_n n)), some (.int (o_op (o_ls (o_lit a n) k))), some (.int (i_n k))] [] h 0 0 Q := by
    refine l_up ?_ ?_
    · refine d309_22 r.1 ?_
      rw [r.n4]
      try simp (disch := omega) only [n_lit, n_m, n_add, n_mul, n_div, n_mod, n_cl, n_lt, n_le, n_eq, n_in, n_eqm, n_meq, n_mlt, n_ltm, n_mle, n_lem, not_true_eq_false, not_false_eq_true, true_implies, false_implies, true_and, and_true, Nat.not_lt_zero, Nat.zero_le, n_shl2, n_and, e1, Nat.le_refl]
      have hle : ∀ b, o_ls (o_lit a n) (2 ^ a 4) = some b → b < 2 ^ a 4 := o_ls_lt _
      cases hO : o_ls (o_lit a n) (2 ^ a 4) with
      | none =>
        refine ⟨fun q => absurd rfl q, fun _ => m201 r (fun h2 g2 f2 s2 => ⟨_, rfl, d309_78 g2.1 (d309_86 g2.1 (H.2 hO h2 g2 f2.s s2))⟩)⟩
      | some b =>
        have hb := hle b hO
        dsimp only [o_op]
        try simp (disch := omega) only [n_lit, n_m, n_add, n_mul, n_div, n_mod, n_cl, n_lt, n_le, n_eq, n_in, n_eqm, n_meq, n_mlt, n_ltm, n_mle, n_lem, not_true_eq_false, not_false_eq_true, true_implies, false_implies, true_and, and_true, Nat.not_lt_zero, Nat.zero_le]
        exact m202 r (fun h2 g2 f2 s2 => ⟨_, rfl, d309_86 g2.1 (H.1 b hO h2 g2 f2.s s2)⟩)
    · intro k hk ih
      have hle : ∀ b, o_ls (o_lit a n) k = some b → b < k := o_ls_lt _
      rw [o_ls] at ih
      generalize o_ls (o_lit a n) k = O at ih hle ⊢
      have hp8 : o_pc k ≤ 8 := o_cn0_le 8
      have no : ¬ (o_lit a n k && o_bet k O) = true → i_P i_MT i_AT L xs 309 61 [some (.ref 138), some (.int (i_n n)), some (.int (o_op O)), some (.int (i_n k))] [] h 0 0 Q := by
        intro e
        rw [if_neg e] at ih
        refine d309_61 r.1 ?_
        try simp (disch := omega) only [n_lit, n_m, n_add, n_mul, n_div, n_mod, n_cl, n_lt, n_le, n_eq, n_in, n_eqm, n_meq, n_mlt, n_ltm, n_mle, n_lem, not_true_eq_false, not_false_eq_true, true_implies, false_implies, true_and, and_true, Nat.not_lt_zero, Nat.zero_le]
        exact ih
      have yes : (o_lit a n k && o_bet k O) = true → i_P i_MT i_AT L xs 309 59 [some (.ref 138), some (.int (i_n n)), some (.int (o_op O)), some (.int (i_n k))] [] h 0 0 Q := by
        intro e
        rw [if_pos e] at ih
        refine d309_59 r.1 (d309_61 r.1 ?_)
        try simp (disch := omega) only [n_lit, n_m, n_add, n_mul, n_div, n_mod, n_cl, n_lt, n_le, n_eq, n_in, n_eqm, n_meq, n_mlt, n_ltm, n_mle, n_lem, not_true_eq_false, not_false_eq_true, true_implies, false_implies, true_and, and_true, Nat.not_lt_zero, Nat.zero_le]
        exact ih
      refine d309_22 r.1 ?_
      rw [r.n4]
      try simp (disch := omega) only [n_lit, n_m, n_add, n_mul, n_div, n_mod, n_cl, n_lt, n_le, n_eq, n_in, n_eqm, n_meq, n_mlt, n_ltm, n_mle, n_lem, not_true_eq_false, not_false_eq_true, true_implies, false_implies, true_and, and_true, Nat.not_lt_zero, Nat.zero_le, n_shl2, n_and, e1]
      refine ⟨fun q => by omega, fun _ => c308 r (by omega) hn ⟨_, rfl, d309_40 r.1 ?_⟩⟩
      try simp (disch := omega) only [n_lit, n_m, i_bo01, j_cmpn, Classical.not_not, n_add, n_mul, n_div, n_mod, n_cl, n_lt, n_le, n_eq, n_in, n_eqm, n_meq, n_mlt, n_ltm, n_mle, n_lem, not_true_eq_false, not_false_eq_true, true_implies, false_implies, true_and, and_true, Nat.not_lt_zero, Nat.zero_le]
      refine ⟨fun e => no (by simp [e]), fun e => ?_⟩
      cases O with
      | none => exact ⟨fun _ => yes (by rw [e]; rfl), fun q => absurd rfl q⟩
      | some b =>
        have hb := hle b rfl
        have hpb : o_pc b ≤ 8 := o_cn0_le 8
        have eq : (o_lit a n k && o_bet k (some b)) = decide (o_pc k < o_pc b) := by rw [e]; rfl
        rw [eq, decide_eq_true_eq] at no yes
        dsimp only [o_op] at no yes ⊢
        try simp (disch := omega) only [n_lit, n_m, n_add, n_mul, n_div, n_mod, n_cl, n_lt, n_le, n_eq, n_in, n_eqm, n_meq, n_mlt, n_ltm, n_mle, n_lem, not_true_eq_false, not_false_eq_true, true_implies, false_implies, true_and, and_true, Nat.not_lt_zero, Nat.zero_le]
        refine c307 r.1 (by omega) ⟨_, rfl, d309_52 r.1 (c307 r.1 (by omega) ⟨_, rfl, d309_56 r.1 ?_⟩)⟩
        try simp (disch := omega) only [n_lit, n_m, n_add, n_mul, n_div, n_mod, n_cl, n_lt, n_le, n_eq, n_in, n_eqm, n_meq, n_mlt, n_ltm, n_mle, n_lem, not_true_eq_false, not_false_eq_true, true_implies, false_implies, true_and, and_true, Nat.not_lt_zero, Nat.zero_le]
        exact ⟨fun e2 => no (by omega), fun e2 => yes (by omega)⟩
  try simp (disch := omega) only [n_lit, n_m, n_add, n_mul, n_div, n_mod, n_cl, n_lt, n_le, n_eq, n_in, n_eqm, n_meq, n_mlt, n_ltm, n_mle, n_lem, not_true_eq_false, not_false_eq_true, true_implies, false_implies, true_and, and_true, Nat.not_lt_zero, Nat.zero_le]
  exact key 0 (Nat.zero_le _)
theorem c323 (r : i_RA a h) {x : Int32} (H : i_RS a h Q (o_galA a x)) : i_C i_MT i_AT L xs 323 [.ref 138, .int x] h Q := by
  have hm : a 5 ≤ 8 := r.2.1.2.2.2.2.1
  have h8 : 2 ^ a 5 ≤ 256 := Nat.pow_le_pow_right (n := 2) (j := 8) (by omega) hm
  have e1 : 1 <<< a 5 = 2 ^ a 5 := Nat.one_shiftLeft _
  unfold o_galA at H
  refine e323 (d323_0 r.1 (c212i (y := 0) (z := 8) r.1 rfl rfl ⟨_, rfl, d323_9 r.1 ?_⟩))
  rw [i_bo_0, Classical.not_not]
  refine ⟨fun z => ?_, fun z => m201 r (fun h2 g2 f2 s2 => ⟨_, rfl, d323_17 g2.1 (by rw [o_A6_f z] at H; exact H h2 g2 f2.s s2)⟩)⟩
  obtain ⟨n, hn, rfl⟩ := n_gle (k := 8) z (by omega)
  have H := H.a6 z
  rw [n_cl (by omega)] at H
  have key : ∀ k, k ≤ 2 ^ a 5 → i_P i_MT i_AT L xs 323 22 [some (.ref 138), some (.int (i_n n)), some (.int (o_op (o_ls (o_gar a n) k))), some (.int (i_n k))] [] h 0 0 Q := by
    refine l_up ?_ ?_
    · refine d323_22 r.1 ?_
      rw [r.n5]
      try simp (disch := omega) only [n_lit, n_m, n_add, n_mul, n_div, n_mod, n_cl, n_lt, n_le, n_eq, n_in, n_eqm, n_meq, n_mlt, n_ltm, n_mle, n_lem, not_true_eq_false, not_false_eq_true, true_implies, false_implies, true_and, and_true, Nat.not_lt_zero, Nat.zero_le, n_shl2, n_and, e1, Nat.le_refl]
      have hle : ∀ b, o_ls (o_gar a n) (2 ^ a 5) = some b → b < 2 ^ a 5 := o_ls_lt _
      cases hO : o_ls (o_gar a n) (2 ^ a 5) with
      | none =>
        refine ⟨fun q => absurd rfl q, fun _ => m201 r (fun h2 g2 f2 s2 => ⟨_, rfl, d323_78 g2.1 (d323_86 g2.1 (H.2 hO h2 g2 f2.s s2))⟩)⟩
      | some b =>
        have hb := hle b hO
        dsimp only [o_op]
        try simp (disch := omega) only [n_lit, n_m, n_add, n_mul, n_div, n_mod, n_cl, n_lt, n_le, n_eq, n_in, n_eqm, n_meq, n_mlt, n_ltm, n_mle, n_lem, not_true_eq_false, not_false_eq_true, true_implies, false_implies, true_and, and_true, Nat.not_lt_zero, Nat.zero_le]
        exact m202 r (fun h2 g2 f2 s2 => ⟨_, rfl, d323_86 g2.1 (H.1 b hO h2 g2 f2.s s2)⟩)
    · intro k hk ih
      have hle : ∀ b, o_ls (o_gar a n) k = some b → b < k := o_ls_lt _
      rw [o_ls] at ih
      generalize o_ls (o_gar a n) k = O at ih hle ⊢
      have hp8 : o_pc k ≤ 8 := o_cn0_le 8
      have no : ¬ (o_gar a n k && o_bet k O) = true → i_P i_MT i_AT L xs 323 61 [some (.ref 138), some (.int (i_n n)), some (.int (o_op O)), some (.int (i_n k))] [] h 0 0 Q := by
        intro e
        rw [if_neg e] at ih
        refine d323_61 r.1 ?_
        try simp (disch := omega) only [n_lit, n_m, n_add, n_mul, n_div, n_mod, n_cl, n_lt, n_le, n_eq, n_in, n_eqm, n_meq, n_mlt, n_ltm, n_mle, n_lem, not_true_eq_false, not_false_eq_true, true_implies, false_implies, true_and, and_true, Nat.not_lt_zero, Nat.zero_le]
        exact ih
      have yes : (o_gar a n k && o_bet k O) = true → i_P i_MT i_AT L xs 323 59 [some (.ref 138), some (.int (i_n n)), some (.int (o_op O)), some (.int (i_n k))] [] h 0 0 Q := by
        intro e
        rw [if_pos e] at ih
        refine d323_59 r.1 (d323_61 r.1 ?_)
        try simp (disch := omega) only [n_lit, n_m, n_add, n_mul, n_div, n_mod, n_cl, n_lt, n_le, n_eq, n_in, n_eqm, n_meq, n_mlt, n_ltm, n_mle, n_lem, not_true_eq_false, not_false_eq_true, true_implies, false_implies, true_and, and_true, Nat.not_lt_zero, Nat.zero_le]
        exact ih
      refine d323_22 r.1 ?_
      rw [r.n5]
      try simp (disch := omega) only [n_lit, n_m, n_add, n_mul, n_div, n_mod, n_cl, n_lt, n_le, n_eq, n_in, n_eqm, n_meq, n_mlt, n_ltm, n_mle, n_lem, not_true_eq_false, not_false_eq_true, true_implies, false_implies, true_and, and_true, Nat.not_lt_zero, Nat.zero_le, n_shl2, n_and, e1]
      refine ⟨fun q => by omega, fun _ => c322 r (by omega) hn ⟨_, rfl, d323_40 r.1 ?_⟩⟩
      try simp (disch := omega) only [n_lit, n_m, i_bo01, j_cmpn, Classical.not_not, n_add, n_mul, n_div, n_mod, n_cl, n_lt, n_le, n_eq, n_in, n_eqm, n_meq, n_mlt, n_ltm, n_mle, n_lem, not_true_eq_false, not_false_eq_true, true_implies, false_implies, true_and, and_true, Nat.not_lt_zero, Nat.zero_le]
      refine ⟨fun e => no (by simp [e]), fun e => ?_⟩
      cases O with
      | none => exact ⟨fun _ => yes (by rw [e]; rfl), fun q => absurd rfl q⟩
      | some b =>
        have hb := hle b rfl
        have hpb : o_pc b ≤ 8 := o_cn0_le 8
        have eq : (o_gar a n k && o_bet k (some b)) = decide (o_pc k < o_pc b) := by rw [e]; rfl
        rw [eq, decide_eq_true_eq] at no yes
        dsimp only [o_op] at no yes ⊢
        try simp (disch := omega) only [n_lit, n_m, n_add, n_mul, n_div, n_mod, n_cl, n_lt, n_le, n_eq, n_in, n_eqm, n_meq, n_mlt, n_ltm, n_mle, n_lem, not_true_eq_false, not_false_eq_true, true_implies, false_implies, true_and, and_true, Nat.not_lt_zero, Nat.zero_le]
        refine c307 r.1 (by omega) ⟨_, rfl, d323_52 r.1 (c307 r.1 (by omega) ⟨_, rfl, d323_56 r.1 ?_⟩)⟩
        try simp (disch := omega) only [n_lit, n_m, n_add, n_mul, n_div, n_mod, n_cl, n_lt, n_le, n_eq, n_in, n_eqm, n_meq, n_mlt, n_ltm, n_mle, n_lem, not_true_eq_false, not_false_eq_true, true_implies, false_implies, true_and, and_true, Nat.not_lt_zero, Nat.zero_le]
        exact ⟨fun e2 => no (by omega), fun e2 => yes (by omega)⟩
  try simp (disch := omega) only [n_lit, n_m, n_add, n_mul, n_div, n_mod, n_cl, n_lt, n_le, n_eq, n_in, n_eqm, n_meq, n_mlt, n_ltm, n_mle, n_lem, not_true_eq_false, not_false_eq_true, true_implies, false_implies, true_and, and_true, Nat.not_lt_zero, Nat.zero_le]
  exact key 0 (Nat.zero_le _)
end
