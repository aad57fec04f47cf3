/-! THE TOKEN, of the class -/
section
variable {L : Nat} {xs : Nat → Int32} {h : iH} {Q : Option Value → iH → Prop} {a : Nat → Nat} {t : Nat}
set_option maxRecDepth 20000
/-- what a byte begins: 1 a number, 2 a word, 3 a stop, 5 nothing, 4 none of these -/
def o_cc (c : Nat) : Nat := if 48 ≤ c ∧ c ≤ 57 then 1 else if 97 ≤ c ∧ c ≤ 122 then 2 else if c = 59 then 3 else if c = 32 ∨ c = 10 then 5 else 4
/-- on while P, before n -/
def o_rn2 (P : Nat → Bool) (n : Nat) : Nat → Nat → Nat
  | 0, i => i
  | f + 1, i => if i < n ∧ P i = true then o_rn2 P n f (i + 1) else i
theorem o_rn2_le {P : Nat → Bool} {n : Nat} : ∀ f i, i ≤ n → i ≤ o_rn2 P n f i ∧ o_rn2 P n f i ≤ n
  | 0, i, h => ⟨Nat.le_refl _, h⟩
  | f + 1, i, h => by
    rw [o_rn2]
    split
    · rename_i e
      have := o_rn2_le (P := P) (n := n) f (i + 1) (by omega)
      omega
    · exact ⟨Nat.le_refl _, h⟩
/-- one step of a run that has room -/
theorem o_rn2_s {P : Nat → Bool} {n i : Nat} (h : i < n) (e : P i = true) : o_rn2 P n (n - i) i = o_rn2 P n (n - (i + 1)) (i + 1) := by
  rw [show n - i = (n - (i + 1)) + 1 by omega, o_rn2, if_pos ⟨h, e⟩]
theorem o_rn2_e {P : Nat → Bool} {n i : Nat} (e : ¬ (i < n ∧ P i = true)) : ∀ f, o_rn2 P n f i = i
  | 0 => rfl
  | f + 1 => by rw [o_rn2, if_neg e]
/-- the token from k on -/
def o_tks (T : Nat → Nat) (n k : Nat) : Nat := o_rn2 (fun i => o_cc (T i) == 5) n (n - k) k
def o_tk0 (T : Nat → Nat) (n k : Nat) : Nat := if o_tks T n k < n then o_cc (T (o_tks T n k)) else 0
def o_tke (T : Nat → Nat) (n k : Nat) : Nat := if o_tk0 T n k = 1 ∨ o_tk0 T n k = 2 then o_rn2 (fun i => o_cc (T i) == o_tk0 T n k) n (n - o_tks T n k) (o_tks T n k) else if o_tk0 T n k = 0 then o_tks T n k else o_tks T n k + 1
def o_tkk (T : Nat → Nat) (n k : Nat) : Nat := if o_tk0 T n k = 1 ∧ 4 < o_tke T n k - o_tks T n k then 4 else o_tk0 T n k
def o_num (T : Nat → Nat) (s : Nat) : Nat → Nat
  | 0 => 0
  | m + 1 => o_num T s m * 10 + (T (s + m) - 48)
def o_w5 (T : Nat → Nat) (s : Nat) : Nat → Nat
  | 0 => 0
  | m + 1 => o_w5 T s m * 32 + (T (s + m) - 96)
def o_tkv (T : Nat → Nat) (n k : Nat) : Nat := if o_tkk T n k = 1 then o_num T (o_tks T n k) (o_tke T n k - o_tks T n k) else 0
def o_tkc (T : Nat → Nat) (n k : Nat) : Nat := if o_tkk T n k = 2 ∧ o_tke T n k - o_tks T n k ≤ 8 then o_w5 T (o_tks T n k) (o_tke T n k - o_tks T n k) else 0
/-- the words that are no names, by the class's numbers -/
def o_W1 : List (List Nat) := [[110], [110, 101], [101], [115, 101], [115], [115, 119], [119], [110, 119], [115, 105, 122, 101], [119, 97, 108, 108], [116, 111], [116, 114, 101, 101], [115, 119, 97, 121, 115], [99, 97, 114, 116], [103, 111, 101, 115], [108, 97, 109, 112], [112, 101, 114, 115, 111, 110], [97, 116], [108, 111, 111, 107, 115], [102, 97, 114], [104, 105, 100, 101, 115], [102, 114, 111, 109], [115, 104, 111, 119, 115], [115, 101, 101, 110], [115, 108, 111, 119], [116, 117, 114, 110], [115, 105, 103, 110], [115, 101, 108, 102], [100, 111, 101, 115], [115, 116, 101, 112], [115, 116, 105, 108, 108], [108, 111, 111, 112], [101, 110, 100]]
def o_wc (w : List Nat) : Nat := w.foldl (fun s c => s * 32 + (c - 96)) 0
def o_kc (w : Nat) : Nat := o_wc (o_W1.getD w [])
/-- the last word below m with this code -/
def o_kw (v : Nat) : Nat → Option Nat
  | 0 => none
  | m + 1 => if o_kc m = v then some m else o_kw v m
def o_tkw (T : Nat → Nat) (n k : Nat) : Option Nat := if o_tkk T n k = 2 ∧ o_tke T n k - o_tks T n k ≤ 8 then o_kw (o_tkc T n k) 33 else none
/-- the tape's tables -/
def i_TT (h : iH) : Prop := (∀ c, c < 256 → aI h 12 c = i_n (o_cc c)) ∧ ∀ w, w < 33 → aJ h 13 w = i_j (o_kc w)
theorem o_W1_33 : o_W1.length = 33 := by decide
theorem o_kc_in : ∀ w : Fin 33, ∀ u : Fin 33, o_kc w.val = o_kc u.val → w = u := by decide +kernel
theorem o_cc_le (c : Nat) : o_cc c ≤ 5 ∧ 1 ≤ o_cc c := by unfold o_cc; split <;> (try split) <;> (try split) <;> (try split) <;> omega
/-- the text that the class reads: n bytes, T -/
def i_TX (h : iH) (n : Nat) (T : Nat → Nat) : Prop := i_TT h ∧ fI h 10 4 = i_n n ∧ n ≤ 900 ∧ ∀ i, i < n → T i < 256 ∧ aI h 11 i = i_n (T i)
abbrev tkF : List (Nat × Nat) := [(10, 5), (10, 6), (10, 7), (10, 8), (10, 9), (10, 10)]
theorem i_TX.fr {n : Nat} {T : Nat → Nat} {h2 : iH} {A : List Nat} {F : List (Nat × Nat)} (x : i_TX h n T) (f : i_Fr A F h h2) (hA : ∀ p, p ∈ [11, 12, 13] → p ∉ A) (hF : (10, 4) ∉ F) : i_TX h2 n T := by
  unfold i_TX i_TT
  rw [f.rI (hA 12 (by decide)), f.rJ (hA 13 (by decide)), f.vI hF, f.rI (hA 11 (by decide))]
  exact x
/-- the token read lies in the tape's fields -/
def i_TK (h : iH) (T : Nat → Nat) (n k : Nat) : Prop := fI h 10 5 = i_n (o_tke T n k) ∧ fI h 10 6 = i_n (o_tkk T n k) ∧ fI h 10 7 = i_n (o_tks T n k) ∧ fI h 10 8 = i_n (o_tkv T n k) ∧ fJ h 10 9 = i_j (o_tkc T n k) ∧ fI h 10 10 = o_op (o_tkw T n k)
theorem o_tk_le {T : Nat → Nat} {n k : Nat} (hk : k ≤ n) : k ≤ o_tks T n k ∧ o_tks T n k ≤ o_tke T n k ∧ o_tke T n k ≤ n := by
  have h1 := o_rn2_le (P := fun i => o_cc (T i) == 5) (n - k) k hk
  have h2 := o_rn2_le (P := fun i => o_cc (T i) == o_tk0 T n k) (n - o_tks T n k) (o_tks T n k) h1.2
  refine ⟨h1.1, ?_⟩
  unfold o_tke
  split
  · exact h2
  · split
    · exact ⟨Nat.le_refl _, h1.2⟩
    · rename_i q
      have : o_tks T n k < n := by
        by_cases z : o_tks T n k < n
        · exact z
        · exact absurd (by unfold o_tk0; rw [if_neg z]) q
      omega
theorem jj_shl {v k : Nat} (hk : k < 64) : i_j v <<< ((i_n k).toInt64 &&& (63 : Int64)) = i_j (v <<< k) := j_ext (fun c hc => by
  rw [j_shl _ hk, jj_b hc, Nat.testBit_shiftLeft, decide_eq_true hc, Bool.and_true]
  by_cases q : k ≤ c
  · rw [jj_b (by omega)]
  · simp [q])
theorem o_w5_lt {T : Nat → Nat} {s : Nat} : ∀ m, (∀ i, i < m → T (s + i) - 96 < 32) → o_w5 T s m < 32 ^ m
  | 0, _ => (by show 0 < 1; decide)
  | m + 1, z => by
    have := o_w5_lt m (fun i hi => z i (by omega))
    have := z m (by omega)
    rw [o_w5, Nat.pow_succ]
    omega
theorem o_num_lt {T : Nat → Nat} {s : Nat} : ∀ m, (∀ i, i < m → T (s + i) - 48 < 10) → o_num T s m < 10 ^ m
  | 0, _ => (by show 0 < 1; decide)
  | m + 1, z => by
    have := o_num_lt m (fun i hi => z i (by omega))
    have := z m (by omega)
    rw [o_num, Nat.pow_succ]
    omega
theorem o_rn2_all {P : Nat → Bool} {n : Nat} : ∀ f i j, i ≤ j → j < o_rn2 P n f i → P j = true
  | 0, i, j, h1, h2 => absurd h2 (by rw [o_rn2]; omega)
  | f + 1, i, j, h1, h2 => by
    rw [o_rn2] at h2
    split at h2
    · rename_i e
      by_cases q : j = i
      · rw [q]; exact e.2
      · exact o_rn2_all f (i + 1) j (by omega) h2
    · omega
theorem o_cc1 {c : Nat} : o_cc c = 1 ↔ 48 ≤ c ∧ c ≤ 57 := by unfold o_cc; split <;> (try split) <;> (try split) <;> (try split) <;> omega
theorem o_cc2 {c : Nat} : o_cc c = 2 ↔ 97 ≤ c ∧ c ≤ 122 := by unfold o_cc; split <;> (try split) <;> (try split) <;> (try split) <;> omega
set_option maxHeartbeats 2000000 in
theorem c88 (hL : i_Lay h) {n k : Nat} {T : Nat → Nat} (x : i_TX h n T) (hk : k ≤ n) (e : fI h 10 5 = i_n k) (H : ∀ h2, i_Lay h2 → i_Fr [] tkF h h2 → i_TK h2 T n k → Q none h2) : i_C i_MT i_AT L xs 88 [.ref 10] h Q := by
  have hn := x.2.2.1
  have tl := o_tk_le (T := T) hk
  -- what the text is in any world on the way
  have tx : ∀ {h1}, i_Fr [] tkF h h1 → fI h1 10 4 = i_n n ∧ (∀ i, i < n → aI h1 11 i = i_n (T i)) ∧ (∀ i, i < n → aI h1 12 (T i) = i_n (o_cc (T i))) ∧ ∀ w, w < 33 → aJ h1 13 w = i_j (o_kc w) := fun f => by
    rw [f.vI (by decide), f.rI (by simp), f.rI (by simp), f.rJ (by simp)]
    exact ⟨x.2.1, fun i hi => (x.2.2.2 i hi).2, fun i hi => x.1.1 _ (x.2.2.2 i hi).1, x.1.2⟩
  have cl : ∀ i, o_cc (T i) ≤ 5 := fun i => (o_cc_le _).1
  have Tl : ∀ i, i < n → T i < 256 := fun i hi => (x.2.2.2 i hi).1
  have sets : ∀ {b : Nat} {h1 : iH} {R : iH → Prop} {v : Int32}, i_Lay h1 → (b = 5 ∨ b = 6 ∨ b = 7 ∨ b = 8 ∨ b = 10) → (∀ h2, i_Lay h2 → i_Fr [] [(10, b)] h1 h2 → fI h2 10 b = v → R h2) → R (i_sf h1 10 b (.int v)) := fun L1 hb K => by
    rcases hb with rfl | rfl | rfl | rfl | rfl
    · exact w_sfI L1 L1.q10_5 K
    · exact w_sfI L1 L1.q10_6 K
    · exact w_sfI L1 L1.q10_7 K
    · exact w_sfI L1 L1.q10_8 K
    · exact w_sfI L1 L1.q10_10 K
  -- the blanks
  have blanks : ∀ m i, n - i = m → i ≤ n → o_rn2 (fun i => o_cc (T i) == 5) n (n - i) i = o_tks T n k → ∀ h1, i_Lay h1 → i_Fr [] tkF h h1 → fI h1 10 5 = i_n i → (∀ h2, i_Lay h2 → i_Fr [] tkF h h2 → fI h2 10 5 = i_n (o_tks T n k) → ∀ (y1 : Option Value), i_P i_MT i_AT L xs 88 42 [some (.ref 10), y1] [] h2 0 0 Q) → ∀ (y1 : Option Value), i_P i_MT i_AT L xs 88 0 [some (.ref 10), y1] [] h1 0 0 Q := by
    intro m
    induction m with
    | zero =>
      intro i hm hi er h1 L1 f1 e1 K y1
      have : i = n := by omega
      subst this
      obtain ⟨t4, -⟩ := tx f1
      refine d88_0 L1 ?_
      rw [t4, e1]
      try simp (disch := omega) only [n_lit, n_m, n_add, n_mul, n_div, n_mod, n_cl, n_lt, n_le, n_eq, n_in, n_eqm, n_meq, n_mlt, n_ltm, n_mle, n_lem, not_true_eq_false, not_false_eq_true, true_implies, false_implies, true_and, and_true, Nat.not_lt_zero, Nat.zero_le, Nat.le_refl]
      rw [o_rn2_e (by omega)] at er
      exact K h1 L1 f1 (e1.trans (congrArg i_n er)) _
    | succ m ih =>
      intro i hm hi er h1 L1 f1 e1 K y1
      obtain ⟨t4, t11, t12, -⟩ := tx f1
      have hi2 : i < n := by omega
      have c5 := cl i
      have T5 := Tl i hi2
      refine d88_0 L1 ?_
      rw [t4, e1]
      try simp (disch := omega) only [n_lit, n_m, n_add, n_mul, n_div, n_mod, n_cl, n_lt, n_le, n_eq, n_in, n_eqm, n_meq, n_mlt, n_ltm, n_mle, n_lem, not_true_eq_false, not_false_eq_true, true_implies, false_implies, true_and, and_true, Nat.not_lt_zero, Nat.zero_le, t11 i hi2, t12 i hi2]
      refine ⟨fun q => by omega, fun _ => ⟨by omega, by omega, fun q => ?_, fun q => ?_⟩⟩
      · rw [o_rn2_e (by simp; omega)] at er
        exact K h1 L1 f1 (e1.trans (congrArg i_n er)) _
      · have q := Classical.not_not.mp q
        rw [o_rn2_s hi2 (by simp [q])] at er
        refine sets (R := fun z => i_P i_MT i_AT L xs 88 39 [some (.ref 10), y1] [] z 0 0 Q) L1 (by omega) (fun h2 L2 F2 E2 => d88_39 L2 ?_)
        exact ih (i + 1) (by omega) (by omega) er h2 L2 (f1.trans (F2.mono (fun _ z => z) (by decide))) E2 K _
  generalize hs : o_tks T n k = s0 at *
  generalize hee : o_tke T n k = e0 at *
  -- the end
  have kF : ∀ {b : Nat} {h1 h2 : iH}, i_Fr [] [(10, b)] h1 h2 → (b = 5 ∨ b = 6 ∨ b = 7 ∨ b = 8 ∨ b = 9 ∨ b = 10) → i_Fr [] tkF h1 h2 := fun f hb => f.mono (fun _ z => z) (fun z hz => by
    simp only [List.mem_cons, List.not_mem_nil, or_false] at hz
    subst hz
    rcases hb with rfl | rfl | rfl | rfl | rfl | rfl <;> decide)
  -- what stands, bit by bit
  have fin : ∀ h1, i_Lay h1 → i_Fr [] tkF h h1 → i_TK h1 T n k → ∀ (y1 : Option Value), i_P i_MT i_AT L xs 88 354 [some (.ref 10), y1] [] h1 0 0 Q := fun h1 L1 f1 z1 y1 => d88_354 L1 (H h1 L1 f1 z1)
  -- the words
  have words : ∀ w, w ≤ 33 → ∀ h1, i_Lay h1 → i_Fr [] tkF h h1 → fI h1 10 5 = i_n e0 → fI h1 10 6 = i_n (o_tkk T n k) → fI h1 10 7 = i_n s0 → fI h1 10 8 = i_n (o_tkv T n k) → fJ h1 10 9 = i_j (o_tkc T n k) → o_tkc T n k < 1099511627776 → o_tkw T n k = o_kw (o_tkc T n k) 33 → fI h1 10 10 = o_op (o_kw (o_tkc T n k) w) → i_P i_MT i_AT L xs 88 316 [some (.ref 10), some (.int (i_n w))] [] h1 0 0 Q := by
    refine l_up ?_ ?_
    · intro h1 L1 f1 e5 e6 e7 e8 e9 lt ew e10
      refine d88_316 L1 ?_
      try simp (disch := omega) only [n_lit, n_m, n_add, n_mul, n_div, n_mod, n_cl, n_lt, n_le, n_eq, n_in, n_eqm, n_meq, n_mlt, n_ltm, n_mle, n_lem, not_true_eq_false, not_false_eq_true, true_implies, false_implies, true_and, and_true, Nat.not_lt_zero, Nat.zero_le, Nat.le_refl]
      refine fin h1 L1 f1 ⟨by rw [hee]; exact e5, e6, by rw [hs]; exact e7, e8, e9, by rw [ew]; exact e10⟩ _
    · intro w hw ih h1 L1 f1 e5 e6 e7 e8 e9 lt ew e10
      obtain ⟨-, -, -, t13⟩ := tx f1
      have kl : ∀ w, w < 33 → o_kc w < 1099511627776 := fun w hw => by
        have : ∀ u : Fin 33, o_kc u.val < 1099511627776 := by decide +kernel
        exact this ⟨w, hw⟩
      have nx : ∀ v, v = o_op (o_kw (o_tkc T n k) (w + 1)) → i_P i_MT i_AT L xs 88 345 [some (.ref 10), some (.int (i_n w))] [.int v, .ref 10] h1 0 0 Q := by
        intro v hv
        refine d88_345 L1 ?_
        refine sets (R := fun z => i_P i_MT i_AT L xs 88 348 [some (.ref 10), some (.int (i_n w))] [] z 0 0 Q) L1 (by omega) (fun h2 L2 F2 E2 => d88_348 L2 ?_)
        try simp (disch := omega) only [n_lit, n_m, n_add, n_mul, n_div, n_mod, n_cl, n_lt, n_le, n_eq, n_in, n_eqm, n_meq, n_mlt, n_ltm, n_mle, n_lem, not_true_eq_false, not_false_eq_true, true_implies, false_implies, true_and, and_true, Nat.not_lt_zero, Nat.zero_le]
        refine ih h2 L2 (f1.trans (kF F2 (by omega))) ?_ ?_ ?_ ?_ ?_ lt ew (E2.trans hv)
        · rw [F2.vI (by decide)]; exact e5
        · rw [F2.vI (by decide)]; exact e6
        · rw [F2.vI (by decide)]; exact e7
        · rw [F2.vI (by decide)]; exact e8
        · rw [F2.vJ (by decide)]; exact e9
      refine d88_316 L1 ?_
      try simp (disch := omega) only [n_lit, n_m, n_add, n_mul, n_div, n_mod, n_cl, n_lt, n_le, n_eq, n_in, n_eqm, n_meq, n_mlt, n_ltm, n_mle, n_lem, not_true_eq_false, not_false_eq_true, true_implies, false_implies, true_and, and_true, Nat.not_lt_zero, Nat.zero_le]
      refine ⟨fun q => by omega, fun _ => ⟨by omega, ?_⟩⟩
      rw [t13 w hw, e9, e10, j_cmpn, jj_eq (by have := kl w hw; omega) (by omega)]
      refine ⟨fun q => nx _ ?_, fun q => nx _ ?_⟩
      · rw [o_kw, if_neg q]
      · rw [o_kw, if_pos (Classical.not_not.mp q)]; rfl
  -- the kind, told
  have rest : ∀ h1, i_Lay h1 → i_Fr [] tkF h h1 → fI h1 10 5 = i_n e0 → fI h1 10 6 = i_n (o_tkk T n k) → fI h1 10 7 = i_n s0 → ∀ (y1 : Option Value), i_P i_MT i_AT L xs 88 187 [some (.ref 10), y1] [] h1 0 0 Q := by
    intro h1 L1 f1 e5 e6 e7 y1
    have hk5 := (o_cc_le (T s0)).1
    have k0 : o_tk0 T n k ≤ 5 := by unfold o_tk0; rw [hs]; split; exact hk5; omega
    have kk5 : o_tkk T n k ≤ 5 := by unfold o_tkk; split; omega; exact k0
    have ekk : o_tkk T n k = (if o_tk0 T n k = 1 ∧ 4 < e0 - s0 then 4 else o_tk0 T n k) := by unfold o_tkk; rw [hee, hs]
    have eke : e0 = (if o_tk0 T n k = 1 ∨ o_tk0 T n k = 2 then o_rn2 (fun i => o_cc (T i) == o_tk0 T n k) n (n - s0) s0 else if o_tk0 T n k = 0 then s0 else s0 + 1) := by rw [← hee]; unfold o_tke; rw [hs]
    have ekv : o_tkv T n k = (if o_tkk T n k = 1 then o_num T s0 (e0 - s0) else 0) := by unfold o_tkv; rw [hee, hs]
    have ekc : o_tkc T n k = (if o_tkk T n k = 2 ∧ e0 - s0 ≤ 8 then o_w5 T s0 (e0 - s0) else 0) := by unfold o_tkc; rw [hee, hs]
    have ekw : o_tkw T n k = (if o_tkk T n k = 2 ∧ e0 - s0 ≤ 8 then o_kw (o_tkc T n k) 33 else none) := by unfold o_tkw; rw [hee, hs]
    have kind : ∀ j, (j = 1 ∨ j = 2) → o_tkk T n k = j → o_tk0 T n k = j ∧ ∀ i, s0 ≤ i → i < e0 → o_cc (T i) = j := by
      intro j hj e
      have e0' : o_tk0 T n k = j := by
        rw [ekk] at e
        split at e
        · omega
        · exact e
      refine ⟨e0', fun i h1 h2 => ?_⟩
      rw [e0', if_pos hj] at eke
      rw [eke] at h2
      have := o_rn2_all _ _ _ h1 h2
      simpa using this
    have dig : o_tkk T n k = 1 → (∀ i, s0 ≤ i → i < e0 → 48 ≤ T i ∧ T i ≤ 57) ∧ e0 - s0 ≤ 4 := fun e => by
      obtain ⟨q1, q2⟩ := kind 1 (Or.inl rfl) e
      refine ⟨fun i h1 h2 => o_cc1.mp (q2 i h1 h2), ?_⟩
      rw [ekk] at e
      split at e
      · omega
      · omega
    have let2 : o_tkk T n k = 2 → ∀ i, s0 ≤ i → i < e0 → 97 ≤ T i ∧ T i ≤ 122 := fun e i h1 h2 => o_cc2.mp ((kind 2 (Or.inr rfl) e).2 i h1 h2)
    -- behind the value
    have p250 : ∀ h2, i_Lay h2 → i_Fr [] tkF h h2 → fI h2 10 5 = i_n e0 → fI h2 10 6 = i_n (o_tkk T n k) → fI h2 10 7 = i_n s0 → fI h2 10 8 = i_n (o_tkv T n k) → fJ h2 10 9 = i_j 0 → fI h2 10 10 = i_m → ∀ (y1 : Option Value), i_P i_MT i_AT L xs 88 250 [some (.ref 10), y1] [] h2 0 0 Q := by
      intro h2 L2 f2 e5 e6 e7 e8 e9 e10 y1
      have out : ¬ (o_tkk T n k = 2 ∧ e0 - s0 ≤ 8) → ∀ (y1 : Option Value), i_P i_MT i_AT L xs 88 354 [some (.ref 10), y1] [] h2 0 0 Q := by
        intro q
        rw [if_neg q] at ekc ekw
        exact fin h2 L2 f2 ⟨by rw [hee]; exact e5, e6, by rw [hs]; exact e7, e8, by rw [ekc]; exact e9, by rw [ekw]; exact e10⟩
      have go : (o_tkk T n k = 2 ∧ e0 - s0 ≤ 8) → ∀ m, m ≤ e0 - s0 → ∀ h3, i_Lay h3 → i_Fr [] tkF h h3 → fI h3 10 5 = i_n e0 → fI h3 10 6 = i_n (o_tkk T n k) → fI h3 10 7 = i_n s0 → fI h3 10 8 = i_n (o_tkv T n k) → fJ h3 10 9 = i_j (o_w5 T s0 m) → fI h3 10 10 = i_m → i_P i_MT i_AT L xs 88 277 [some (.ref 10), some (.int (i_n (s0 + m)))] [] h3 0 0 Q := by
        intro q
        have lt := let2 q.1
        rw [if_pos q] at ekc ekw
        have l32 : ∀ m, m ≤ 8 → m ≤ e0 - s0 → o_w5 T s0 m < 1099511627776 := fun m hm hm2 => by
          have z := o_w5_lt (T := T) (s := s0) m (fun i hi => by have := lt (s0 + i) (by omega) (by omega); omega)
          exact Nat.lt_of_lt_of_le z (Nat.pow_le_pow_right (n := 32) (i := m) (j := 8) (by omega) hm)
        refine l_up ?_ ?_
        · intro h3 L3 f3 d5 d6 d7 d8 d9 d10
          refine d88_277 L3 ?_
          rw [d5]
          try simp (disch := omega) only [n_lit, n_m, n_add, n_mul, n_div, n_mod, n_cl, n_lt, n_le, n_eq, n_in, n_eqm, n_meq, n_mlt, n_ltm, n_mle, n_lem, not_true_eq_false, not_false_eq_true, true_implies, false_implies, true_and, and_true, Nat.not_lt_zero, Nat.zero_le, show e0 ≤ s0 + (e0 - s0) by omega]
          refine words 0 (by omega) h3 L3 f3 d5 d6 d7 d8 (by rw [ekc]; exact d9) (by rw [ekc]; exact l32 _ q.2 (Nat.le_refl _)) ekw (by rw [o_kw]; exact d10)
        · intro m hm ih h3 L3 f3 d5 d6 d7 d8 d9 d10
          obtain ⟨-, t11, -, -⟩ := tx f3
          have li := lt (s0 + m) (by omega) (by omega)
          have lm := l32 m (by omega) (by omega)
          refine d88_277 L3 ?_
          rw [d5, d9]
          try simp (disch := omega) only [n_lit, n_m, n_add, n_mul, n_div, n_mod, n_cl, n_lt, n_le, n_eq, n_in, n_eqm, n_meq, n_mlt, n_ltm, n_mle, n_lem, not_true_eq_false, not_false_eq_true, true_implies, false_implies, true_and, and_true, Nat.not_lt_zero, Nat.zero_le, t11 (s0 + m) (by omega)]
          refine ⟨fun z => by omega, fun _ => ⟨by omega, ?_⟩⟩
          have ev : (i_j (o_w5 T s0 m) <<< ((5 : Int32).toInt64 &&& (63 : Int64))) ||| ((i_n (T (s0 + m)) - i_n 97 + i_n 1).toInt64) = i_j (o_w5 T s0 (m + 1)) := by
            rw [show (5 : Int32) = i_n 5 from rfl, jj_shl (by omega), n_sub (by omega), n_add, jj_n (by omega), jj_or]
            congr 1
            rw [Nat.shiftLeft_eq, o_w5]
            rw [show T (s0 + m) - 97 + 1 = T (s0 + m) - 96 by omega]
            have := Nat.shiftLeft_add_eq_or_of_lt (show T (s0 + m) - 96 < 2 ^ 5 by omega) (o_w5 T s0 m)
            rw [Nat.shiftLeft_eq] at this
            exact this.symm
          refine w_sfJ (R := fun z => i_P i_MT i_AT L xs 88 308 [some (.ref 10), some (.int (i_n (s0 + m)))] [] z 0 0 Q) L3 L3.q10_9 (fun h4 L4 F4 E4 => d88_308 L4 ?_)
          try simp (disch := omega) only [n_lit, n_m, n_add, n_mul, n_div, n_mod, n_cl, n_lt, n_le, n_eq, n_in, n_eqm, n_meq, n_mlt, n_ltm, n_mle, n_lem, not_true_eq_false, not_false_eq_true, true_implies, false_implies, true_and, and_true, Nat.not_lt_zero, Nat.zero_le]
          refine ih h4 L4 (f3.trans (kF F4 (by omega))) ?_ ?_ ?_ ?_ (E4.trans ev) ?_
          · rw [F4.vI (by decide)]; exact d5
          · rw [F4.vI (by decide)]; exact d6
          · rw [F4.vI (by decide)]; exact d7
          · rw [F4.vI (by decide)]; exact d8
          · rw [F4.vI (by decide)]; exact d10
      refine d88_250 L2 ?_
      rw [e6, e5, e7, show i_n e0 - i_n s0 = i_n (e0 - s0) from n_sub (by omega)]
      try simp (disch := omega) only [n_lit, n_m, n_add, n_mul, n_div, n_mod, n_cl, n_lt, n_le, n_eq, n_in, n_eqm, n_meq, n_mlt, n_ltm, n_mle, n_lem, not_true_eq_false, not_false_eq_true, true_implies, false_implies, true_and, and_true, Nat.not_lt_zero, Nat.zero_le]
      refine ⟨fun q => out (fun z => q z.1) _, fun q => ⟨fun q2 => out (fun z => by omega) _, fun q2 => ?_⟩⟩
      exact go ⟨Classical.not_not.mp q, by omega⟩ 0 (Nat.zero_le _) h2 L2 f2 e5 e6 e7 e8 e9 e10
    refine d88_187 L1 ?_
    refine sets (R := fun z => ∀ (y1 : Option Value), i_P i_MT i_AT L xs 88 192 [some (.ref 10), y1] [] z 0 0 Q) L1 (by omega) (fun h2 L2 F2 E2 => fun y1 => d88_192 L2 ?_) _
    refine w_sfJ (R := fun z => i_P i_MT i_AT L xs 88 197 [some (.ref 10), y1] [] z 0 0 Q) L2 L2.q10_9 (fun h3 L3 F3 E3 => d88_197 L3 ?_)
    refine sets (R := fun z => i_P i_MT i_AT L xs 88 202 [some (.ref 10), y1] [] z 0 0 Q) L3 (by omega) (fun h4 L4 F4 E4 => d88_202 L4 ?_)
    have f4 := f1.trans ((kF F2 (by omega)).trans ((kF F3 (by omega)).trans (kF F4 (by omega))))
    have E5 : fI h4 10 5 = i_n e0 := by rw [F4.vI (by decide), F3.vI (by decide), F2.vI (by decide)]; exact e5
    have E6 : fI h4 10 6 = i_n (o_tkk T n k) := by rw [F4.vI (by decide), F3.vI (by decide), F2.vI (by decide)]; exact e6
    have E7 : fI h4 10 7 = i_n s0 := by rw [F4.vI (by decide), F3.vI (by decide), F2.vI (by decide)]; exact e7
    have E8 : fI h4 10 8 = i_n 0 := by rw [F4.vI (by decide), F3.vI (by decide)]; exact E2
    have E9 : fJ h4 10 9 = i_j 0 := by rw [F4.vJ (by decide)]; exact E3
    rw [E6]
    try simp (disch := omega) only [n_lit, n_m, n_add, n_mul, n_div, n_mod, n_cl, n_lt, n_le, n_eq, n_in, n_eqm, n_meq, n_mlt, n_ltm, n_mle, n_lem, not_true_eq_false, not_false_eq_true, true_implies, false_implies, true_and, and_true, Nat.not_lt_zero, Nat.zero_le]
    refine ⟨fun q => ?_, fun q => ?_⟩
    · rw [if_neg q] at ekv
      exact p250 h4 L4 f4 E5 E6 E7 (by rw [ekv]; exact E8) E9 E4 _
    · have q := Classical.not_not.mp q
      rw [if_pos q] at ekv
      obtain ⟨dg, d4⟩ := dig q
      have nl : ∀ m, m ≤ 4 → m ≤ e0 - s0 → o_num T s0 m < 10000 := fun m hm hm2 => by
        have z := o_num_lt (T := T) (s := s0) m (fun i hi => by have := dg (s0 + i) (by omega) (by omega); omega)
        exact Nat.lt_of_lt_of_le z (Nat.pow_le_pow_right (n := 10) (i := m) (j := 4) (by omega) hm)
      have loop : ∀ m, m ≤ e0 - s0 → ∀ h5, i_Lay h5 → i_Fr [] tkF h h5 → fI h5 10 5 = i_n e0 → fI h5 10 6 = i_n (o_tkk T n k) → fI h5 10 7 = i_n s0 → fI h5 10 8 = i_n (o_num T s0 m) → fJ h5 10 9 = i_j 0 → fI h5 10 10 = i_m → i_P i_MT i_AT L xs 88 215 [some (.ref 10), some (.int (i_n (s0 + m)))] [] h5 0 0 Q := by
        refine l_up ?_ ?_
        · intro h5 L5 f5 a5 a6 a7 a8 a9 a10
          refine d88_215 L5 ?_
          rw [a5]
          try simp (disch := omega) only [n_lit, n_m, n_add, n_mul, n_div, n_mod, n_cl, n_lt, n_le, n_eq, n_in, n_eqm, n_meq, n_mlt, n_ltm, n_mle, n_lem, not_true_eq_false, not_false_eq_true, true_implies, false_implies, true_and, and_true, Nat.not_lt_zero, Nat.zero_le, show e0 ≤ s0 + (e0 - s0) by omega]
          exact p250 h5 L5 f5 a5 a6 a7 (by rw [ekv]; exact a8) a9 a10 _
        · intro m hm ih h5 L5 f5 a5 a6 a7 a8 a9 a10
          obtain ⟨-, t11, -, -⟩ := tx f5
          have li := dg (s0 + m) (by omega) (by omega)
          have lm := nl m (by omega) (by omega)
          refine d88_215 L5 ?_
          rw [a5, a8]
          try simp (disch := omega) only [n_lit, n_m, n_add, n_mul, n_div, n_mod, n_cl, n_lt, n_le, n_eq, n_in, n_eqm, n_meq, n_mlt, n_ltm, n_mle, n_lem, not_true_eq_false, not_false_eq_true, true_implies, false_implies, true_and, and_true, Nat.not_lt_zero, Nat.zero_le, t11 (s0 + m) (by omega)]
          refine ⟨fun z => by omega, fun _ => ⟨by omega, ?_⟩⟩
          rw [show i_n (o_num T s0 m * 10 + T (s0 + m)) - i_n 48 = i_n (o_num T s0 (m + 1)) from by rw [n_sub (by omega), o_num]; congr 1; omega]
          refine sets (R := fun z => i_P i_MT i_AT L xs 88 244 [some (.ref 10), some (.int (i_n (s0 + m)))] [] z 0 0 Q) L5 (by omega) (fun h6 L6 F6 E6' => d88_244 L6 ?_)
          try simp (disch := omega) only [n_lit, n_m, n_add, n_mul, n_div, n_mod, n_cl, n_lt, n_le, n_eq, n_in, n_eqm, n_meq, n_mlt, n_ltm, n_mle, n_lem, not_true_eq_false, not_false_eq_true, true_implies, false_implies, true_and, and_true, Nat.not_lt_zero, Nat.zero_le]
          refine ih h6 L6 (f5.trans (kF F6 (by omega))) ?_ ?_ ?_ E6' ?_ ?_
          · rw [F6.vI (by decide)]; exact a5
          · rw [F6.vI (by decide)]; exact a6
          · rw [F6.vI (by decide)]; exact a7
          · rw [F6.vJ (by decide)]; exact a9
          · rw [F6.vI (by decide)]; exact a10
      rw [E7]
      exact loop 0 (Nat.zero_le _) h4 L4 f4 E5 E6 E7 E8 E9 E4
  -- the kind
  have k0 : o_tk0 T n k = (if s0 < n then o_cc (T s0) else 0) := by unfold o_tk0; rw [hs]
  have k05 : o_tk0 T n k ≤ 5 := by rw [k0]; split; exact cl _; omega
  have eke : e0 = (if o_tk0 T n k = 1 ∨ o_tk0 T n k = 2 then o_rn2 (fun i => o_cc (T i) == o_tk0 T n k) n (n - s0) s0 else if o_tk0 T n k = 0 then s0 else s0 + 1) := by rw [← hee]; unfold o_tke; rw [hs]
  have ekk : o_tkk T n k = (if o_tk0 T n k = 1 ∧ 4 < e0 - s0 then 4 else o_tk0 T n k) := by unfold o_tkk; rw [hee, hs]
  have p161 : ∀ h1, i_Lay h1 → i_Fr [] tkF h h1 → fI h1 10 5 = i_n e0 → fI h1 10 6 = i_n (o_tk0 T n k) → fI h1 10 7 = i_n s0 → ∀ (y1 : Option Value), i_P i_MT i_AT L xs 88 161 [some (.ref 10), y1] [] h1 0 0 Q := by
    intro h1 L1 f1 e5 e6 e7 y1
    refine d88_161 L1 ?_
    rw [e6, e5, e7, show i_n e0 - i_n s0 = i_n (e0 - s0) from n_sub (by omega)]
    try simp (disch := omega) only [n_lit, n_m, n_add, n_mul, n_div, n_mod, n_cl, n_lt, n_le, n_eq, n_in, n_eqm, n_meq, n_mlt, n_ltm, n_mle, n_lem, not_true_eq_false, not_false_eq_true, true_implies, false_implies, true_and, and_true, Nat.not_lt_zero, Nat.zero_le]
    refine ⟨fun q => ?_, fun q => ⟨fun q2 => ?_, fun q2 => ?_⟩⟩
    · rw [if_neg (by omega)] at ekk
      exact rest h1 L1 f1 e5 (by rw [ekk]; exact e6) e7 _
    · rw [if_neg (by omega)] at ekk
      exact rest h1 L1 f1 e5 (by rw [ekk]; exact e6) e7 _
    · rw [if_pos ⟨Classical.not_not.mp q, by omega⟩] at ekk
      refine sets (R := fun z => i_P i_MT i_AT L xs 88 187 [some (.ref 10), y1] [] z 0 0 Q) L1 (by omega) (fun h2 L2 F2 E2 => ?_)
      exact rest h2 L2 (f1.trans (kF F2 (by omega))) (by rw [F2.vI (by decide)]; exact e5) (by rw [ekk]; exact E2) (by rw [F2.vI (by decide)]; exact e7) _
  have run : ∀ m i, n - i = m → s0 ≤ i → i ≤ n → o_rn2 (fun i => o_cc (T i) == o_tk0 T n k) n (n - i) i = e0 → ∀ h1, i_Lay h1 → i_Fr [] tkF h h1 → fI h1 10 5 = i_n i → fI h1 10 6 = i_n (o_tk0 T n k) → fI h1 10 7 = i_n s0 → ∀ (y1 : Option Value), i_P i_MT i_AT L xs 88 99 [some (.ref 10), y1] [] h1 0 0 Q := by
    intro m
    induction m with
    | zero =>
      intro i hm hsi hi er h1 L1 f1 e5 e6 e7 y1
      have : i = n := by omega
      subst this
      obtain ⟨t4, -⟩ := tx f1
      refine d88_99 L1 ?_
      rw [t4, e5]
      try simp (disch := omega) only [n_lit, n_m, n_add, n_mul, n_div, n_mod, n_cl, n_lt, n_le, n_eq, n_in, n_eqm, n_meq, n_mlt, n_ltm, n_mle, n_lem, not_true_eq_false, not_false_eq_true, true_implies, false_implies, true_and, and_true, Nat.not_lt_zero, Nat.zero_le, Nat.le_refl]
      rw [o_rn2_e (by omega)] at er
      exact p161 h1 L1 f1 (e5.trans (congrArg i_n er)) e6 e7 _
    | succ m ih =>
      intro i hm hsi hi er h1 L1 f1 e5 e6 e7 y1
      obtain ⟨t4, t11, t12, -⟩ := tx f1
      have hi2 : i < n := by omega
      have c5 := cl i
      have T5 := Tl i hi2
      refine d88_99 L1 ?_
      rw [t4, e5, e6]
      try simp (disch := omega) only [n_lit, n_m, n_add, n_mul, n_div, n_mod, n_cl, n_lt, n_le, n_eq, n_in, n_eqm, n_meq, n_mlt, n_ltm, n_mle, n_lem, not_true_eq_false, not_false_eq_true, true_implies, false_implies, true_and, and_true, Nat.not_lt_zero, Nat.zero_le, t11 i hi2, t12 i hi2]
      refine ⟨fun q => by omega, fun _ => ⟨by omega, by omega, fun q => ?_, fun q => ?_⟩⟩
      · rw [o_rn2_e (by simp; omega)] at er
        exact p161 h1 L1 f1 (e5.trans (congrArg i_n er)) e6 e7 _
      · have q := Classical.not_not.mp q
        rw [o_rn2_s hi2 (by simp [q])] at er
        refine sets (R := fun z => i_P i_MT i_AT L xs 88 141 [some (.ref 10), y1] [] z 0 0 Q) L1 (by omega) (fun h2 L2 F2 E2 => d88_141 L2 ?_)
        exact ih (i + 1) (by omega) (by omega) (by omega) er h2 L2 (f1.trans (kF F2 (by omega))) E2 (by rw [F2.vI (by decide)]; exact e6) (by rw [F2.vI (by decide)]; exact e7) _
  have p83 : ∀ h1, i_Lay h1 → i_Fr [] tkF h h1 → fI h1 10 5 = i_n s0 → fI h1 10 6 = i_n (o_tk0 T n k) → fI h1 10 7 = i_n s0 → ∀ (y1 : Option Value), i_P i_MT i_AT L xs 88 83 [some (.ref 10), y1] [] h1 0 0 Q := by
    intro h1 L1 f1 e5 e6 e7 y1
    have go : o_tk0 T n k = 1 ∨ o_tk0 T n k = 2 → ∀ (y1 : Option Value), i_P i_MT i_AT L xs 88 99 [some (.ref 10), y1] [] h1 0 0 Q := fun q => by
      rw [if_pos q] at eke
      exact run (n - s0) s0 rfl (Nat.le_refl _) (by omega) eke.symm h1 L1 f1 e5 e6 e7
    refine d88_83 L1 ?_
    rw [e6, e5]
    try simp (disch := omega) only [n_lit, n_m, n_add, n_mul, n_div, n_mod, n_cl, n_lt, n_le, n_eq, n_in, n_eqm, n_meq, n_mlt, n_ltm, n_mle, n_lem, not_true_eq_false, not_false_eq_true, true_implies, false_implies, true_and, and_true, Nat.not_lt_zero, Nat.zero_le]
    refine ⟨fun q => go (Or.inr q) _, fun q => ⟨fun q2 => ⟨fun q3 => ?_, fun q3 => ?_⟩, fun q2 => go (Or.inl (Classical.not_not.mp q2)) _⟩⟩
    · rw [if_neg (by omega), if_pos q3] at eke
      exact p161 h1 L1 f1 (by rw [eke]; exact e5) e6 e7 _
    · rw [if_neg (by omega), if_neg q3] at eke
      refine sets (R := fun z => i_P i_MT i_AT L xs 88 161 [some (.ref 10), y1] [] z 0 0 Q) L1 (by omega) (fun h2 L2 F2 E2 => ?_)
      exact p161 h2 L2 (f1.trans (kF F2 (by omega))) (by rw [eke]; exact E2) (by rw [F2.vI (by decide)]; exact e6) (by rw [F2.vI (by decide)]; exact e7) _
  refine e88 (blanks (n - k) k rfl hk (by rw [← hs]; rfl) h hL i_Fr.refl e (fun h1 L1 f1 e1 => ?_) _)
  intro y1
  refine d88_42 L1 ?_
  rw [e1]
  refine sets (R := fun z => i_P i_MT i_AT L xs 88 50 [some (.ref 10), y1] [] z 0 0 Q) L1 (by omega) (fun h2 L2 F2 E2 => ?_)
  have f2 := f1.trans (kF F2 (by omega))
  have e5 : fI h2 10 5 = i_n s0 := by rw [F2.vI (by decide)]; exact e1
  obtain ⟨t4, t11, t12, -⟩ := tx f2
  have put : ∀ v, v = i_n (o_tk0 T n k) → i_P i_MT i_AT L xs 88 80 [some (.ref 10), y1] [.int v, .ref 10] h2 0 0 Q := fun v hv => by
    refine d88_80 L2 ?_
    refine sets (R := fun z => i_P i_MT i_AT L xs 88 83 [some (.ref 10), y1] [] z 0 0 Q) L2 (by omega) (fun h3 L3 F3 E3 => ?_)
    exact p83 h3 L3 (f2.trans (kF F3 (by omega))) (by rw [F3.vI (by decide)]; exact e5) (E3.trans hv) (by rw [F3.vI (by decide)]; exact E2) _
  refine d88_50 L2 ?_
  rw [t4, e5]
  by_cases q : s0 < n
  · have c5 := cl s0
    have T5 := Tl s0 q
    rw [if_pos q] at k0
    try simp (disch := omega) only [n_lit, n_m, n_add, n_mul, n_div, n_mod, n_cl, n_lt, n_le, n_eq, n_in, n_eqm, n_meq, n_mlt, n_ltm, n_mle, n_lem, not_true_eq_false, not_false_eq_true, true_implies, false_implies, true_and, and_true, Nat.not_lt_zero, Nat.zero_le, t11 s0 q, t12 s0 q]
    exact ⟨fun z => by omega, fun _ => ⟨by omega, by omega, put _ (by rw [k0])⟩⟩
  · rw [if_neg q] at k0
    try simp (disch := omega) only [n_lit, n_m, n_add, n_mul, n_div, n_mod, n_cl, n_lt, n_le, n_eq, n_in, n_eqm, n_meq, n_mlt, n_ltm, n_mle, n_lem, not_true_eq_false, not_false_eq_true, true_implies, false_implies, true_and, and_true, Nat.not_lt_zero, Nat.zero_le]
    exact ⟨fun _ => put _ (by rw [k0]), fun z => by omega⟩
end
