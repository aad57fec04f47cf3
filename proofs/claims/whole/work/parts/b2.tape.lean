/-! THE TAPE IS MADE -/
section
variable {L : Nat} {xs : Nat → Int32} {h : iH} {Q : Option Value → iH → Prop} {W0 : iH} {f : Nat → Int32} {g : Nat → Int64}
set_option maxRecDepth 20000
def i_WT (W0 : iH) (f : Nat → Int32) (g : Nat → Int64) : iH := (W0.set 12 (.inl (0, 256, .inl f))).set 13 (.inl (1, 33, .inr (.inl g)))
theorem wt_12 (hl : 13 < W0.length) : (i_WT W0 f g)[12]? = some (.inl (0, 256, .inl f)) := by
  unfold i_WT
  rw [List.getElem?_set_ne (by decide), List.getElem?_set_self (by omega)]
theorem wt_13 (hl : 13 < W0.length) : (i_WT W0 f g)[13]? = some (.inl (1, 33, .inr (.inl g))) := by
  unfold i_WT
  rw [List.getElem?_set_self (by rw [List.length_set]; omega)]
theorem wt_10 : (i_WT W0 f g)[10]? = W0[10]? := by
  unfold i_WT
  rw [List.getElem?_set_ne (by decide), List.getElem?_set_ne (by decide)]
theorem wt_I (hl : 13 < W0.length) : i_arI (i_WT W0 f g) 0 12 = some (256, f) := by unfold i_arI; rw [wt_12 hl]; rfl
theorem wt_J (hl : 13 < W0.length) : i_arJ (i_WT W0 f g) 13 = some (33, g) := by unfold i_arJ; rw [wt_13 hl]; rfl
theorem wt_f {b : Nat} : i_fld (i_WT W0 f g) 10 7 b = i_fld W0 10 7 b := by unfold i_fld; rw [wt_10]
theorem wt_siI (hl : 13 < W0.length) {i : Nat} {x : Int32} : i_siI (i_WT W0 f g) 12 i x = i_WT W0 (upd f i x) g := by
  unfold i_siI
  rw [wt_12 hl]
  show (i_WT W0 f g).set 12 _ = _
  unfold i_WT
  rw [List.set_comm _ _ (by decide), List.set_set]
theorem wt_siJ (hl : 13 < W0.length) {i : Nat} {x : Int64} : i_siJ (i_WT W0 f g) 13 i x = i_WT W0 f (vp_updL g i x) := by
  unfold i_siJ
  rw [wt_13 hl]
  show (i_WT W0 f g).set 13 _ = _
  unfold i_WT
  rw [List.set_set]
theorem t349 (hl : 13 < W0.length) (hf : ∀ j, f j = 0) (H : ∀ f2 : Nat → Int32, (∀ j, f2 j = if j < 256 then i_n 4 else 0) → Q none (i_WT W0 f2 g)) : i_C i_MT i_AT L xs 349 [.ref 12, .int 4] (i_WT W0 f g) Q := by
  have key : ∀ k, k ≤ 256 → ∀ f1 : Nat → Int32, (∀ j, f1 j = if j < k then i_n 4 else 0) → i_P i_MT i_AT L xs 349 5 [some (.ref 12), some (.int 4), some (.int (i_n k)), some (.int (i_n 256))] [] (i_WT W0 f1 g) 0 0 Q := by
    refine l_up ?_ ?_
    · intro f1 h1
      refine b349_5 ?_
      try simp (disch := omega) only [n_lit, n_m, n_add, n_mul, n_div, n_mod, n_cl, n_lt, n_le, n_eq, n_in, n_eqm, n_meq, n_mlt, n_ltm, n_mle, n_lem, not_true_eq_false, not_false_eq_true, true_implies, false_implies, true_and, and_true, Nat.not_lt_zero, Nat.zero_le, Nat.le_refl]
      exact H f1 h1
    · intro k hk ih f1 h1
      refine b349_5 ?_
      try simp (disch := omega) only [n_lit, n_m, n_add, n_mul, n_div, n_mod, n_cl, n_lt, n_le, n_eq, n_in, n_eqm, n_meq, n_mlt, n_ltm, n_mle, n_lem, not_true_eq_false, not_false_eq_true, true_implies, false_implies, true_and, and_true, Nat.not_lt_zero, Nat.zero_le]
      refine ⟨fun z => by omega, fun _ => ⟨256, f1, wt_I hl, fun z => ?_, b349_14 ?_⟩⟩
      · rcases z with z | z
        · exact z.elim
        · omega
      · rw [wt_siI hl]
        try simp (disch := omega) only [n_lit, n_m, n_add, n_mul, n_div, n_mod, n_cl, n_lt, n_le, n_eq, n_in, n_eqm, n_meq, n_mlt, n_ltm, n_mle, n_lem, not_true_eq_false, not_false_eq_true, true_implies, false_implies, true_and, and_true, Nat.not_lt_zero, Nat.zero_le]
        refine ih _ (fun j => ?_)
        rw [x_upd, h1]
        by_cases q : j = k
        · rw [if_pos q, if_pos (by omega)]
        · rw [if_neg q]
          by_cases q2 : j < k
          · rw [if_pos q2, if_pos (by omega)]
          · rw [if_neg q2, if_neg (by omega)]
  exact e349 (b349_0 ⟨256, f, wt_I hl, key 0 (by omega) f (fun j => by rw [hf, if_neg (by omega)])⟩)
def i_F12 : Nat → Int32 := fun i => if i < 256 then i_n (o_cc i) else 0
theorem i_oA6 : i_oA L xs 6 = none := rfl
def o_ka (i : Nat) : Nat := (i_TX1.getD i 0).toNatClampNeg
theorem o_ka_3 : ∀ i : Fin 145, ((((i_TX1.getD i.val 0) &&& (255 : Int32)).toUInt32 % 65536).toInt32) = i_n (o_ka i.val) ∧ i_ret (some .char) (i_n (o_ka i.val)) = true ∧ o_ka i.val < 256 := by decide +kernel
theorem t338 (H : Q (some (.int (i_n 145))) h) : i_C i_MT i_AT L xs 338 [.retAddr 5] h Q := by
  refine e338 (b338_0 ⟨6, rfl, i_TX1, i_oA6, rfl, rfl, e340 (b340_0 ⟨fun z => absurd z (by decide), fun _ => ⟨0, rfl, b340_14 ⟨by decide, _, rfl, b338_9 ?_⟩⟩⟩)⟩)
  have : (Int32.ofNat i_TX1.length) >>> ((0 : Int32) &&& 31) = i_n 145 := by decide +kernel
  rw [this]
  exact H
theorem t339 {i : Nat} (hi : i < 145) (H : Q (some (.int (i_n (o_ka i)))) h) : i_C i_MT i_AT L xs 339 [.retAddr 5, .int (i_n i)] h Q := by
  have kb := o_ka_3 ⟨i, hi⟩
  dsimp only at kb
  have hl : i_TX1.length = 145 := by decide +kernel
  have h0 : ¬ i_n i < 0 := by
    rw [show (0 : Int32) = i_n 0 from rfl, n_lt (by omega) (by omega)]
    omega
  refine e339 (b339_0 ⟨rfl, e341 (b341_0 ⟨fun z => absurd z (by decide), fun _ => ⟨0, rfl, fun z => absurd rfl z, fun _ => b341_18 ⟨rfl, _, rfl, b339_4 ⟨fun z => absurd z (by decide), fun _ => ⟨6, rfl, e343 (b343_0 ⟨i_TX1, i_oA6, rfl, c342 h0 ?_ ⟨rfl, b343_6 ⟨i_TX1, rfl, ?_, ?_⟩⟩⟩)⟩⟩⟩⟩⟩)⟩)
  · rw [hl]
    show i_n i < i_n 145
    rw [n_lt (by omega) (by omega)]
    exact hi
  · rw [hl, n_cl (by omega)]
    rintro (z | z)
    · exact h0 z
    · omega
  · rw [n_cl (by omega), kb.1]
    exact ⟨kb.2.1, _, rfl, b339_15 ⟨kb.2.1, H⟩⟩
/-- the words' codes, letter by letter -/
def o_ws : Nat → Nat × (Nat → Int64)
  | 0 => (0, fun _ => 0)
  | i + 1 => if o_ka i = 32 then ((o_ws i).1 + 1, (o_ws i).2) else if 33 ≤ (o_ws i).1 then o_ws i else ((o_ws i).1, vp_updL (o_ws i).2 (o_ws i).1 ((((o_ws i).2 (o_ws i).1) <<< ((5 : Int32).toInt64 &&& 63)) ||| ((((i_n (o_ka i)) - (97 : Int32)) + (1 : Int32)).toInt64)))
theorem o_ws_1 : ∀ i, (o_ws i).1 ≤ i ∧ ∀ w, 33 ≤ w → (o_ws i).2 w = 0
  | 0 => ⟨Nat.le_refl _, fun _ _ => rfl⟩
  | i + 1 => by
    have ih := o_ws_1 i
    rw [o_ws]
    split
    · exact ⟨by dsimp only; omega, ih.2⟩
    split
    · exact ⟨by omega, ih.2⟩
    · refine ⟨by dsimp only; omega, fun w hw => ?_⟩
      dsimp only
      rw [x_updJ, if_neg (by omega)]
      exact ih.2 w hw
set_option maxRecDepth 100000 in
theorem o_ws_e : ∀ w : Fin 33, (o_ws 145).2 w.val = i_j (o_kc w.val) := by decide +kernel
theorem o_cc_e : ∀ i : Fin 256, (if i.val = 10 then i_n 5 else if i.val = 32 then i_n 5 else if i.val = 59 then i_n 3 else if 48 ≤ i.val ∧ i.val < 58 then i_n 1 else if 97 ≤ i.val ∧ i.val < 123 then i_n 2 else i_n 4) = i_n (o_cc i.val) := by decide +kernel
def i_F13 : Nat → Int64 := fun w => if w < 33 then i_j (o_kc w) else 0
set_option maxHeartbeats 2000000 in
/-- behind the fields: to its end -/
theorem t82 (hl : 13 < W0.length) (e1 : i_fld W0 10 7 1 = some (.ref 12)) (e2 : i_fld W0 10 7 2 = some (.ref 13)) (hf : ∀ j, f j = if j < 256 then i_n 4 else 0) {x1 x2 x3 : Option Value} (H : Q none (i_WT W0 i_F12 i_F13)) : i_P i_MT i_AT L xs 82 88 [some (.ref 10), x1, x2, x3] [] (i_WT W0 f (fun _ => 0)) 3 1189 Q := by
  have words : ∀ i, i ≤ 145 → ∀ x3, i_P i_MT i_AT L xs 82 160 [some (.ref 10), some (.int (i_n (o_ws i).1)), some (.int (i_n i)), x3] [] (i_WT W0 i_F12 (o_ws i).2) 3 1189 Q := by
    refine l_up ?_ ?_
    · intro x3
      refine b82_160 ⟨rfl, t338 ⟨_, rfl, b82_166 ⟨fun _ => ?_, fun q => absurd (show i_n 145 ≤ i_n 145 from Int32.le_refl _) q⟩⟩⟩
      have : (o_ws 145).2 = i_F13 := by
        funext w
        unfold i_F13
        by_cases q : w < 33
        · rw [if_pos q]; exact o_ws_e ⟨w, q⟩
        · rw [if_neg q]; exact (o_ws_1 145).2 w (by omega)
      rw [this]
      exact H
    · intro i hi ih x3
      have wl := (o_ws_1 i).1
      have kb := (o_ka_3 ⟨i, hi⟩).2.2
      dsimp only at kb
      refine b82_160 ⟨rfl, t338 ⟨_, rfl, b82_166 ⟨fun q => ?_, fun _ => ⟨rfl, t339 hi ⟨_, rfl, b82_175 ?_⟩⟩⟩⟩⟩
      · rw [n_le (by omega) (by omega)] at q; omega
      rw [o_ws] at ih
      have e32 : (i_n (o_ka i) = (32 : Int32)) ↔ o_ka i = 32 := by rw [show (32 : Int32) = i_n 32 from rfl, n_eq (by omega) (by omega)]
      rw [e32]
      refine ⟨fun q => ⟨fun q2 => b82_216 ?_, fun q2 => ⟨13, by rw [wt_f]; exact e2, 13, by rw [wt_f]; exact e2, 33, _, wt_J hl, ?_, 33, _, wt_J hl, ?_, b82_216 ?_⟩⟩, fun q => b82_216 ?_⟩
      · rw [show (33 : Int32) = i_n 33 from rfl, n_le (by omega) (by omega)] at q2
        rw [if_neg q, if_pos q2] at ih
        try simp (disch := omega) only [n_lit, n_m, n_add, n_mul, n_div, n_mod, n_cl, n_lt, n_le, n_eq, n_in, n_eqm, n_meq, n_mlt, n_ltm, n_mle, n_lem, not_true_eq_false, not_false_eq_true, true_implies, false_implies, true_and, and_true, Nat.not_lt_zero, Nat.zero_le]
        exact ih _
      · rw [show (33 : Int32) = i_n 33 from rfl, n_le (by omega) (by omega)] at q2
        try simp (disch := omega) only [n_lit, n_m, n_add, n_mul, n_div, n_mod, n_cl, n_lt, n_le, n_eq, n_in, n_eqm, n_meq, n_mlt, n_ltm, n_mle, n_lem, not_true_eq_false, not_false_eq_true, true_implies, false_implies, true_and, and_true, Nat.not_lt_zero, Nat.zero_le]
        rintro (z | z)
        · exact z.elim
        · omega
      · rw [show (33 : Int32) = i_n 33 from rfl, n_le (by omega) (by omega)] at q2
        try simp (disch := omega) only [n_lit, n_m, n_add, n_mul, n_div, n_mod, n_cl, n_lt, n_le, n_eq, n_in, n_eqm, n_meq, n_mlt, n_ltm, n_mle, n_lem, not_true_eq_false, not_false_eq_true, true_implies, false_implies, true_and, and_true, Nat.not_lt_zero, Nat.zero_le]
        rintro (z | z)
        · exact z.elim
        · omega
      · rw [show (33 : Int32) = i_n 33 from rfl, n_le (by omega) (by omega)] at q2
        rw [if_neg q, if_neg q2] at ih
        rw [wt_siJ hl, n_cl (by omega), show i_n i + 1 = i_n (i + 1) from n_add i 1]
        exact ih _
      · rw [if_pos (Classical.not_not.mp q)] at ih
        dsimp only at ih
        try simp (disch := omega) only [n_lit, n_m, n_add, n_mul, n_div, n_mod, n_cl, n_lt, n_le, n_eq, n_in, n_eqm, n_meq, n_mlt, n_ltm, n_mle, n_lem, not_true_eq_false, not_false_eq_true, true_implies, false_implies, true_and, and_true, Nat.not_lt_zero, Nat.zero_le]
        exact ih _
  have lets : ∀ k, k ≤ 123 → 97 ≤ k → ∀ f1 : Nat → Int32, (∀ j, f1 j = if 48 ≤ j ∧ j < 58 then i_n 1 else if 97 ≤ j ∧ j < k then i_n 2 else if j < 256 then i_n 4 else 0) → ∀ x2 x3, i_P i_MT i_AT L xs 82 113 [some (.ref 10), some (.int (i_n k)), x2, x3] [] (i_WT W0 f1 (fun _ => 0)) 3 1189 Q := by
    refine l_up ?_ ?_
    · intro _ f1 h1 x2 x3
      refine b82_113 ⟨fun _ => ⟨12, by rw [wt_f]; exact e1, 256, _, wt_I hl, by decide, b82_140 ?_⟩, fun q => absurd (by decide) q⟩
      rw [wt_siI hl]
      refine ⟨12, by rw [wt_f]; exact e1, 256, _, wt_I hl, by decide, b82_148 ?_⟩
      rw [wt_siI hl]
      refine ⟨12, by rw [wt_f]; exact e1, 256, _, wt_I hl, by decide, b82_156 ?_⟩
      rw [wt_siI hl]
      have : upd (upd (upd f1 (59 : Int32).toNatClampNeg (3 : Int32)) (32 : Int32).toNatClampNeg (5 : Int32)) (10 : Int32).toNatClampNeg (5 : Int32) = i_F12 := by
        funext j
        rw [x_upd, x_upd, x_upd, h1, show (59 : Int32).toNatClampNeg = 59 by decide, show (32 : Int32).toNatClampNeg = 32 by decide, show (10 : Int32).toNatClampNeg = 10 by decide, show (5 : Int32) = i_n 5 from rfl, show (3 : Int32) = i_n 3 from rfl]
        unfold i_F12
        by_cases q : j < 256
        · rw [if_pos q, if_pos q]
          exact o_cc_e ⟨j, q⟩
        · rw [if_neg q, if_neg q, if_neg (by omega), if_neg (by omega), if_neg (by omega), if_neg (by omega), if_neg (by omega)]
      rw [this]
      exact words 0 (by omega) x3
    · intro k hk ih hk1 f1 h1 x2 x3
      refine b82_113 ⟨fun q => ?_, fun _ => ⟨12, by rw [wt_f]; exact e1, 256, _, wt_I hl, ?_, b82_126 ?_⟩⟩
      · rw [show (122 : Int32) = i_n 122 from rfl, n_lt (by omega) (by omega)] at q; omega
      · try simp (disch := omega) only [n_lit, n_m, n_add, n_mul, n_div, n_mod, n_cl, n_lt, n_le, n_eq, n_in, n_eqm, n_meq, n_mlt, n_ltm, n_mle, n_lem, not_true_eq_false, not_false_eq_true, true_implies, false_implies, true_and, and_true, Nat.not_lt_zero, Nat.zero_le]
        rintro (z | z)
        · exact z.elim
        · omega
      · rw [wt_siI hl]
        try simp (disch := omega) only [n_lit, n_m, n_add, n_mul, n_div, n_mod, n_cl, n_lt, n_le, n_eq, n_in, n_eqm, n_meq, n_mlt, n_ltm, n_mle, n_lem, not_true_eq_false, not_false_eq_true, true_implies, false_implies, true_and, and_true, Nat.not_lt_zero, Nat.zero_le]
        refine ih (by omega) _ (fun j => ?_) _ _
        rw [x_upd, h1]
        by_cases q : j = k
        · subst q; rw [if_pos rfl, if_neg (by omega), if_pos (by omega)]
        · rw [if_neg q]
          by_cases q2 : 48 ≤ j ∧ j < 58
          · rw [if_pos q2, if_pos q2]
          · rw [if_neg q2, if_neg q2]
            by_cases q3 : 97 ≤ j ∧ j < k
            · rw [if_pos q3, if_pos (by omega)]
            · rw [if_neg q3, if_neg (show ¬ (97 ≤ j ∧ j < k + 1) by omega)]
  have digs : ∀ k, k ≤ 58 → 48 ≤ k → ∀ f1 : Nat → Int32, (∀ j, f1 j = if 48 ≤ j ∧ j < k then i_n 1 else if j < 256 then i_n 4 else 0) → ∀ x2 x3, i_P i_MT i_AT L xs 82 91 [some (.ref 10), some (.int (i_n k)), x2, x3] [] (i_WT W0 f1 (fun _ => 0)) 3 1189 Q := by
    refine l_up ?_ ?_
    · intro _ f1 h1 x2 x3
      refine b82_91 ⟨fun _ => lets 97 (by omega) (by omega) f1 (fun j => ?_) x2 x3, fun q => absurd (by decide) q⟩
      rw [h1]
      by_cases q2 : 48 ≤ j ∧ j < 58
      · rw [if_pos q2, if_pos q2]
      · rw [if_neg q2, if_neg q2, if_neg (show ¬ (97 ≤ j ∧ j < 97) by omega)]
    · intro k hk ih hk1 f1 h1 x2 x3
      refine b82_91 ⟨fun q => ?_, fun _ => ⟨12, by rw [wt_f]; exact e1, 256, _, wt_I hl, ?_, b82_104 ?_⟩⟩
      · rw [show (57 : Int32) = i_n 57 from rfl, n_lt (by omega) (by omega)] at q; omega
      · try simp (disch := omega) only [n_lit, n_m, n_add, n_mul, n_div, n_mod, n_cl, n_lt, n_le, n_eq, n_in, n_eqm, n_meq, n_mlt, n_ltm, n_mle, n_lem, not_true_eq_false, not_false_eq_true, true_implies, false_implies, true_and, and_true, Nat.not_lt_zero, Nat.zero_le]
        rintro (z | z)
        · exact z.elim
        · omega
      · rw [wt_siI hl]
        try simp (disch := omega) only [n_lit, n_m, n_add, n_mul, n_div, n_mod, n_cl, n_lt, n_le, n_eq, n_in, n_eqm, n_meq, n_mlt, n_ltm, n_mle, n_lem, not_true_eq_false, not_false_eq_true, true_implies, false_implies, true_and, and_true, Nat.not_lt_zero, Nat.zero_le]
        refine ih (by omega) _ (fun j => ?_) _ _
        rw [x_upd, h1]
        by_cases q : j = k
        · subst q; rw [if_pos rfl, if_pos (by omega)]
        · rw [if_neg q]
          by_cases q2 : 48 ≤ j ∧ j < k
          · rw [if_pos q2, if_pos (by omega)]
          · rw [if_neg q2, if_neg (show ¬ (48 ≤ j ∧ j < k + 1) by omega)]
  exact b82_88 (digs 48 (by omega) (by omega) f (fun j => by rw [hf, if_neg (show ¬ (48 ≤ j ∧ j < 48) by omega)]) x2 x3)
end
