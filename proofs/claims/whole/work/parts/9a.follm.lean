/-! THE COURSE FOLLOWED, the class: carts, people -/
section
variable {L : Nat} {xs : Nat → Int32} {h : iH} {Q : Option Value → iH → Prop} {a : Nat → Nat} {t : Nat}
set_option maxRecDepth 20000
def i_FO (a : Nat → Nat) (t : Nat) (h : iH) : Prop := i_Lay h ∧ o_WF a ∧ i_T2 t ∧ fR h 95 1 = t ∧ i_CT a t h ∧ i_GR a h
theorem i_FO.tw (g : i_FO a t h) : i_fld h 95 0 1 = some (.ref t) := by
  have := g.1.fw (q := 95) (ci := 0) (b := 1) rfl rfl rfl
  rw [g.2.2.2.1] at this
  exact this
theorem i_FO.fr {h2 : iH} {A : List Nat} (g : i_FO a t h) (hL : i_Lay h2) (f : i_Fr A [] h h2) (hA : ∀ p, p ∈ A → 100 < p) : i_FO a t h2 := by
  obtain ⟨-, g2, g3, g4, g5, g6⟩ := g
  have nA : ∀ p, p ≤ 100 → p ∉ A := fun p hp z => by have := hA p z; omega
  refine ⟨hL, g2, g3, by rw [f.vR (by simp)]; exact g4, g5.fr f (fun k h1 h2 => nA _ (by unfold i_T2 at g3; omega)) (fun b => ⟨by simp, by simp⟩), g6.fr f (fun p hp => nA p (by simp at hp; omega)) (fun b _ => by simp)⟩
/-- where carts before k and walls are -/
def o_blk (a : Nat → Nat) (k m c : Nat) : Bool := o_wall a c || (List.range k).any (fun j => o_cart a j m == c)
theorem o_blk_s {k m c : Nat} : o_blk a (k + 1) m c = (o_blk a k m c || o_cart a k m == c) := by
  unfold o_blk
  rw [List.range_succ, List.any_append]
  simp [Bool.or_assoc]
set_option maxHeartbeats 1000000 in
theorem c2 (g : i_FO a t h) {k : Nat} (hk : k < a 3) (hB : ∀ m, m ≤ 60 → o_is (aJ h 101 m) (a 0 * a 1) (o_blk a k m)) (H : ∀ h2, i_FO a t h2 → i_Fr [101, 105] [] h h2 → (∀ m, m ≤ 60 → o_is (aJ h2 101 m) (a 0 * a 1) (o_blk a (k + 1) m)) → (∀ m, m ≤ 60 → aI h2 105 (k * 61 + m) = i_n (o_cart a k m)) → (∀ i, i < k * 61 → aI h2 105 i = aI h 105 i) → Q none h2) : i_C i_MT i_AT L xs 2 [.ref 95, .int (i_n k)] h Q := by
  obtain ⟨w, hT2⟩ := (⟨g.2.1, g.2.2.1⟩ : o_WF a ∧ i_T2 t)
  have hT := hT2.T
  have h3 := w.2.2.1
  have h48 := w.c48
  have ck := w.2.2.2.2.2.2.2.2.2.1 k hk
  have cc : ∀ h1, i_FO a t h1 → aI h1 (t + 2) k = i_n (a (114 + 10 * k)) ∧ aI h1 (t + 3) k = i_n (a (115 + 10 * k)) ∧ ∀ j, j < a (115 + 10 * k) → aI h1 (t + 4) (k * 8 + j) = i_n (a (116 + 10 * k + j)) := fun h1 g1 => g1.2.2.2.2.1.2.2.2.2.1.2 k hk
  have cok := fun m => o_cart_ok w hk m
  have key : ∀ m, m ≤ 61 → ∀ h1, i_FO a t h1 → i_Fr [101, 105] [] h h1 → (∀ j, j ≤ 60 → o_is (aJ h1 101 j) (a 0 * a 1) (o_blk a (if j < m then k + 1 else k) j)) → (∀ j, j < m → aI h1 105 (k * 61 + j) = i_n (o_cart a k j)) → (∀ i, i < k * 61 → aI h1 105 i = aI h 105 i) → ∀ (y5 : Option Value), i_P i_MT i_AT L xs 2 27 [some (.ref 95), some (.int (i_n k)), some (.int (i_n (a (115 + 10 * k)))), some (.int (i_n (o_cart a k (m - 1)))), some (.int (i_n m)), y5] [] h1 0 0 Q := by
    refine l_up ?_ ?_
    · intro h1 g1 f1 z1 z2 z3 y5
      refine d2_27 g1.1 ?_
      try simp (disch := omega) only [n_lit, n_m, n_add, n_mul, n_div, n_mod, n_cl, n_lt, n_le, n_eq, n_in, n_eqm, n_meq, n_mlt, n_ltm, n_mle, n_lem, not_true_eq_false, not_false_eq_true, true_implies, false_implies, true_and, and_true, Nat.not_lt_zero, Nat.zero_le]
      refine ⟨fun _ => H h1 g1 f1 (fun m hm => ?_) (fun m hm => z2 m (by omega)) z3, fun e => absurd (by omega) e⟩
      have := z1 m hm
      rw [if_pos (by omega)] at this
      exact this
    · intro m hm ih h1 g1 f1 z1 z2 z3 y5
      have cm := cok m
      have cm1 := cok (m - 1)
      -- the place found
      have put : ∀ (y5 : Option Value), i_P i_MT i_AT L xs 2 81 [some (.ref 95), some (.int (i_n k)), some (.int (i_n (a (115 + 10 * k)))), some (.int (i_n (o_cart a k m))), some (.int (i_n m)), y5] [] h1 0 0 Q := by
        intro y5
        refine d2_81 g1.1 ?_
        try simp (disch := omega) only [n_lit, n_m, n_add, n_mul, n_div, n_mod, n_cl, n_lt, n_le, n_eq, n_in, n_eqm, n_meq, n_mlt, n_ltm, n_mle, n_lem, not_true_eq_false, not_false_eq_true, true_implies, false_implies, true_and, and_true, Nat.not_lt_zero, Nat.zero_le]
        refine ⟨by omega, ?_⟩
        have Fi : i_Fr [105] [] h1 (i_siI h1 105 (k * 61 + m) (i_n (o_cart a k m))) := i_Fr.refl.siI (by decide)
        have g2 := g1.fr g1.1.siI Fi (by decide)
        have a105 : ∀ i, aI (i_siI h1 105 (k * 61 + m) (i_n (o_cart a k m))) 105 i = if i = k * 61 + m then i_n (o_cart a k m) else aI h1 105 i := fun i => by rw [x_aI_siI g1.1.a105, x_upd]
        generalize i_siI h1 105 (k * 61 + m) (i_n (o_cart a k m)) = h2 at Fi g2 a105 ⊢
        refine d2_94 g2.1 ?_
        try simp (disch := omega) only [n_lit, n_m, n_add, n_mul, n_div, n_mod, n_cl, n_lt, n_le, n_eq, n_in, n_eqm, n_meq, n_mlt, n_ltm, n_mle, n_lem, not_true_eq_false, not_false_eq_true, true_implies, false_implies, true_and, and_true, Nat.not_lt_zero, Nat.zero_le]
        refine ⟨by omega, by omega, ?_⟩
        have zm := z1 m (by omega)
        rw [if_neg (Nat.lt_irrefl m), ← Fi.rJ (show 101 ∉ [105] by decide)] at zm
        have Fj : i_Fr [101] [] h2 (i_siJ h2 101 m (aJ h2 101 m ||| ((1 : Int64) <<< ((i_n (o_cart a k m)).toInt64 &&& (63 : Int64))))) := i_Fr.refl.siJ (by decide)
        have g3 := g2.fr g2.1.siJ Fj (by decide)
        refine d2_107 g3.1 ?_
        try simp (disch := omega) only [n_lit, n_m, n_add, n_mul, n_div, n_mod, n_cl, n_lt, n_le, n_eq, n_in, n_eqm, n_meq, n_mlt, n_ltm, n_mle, n_lem, not_true_eq_false, not_false_eq_true, true_implies, false_implies, true_and, and_true, Nat.not_lt_zero, Nat.zero_le]
        refine ih _ g3 (f1.trans ((Fi.mono (by decide) (fun _ z => z)).trans (Fj.mono (by decide) (fun _ z => z)))) (fun j hj => ?_) (fun j hj => ?_) (fun i hi => ?_) _
        · by_cases e : j = m
          · subst e
            rw [i_siJ_at g2.1.a101, if_pos (Nat.lt_succ_self j)]
            exact (zm.or (o_is.one cm (by omega))).congr (fun c _ => by
              rw [o_blk_s]
              congr 1
              rw [Bool.eq_iff_iff, beq_iff_eq, beq_iff_eq]; exact eq_comm)
          · rw [i_siJ_no g2.1.a101 e, Fi.rJ (by decide)]
            have := z1 j hj
            by_cases q : j < m
            · rw [if_pos q] at this; rw [if_pos (by omega)]; exact this
            · rw [if_neg q] at this; rw [if_neg (by omega)]; exact this
        · rw [Fj.rI (by decide), a105]
          by_cases e : j = m
          · rw [if_pos (by omega), e]
          · rw [if_neg (by omega)]; exact z2 j (by omega)
        · rw [Fj.rI (by decide), a105, if_neg (by omega)]; exact z3 i hi
      refine d2_27 g1.1 ?_
      try simp (disch := omega) only [n_lit, n_m, n_add, n_mul, n_div, n_mod, n_cl, n_lt, n_le, n_eq, n_in, n_eqm, n_meq, n_mlt, n_ltm, n_mle, n_lem, not_true_eq_false, not_false_eq_true, true_implies, false_implies, true_and, and_true, Nat.not_lt_zero, Nat.zero_le]
      refine ⟨fun e => by omega, fun _ => ⟨fun e => ?_, fun e => ⟨t, g1.tw, hT, by omega, ?_⟩⟩⟩
      · have : m = 0 := by omega
        subst this
        exact put _
      · obtain ⟨j, rfl⟩ : ∃ j, m = j + 1 := ⟨m - 1, by omega⟩
        have hj8 : j % a (115 + 10 * k) < a (115 + 10 * k) := Nat.mod_lt _ (by omega)
        have e1 : i_n (j + 1) - i_n 1 = i_n j := n_sub (by omega)
        rw [e1]
        try simp (disch := omega) only [n_lit, n_m, n_add, n_mul, n_div, n_mod, n_cl, n_lt, n_le, n_eq, n_in, n_eqm, n_meq, n_mlt, n_ltm, n_mle, n_lem, not_true_eq_false, not_false_eq_true, true_implies, false_implies, true_and, and_true, Nat.not_lt_zero, Nat.zero_le]
        have cj := cok j
        rw [(cc h1 g1).2.2 _ hj8, show j + 1 - 1 = j by omega]
        have hl8 := ck.2.2.2 _ hj8
        refine ⟨by omega, c25 g1.1 w g1.2.2.2.2.2 cj hl8 ⟨_, rfl, d2_66 g1.1 ?_⟩⟩
        have eC : o_cart a k (j + 1) = (o_lead (a 0) (a 1) (o_cart a k j) (a (116 + 10 * k + j % a (115 + 10 * k)))).getD (o_cart a k j) := rfl
        cases hl : o_lead (a 0) (a 1) (o_cart a k j) (a (116 + 10 * k + j % a (115 + 10 * k))) with
        | none =>
          rw [hl] at eC
          refine ⟨fun e => absurd rfl e, fun _ => d2_80 g1.1 ?_⟩
          rw [eC] at put
          exact put _
        | some d =>
          have hd := o_lead_lt hl
          rw [hl] at eC
          rw [show o_op (some d) = i_n d from rfl, show ((-1 : Int32)) = i_m from rfl, n_eqm (by omega)]
          refine ⟨fun _ => d2_80 g1.1 ?_, fun e => absurd (fun z => z) e⟩
          rw [eC] at put
          exact put _
  refine e2 (d2_0 g.1 ⟨t, g.tw, hT, ?_⟩)
  rw [n_cl (by omega), (cc h g).2.1]
  refine ⟨(n_in (by omega)).mpr (by omega), c336n (x := 1) (by omega) (by omega) ⟨_, rfl, d2_13 g.1 ⟨t, g.tw, hT, ?_⟩⟩⟩
  rw [n_cl (by omega), (cc h g).1, show max 1 (a (115 + 10 * k)) = a (115 + 10 * k) by omega]
  refine ⟨(n_in (by omega)).mpr (by omega), ?_⟩
  exact key 0 (by omega) h g i_Fr.refl (fun j hj => by rw [if_neg (Nat.not_lt_zero j)]; exact hB j hj) (fun j hj => absurd hj (Nat.not_lt_zero j)) (fun _ _ => rfl) _
/-- a person's course, as far as m minutes -/
def o_pm (a : Nat → Nat) (h : iH) (p m : Nat) : Prop := ∀ j, j < m → aI h 102 (p * 61 + j) = i_n (o_cell a p j) ∧ aI h 103 (p * 61 + j) = i_n (o_look a p j) ∧ aI h 104 (p * 61 + j) = i_n (o_did a p j)
theorem o_go_eq {c l v : Nat} (hv : v < 40) : o_go a c l v = (if v / 8 = 1 ∨ v / 8 = 2 then (if o_stq a c (v % 8) ≠ c then (o_stq a c (v % 8), v % 8, v / 8) else (c, l, 0)) else if v / 8 = 3 then (c, v % 8, 3) else (c, l, v / 8)) := by
  sorry
end
