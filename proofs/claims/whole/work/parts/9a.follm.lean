/-! THE COURSE FOLLOWED, the class: carts, people -/
section
variable {L : Nat} {xs : Nat → Int32} {h : iH} {Q : Option Value → iH → Prop} {a : Nat → Nat} {t : Nat}
set_option maxRecDepth 20000
def i_FO (a : Nat → Nat) (t : Nat) (h : iH) : Prop := i_Lay h ∧ o_WF a ∧ i_T2 t ∧ fR h 95 1 = t ∧ i_CT a t h ∧ i_GR a h
theorem i_FO.tw (g : i_FO a t h) : i_fld h 95 0 1 = some (.ref t) := by
  have := g.1.fw (q := 95) (ci := 0) (b := 1) rfl rfl rfl
  rw [g.2.2.2.1] at this
  exact this
theorem i_FO.fr {h2 : iH} {A : List Nat} (g : i_FO a t h) (hL : i_Lay h2) (f : i_Fr A [] h h2) (hA : ∀ p, p ∈ A → 100 < p) : i_FO a t h2 := by
  obtain ⟨-, g2, g3, g4, g5, g6⟩ := g
  have nA : ∀ p, p ≤ 100 → p ∉ A := fun p hp z => by have := hA p z; omega
  refine ⟨hL, g2, g3, by rw [f.vR (by simp)]; exact g4, g5.fr f (fun k h1 h2 => nA _ (by unfold i_T2 at g3; omega)) (fun b => ⟨by simp, by simp⟩), g6.fr f (fun p hp => nA p (by simp at hp; omega)) (fun b _ => by simp)⟩
/-- where carts before k and walls are -/
def o_blk (a : Nat → Nat) (k m c : Nat) : Bool := o_wall a c || (List.range k).any (fun j => o_cart a j m == c)
theorem o_blk_s {k m c : Nat} : o_blk a (k + 1) m c = (o_blk a k m c || o_cart a k m == c) := by
  unfold o_blk
  rw [List.range_succ, List.any_append]
  simp [Bool.or_assoc]
set_option maxHeartbeats 1000000 in
theorem c2 (g : i_FO a t h) {k : Nat} (hk : k < a 3) (hB : ∀ m, m ≤ 60 → o_is (aJ h 101 m) (a 0 * a 1) (o_blk a k m)) (H : ∀ h2, i_FO a t h2 → i_Fr [101, 105] [] h h2 → (∀ m, m ≤ 60 → o_is (aJ h2 101 m) (a 0 * a 1) (o_blk a (k + 1) m)) → (∀ m, m ≤ 60 → aI h2 105 (k * 61 + m) = i_n (o_cart a k m)) → (∀ i, i < k * 61 → aI h2 105 i = aI h 105 i) → Q none h2) : i_C i_MT i_AT L xs 2 [.ref 95, .int (i_n k)] h Q := by
  obtain ⟨w, hT2⟩ := (⟨g.2.1, g.2.2.1⟩ : o_WF a ∧ i_T2 t)
  have hT := hT2.T
  have h3 := w.2.2.1
  have h48 := w.c48
  have ck := w.2.2.2.2.2.2.2.2.2.1 k hk
  have cc : ∀ h1, i_FO a t h1 → aI h1 (t + 2) k = i_n (a (114 + 10 * k)) ∧ aI h1 (t + 3) k = i_n (a (115 + 10 * k)) ∧ ∀ j, j < a (115 + 10 * k) → aI h1 (t + 4) (k * 8 + j) = i_n (a (116 + 10 * k + j)) := fun h1 g1 => g1.2.2.2.2.1.2.2.2.2.1.2 k hk
  have cok := fun m => o_cart_ok w hk m
  have key : ∀ m, m ≤ 61 → ∀ h1, i_FO a t h1 → i_Fr [101, 105] [] h h1 → (∀ j, j ≤ 60 → o_is (aJ h1 101 j) (a 0 * a 1) (o_blk a (if j < m then k + 1 else k) j)) → (∀ j, j < m → aI h1 105 (k * 61 + j) = i_n (o_cart a k j)) → (∀ i, i < k * 61 → aI h1 105 i = aI h 105 i) → ∀ (y5 : Option Value), i_P i_MT i_AT L xs 2 27 [some (.ref 95), some (.int (i_n k)), some (.int (i_n (a (115 + 10 * k)))), some (.int (i_n (o_cart a k (m - 1)))), some (.int (i_n m)), y5] [] h1 0 0 Q := by
    refine l_up ?_ ?_
    · intro h1 g1 f1 z1 z2 z3 y5
      refine d2_27 g1.1 ?_
      try simp (disch := omega) only [n_lit, n_m, n_add, n_mul, n_div, n_mod, n_cl, n_lt, n_le, n_eq, n_in, n_eqm, n_meq, n_mlt, n_ltm, n_mle, n_lem, not_true_eq_false, not_false_eq_true, true_implies, false_implies, true_and, and_true, Nat.not_lt_zero, Nat.zero_le]
      refine ⟨fun _ => H h1 g1 f1 (fun m hm => ?_) (fun m hm => z2 m (by omega)) z3, fun e => absurd (by omega) e⟩
      have := z1 m hm
      rw [if_pos (by omega)] at this
      exact this
    · intro m hm ih h1 g1 f1 z1 z2 z3 y5
      have cm := cok m
      have cm1 := cok (m - 1)
      -- the place found
      have put : ∀ (y5 : Option Value), i_P i_MT i_AT L xs 2 81 [some (.ref 95), some (.int (i_n k)), some (.int (i_n (a (115 + 10 * k)))), some (.int (i_n (o_cart a k m))), some (.int (i_n m)), y5] [] h1 0 0 Q := by
        intro y5
        refine d2_81 g1.1 ?_
        try simp (disch := omega) only [n_lit, n_m, n_add, n_mul, n_div, n_mod, n_cl, n_lt, n_le, n_eq, n_in, n_eqm, n_meq, n_mlt, n_ltm, n_mle, n_lem, not_true_eq_false, not_false_eq_true, true_implies, false_implies, true_and, and_true, Nat.not_lt_zero, Nat.zero_le]
        refine ⟨by omega, ?_⟩
        have Fi : i_Fr [105] [] h1 (i_siI h1 105 (k * 61 + m) (i_n (o_cart a k m))) := i_Fr.refl.siI (by decide)
        have g2 := g1.fr g1.1.siI Fi (by decide)
        have a105 : ∀ i, aI (i_siI h1 105 (k * 61 + m) (i_n (o_cart a k m))) 105 i = if i = k * 61 + m then i_n (o_cart a k m) else aI h1 105 i := fun i => by rw [x_aI_siI g1.1.a105, x_upd]
        generalize i_siI h1 105 (k * 61 + m) (i_n (o_cart a k m)) = h2 at Fi g2 a105 ⊢
        refine d2_94 g2.1 ?_
        try simp (disch := omega) only [n_lit, n_m, n_add, n_mul, n_div, n_mod, n_cl, n_lt, n_le, n_eq, n_in, n_eqm, n_meq, n_mlt, n_ltm, n_mle, n_lem, not_true_eq_false, not_false_eq_true, true_implies, false_implies, true_and, and_true, Nat.not_lt_zero, Nat.zero_le]
        refine ⟨by omega, by omega, ?_⟩
        have zm := z1 m (by omega)
        rw [if_neg (Nat.lt_irrefl m), ← Fi.rJ (show 101 ∉ [105] by decide)] at zm
        have Fj : i_Fr [101] [] h2 (i_siJ h2 101 m (aJ h2 101 m ||| ((1 : Int64) <<< ((i_n (o_cart a k m)).toInt64 &&& (63 : Int64))))) := i_Fr.refl.siJ (by decide)
        have g3 := g2.fr g2.1.siJ Fj (by decide)
        refine d2_107 g3.1 ?_
        try simp (disch := omega) only [n_lit, n_m, n_add, n_mul, n_div, n_mod, n_cl, n_lt, n_le, n_eq, n_in, n_eqm, n_meq, n_mlt, n_ltm, n_mle, n_lem, not_true_eq_false, not_false_eq_true, true_implies, false_implies, true_and, and_true, Nat.not_lt_zero, Nat.zero_le]
        refine ih _ g3 (f1.trans ((Fi.mono (by decide) (fun _ z => z)).trans (Fj.mono (by decide) (fun _ z => z)))) (fun j hj => ?_) (fun j hj => ?_) (fun i hi => ?_) _
        · by_cases e : j = m
          · subst e
            rw [i_siJ_at g2.1.a101, if_pos (Nat.lt_succ_self j)]
            exact (zm.or (o_is.one cm (by omega))).congr (fun c _ => by
              rw [o_blk_s]
              congr 1
              rw [Bool.eq_iff_iff, beq_iff_eq, beq_iff_eq]; exact eq_comm)
          · rw [i_siJ_no g2.1.a101 e, Fi.rJ (by decide)]
            have := z1 j hj
            by_cases q : j < m
            · rw [if_pos q] at this; rw [if_pos (by omega)]; exact this
            · rw [if_neg q] at this; rw [if_neg (by omega)]; exact this
        · rw [Fj.rI (by decide), a105]
          by_cases e : j = m
          · rw [if_pos (by omega), e]
          · rw [if_neg (by omega)]; exact z2 j (by omega)
        · rw [Fj.rI (by decide), a105, if_neg (by omega)]; exact z3 i hi
      refine d2_27 g1.1 ?_
      try simp (disch := omega) only [n_lit, n_m, n_add, n_mul, n_div, n_mod, n_cl, n_lt, n_le, n_eq, n_in, n_eqm, n_meq, n_mlt, n_ltm, n_mle, n_lem, not_true_eq_false, not_false_eq_true, true_implies, false_implies, true_and, and_true, Nat.not_lt_zero, Nat.zero_le]
      refine ⟨fun e => by omega, fun _ => ⟨fun e => ?_, fun e => ⟨t, g1.tw, hT, by omega, ?_⟩⟩⟩
      · have : m = 0 := by omega
        subst this
        exact put _
      · obtain ⟨j, rfl⟩ : ∃ j, m = j + 1 := ⟨m - 1, by omega⟩
        have hj8 : j % a (115 + 10 * k) < a (115 + 10 * k) := Nat.mod_lt _ (by omega)
        have e1 : i_n (j + 1) - i_n 1 = i_n j := n_sub (by omega)
        rw [e1]
        try simp (disch := omega) only [n_lit, n_m, n_add, n_mul, n_div, n_mod, n_cl, n_lt, n_le, n_eq, n_in, n_eqm, n_meq, n_mlt, n_ltm, n_mle, n_lem, not_true_eq_false, not_false_eq_true, true_implies, false_implies, true_and, and_true, Nat.not_lt_zero, Nat.zero_le]
        have cj := cok j
        rw [(cc h1 g1).2.2 _ hj8, show j + 1 - 1 = j by omega]
        have hl8 := ck.2.2.2 _ hj8
        refine ⟨by omega, c25 g1.1 w g1.2.2.2.2.2 cj hl8 ⟨_, rfl, d2_66 g1.1 ?_⟩⟩
        have eC : o_cart a k (j + 1) = (o_lead (a 0) (a 1) (o_cart a k j) (a (116 + 10 * k + j % a (115 + 10 * k)))).getD (o_cart a k j) := rfl
        cases hl : o_lead (a 0) (a 1) (o_cart a k j) (a (116 + 10 * k + j % a (115 + 10 * k))) with
        | none =>
          rw [hl] at eC
          refine ⟨fun e => absurd rfl e, fun _ => d2_80 g1.1 ?_⟩
          rw [eC] at put
          exact put _
        | some d =>
          have hd := o_lead_lt hl
          rw [hl] at eC
          rw [show o_op (some d) = i_n d from rfl, show ((-1 : Int32)) = i_m from rfl, n_eqm (by omega)]
          refine ⟨fun _ => d2_80 g1.1 ?_, fun e => absurd (fun z => z) e⟩
          rw [eC] at put
          exact put _
  refine e2 (d2_0 g.1 ⟨t, g.tw, hT, ?_⟩)
  rw [n_cl (by omega), (cc h g).2.1]
  refine ⟨(n_in (by omega)).mpr (by omega), c336n (x := 1) (by omega) (by omega) ⟨_, rfl, d2_13 g.1 ⟨t, g.tw, hT, ?_⟩⟩⟩
  rw [n_cl (by omega), (cc h g).1, show max 1 (a (115 + 10 * k)) = a (115 + 10 * k) by omega]
  refine ⟨(n_in (by omega)).mpr (by omega), ?_⟩
  exact key 0 (by omega) h g i_Fr.refl (fun j hj => by rw [if_neg (Nat.not_lt_zero j)]; exact hB j hj) (fun j hj => absurd hj (Nat.not_lt_zero j)) (fun _ _ => rfl) _
/-- a person's course, as far as m minutes -/
def o_pm (a : Nat → Nat) (h : iH) (p m : Nat) : Prop := ∀ j, j < m → aI h 102 (p * 61 + j) = i_n (o_cell a p j) ∧ aI h 103 (p * 61 + j) = i_n (o_look a p j) ∧ aI h 104 (p * 61 + j) = i_n (o_did a p j)
theorem o_stq_ne (w : o_WF a) {c k : Nat} (hc : c < a 0 * a 1) (hk : k < 8) : o_stq a c k ≠ c ↔ ∃ d, o_lead (a 0) (a 1) c k = some d ∧ o_wall a d = false := by
  have hp := w.pos hc
  unfold o_stq
  cases e : o_lead (a 0) (a 1) c k with
  | none => simp
  | some d =>
    have hd := o_lead_lt e
    have hf : o_far (a 0) d c = 1 := (o_nb (by omega) hc hd).mpr ⟨k, hk, e⟩
    have hne : d ≠ c := fun z => by rw [z, o_far0] at hf; cases hf
    cases q : o_wall a d with
    | true => simp [q]
    | false => simp [q, hne]
theorem o_go_mv (w : o_WF a) {c l v : Nat} (hc : c < a 0 * a 1) (hv : v / 8 = 1 ∨ v / 8 = 2) : o_go a c l v = (if o_stq a c (v % 8) ≠ c then (o_stq a c (v % 8), v % 8, v / 8) else (c, l, 0)) := by
  have hn := o_stq_ne w (k := v % 8) hc (by omega)
  unfold o_go
  rw [if_pos hv]
  cases e : o_lead (a 0) (a 1) c (v % 8) with
  | none =>
    rw [if_neg (by rw [hn, e]; simp)]
  | some d =>
    dsimp only
    cases q : o_wall a d with
    | true =>
      rw [if_pos rfl, if_neg (by rw [hn, e]; rintro ⟨d2, z1, z2⟩; rw [← Option.some.inj z1, q] at z2; cases z2)]
    | false =>
      rw [if_neg (by decide), if_pos (by rw [hn]; exact ⟨d, e, q⟩)]
      congr 1
      unfold o_stq
      rw [e]
      simp [q]
set_option maxHeartbeats 1000000 in
theorem c3 (g : i_FO a t h) {p : Nat} (hp : p < a 5) (H : ∀ h2, i_FO a t h2 → i_Fr [102, 103, 104] [] h h2 → o_pm a h2 p 61 → (∀ i, i < p * 61 → aI h2 102 i = aI h 102 i ∧ aI h2 103 i = aI h 103 i ∧ aI h2 104 i = aI h 104 i) → Q none h2) : i_C i_MT i_AT L xs 3 [.ref 95, .int (i_n p)] h Q := by
  obtain ⟨w, hT2⟩ := (⟨g.2.1, g.2.2.1⟩ : o_WF a ∧ i_T2 t)
  have hT := hT2.T
  have h5 := w.2.2.2.2.1
  have h48 := w.c48
  have pk := w.2.2.2.2.2.2.2.2.2.2.1 p hp
  have cc : ∀ h1, i_FO a t h1 → aI h1 (t + 9) p = i_n (a (154 + 5 * p)) ∧ aI h1 (t + 10) p = i_n (a (155 + 5 * p)) := fun h1 g1 => ⟨(g1.2.2.2.2.1.2.2.2.2.2.2.2.1.2 p hp).1, (g1.2.2.2.2.1.2.2.2.2.2.2.2.1.2 p hp).2.1⟩
  have sc : ∀ h1, i_FO a t h1 → ∀ m, m < 60 → aI h1 (t + 14) (p * 60 + m) = i_n (a (194 + 60 * p + m)) ∧ a (194 + 60 * p + m) < 40 := fun h1 g1 m hm => by
    have e1 := g1.2.2.2.2.1.2.2.2.2.2.2.2.2 (p * 60 + m) (by omega)
    have e2 := w.2.2.2.2.2.2.2.2.2.2.2 (p * 60 + m) (by omega)
    rw [show 194 + (p * 60 + m) = 194 + 60 * p + m by omega] at e1 e2
    exact ⟨e1, e2⟩
  -- three writes at one place
  have put : ∀ m, m ≤ 60 → ∀ h1, i_FO a t h1 → i_Fr [102, 103, 104] [] h h1 → o_pm a h1 p m → (∀ i, i < p * 61 → aI h1 102 i = aI h 102 i ∧ aI h1 103 i = aI h 103 i ∧ aI h1 104 i = aI h 104 i) → ∀ h2, (∀ (x y z : Int32), x = i_n (o_cell a p m) → y = i_n (o_look a p m) → z = i_n (o_did a p m) → h2 = i_siI (i_siI (i_siI h1 102 (p * 61 + m) x) 103 (p * 61 + m) y) 104 (p * 61 + m) z → i_FO a t h2 ∧ i_Fr [102, 103, 104] [] h h2 ∧ o_pm a h2 p (m + 1) ∧ (∀ i, i < p * 61 → aI h2 102 i = aI h 102 i ∧ aI h2 103 i = aI h 103 i ∧ aI h2 104 i = aI h 104 i)) := by
    intro m hm h1 g1 f1 z1 z3 h2 x y z hx hy hz e
    subst e
    have L1 := g1.1
    have L2 := L1.siI (q := 102) (i := p * 61 + m) (x := x)
    have L3 := L2.siI (q := 103) (i := p * 61 + m) (x := y)
    have L4 := L3.siI (q := 104) (i := p * 61 + m) (x := z)
    have F1 : i_Fr [102] [] h1 (i_siI h1 102 (p * 61 + m) x) := i_Fr.refl.siI (by decide)
    have F2 : i_Fr [103] [] (i_siI h1 102 (p * 61 + m) x) (i_siI (i_siI h1 102 (p * 61 + m) x) 103 (p * 61 + m) y) := i_Fr.refl.siI (by decide)
    have F3 : i_Fr [104] [] (i_siI (i_siI h1 102 (p * 61 + m) x) 103 (p * 61 + m) y) (i_siI (i_siI (i_siI h1 102 (p * 61 + m) x) 103 (p * 61 + m) y) 104 (p * 61 + m) z) := i_Fr.refl.siI (by decide)
    have F : i_Fr [102, 103, 104] [] h1 (i_siI (i_siI (i_siI h1 102 (p * 61 + m) x) 103 (p * 61 + m) y) 104 (p * 61 + m) z) := (F1.mono (by decide) (fun _ z => z)).trans ((F2.mono (by decide) (fun _ z => z)).trans (F3.mono (by decide) (fun _ z => z)))
    have A2 : ∀ i, aI (i_siI (i_siI (i_siI h1 102 (p * 61 + m) x) 103 (p * 61 + m) y) 104 (p * 61 + m) z) 102 i = if i = p * 61 + m then x else aI h1 102 i := fun i => by rw [F3.rI (by decide), F2.rI (by decide), x_aI_siI L1.a102, x_upd]
    have A3 : ∀ i, aI (i_siI (i_siI (i_siI h1 102 (p * 61 + m) x) 103 (p * 61 + m) y) 104 (p * 61 + m) z) 103 i = if i = p * 61 + m then y else aI h1 103 i := fun i => by rw [F3.rI (by decide), x_aI_siI L2.a103, x_upd, F1.rI (by decide)]
    have A4 : ∀ i, aI (i_siI (i_siI (i_siI h1 102 (p * 61 + m) x) 103 (p * 61 + m) y) 104 (p * 61 + m) z) 104 i = if i = p * 61 + m then z else aI h1 104 i := fun i => by rw [x_aI_siI L3.a104, x_upd, F2.rI (by decide), F1.rI (by decide)]
    refine ⟨g1.fr L4 F (by decide), f1.trans F, fun j hj => ?_, fun i hi => ?_⟩
    · rw [A2, A3, A4]
      by_cases q : j = m
      · subst q
        rw [if_pos rfl, if_pos rfl, if_pos rfl]
        exact ⟨hx, hy, hz⟩
      · rw [if_neg (by omega), if_neg (by omega), if_neg (by omega)]
        exact z1 j (by omega)
    · rw [A2, A3, A4, if_neg (by omega), if_neg (by omega), if_neg (by omega)]
      exact z3 i hi
  have key : ∀ m, m ≤ 61 → 1 ≤ m → ∀ h1, i_FO a t h1 → i_Fr [102, 103, 104] [] h h1 → o_pm a h1 p m → (∀ i, i < p * 61 → aI h1 102 i = aI h 102 i ∧ aI h1 103 i = aI h 103 i ∧ aI h1 104 i = aI h 104 i) → ∀ (y6 y7 y8 y9 : Option Value), i_P i_MT i_AT L xs 3 59 [some (.ref 95), some (.int (i_n p)), some (.int (i_n (o_cell a p (m - 1)))), some (.int (i_n (o_look a p (m - 1)))), some (.int (i_n (p * 61))), some (.int (i_n m)), y6, y7, y8, y9] [] h1 0 0 Q := by
    refine l_up ?_ ?_
    · intro _ h1 g1 f1 z1 z3 y6 y7 y8 y9
      refine d3_59 g1.1 ?_
      try simp (disch := omega) only [n_lit, n_m, n_add, n_mul, n_div, n_mod, n_cl, n_lt, n_le, n_eq, n_in, n_eqm, n_meq, n_mlt, n_ltm, n_mle, n_lem, not_true_eq_false, not_false_eq_true, true_implies, false_implies, true_and, and_true, Nat.not_lt_zero, Nat.zero_le]
      exact ⟨fun _ => H h1 g1 f1 z1 z3, fun e => absurd (by omega) e⟩
    · intro m hm ih hm1 h1 g1 f1 z1 z3 y6 y7 y8 y9
      obtain ⟨j, rfl⟩ : ∃ j, m = j + 1 := ⟨m - 1, by omega⟩
      rw [show j + 1 - 1 = j by omega]
      have ok := o_cr_ok w hp j (by omega)
      have ok1 := o_cr_ok w hp (j + 1) (by omega)
      obtain ⟨s1, s2⟩ := sc h1 g1 j (by omega)
      have hcr : (o_cell a p (j + 1), o_look a p (j + 1), o_did a p (j + 1)) = o_go a (o_cell a p j) (o_look a p j) (a (194 + 60 * p + j)) := rfl
      generalize hv : a (194 + 60 * p + j) = v at s1 s2 hcr
      -- the end of a minute
      have fin : ∀ (x : Nat), x = o_did a p (j + 1) → ∀ y : Option Value, i_P i_MT i_AT L xs 3 161 [some (.ref 95), some (.int (i_n p)), some (.int (i_n (o_cell a p (j + 1)))), some (.int (i_n (o_look a p (j + 1)))), some (.int (i_n (p * 61))), some (.int (i_n (j + 1))), some (.int (i_n v)), some (.int (i_n x)), some (.int (i_n (v % 8))), y] [] h1 0 0 Q := by
        intro x hx y
        subst hx
        refine d3_161 g1.1 ?_
        try simp (disch := omega) only [n_lit, n_m, n_add, n_mul, n_div, n_mod, n_cl, n_lt, n_le, n_eq, n_in, n_eqm, n_meq, n_mlt, n_ltm, n_mle, n_lem, not_true_eq_false, not_false_eq_true, true_implies, false_implies, true_and, and_true, Nat.not_lt_zero, Nat.zero_le]
        refine ⟨by omega, d3_172 (g1.1.siI) ?_⟩
        try simp (disch := omega) only [n_lit, n_m, n_add, n_mul, n_div, n_mod, n_cl, n_lt, n_le, n_eq, n_in, n_eqm, n_meq, n_mlt, n_ltm, n_mle, n_lem, not_true_eq_false, not_false_eq_true, true_implies, false_implies, true_and, and_true, Nat.not_lt_zero, Nat.zero_le]
        refine ⟨by omega, d3_183 (g1.1.siI.siI) ?_⟩
        try simp (disch := omega) only [n_lit, n_m, n_add, n_mul, n_div, n_mod, n_cl, n_lt, n_le, n_eq, n_in, n_eqm, n_meq, n_mlt, n_ltm, n_mle, n_lem, not_true_eq_false, not_false_eq_true, true_implies, false_implies, true_and, and_true, Nat.not_lt_zero, Nat.zero_le]
        refine ⟨by omega, ?_⟩
        obtain ⟨q1, q2, q3, q4⟩ := put (j + 1) (by omega) h1 g1 f1 z1 z3 _ _ _ _ rfl rfl rfl rfl
        refine d3_195 q1.1 ?_
        try simp (disch := omega) only [n_lit, n_m, n_add, n_mul, n_div, n_mod, n_cl, n_lt, n_le, n_eq, n_in, n_eqm, n_meq, n_mlt, n_ltm, n_mle, n_lem, not_true_eq_false, not_false_eq_true, true_implies, false_implies, true_and, and_true, Nat.not_lt_zero, Nat.zero_le]
        exact ih (by omega) _ q1 q2 q3 q4 _ _ _ _
      -- by what was done
      have kind : ∀ (x l : Nat), x = o_did a p (j + 1) → x ≤ 4 → (if x = 1 ∨ x = 2 ∨ x = 3 then v % 8 else l) = o_look a p (j + 1) → ∀ y : Option Value, i_P i_MT i_AT L xs 3 140 [some (.ref 95), some (.int (i_n p)), some (.int (i_n (o_cell a p (j + 1)))), some (.int (i_n l)), some (.int (i_n (p * 61))), some (.int (i_n (j + 1))), some (.int (i_n v)), some (.int (i_n x)), some (.int (i_n (v % 8))), y] [] h1 0 0 Q := by
        intro x l hx hx4 hl y
        have turn : (x = 1 ∨ x = 2 ∨ x = 3) → i_P i_MT i_AT L xs 3 158 [some (.ref 95), some (.int (i_n p)), some (.int (i_n (o_cell a p (j + 1)))), some (.int (i_n l)), some (.int (i_n (p * 61))), some (.int (i_n (j + 1))), some (.int (i_n v)), some (.int (i_n x)), some (.int (i_n (v % 8))), y] [] h1 0 0 Q := by
          intro q
          rw [if_pos q] at hl
          refine d3_158 g1.1 ?_
          have := fin x hx y
          rw [← hl] at this
          exact this
        refine d3_140 g1.1 ?_
        try simp (disch := omega) only [n_lit, n_m, n_add, n_mul, n_div, n_mod, n_cl, n_lt, n_le, n_eq, n_in, n_eqm, n_meq, n_mlt, n_ltm, n_mle, n_lem, not_true_eq_false, not_false_eq_true, true_implies, false_implies, true_and, and_true, Nat.not_lt_zero, Nat.zero_le]
        refine ⟨fun q => turn (by omega), fun q1 => ⟨fun q => turn (by omega), fun q2 => ⟨fun q => ?_, fun q => turn (by omega)⟩⟩⟩
        rw [if_neg (by omega)] at hl
        have := fin x hx y
        rw [← hl] at this
        exact this
      refine d3_59 g1.1 ?_
      try simp (disch := omega) only [n_lit, n_m, n_add, n_mul, n_div, n_mod, n_cl, n_lt, n_le, n_eq, n_in, n_eqm, n_meq, n_mlt, n_ltm, n_mle, n_lem, not_true_eq_false, not_false_eq_true, true_implies, false_implies, true_and, and_true, Nat.not_lt_zero, Nat.zero_le]
      refine ⟨fun e => by omega, fun _ => ⟨t, g1.tw, hT, ?_⟩⟩
      rw [show i_n (p * 60 + (j + 1)) - i_n 1 = i_n (p * 60 + j) from n_sub (a := p * 60 + (j + 1)) (b := 1) (by omega)]
      try simp (disch := omega) only [n_lit, n_m, n_add, n_mul, n_div, n_mod, n_cl, n_lt, n_le, n_eq, n_in, n_eqm, n_meq, n_mlt, n_ltm, n_mle, n_lem, not_true_eq_false, not_false_eq_true, true_implies, false_implies, true_and, and_true, Nat.not_lt_zero, Nat.zero_le, s1]
      have inj : ∀ {x1 x2 x3 y1 y2 y3 : Nat}, (x1, x2, x3) = (y1, y2, y3) → x1 = y1 ∧ x2 = y2 ∧ x3 = y3 := fun z => by
        simp only [Prod.mk.injEq] at z; exact z
      have mov : (v / 8 = 1 ∨ v / 8 = 2) → ∀ y9 : Option Value, i_P i_MT i_AT L xs 3 111 [some (.ref 95), some (.int (i_n p)), some (.int (i_n (o_cell a p j))), some (.int (i_n (o_look a p j))), some (.int (i_n (p * 61))), some (.int (i_n (j + 1))), some (.int (i_n v)), some (.int (i_n (v / 8))), some (.int (i_n (v % 8))), y9] [] h1 0 0 Q := by
        intro hm2 y9
        refine d3_111 g1.1 (c26 g1.1 w g1.2.2.2.2.2 ok.1 (by omega) ⟨_, rfl, d3_121 g1.1 ?_⟩)
        show (¬ i_n (o_stq a (o_cell a p j) (v % 8)) = i_n (o_cell a p j) → _) ∧ (¬ ¬ i_n (o_stq a (o_cell a p j) (v % 8)) = i_n (o_cell a p j) → _)
        have lt := o_stq_lt (w := v % 8) ok.1
        rw [n_eq (by omega) (by omega)]
        rw [o_go_mv w ok.1 hm2] at hcr
        refine ⟨fun q => d3_135 g1.1 ?_, fun q => d3_135 g1.1 ?_⟩
        · rw [if_pos q] at hcr
          obtain ⟨r1, r2, r3⟩ := inj hcr
          have := kind (v / 8) (o_look a p j) r3.symm (by omega) (by rw [if_pos (by omega), r2]) (some (.int (i_n (o_stq a (o_cell a p j) (v % 8)))))
          rw [r1] at this
          exact this
        · rw [if_neg q] at hcr
          obtain ⟨r1, r2, r3⟩ := inj hcr
          have := kind 0 (o_look a p j) r3.symm (by omega) (by rw [if_neg (by omega), r2]) (some (.int (i_n (o_cell a p j))))
          rw [r1] at this
          show i_P i_MT i_AT L xs 3 140 [some (.ref 95), some (.int (i_n p)), some (.int (i_n (o_stq a (o_cell a p j) (v % 8)))), some (.int (i_n (o_look a p j))), some (.int (i_n (p * 61))), some (.int (i_n (j + 1))), some (.int (i_n v)), some (.int (i_n 0)), some (.int (i_n (v % 8))), some (.int (i_n (o_stq a (o_cell a p j) (v % 8))))] [] h1 0 0 Q
          rw [Classical.not_not.mp q]
          exact this
      refine ⟨by omega, fun q => mov (Or.inl q) _, fun q => ⟨fun q2 => ?_, fun q2 => mov (Or.inr (Classical.not_not.mp q2)) _⟩⟩
      unfold o_go at hcr
      rw [if_neg (by omega)] at hcr
      by_cases q3 : v / 8 = 3
      · rw [if_pos q3] at hcr
        obtain ⟨r1, r2, r3⟩ := inj hcr
        have := kind (v / 8) (o_look a p j) (by rw [r3, q3]) (by omega) (by rw [if_pos (by omega), r2]) y9
        rw [r1] at this
        exact this
      · rw [if_neg q3] at hcr
        obtain ⟨r1, r2, r3⟩ := inj hcr
        have := kind (v / 8) (o_look a p j) r3.symm (by omega) (by rw [if_neg (by omega), r2]) y9
        rw [r1] at this
        exact this
  refine e3 (d3_0 g.1 ⟨t, g.tw, hT, ?_⟩)
  rw [n_cl (by omega)]
  refine ⟨(n_in (by omega)).mpr (by omega), t, g.tw, hT, (n_in (by omega)).mpr (by omega), ?_⟩
  rw [(cc h g).1, (cc h g).2]
  try simp (disch := omega) only [n_lit, n_m, n_add, n_mul, n_div, n_mod, n_cl, n_lt, n_le, n_eq, n_in, n_eqm, n_meq, n_mlt, n_ltm, n_mle, n_lem, not_true_eq_false, not_false_eq_true, true_implies, false_implies, true_and, and_true, Nat.not_lt_zero, Nat.zero_le]
  refine ⟨by omega, d3_40 g.1.siI ?_⟩
  try simp (disch := omega) only [n_lit, n_m, n_add, n_mul, n_div, n_mod, n_cl, n_lt, n_le, n_eq, n_in, n_eqm, n_meq, n_mlt, n_ltm, n_mle, n_lem, not_true_eq_false, not_false_eq_true, true_implies, false_implies, true_and, and_true, Nat.not_lt_zero, Nat.zero_le]
  refine ⟨by omega, d3_48 g.1.siI.siI ?_⟩
  try simp (disch := omega) only [n_lit, n_m, n_add, n_mul, n_div, n_mod, n_cl, n_lt, n_le, n_eq, n_in, n_eqm, n_meq, n_mlt, n_ltm, n_mle, n_lem, not_true_eq_false, not_false_eq_true, true_implies, false_implies, true_and, and_true, Nat.not_lt_zero, Nat.zero_le]
  refine ⟨by omega, ?_⟩
  obtain ⟨q1, q2, q3, q4⟩ := put 0 (by omega) h g i_Fr.refl (fun j hj => absurd hj (Nat.not_lt_zero j)) (fun i _ => ⟨rfl, rfl, rfl⟩) _ _ _ _ rfl rfl rfl rfl
  refine d3_56 q1.1 ?_
  try simp (disch := omega) only [n_lit, n_m, n_add, n_mul, n_div, n_mod, n_cl, n_lt, n_le, n_eq, n_in, n_eqm, n_meq, n_mlt, n_ltm, n_mle, n_lem, not_true_eq_false, not_false_eq_true, true_implies, false_implies, true_and, and_true, Nat.not_lt_zero, Nat.zero_le]
  exact key 1 (by omega) (Nat.le_refl 1) _ q1 q2 q3 q4 _ _ _ _
abbrev foA : List Nat := [97, 98, 99, 100, 101, 102, 103, 104, 105, 106, 107]
abbrev foF : List (Nat × Nat) := (95, 1) :: grF
set_option maxHeartbeats 1000000 in
theorem c1 (hL : i_Lay h) (w : o_WF a) (hT2 : i_T2 t) (ct : i_CT a t h) {W H : Nat} (hW : W ≤ 8) (hH : H ≤ 6) (gq : i_GQ W H h) (K : ∀ h2, i_CO a t h2 → i_Fr foA foF h h2 → Q none h2) : i_C i_MT i_AT L xs 1 [.ref 95, .ref t] h Q := by
  have hT := hT2.T
  have h3 := w.2.2.1
  have h5 := w.2.2.2.2.1
  have h48 := w.c48
  have tn : ∀ k, k ≤ 14 → t + k < 95 := fun k hk => by unfold i_T2 at hT2; omega
  have ctF : ∀ {h1 h2 : iH} {A : List Nat} {F : List (Nat × Nat)}, i_CT a t h1 → i_Fr A F h1 h2 → (∀ p, p ∈ A → 95 ≤ p) → (∀ q, q ∈ F → 95 ≤ q.1) → i_CT a t h2 := fun c f hA hF => c.fr f (fun k _ hk z => by have := hA _ z; have := tn k hk; omega) (fun b => ⟨fun z => by have := hF _ z; have := tn 0 (by omega); dsimp only at *; omega, fun z => by have := hF _ z; have := tn 7 (by omega); dsimp only at *; omega⟩)
  refine e1 (d1_0 hL hT ⟨⟨_, hL.fw (q := 95) (ci := 0) (b := 1) rfl rfl rfl⟩, ?_⟩)
  have e0 := hL.fw (q := 95) (ci := 0) (b := 1) rfl rfl rfl
  have F1 : i_Fr [] [(95, 1)] h (i_sf h 95 1 (.ref t)) := i_Fr.refl.sf (by decide)
  have L1 : i_Lay (i_sf h 95 1 (.ref t)) := hL.sf e0 (by
    unfold i_T2 at hT2
    rcases hT2 with rfl | rfl <;> rfl)
  have S1 : fR (i_sf h 95 1 (.ref t)) 95 1 = t := x_fR_sf e0
  generalize i_sf h 95 1 (.ref t) = h1 at F1 L1 S1 ⊢
  have ct1 := ctF ct F1 (by simp) (by simp)
  have tw1 : i_fld h1 95 0 1 = some (.ref t) := by
    have := L1.fw (q := 95) (ci := 0) (b := 1) rfl rfl rfl
    rw [S1] at this; exact this
  have gq1 : i_GQ W H h1 := by
    unfold i_GQ at gq ⊢
    rw [F1.vI (by decide), F1.vI (by decide), F1.vI (by decide), F1.vJ (by decide), F1.vJ (by decide), F1.vJ (by decide), F1.rI (by decide), F1.rI (by decide), F1.rJ (by decide), F1.rJ (by decide)]
    exact gq
  refine d1_5 L1 hT ⟨t, tw1, hT, c21 L1 w hT2 ct1 hW hH gq1 (fun h2 L2 f2 gr2 => ⟨rfl, d1_16 L2 hT (c348 L2 L2.a106 (by omega) (fun h3 L3 f3 z3 => ⟨rfl, d1_26 L3 hT (c349 L3 L3.a107 (by omega) (fun h4 L4 f4 z4 => ⟨rfl, ?_⟩))⟩))⟩)⟩
  have FO4 : i_FO a t h4 := by
    have c2 := ctF ct1 f2 (by decide) (by decide)
    have c3 := ctF c2 f3 (by decide) (by simp)
    have c4 := ctF c3 f4 (by decide) (by simp)
    refine ⟨L4, w, hT2, ?_, c4, ?_⟩
    · rw [f4.vR (by simp), f3.vR (by simp), f2.vR (by decide)]; exact S1
    · exact (gr2.fr f3 (by decide) (fun b _ => by simp)).fr f4 (by decide) (fun b _ => by simp)
  have Fa : i_Fr foA foF h h4 := (F1.mono (fun _ z => absurd z (by simp)) (by decide)).trans ((f2.mono (by decide) (by decide)).trans ((f3.mono (by decide) (fun _ z => absurd z (by simp))).trans (f4.mono (by decide) (fun _ z => absurd z (by simp)))))
  refine d1_34 L4 hT ⟨t, FO4.tw, hT, c348 L4 L4.a101 (by omega) (fun h5 L5 f5 z5 => ⟨rfl, d1_48 L5 hT ?_⟩)⟩
  have FO5 := FO4.fr L5 f5 (by decide)
  have Z3 : ∀ j, j < 488 → aJ h5 106 j = -1 := fun j hj => by rw [f5.rJ (by decide), f4.rJ (by decide)]; exact z3 j hj
  have Z4 : ∀ j, j < 3904 → aI h5 107 j = i_m := fun j hj => by rw [f5.rI (by decide)]; exact z4 j hj
  have Fb := Fa.trans (f5.mono (B := foA) (G := foF) (by decide) (fun _ z => absurd z (by simp)))
  -- the people
  have people : ∀ p, p ≤ a 5 → ∀ h6, i_FO a t h6 → i_Fr [101, 102, 103, 104, 105] [] h5 h6 → (∀ m, m ≤ 60 → o_is (aJ h6 101 m) (a 0 * a 1) (o_bl a m)) → (∀ k m, k < a 3 → m ≤ 60 → aI h6 105 (k * 61 + m) = i_n (o_cart a k m)) → (∀ q, q < p → o_pm a h6 q 61) → i_P i_MT i_AT L xs 1 74 [some (.ref 95), some (.ref t), some (.int (i_n p))] [] h6 0 0 Q := by
    refine l_up ?_ ?_
    · intro h6 g6 f6 zB zC zP
      refine d1_74 g6.1 hT ⟨t, g6.tw, hT, ?_⟩
      rw [g6.2.2.2.2.1.2.2.2.2.2.2.2.1.1]
      try simp (disch := omega) only [n_lit, n_m, n_add, n_mul, n_div, n_mod, n_cl, n_lt, n_le, n_eq, n_in, n_eqm, n_meq, n_mlt, n_ltm, n_mle, n_lem, not_true_eq_false, not_false_eq_true, true_implies, false_implies, true_and, and_true, Nat.not_lt_zero, Nat.zero_le, Nat.le_refl]
      refine K h6 ⟨⟨g6.1, g6.2.1, g6.2.2.1, g6.2.2.2.1, g6.2.2.2.2.1, zB, fun p m hp hm => zP p hp m (by omega), zC⟩, g6.2.2.2.2.2, fun p m hp hm => Or.inl ?_, fun p q m hp hq hm => Or.inl ?_⟩ (Fb.trans (f6.mono (by decide) (fun _ z => absurd z (by simp))))
      · rw [f6.rJ (by decide)]; exact Z3 _ (by omega)
      · rw [f6.rI (by decide)]; exact Z4 _ (by omega)
    · intro p hp ih h6 g6 f6 zB zC zP
      refine d1_74 g6.1 hT ⟨t, g6.tw, hT, ?_⟩
      rw [g6.2.2.2.2.1.2.2.2.2.2.2.2.1.1]
      try simp (disch := omega) only [n_lit, n_m, n_add, n_mul, n_div, n_mod, n_cl, n_lt, n_le, n_eq, n_in, n_eqm, n_meq, n_mlt, n_ltm, n_mle, n_lem, not_true_eq_false, not_false_eq_true, true_implies, false_implies, true_and, and_true, Nat.not_lt_zero, Nat.zero_le]
      refine ⟨fun e => by omega, fun _ => c3 g6 hp (fun h7 g7 f7 z7 k7 => ⟨rfl, d1_93 g7.1 hT ?_⟩)⟩
      try simp (disch := omega) only [n_lit, n_m, n_add, n_mul, n_div, n_mod, n_cl, n_lt, n_le, n_eq, n_in, n_eqm, n_meq, n_mlt, n_ltm, n_mle, n_lem, not_true_eq_false, not_false_eq_true, true_implies, false_implies, true_and, and_true, Nat.not_lt_zero, Nat.zero_le]
      refine ih h7 g7 (f6.trans (f7.mono (by decide) (fun _ z => z))) ?_ ?_ (fun q hq => ?_)
      · rw [f7.rJ (by decide)]; exact zB
      · rw [f7.rI (by decide)]; exact zC
      · by_cases e : q = p
        · subst e; exact z7
        · intro j hj
          have := zP q (by omega) j hj
          obtain ⟨r1, r2, r3⟩ := k7 (q * 61 + j) (by omega)
          rw [r1, r2, r3]; exact this
  -- the carts
  have carts : ∀ k, k ≤ a 3 → ∀ h6, i_FO a t h6 → i_Fr [101, 105] [] h5 h6 → (∀ m, m ≤ 60 → o_is (aJ h6 101 m) (a 0 * a 1) (o_blk a k m)) → (∀ j m, j < k → m ≤ 60 → aI h6 105 (j * 61 + m) = i_n (o_cart a j m)) → i_P i_MT i_AT L xs 1 50 [some (.ref 95), some (.ref t), some (.int (i_n k))] [] h6 0 0 Q := by
    refine l_up ?_ ?_
    · intro h6 g6 f6 zB zC
      refine d1_50 g6.1 hT ⟨t, g6.tw, hT, ?_⟩
      rw [g6.2.2.2.2.1.2.2.2.2.1.1]
      try simp (disch := omega) only [n_lit, n_m, n_add, n_mul, n_div, n_mod, n_cl, n_lt, n_le, n_eq, n_in, n_eqm, n_meq, n_mlt, n_ltm, n_mle, n_lem, not_true_eq_false, not_false_eq_true, true_implies, false_implies, true_and, and_true, Nat.not_lt_zero, Nat.zero_le, Nat.le_refl]
      exact people 0 (Nat.zero_le _) h6 g6 (f6.mono (by decide) (fun _ z => z)) zB zC (fun q hq => absurd hq (Nat.not_lt_zero q))
    · intro k hk ih h6 g6 f6 zB zC
      refine d1_50 g6.1 hT ⟨t, g6.tw, hT, ?_⟩
      rw [g6.2.2.2.2.1.2.2.2.2.1.1]
      try simp (disch := omega) only [n_lit, n_m, n_add, n_mul, n_div, n_mod, n_cl, n_lt, n_le, n_eq, n_in, n_eqm, n_meq, n_mlt, n_ltm, n_mle, n_lem, not_true_eq_false, not_false_eq_true, true_implies, false_implies, true_and, and_true, Nat.not_lt_zero, Nat.zero_le]
      refine ⟨fun e => by omega, fun _ => c2 g6 hk zB (fun h7 g7 f7 zB7 z7 k7 => ⟨rfl, d1_66 g7.1 hT ?_⟩)⟩
      try simp (disch := omega) only [n_lit, n_m, n_add, n_mul, n_div, n_mod, n_cl, n_lt, n_le, n_eq, n_in, n_eqm, n_meq, n_mlt, n_ltm, n_mle, n_lem, not_true_eq_false, not_false_eq_true, true_implies, false_implies, true_and, and_true, Nat.not_lt_zero, Nat.zero_le]
      refine ih h7 g7 (f6.trans f7) zB7 (fun j m hj hm => ?_)
      by_cases e : j = k
      · subst e; exact z7 m hm
      · rw [k7 _ (by omega)]; exact zC j m (by omega) hm
  try simp (disch := omega) only [n_lit, n_m, n_add, n_mul, n_div, n_mod, n_cl, n_lt, n_le, n_eq, n_in, n_eqm, n_meq, n_mlt, n_ltm, n_mle, n_lem, not_true_eq_false, not_false_eq_true, true_implies, false_implies, true_and, and_true, Nat.not_lt_zero, Nat.zero_le]
  refine carts 0 (Nat.zero_le _) h5 FO5 i_Fr.refl (fun m hm => ?_) (fun j m hj => absurd hj (Nat.not_lt_zero j))
  rw [z5 m (by omega)]
  exact FO4.2.2.2.2.1.2.1.congr (fun c _ => by unfold o_blk; simp)
end
