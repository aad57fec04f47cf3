/-! HUNTED, the class -/
section
variable {L : Nat} {xs : Nat → Int32} {h : iH} {Q : Option Value → iH → Prop} {a : Nat → Nat} {t : Nat}
set_option maxRecDepth 20000
def o_aln (P : Nat → Bool) (n : Nat) : Bool := (List.range n).all P
theorem o_aln_t {P : Nat → Bool} {n : Nat} : o_aln P n = true ↔ ∀ c, c < n → P c = true := by
  unfold o_aln; simp
/-- caught within k rounds -/
def o_ht (a : Nat → Nat) : Nat → Nat → Nat → Bool
  | 0, u, c => u == c
  | k + 1, u, c => o_ht a k u c || ((!o_wall a u && !o_wall a c) && o_or (fun u1 => o_okm a u u1 && (u1 == c || o_aln (fun c1 => !o_okm a c c1 || o_ht a k u1 c1) (a 0 * a 1))) (a 0 * a 1))
/-- wherever the hunted goes from c, the hunter at u has it -/
def o_sf (a : Nat → Nat) (k u c : Nat) : Bool := u == c || ((!o_wall a c && o_ht a k u c) && !o_bes a (fun b => !o_wall a b && !o_ht a k u b) c)
theorem o_ht_t {k u c : Nat} : o_ht a (k + 1) u c = true ↔ o_ht a k u c = true ∨ (o_wall a u = false ∧ o_wall a c = false ∧ ∃ u1, u1 < a 0 * a 1 ∧ o_okm a u u1 = true ∧ (u1 = c ∨ ∀ c1, c1 < a 0 * a 1 → o_okm a c c1 = true → o_ht a k u1 c1 = true)) := by
  rw [o_ht, Bool.or_eq_true, Bool.and_eq_true, Bool.and_eq_true, o_or_t]
  simp only [Bool.not_eq_true', Bool.and_eq_true, Bool.or_eq_true, beq_iff_eq, o_aln_t]
  constructor
  · rintro (z | ⟨⟨z1, z2⟩, u1, z3, z4, z5⟩)
    · exact Or.inl z
    · refine Or.inr ⟨z1, z2, u1, z3, z4, z5.imp id (fun z c1 h1 h2 => ?_)⟩
      rcases z c1 h1 with q | q
      · rw [h2] at q; cases q
      · exact q
  · rintro (z | ⟨z1, z2, u1, z3, z4, z5⟩)
    · exact Or.inl z
    · refine Or.inr ⟨⟨z1, z2⟩, u1, z3, z4, z5.imp id (fun z c1 h1 => ?_)⟩
      cases q : o_okm a c c1 with
      | false => exact Or.inl rfl
      | true => exact Or.inr (z c1 h1 q)
theorem o_sf_t {k u c : Nat} (hc : c < a 0 * a 1) (hw : o_wall a c = false) : o_sf a k u c = true ↔ u = c ∨ ∀ c1, c1 < a 0 * a 1 → o_okm a c c1 = true → o_ht a k u c1 = true := by
  unfold o_sf
  rw [Bool.or_eq_true, beq_iff_eq, hw]
  refine or_congr_right ?_
  rw [Bool.and_eq_true, Bool.and_eq_true, show ((!o_bes a (fun b => !o_wall a b && !o_ht a k u b) c) = true ↔ ¬ (o_bes a (fun b => !o_wall a b && !o_ht a k u b) c = true)) by simp, o_bes_t]
  constructor
  · rintro ⟨⟨-, z1⟩, z2⟩ c1 h1 h2
    rcases o_okm_t.mp h2 with rfl | ⟨q1, q2⟩
    · exact z1
    · cases q : o_ht a k u c1 with
      | true => rfl
      | false => exact absurd ⟨hw, c1, h1, by rw [q2, q]; rfl, by rw [o_far_sym]; exact q1⟩ z2
  · intro z
    refine ⟨⟨rfl, z c hc (o_okm_t.mpr (Or.inl rfl))⟩, ?_⟩
    rintro ⟨-, b, q1, q2, q3⟩
    rw [Bool.and_eq_true, Bool.not_eq_true', Bool.not_eq_true'] at q2
    have := z b q1 (o_okm_t.mpr (Or.inr ⟨by rw [o_far_sym]; exact q3, q2.1⟩))
    rw [q2.2] at this; cases this
/-- a step of the hunter, where the class takes it -/
def o_stq (a : Nat → Nat) (u w : Nat) : Nat := match o_lead (a 0) (a 1) u w with
  | some t => if o_wall a t then u else t
  | none => u
theorem o_stq_lt {u w : Nat} (hu : u < a 0 * a 1) : o_stq a u w < a 0 * a 1 := by
  unfold o_stq
  split
  · rename_i t e
    split
    · exact hu
    · exact o_lead_lt e
  · exact hu
theorem o_stq_free {u w : Nat} (hw : o_wall a u = false) : o_wall a (o_stq a u w) = false := by
  unfold o_stq
  split
  · rename_i t e
    by_cases q : o_wall a t = true
    · rw [if_pos q]; exact hw
    · rw [if_neg q]; simpa using q
  · exact hw
theorem o_ht_row (w : o_WF a) {k u c : Nat} (hu : u < a 0 * a 1) (hc : c < a 0 * a 1) (hw : o_wall a u = false) : ((o_ht a k u c || o_sf a k u c) || o_or (fun j => o_sf a k (o_stq a u j) c) 8) = o_ht a (k + 1) u c := by
  have hp := w.pos hu
  rw [Bool.eq_iff_iff, o_ht_t, Bool.or_eq_true, Bool.or_eq_true, o_or_t, or_assoc]
  refine or_congr_right ?_
  have stq : ∀ j, o_okm a u (o_stq a u j) = true ∨ 8 ≤ j := fun j => by
    by_cases hj : j < 8
    · refine Or.inl (o_okm_t.mpr ?_)
      unfold o_stq
      split
      · rename_i t e
        have ht := o_lead_lt e
        cases q : o_wall a t with
        | true => exact Or.inl (by simp)
        | false =>
          refine Or.inr ⟨?_, by simpa using q⟩
          rw [if_neg (by simp)]
          rw [o_far_sym]
          exact (o_nb (by omega) hu ht).mpr ⟨j, hj, e⟩
      · exact Or.inl rfl
    · exact Or.inr (by omega)
  have wall_ok : ∀ u1, o_okm a u u1 = true → o_wall a u1 = false := fun u1 z => by
    rcases o_okm_t.mp z with rfl | ⟨-, z⟩
    · exact hw
    · exact z
  constructor
  · intro z
    have : ∃ u1, u1 < a 0 * a 1 ∧ o_okm a u u1 = true ∧ o_sf a k u1 c = true := by
      rcases z with z | ⟨j, h1, h2⟩
      · exact ⟨u, hu, o_okm_t.mpr (Or.inl rfl), z⟩
      · rcases stq j with q | q
        · exact ⟨_, o_stq_lt hu, q, h2⟩
        · omega
    obtain ⟨u1, h1, h2, h3⟩ := this
    have hwc : o_wall a c = false := by
      unfold o_sf at h3
      rw [Bool.or_eq_true, Bool.and_eq_true, Bool.and_eq_true, beq_iff_eq, Bool.not_eq_true'] at h3
      rcases h3 with rfl | h3
      · exact wall_ok _ h2
      · exact h3.1.1
    exact ⟨hw, hwc, u1, h1, h2, (o_sf_t hc hwc).mp h3⟩
  · rintro ⟨-, hwc, u1, h1, h2, h3⟩
    have h3 := (o_sf_t hc hwc).mpr h3
    rcases o_okm_t.mp h2 with rfl | ⟨q1, q2⟩
    · exact Or.inl h3
    · rw [o_far_sym] at q1
      obtain ⟨j, r1, r2⟩ := (o_nb (by omega) hu h1).mp q1
      refine Or.inr ⟨j, r1, ?_⟩
      have : o_stq a u j = u1 := by
        unfold o_stq
        rw [r2]
        simp [q2]
      rw [this]; exact h3
/-- something is new in round k -/
def o_hr (a : Nat → Nat) (k u : Nat) : Bool := !o_wall a u && o_or (fun c => o_ht a (k + 1) u c && !o_ht a k u c) (a 0 * a 1)
def o_hc (a : Nat → Nat) (k : Nat) : Bool := o_or (o_hr a k) (a 0 * a 1)
theorem o_is.eqv {s s2 : Int64} {n : Nat} {P P2 : Nat → Bool} (x : o_is s n P) (y : o_is s2 n P2) (hn : n ≤ 64) : s = s2 ↔ ∀ c, c < n → P c = P2 c := by
  constructor
  · intro e c hc
    have h1 := x c (by omega)
    have h2 := y c (by omega)
    rw [e, h2] at h1
    simpa [hc] using h1.symm
  · intro z
    refine j_ext (fun c hc => ?_)
    rw [x c hc, y c hc]
    by_cases q : c < n
    · rw [z c q]
    · simp [q]
set_option maxHeartbeats 1000000 in
theorem c61 (g : i_CO a t h) {k : Nat} (hW : ∀ u, u < a 0 * a 1 → o_wall a u = false → o_is (aJ h 131 u) (a 0 * a 1) (o_ht a k u)) (H : ∀ h2, i_CO a t h2 → i_Fr [131, 132] [] h h2 → (∀ u, u < a 0 * a 1 → o_wall a u = false → o_is (aJ h2 131 u) (a 0 * a 1) (o_ht a (k + 1) u)) → Q (some (.int (i_bo (o_hc a k = true)))) h2) : i_C i_MT i_AT L xs 61 [.ref 121] h Q := by
  have h48 := g.w.c48
  have F1 : ∀ {h1 h2 : iH}, i_Fr [131] [] h1 h2 → i_Fr [131, 132] [] h1 h2 := fun f => f.mono (by decide) (fun _ z => z)
  have F2 : ∀ {h1 h2 : iH}, i_Fr [132] [] h1 h2 → i_Fr [131, 132] [] h1 h2 := fun f => f.mono (by decide) (fun _ z => z)
  have gfr : ∀ {h1 h2 : iH}, i_CO a t h1 → i_Lay h2 → i_Fr [131, 132] [] h1 h2 → i_CO a t h2 := fun g1 L2 f => g1.fr L2 f (by decide) (fun q z => absurd z (by simp))
  -- the rows
  have rows : ∀ u, u ≤ a 0 * a 1 → ∀ h1, i_CO a t h1 → i_Fr [131, 132] [] h h1 → (∀ v, v < a 0 * a 1 → o_wall a v = false → o_is (aJ h1 132 v) (a 0 * a 1) (o_sf a k v)) → (∀ v, v < u → o_wall a v = false → o_is (aJ h1 131 v) (a 0 * a 1) (o_ht a (k + 1) v)) → (∀ v, u ≤ v → v < a 0 * a 1 → o_wall a v = false → o_is (aJ h1 131 v) (a 0 * a 1) (o_ht a k v)) → ∀ (y4 y5 y6 : Option Value), i_P i_MT i_AT L xs 61 74 [some (.ref 121), some (.ref 96), some (.int (i_bo (o_or (o_hr a k) u = true))), some (.int (i_n u)), y4, y5, y6] [] h1 0 0 Q := by
    refine l_up ?_ ?_
    · intro h1 g1 f1 hS hN _ y4 y5 y6
      refine d61_74 g1.l ?_
      rw [g1.2.1.1.2.2]
      try simp (disch := omega) only [n_lit, n_m, n_add, n_mul, n_div, n_mod, n_cl, n_lt, n_le, n_eq, n_in, n_eqm, n_meq, n_mlt, n_ltm, n_mle, n_lem, not_true_eq_false, not_false_eq_true, true_implies, false_implies, true_and, and_true, Nat.not_lt_zero, Nat.zero_le, Nat.le_refl]
      exact ⟨i_bo_ret, H h1 g1 f1 (fun u hu hw => hN u hu hw)⟩
    · intro u hu ih h1 g1 f1 hS hN hO y4 y5 y6
      have fin : ∀ (X : Int64) (b : Bool), b = o_or (o_hr a k) (u + 1) → (o_wall a u = false → o_is X (a 0 * a 1) (o_ht a (k + 1) u)) → ∀ y : Int32,  i_P i_MT i_AT L xs 61 155 [some (.ref 121), some (.ref 96), some (.int (i_bo (b = true))), some (.int (i_n u)), some (.long X), none, some (.int y)] [] h1 0 0 Q := by
        intro X b hb hX y 
        refine d61_155 g1.l ?_
        try simp (disch := omega) only [n_lit, n_m, n_add, n_mul, n_div, n_mod, n_cl, n_lt, n_le, n_eq, n_in, n_eqm, n_meq, n_mlt, n_ltm, n_mle, n_lem, not_true_eq_false, not_false_eq_true, true_implies, false_implies, true_and, and_true, Nat.not_lt_zero, Nat.zero_le]
        have Fi : i_Fr [131] [] h1 (i_siJ h1 131 u X) := i_Fr.refl.siJ (by decide)
        have g2 := gfr g1 g1.l.siJ (F1 Fi)
        refine ⟨by omega, d61_163 g2.l ?_⟩
        try simp (disch := omega) only [n_lit, n_m, n_add, n_mul, n_div, n_mod, n_cl, n_lt, n_le, n_eq, n_in, n_eqm, n_meq, n_mlt, n_ltm, n_mle, n_lem, not_true_eq_false, not_false_eq_true, true_implies, false_implies, true_and, and_true, Nat.not_lt_zero, Nat.zero_le]
        rw [hb]
        refine ih _ g2 (f1.trans (F1 Fi)) (fun v hv hw => ?_) (fun v hv hw => ?_) (fun v h1 h2 hw => ?_) _ _ _
        · rw [Fi.rJ (by decide)]; exact hS v hv hw
        · by_cases e : v = u
          · subst e
            rw [i_siJ_at g1.l.a131]; exact hX hw
          · rw [i_siJ_no g1.l.a131 e]; exact hN v (by omega) hw
        · rw [i_siJ_no g1.l.a131 (by omega)]; exact hO v (by omega) h2 hw
      have acc : ∀ j, j ≤ 8 → ∀ X, (o_wall a u = false → o_is X (a 0 * a 1) (fun c => (o_ht a k u c || o_sf a k u c) || o_or (fun j => o_sf a k (o_stq a u j) c) j)) → i_P i_MT i_AT L xs 61 100 [some (.ref 121), some (.ref 96), some (.int (i_bo (o_or (o_hr a k) u = true))), some (.int (i_n u)), some (.long X), none, some (.int (i_n j))] [] h1 0 0 Q := by
        refine l_up ?_ ?_
        · intro X hX
          refine d61_100 g1.l ?_
          try simp (disch := omega) only [n_lit, n_m, n_add, n_mul, n_div, n_mod, n_cl, n_lt, n_le, n_eq, n_in, n_eqm, n_meq, n_mlt, n_ltm, n_mle, n_lem, not_true_eq_false, not_false_eq_true, true_implies, false_implies, true_and, and_true, Nat.not_lt_zero, Nat.zero_le, Nat.le_refl]
          have hX2 : o_wall a u = false → o_is X (a 0 * a 1) (o_ht a (k + 1) u) := fun hw => (hX hw).congr (fun c hc => o_ht_row g1.w hu hc hw)
          refine c193 (by omega) ⟨_, rfl, d61_138 g1.l ?_⟩
          have hfree : o_is (fJ h1 96 4) (a 0 * a 1) (fun c => !o_wall a c) := g1.2.1.2.1.2.1
          rw [hfree.b hu (by omega)]
          try simp (disch := omega) only [n_lit, n_m, i_bo01, j_cmpn, Classical.not_not, n_add, n_mul, n_div, n_mod, n_cl, n_lt, n_le, n_eq, n_in, n_eqm, n_meq, n_mlt, n_ltm, n_mle, n_lem, not_true_eq_false, not_false_eq_true, true_implies, false_implies, true_and, and_true, Nat.not_lt_zero, Nat.zero_le]
          refine ⟨fun e => fin X _ ?_ hX2 _ , fun e => ⟨by omega, ?_⟩⟩
          · have e : o_wall a u = true := by simpa using e
            rw [o_or]
            unfold o_hr
            rw [e]; simp
          · have e : o_wall a u = false := by simpa using e
            rw [(hX2 e).eqv (hO u (Nat.le_refl u) hu e) (by omega)]
            refine ⟨fun z => fin X _ ?_ hX2 _ , fun z => fin X true ?_ hX2 _ ⟩
            · rw [o_or]
              have : o_hr a k u = false := by
                unfold o_hr
                rw [← Bool.not_eq_true, Bool.and_eq_true, o_or_t]
                rintro ⟨-, c, hc, q⟩
                rw [z c hc] at q
                simp at q
              rw [this, Bool.or_false]
            · rw [o_or]
              have : o_hr a k u = true := by
                unfold o_hr
                rw [e, Bool.not_false, Bool.true_and, o_or_t]
                obtain ⟨c, q⟩ := Classical.not_forall.mp z
                obtain ⟨hc, q⟩ := Classical.not_imp.mp q
                refine ⟨c, hc, ?_⟩
                cases q1 : o_ht a k u c with
                | true =>
                  have : o_ht a (k + 1) u c = true := o_ht_t.mpr (Or.inl q1)
                  rw [q1, this] at q; exact absurd rfl q
                | false =>
                  rw [q1] at q
                  have : o_ht a (k + 1) u c = true := by simpa using q
                  rw [this]; rfl
              rw [this, Bool.or_true]
        · intro j hj ih2 X hX
          refine d61_100 g1.l ?_
          try simp (disch := omega) only [n_lit, n_m, n_add, n_mul, n_div, n_mod, n_cl, n_lt, n_le, n_eq, n_in, n_eqm, n_meq, n_mlt, n_ltm, n_mle, n_lem, not_true_eq_false, not_false_eq_true, true_implies, false_implies, true_and, and_true, Nat.not_lt_zero, Nat.zero_le]
          refine ⟨fun e => by omega, fun _ => c26 g1.l g1.w g1.2.1 hu hj ⟨_, rfl, d61_120 g1.l ⟨48, aJ h1 132, g1.l.a132, ?_⟩⟩⟩
          show i_in (i_n (o_stq a u j)) 48 ∧ i_P i_MT i_AT L xs 61 100 [some (.ref 121), some (.ref 96), some (.int (i_bo (o_or (o_hr a k) u = true))), some (.int (i_n u)), some (.long (X ||| aJ h1 132 (i_n (o_stq a u j)).toNatClampNeg)), none, some (.int (i_n j + 1))] [] h1 0 0 Q
          have hl := o_stq_lt (a := a) (u := u) (w := j) hu
          try simp (disch := omega) only [n_lit, n_m, n_add, n_mul, n_div, n_mod, n_cl, n_lt, n_le, n_eq, n_in, n_eqm, n_meq, n_mlt, n_ltm, n_mle, n_lem, not_true_eq_false, not_false_eq_true, true_implies, false_implies, true_and, and_true, Nat.not_lt_zero, Nat.zero_le]
          refine ⟨by omega, ih2 _ (fun hw => ((hX hw).or (hS _ hl ?_)).congr (fun c _ => ?_))⟩
          · exact o_stq_free hw
          · rw [o_or, Bool.or_assoc]
      refine d61_74 g1.l ?_
      rw [g1.2.1.1.2.2]
      try simp (disch := omega) only [n_lit, n_m, n_add, n_mul, n_div, n_mod, n_cl, n_lt, n_le, n_eq, n_in, n_eqm, n_meq, n_mlt, n_ltm, n_mle, n_lem, not_true_eq_false, not_false_eq_true, true_implies, false_implies, true_and, and_true, Nat.not_lt_zero, Nat.zero_le]
      refine ⟨fun e => by omega, fun _ => ⟨by omega, by omega, acc 0 (by omega) _ (fun hw => ((hO u (Nat.le_refl u) hu hw).or (hS u hu hw)).congr (fun c _ => ?_))⟩⟩
      rw [show o_or (fun j => o_sf a k (o_stq a u j) c) 0 = false from rfl, Bool.or_false]
  -- the safe ones
  have safe : ∀ u, u ≤ a 0 * a 1 → ∀ h1, i_CO a t h1 → i_Fr [132] [] h h1 → (∀ v, v < u → o_wall a v = false → o_is (aJ h1 132 v) (a 0 * a 1) (o_sf a k v)) → ∀ (y3 y4 y5 y6 : Option Value), i_P i_MT i_AT L xs 61 10 [some (.ref 121), some (.ref 96), some (.int (i_n u)), y3, y4, y5, y6] [] h1 0 0 Q := by
    refine l_up ?_ ?_
    · intro h1 g1 f1 hS y3 y4 y5 y6
      refine d61_10 g1.l ?_
      rw [g1.2.1.1.2.2]
      try simp (disch := omega) only [n_lit, n_m, n_add, n_mul, n_div, n_mod, n_cl, n_lt, n_le, n_eq, n_in, n_eqm, n_meq, n_mlt, n_ltm, n_mle, n_lem, not_true_eq_false, not_false_eq_true, true_implies, false_implies, true_and, and_true, Nat.not_lt_zero, Nat.zero_le, Nat.le_refl]
      exact rows 0 (Nat.zero_le _) h1 g1 (F2 f1) (fun v hv hw => hS v hv hw) (fun v hv => absurd hv (Nat.not_lt_zero v)) (fun v _ hv hw => by rw [f1.rJ (by decide)]; exact hW v hv hw) _ _ _
    · intro u hu ih h1 g1 f1 hS y3 y4 y5 y6
      have hfree : o_is (fJ h1 96 4) (a 0 * a 1) (fun c => !o_wall a c) := g1.2.1.2.1.2.1
      have hx : o_is (fJ h1 96 4 &&& (aJ h1 131 u ^^^ (-1 : Int64))) (a 0 * a 1) (fun c => !o_wall a c && !(i_b (aJ h1 131 u) c)) := fun c hc => by
        rw [j_and, j_not _ hc, hfree c hc]
        by_cases q : c < a 0 * a 1 <;> simp [q]
      refine d61_10 g1.l ?_
      rw [g1.2.1.1.2.2]
      try simp (disch := omega) only [n_lit, n_m, n_add, n_mul, n_div, n_mod, n_cl, n_lt, n_le, n_eq, n_in, n_eqm, n_meq, n_mlt, n_ltm, n_mle, n_lem, not_true_eq_false, not_false_eq_true, true_implies, false_implies, true_and, and_true, Nat.not_lt_zero, Nat.zero_le]
      refine ⟨fun e => by omega, fun _ => ⟨by omega, c23 g1.l g1.w g1.2.1 hx (fun s2 hs2 => ⟨_, rfl, d61_54 g1.l ⟨48, aJ h1 132, g1.l.a132, ?_⟩⟩)⟩⟩
      try simp (disch := omega) only [n_lit, n_m, n_add, n_mul, n_div, n_mod, n_cl, n_lt, n_le, n_eq, n_in, n_eqm, n_meq, n_mlt, n_ltm, n_mle, n_lem, not_true_eq_false, not_false_eq_true, true_implies, false_implies, true_and, and_true, Nat.not_lt_zero, Nat.zero_le]
      have hv := ((hfree.andn hx).andn hs2).or (o_is.one hu (by omega))
      have Fi : i_Fr [132] [] h1 (i_siJ h1 132 u (fJ h1 96 4 &&& (fJ h1 96 4 &&& (aJ h1 131 u ^^^ (-1 : Int64)) ^^^ (-1 : Int64)) &&& (s2 ^^^ (-1 : Int64)) ||| ((1 : Int64) <<< ((i_n u).toInt64 &&& (63 : Int64))))) := i_Fr.refl.siJ (by decide)
      have g2 := gfr g1 g1.l.siJ (F2 Fi)
      refine ⟨by omega, d61_64 g2.l ?_⟩
      try simp (disch := omega) only [n_lit, n_m, n_add, n_mul, n_div, n_mod, n_cl, n_lt, n_le, n_eq, n_in, n_eqm, n_meq, n_mlt, n_ltm, n_mle, n_lem, not_true_eq_false, not_false_eq_true, true_implies, false_implies, true_and, and_true, Nat.not_lt_zero, Nat.zero_le]
      refine ih _ g2 (f1.trans Fi) (fun v hv2 hw => ?_) _ _ _ _
      by_cases e : v = u
      · subst e
        rw [i_siJ_at g1.l.a132]
        have h131 := hW v hu hw
        rw [← f1.rJ (show 131 ∉ [132] by decide)] at h131
        refine hv.congr (fun c hc => ?_)
        have eb : ∀ b, b < a 0 * a 1 → i_b (aJ h1 131 v) b = o_ht a k v b := fun b hb => h131.b hb (by omega)
        unfold o_sf
        have e1 : o_bes a (fun c => !o_wall a c && !(i_b (aJ h1 131 v) c)) c = o_bes a (fun b => !o_wall a b && !o_ht a k v b) c := by
          rw [Bool.eq_iff_iff, o_bes_t, o_bes_t]
          refine and_congr_right (fun _ => ⟨?_, ?_⟩)
          · rintro ⟨b, q1, q2, q3⟩; exact ⟨b, q1, by rw [← eb b q1]; exact q2, q3⟩
          · rintro ⟨b, q1, q2, q3⟩; exact ⟨b, q1, by rw [eb b q1]; exact q2, q3⟩
        rw [e1, eb c hc]
        have e2 : (c == v) = (v == c) := by rw [Bool.eq_iff_iff, beq_iff_eq, beq_iff_eq]; exact eq_comm
        rw [e2]
        cases o_wall a c <;> cases o_ht a k v c <;> cases (v == c) <;> simp
      · rw [i_siJ_no g1.l.a132 e]
        exact hS v (by omega) hw
  refine e61 (d61_0 g.l ?_)
  try simp (disch := omega) only [n_lit, n_m, n_add, n_mul, n_div, n_mod, n_cl, n_lt, n_le, n_eq, n_in, n_eqm, n_meq, n_mlt, n_ltm, n_mle, n_lem, not_true_eq_false, not_false_eq_true, true_implies, false_implies, true_and, and_true, Nat.not_lt_zero, Nat.zero_le]
  exact safe 0 (Nat.zero_le _) h g i_Fr.refl (fun v hv => absurd hv (Nat.not_lt_zero v)) _ _ _ _
end
