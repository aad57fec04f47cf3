/-! THE UNSEEN WAY -/
section
variable {L : Nat} {xs : Nat → Int32} {h : iH} {Q : Option Value → iH → Prop} {a : Nat → Nat} {t : Nat}
set_option maxRecDepth 20000
def o_mc (a : Nat → Nat) (p m b c : Nat) : Bool := if b = c then o_uns a p c 0 m else (o_far (a 0) b c == 1 && !o_wall a c) && o_uns a p c 2 m
def o_rch (a : Nat → Nat) (p : Nat) : Nat → Nat → Bool
  | 0, c => c == a (154 + 5 * p)
  | m + 1, c => (o_bes a (o_rch a p m) c && o_uns a p c 2 (m + 1)) || (o_rch a p m c && o_uns a p c 0 (m + 1))
theorem o_rch_or {p m c : Nat} (hc : c < a 0 * a 1) : o_rch a p (m + 1) c = o_or (fun b => o_rch a p m b && ((b == c || o_far (a 0) b c == 1) && o_mc a p (m + 1) b c)) (a 0 * a 1) := by
  rw [Bool.eq_iff_iff, o_or_t, o_rch]
  simp only [Bool.and_eq_true, Bool.or_eq_true, o_bes_t, beq_iff_eq]
  constructor
  · rintro (⟨⟨z1, b, z2, z3, z4⟩, z5⟩ | ⟨z1, z2⟩)
    · refine ⟨b, z2, z3, Or.inr z4, ?_⟩
      have hne : ¬ b = c := fun e => by subst e; rw [o_far0] at z4; omega
      unfold o_mc
      simp [hne, z4, z1, z5]
    · refine ⟨c, hc, z1, Or.inl rfl, ?_⟩
      unfold o_mc
      simp [z2]
  · rintro ⟨b, z1, z2, z3, z4⟩
    unfold o_mc at z4
    by_cases e : b = c
    · subst e
      rw [if_pos rfl] at z4
      exact Or.inr ⟨z2, z4⟩
    · rw [if_neg e] at z4
      simp only [Bool.and_eq_true, beq_iff_eq, Bool.not_eq_true'] at z4
      exact Or.inl ⟨⟨z4.1.2, b, z1, z2, z4.1.1⟩, z4.2⟩
/-- from where the end is come to in j minutes -/
def o_bk (a : Nat → Nat) (p g T : Nat) : Nat → Nat → Bool
  | 0, c => c == g
  | j + 1, c => o_or (fun b => o_bk a p g T j b && ((c == b || o_far (a 0) c b == 1) && o_mc a p (T - j) c b)) (a 0 * a 1)
def o_nxP (a : Nat → Nat) (p g T m prev c : Nat) : Bool := o_bk a p g T (T - m) c && ((c == prev || o_far (a 0) c prev == 1) && o_mc a p m prev c)
def o_pth (a : Nat → Nat) (p g T : Nat) : Nat → Nat
  | 0 => a (154 + 5 * p)
  | m + 1 => (o_lst (o_nxP a p g T (m + 1) (o_pth a p g T m)) (a 0 * a 1) 0).getD 0
theorem o_rch_free (w : o_WF a) {p : Nat} (hp : p < a 5) : ∀ m c, o_rch a p m c = true → o_wall a c = false
  | 0, c, e => by
    have h := o_cr_ok w hp 0 (by omega)
    rw [o_rch, beq_iff_eq] at e
    subst e
    exact h.2.1
  | m + 1, c, e => by
    rw [o_rch, Bool.or_eq_true, Bool.and_eq_true, Bool.and_eq_true, o_bes_t] at e
    rcases e with e | e
    · exact e.1.1
    · exact o_rch_free w hp m c e.1
theorem o_bk_ex {p g T : Nat} (hg : g < a 0 * a 1) (hT : o_rch a p T g = true) : ∀ j, j ≤ T → ∃ c, c < a 0 * a 1 ∧ o_rch a p (T - j) c = true ∧ o_bk a p g T j c = true
  | 0, _ => ⟨g, hg, hT, by rw [o_bk]; simp⟩
  | j + 1, hj => by
    obtain ⟨c, z1, z2, z3⟩ := o_bk_ex hg hT j (by omega)
    rw [show T - j = (T - (j + 1)) + 1 by omega, o_rch_or z1, o_or_t] at z2
    obtain ⟨b, q1, q2⟩ := z2
    rw [Bool.and_eq_true] at q2
    refine ⟨b, q1, q2.1, ?_⟩
    rw [o_bk, o_or_t]
    refine ⟨c, z1, ?_⟩
    rw [z3, show T - j = (T - (j + 1)) + 1 by omega, q2.2]
    rfl
theorem o_pth_ok {p g T : Nat} (hg : g < a 0 * a 1) (hT : o_rch a p T g = true) : ∀ m, m ≤ T → o_pth a p g T m < a 0 * a 1 ∧ o_rch a p m (o_pth a p g T m) = true ∧ o_bk a p g T (T - m) (o_pth a p g T m) = true
  | 0, _ => by
    obtain ⟨c, z1, z2, z3⟩ := o_bk_ex hg hT T (Nat.le_refl T)
    rw [Nat.sub_self, o_rch, beq_iff_eq] at z2
    subst z2
    exact ⟨z1, by rw [o_rch, o_pth]; simp, z3⟩
  | m + 1, hm => by
    obtain ⟨z1, z2, z3⟩ := o_pth_ok hg hT m (by omega)
    rw [show T - m = (T - (m + 1)) + 1 by omega, o_bk, o_or_t] at z3
    obtain ⟨b, q1, q2⟩ := z3
    rw [show T - (T - (m + 1)) = m + 1 by omega, Bool.and_eq_true, Bool.and_eq_true] at q2
    have hb : o_nxP a p g T (m + 1) (o_pth a p g T m) b = true := by
      unfold o_nxP
      rw [q2.1, q2.2.2, o_far_sym, Bool.and_true, Bool.true_and]
      have := q2.2.1
      rw [Bool.or_eq_true, beq_iff_eq] at this ⊢
      rcases this with e | e
      · exact Or.inl e.symm
      · exact Or.inr e
    cases hO : o_lst (o_nxP a p g T (m + 1) (o_pth a p g T m)) (a 0 * a 1) 0 with
    | none =>
      exfalso
      by_cases e : ∃ i, i < a 0 * a 1 ∧ o_nxP a p g T (m + 1) (o_pth a p g T m) i = true
      · -- the least of them
        have : ∀ n k, k ≤ b → b < k + n → o_lst (o_nxP a p g T (m + 1) (o_pth a p g T m)) n k ≠ none := by
          intro n
          induction n with
          | zero => intro k h1 h2; omega
          | succ n ih =>
            intro k h1 h2
            rw [o_lst]
            split
            · exact fun e => by cases e
            · rename_i hk
              refine ih (k + 1) ?_ (by omega)
              by_cases ek : k = b
              · subst ek; exact absurd hb hk
              · omega
        exact this _ 0 (Nat.zero_le _) (by omega) hO
      · exact e ⟨b, q1, hb⟩
    | some c =>
      obtain ⟨-, s2, s3, -⟩ := o_lst_g _ _ _ hO
      rw [o_pth, hO]
      show c < _ ∧ o_rch a p (m + 1) c = true ∧ o_bk a p g T (T - (m + 1)) c = true
      unfold o_nxP at s3
      rw [Bool.and_eq_true, Bool.and_eq_true] at s3
      refine ⟨by omega, ?_, s3.1⟩
      rw [o_rch_or (by omega), o_or_t]
      refine ⟨o_pth a p g T m, z1, ?_⟩
      rw [z2, s3.2.2, o_far_sym, Bool.and_true, Bool.true_and]
      have := s3.2.1
      rw [Bool.or_eq_true, beq_iff_eq] at this ⊢
      rcases this with e | e
      · exact Or.inl e.symm
      · exact Or.inr e
theorem o_nxP_s {p g T m : Nat} (hg : g < a 0 * a 1) (hT : o_rch a p T g = true) (hm : m + 1 ≤ T) : o_lst (o_nxP a p g T (m + 1) (o_pth a p g T m)) (a 0 * a 1) 0 = some (o_pth a p g T (m + 1)) := by
  cases hO : o_lst (o_nxP a p g T (m + 1) (o_pth a p g T m)) (a 0 * a 1) 0 with
  | some c => rw [o_pth, hO]; rfl
  | none =>
    exfalso
    have ok := o_pth_ok hg hT (m + 1) hm
    -- none: then the path's next would be cell 0 by default; but one is there
    obtain ⟨z1, z2, z3⟩ := o_pth_ok hg hT m (by omega)
    rw [show T - m = (T - (m + 1)) + 1 by omega, o_bk, o_or_t] at z3
    obtain ⟨b, q1, q2⟩ := z3
    rw [show T - (T - (m + 1)) = m + 1 by omega, Bool.and_eq_true, Bool.and_eq_true] at q2
    have hb : o_nxP a p g T (m + 1) (o_pth a p g T m) b = true := by
      unfold o_nxP
      rw [q2.1, q2.2.2, o_far_sym, Bool.and_true, Bool.true_and]
      have := q2.2.1
      rw [Bool.or_eq_true, beq_iff_eq] at this ⊢
      rcases this with e | e
      · exact Or.inl e.symm
      · exact Or.inr e
    have : ∀ n k, k ≤ b → b < k + n → o_lst (o_nxP a p g T (m + 1) (o_pth a p g T m)) n k ≠ none := by
      intro n
      induction n with
      | zero => intro k h1 h2; omega
      | succ n ih =>
        intro k h1 h2
        rw [o_lst]
        split
        · exact fun e => by cases e
        · rename_i hk
          refine ih (k + 1) ?_ (by omega)
          by_cases ek : k = b
          · subst ek; exact absurd hb hk
          · omega
    exact this _ 0 (Nat.zero_le _) (by omega) hO
def o_wyA (a : Nat → Nat) (p g : Nat) : Option Nat := o_lst (fun m => o_rch a p m g) 61 0
theorem o_lst_congr {P R : Nat → Bool} : ∀ n k, (∀ i, k ≤ i → i < k + n → P i = R i) → o_lst P n k = o_lst R n k
  | 0, _, _ => rfl
  | n + 1, k, z => by rw [o_lst, o_lst, z k (Nat.le_refl k) (by omega), o_lst_congr n (k + 1) (fun i h1 h2 => z i (by omega) (by omega))]
theorem c32 (hL : i_Lay h) {s : Int64} {n : Nat} {P : Nat → Bool} (hs : o_is s n P) (hn : n ≤ 48) (H : Q (some (.int (o_op (o_lst P n 0)))) h) : i_C i_MT i_AT L xs 32 [.long s] h Q := by
  have key : ∀ k, k ≤ 48 → (∀ i, i < k → i < n → P i = false) → i_P i_MT i_AT L xs 32 2 [some (.long s), none, some (.int (i_n k))] [] h 0 0 Q := by
    refine l_up ?_ ?_
    · intro z
      refine d32_2 hL ?_
      try simp (disch := omega) only [n_lit, n_m, n_add, n_mul, n_div, n_mod, n_cl, n_lt, n_le, n_eq, n_in, n_eqm, n_meq, n_mlt, n_ltm, n_mle, n_lem, not_true_eq_false, not_false_eq_true, true_implies, false_implies, true_and, and_true, Nat.not_lt_zero, Nat.zero_le, Nat.le_refl]
      rw [o_lst_n n 0 (fun i _ h2 => z i (by omega) (by omega))] at H
      exact H
    · intro k hk ih z
      refine d32_2 hL ?_
      try simp (disch := omega) only [n_lit, n_m, n_add, n_mul, n_div, n_mod, n_cl, n_lt, n_le, n_eq, n_in, n_eqm, n_meq, n_mlt, n_ltm, n_mle, n_lem, not_true_eq_false, not_false_eq_true, true_implies, false_implies, true_and, and_true, Nat.not_lt_zero, Nat.zero_le]
      refine ⟨fun e => by omega, fun _ => c193 (by omega) ⟨_, rfl, d32_13 hL ?_⟩⟩
      rw [hs k (by omega)]
      try simp (disch := omega) only [n_lit, n_m, i_bo01, j_cmpn, Classical.not_not, n_add, n_mul, n_div, n_mod, n_cl, n_lt, n_le, n_eq, n_in, n_eqm, n_meq, n_mlt, n_ltm, n_mle, n_lem, not_true_eq_false, not_false_eq_true, true_implies, false_implies, true_and, and_true, Nat.not_lt_zero, Nat.zero_le]
      refine ⟨fun e => ih (fun i h1 h2 => ?_), fun e => ?_⟩
      · by_cases ei : i = k
        · subst ei
          rw [decide_eq_true h2, Bool.true_and] at e
          simpa using e
        · exact z i (by omega) h2
      · rw [Bool.and_eq_true, decide_eq_true_eq] at e
        rw [o_lst_s e.2 n 0 (by omega) (by omega) (fun i _ h2 => z i h2 (by omega))] at H
        exact H
  refine e32 (d32_0 hL ?_)
  try simp (disch := omega) only [n_lit, n_m, n_add, n_mul, n_div, n_mod, n_cl, n_lt, n_le, n_eq, n_in, n_eqm, n_meq, n_mlt, n_ltm, n_mle, n_lem, not_true_eq_false, not_false_eq_true, true_implies, false_implies, true_and, and_true, Nat.not_lt_zero, Nat.zero_le]
  exact key 0 (by omega) (fun i h1 => absurd h1 (Nat.not_lt_zero i))
theorem n_zdec (m : Nat) : i_n m + i_m = o_zI m := by
  cases m with
  | zero => rfl
  | succ k => exact n_addm (by omega)
/-- what the class keeps of the way forth and back -/
def o_RB (a : Nat → Nat) (p g T m c : Nat) : Bool := o_rch a p m c && o_bk a p g T (T - m) c
theorem o_RB_step (w : o_WF a) {p g T m c : Nat} (hp : p < a 5) (hm : m + 1 ≤ T) (hc : c < a 0 * a 1) : (o_rch a p m c && (o_bes a (fun b => o_RB a p g T (m + 1) b && o_uns a p b 2 (m + 1)) c || (o_RB a p g T (m + 1) c && o_uns a p c 0 (m + 1)))) = o_RB a p g T m c := by
  unfold o_RB
  rw [Bool.eq_iff_iff]
  simp only [Bool.and_eq_true, Bool.or_eq_true, o_bes_t]
  rw [show T - m = (T - (m + 1)) + 1 by omega, o_bk, o_or_t]
  constructor
  · rintro ⟨z1, ⟨z2, b, z3, z4, z5⟩ | z2⟩
    · refine ⟨z1, b, z3, ?_⟩
      have hne : ¬ c = b := fun e => by subst e; rw [o_far0] at z5; omega
      rw [z4.1.2, show T - (T - (m + 1)) = m + 1 by omega]
      unfold o_mc
      rw [if_neg hne, o_far_sym, z5, z4.2, o_rch_free w hp _ _ z4.1.1]
      simp
    · refine ⟨z1, c, hc, ?_⟩
      rw [z2.1.2, show T - (T - (m + 1)) = m + 1 by omega]
      unfold o_mc
      rw [if_pos rfl, z2.2]
      simp
  · rintro ⟨z1, b, z3, z4⟩
    rw [show T - (T - (m + 1)) = m + 1 by omega, Bool.and_eq_true, Bool.and_eq_true] at z4
    have hr : o_rch a p (m + 1) b = true := by
      rw [o_rch_or z3, o_or_t]
      exact ⟨c, hc, by rw [z1, z4.2.1, z4.2.2]; rfl⟩
    refine ⟨z1, ?_⟩
    have h4 := z4.2.2
    unfold o_mc at h4
    by_cases e : c = b
    · subst e
      rw [if_pos rfl] at h4
      exact Or.inr ⟨⟨hr, z4.1⟩, h4⟩
    · rw [if_neg e] at h4
      simp only [Bool.and_eq_true, beq_iff_eq] at h4
      exact Or.inl ⟨o_rch_free w hp _ _ z1, b, z3, ⟨⟨hr, z4.1⟩, h4.2⟩, by rw [o_far_sym]; exact h4.1.1⟩
theorem o_nx_set (w : o_WF a) {p g T m prev c : Nat} (hp : p < a 5) (hv : prev < a 0 * a 1) (hr : o_rch a p m prev = true) (hc : c < a 0 * a 1) : (((o_bes a (fun b => b == prev) c && o_uns a p c 2 (m + 1)) || ((c == prev) && o_uns a p c 0 (m + 1))) && o_RB a p g T (m + 1) c) = o_nxP a p g T (m + 1) prev c := by
  unfold o_RB o_nxP
  rw [Bool.eq_iff_iff]
  simp only [Bool.and_eq_true, Bool.or_eq_true, o_bes_t, beq_iff_eq]
  constructor
  · rintro ⟨⟨⟨z1, b, z2, rfl, z4⟩, z5⟩ | ⟨rfl, z1⟩, z6⟩
    · have hne : ¬ b = c := fun e => by subst e; rw [o_far0] at z4; omega
      refine ⟨z6.2, Or.inr (by rw [o_far_sym]; exact z4), ?_⟩
      unfold o_mc
      rw [if_neg hne, z4, z1, z5]
      rfl
    · refine ⟨z6.2, Or.inl rfl, ?_⟩
      unfold o_mc
      rw [if_pos rfl]
      exact z1
  · rintro ⟨z1, z2, z3⟩
    have h3 : o_rch a p (m + 1) c = true := by
      rw [o_rch_or hc, o_or_t]
      refine ⟨prev, hv, ?_⟩
      rw [hr, z3, o_far_sym, Bool.and_true, Bool.true_and, Bool.or_eq_true, beq_iff_eq, beq_iff_eq]
      rcases z2 with e | e
      · exact Or.inl e.symm
      · exact Or.inr e
    refine ⟨?_, h3, z1⟩
    unfold o_mc at z3
    by_cases e : prev = c
    · subst e
      rw [if_pos rfl] at z3
      exact Or.inr ⟨rfl, z3⟩
    · rw [if_neg e] at z3
      simp only [Bool.and_eq_true, beq_iff_eq, Bool.not_eq_true'] at z3
      exact Or.inl ⟨⟨z3.1.2, prev, hv, rfl, z3.1.1⟩, z3.2⟩
/-- the rows of still and slow, filled up to T -/
def o_fit (a : Nat → Nat) (p T : Nat) (h : iH) : Prop := ∀ m, 1 ≤ m → m ≤ T → o_ia (aJ h 113 m) (a 0 * a 1) (fun c => o_uns a p c 0 m) ∧ o_ia (aJ h 114 m) (a 0 * a 1) (fun c => o_uns a p c 2 m)
abbrev i_FP (h h2 : iH) : Prop := i_Fr [99, 100, 106, 107, 109, 110, 111, 112, 113, 114] [(108, 1)] h h2
theorem i_CO.fp (g : i_CO a t h) {h2 : iH} {A : List Nat} {F : List (Nat × Nat)} (f : i_Fr A F h h2) (hL : i_Lay h2) (hA : ∀ p, p ∈ A → 107 < p) (hF : ∀ q, q ∈ F → q.1 = 0 ∨ 96 < q.1) : i_CO a t h2 := g.fr hL f hA hF
set_option maxHeartbeats 1000000 in
theorem c72 (g : i_CO a t h) {p c T : Nat} (hp : p < a 5) (hc : c < a 0 * a 1) (hT : T ≤ 60) (hr : o_rch a p T c = true) (hR : ∀ m, m ≤ T → o_is (aJ h 112 m) (a 0 * a 1) (o_rch a p m)) (hS : o_fit a p T h) (H : ∀ h2, i_CO a t h2 → i_FP h h2 → fI h2 108 1 = i_n T → (∀ m, m ≤ T → aI h2 109 m = i_n (o_pth a p c T m)) → Q none h2) : i_C i_MT i_AT L xs 72 [.ref 108, .int (i_n c), .int (i_n T)] h Q := by
  have h48 := g.w.c48
  have hW := g.w.pos hc
  -- the path
  have path : ∀ m, m ≤ T + 1 → 1 ≤ m → ∀ h1, i_CO a t h1 → i_FP h h1 → fI h1 108 1 = i_n T → (∀ i, i ≤ T → o_is (aJ h1 112 i) (a 0 * a 1) (o_RB a p c T i)) → o_fit a p T h1 → (∀ i, i < m → aI h1 109 i = i_n (o_pth a p c T i)) → ∀ (y4 y5 y6 y7 : Option Value), i_P i_MT i_AT L xs 72 101 [some (.ref 108), some (.int (i_n c)), some (.int (i_n T)), some (.int (i_n m)), y4, y5, y6, y7] [] h1 0 0 Q := by
    refine l_up ?_ ?_
    · intro _ h1 g1 f1 e1 hB hF hP y4 y5 y6 y7
      refine d72_101 g1.l ?_
      try simp (disch := omega) only [n_lit, n_m, n_add, n_mul, n_div, n_mod, n_cl, n_lt, n_le, n_eq, n_in, n_eqm, n_meq, n_mlt, n_ltm, n_mle, n_lem, not_true_eq_false, not_false_eq_true, true_implies, false_implies, true_and, and_true, Nat.not_lt_zero, Nat.zero_le, Nat.lt_succ_self]
      exact H h1 g1 f1 e1 (fun m hm => hP m (by omega))
    · intro m hm ih hm1 h1 g1 f1 e1 hB hF hP y4 y5 y6 y7
      obtain ⟨j, rfl⟩ : ∃ j, m = j + 1 := ⟨m - 1, by omega⟩
      have ok := o_pth_ok hc hr j (by omega)
      refine d72_101 g1.l ?_
      try simp (disch := omega) only [n_lit, n_m, n_add, n_mul, n_div, n_mod, n_cl, n_lt, n_le, n_eq, n_in, n_eqm, n_meq, n_mlt, n_ltm, n_mle, n_lem, not_true_eq_false, not_false_eq_true, true_implies, false_implies, true_and, and_true, Nat.not_lt_zero, Nat.zero_le, n_sub]
      rw [show j + 1 - 1 = j by omega, hP j (by omega)]
      refine ⟨fun e => by omega, fun _ => ⟨by omega, ?_⟩⟩
      refine c71 g1.l g1.w g1.2.1 (o_is.one ok.1 (by omega)) (by omega) (hF (j + 1) (by omega) (by omega)).2 (hF (j + 1) (by omega) (by omega)).1 (fun s2 e2 => ⟨_, rfl, d72_126 g1.l ?_⟩)
      try simp (disch := omega) only [n_lit, n_m, n_add, n_mul, n_div, n_mod, n_cl, n_lt, n_le, n_eq, n_in, n_eqm, n_meq, n_mlt, n_ltm, n_mle, n_lem, not_true_eq_false, not_false_eq_true, true_implies, false_implies, true_and, and_true, Nat.not_lt_zero, Nat.zero_le]
      have e3 := (e2.and (hB (j + 1) (by omega))).congr (fun c2 hc2 => o_nx_set g1.w hp ok.1 ok.2.1 hc2)
      refine ⟨by omega, c32 g1.l e3 h48.1 ⟨_, rfl, d72_136 g1.l ⟨61, aI h1 109, g1.l.a109, ?_⟩⟩⟩
      rw [o_nxP_s hc hr (by omega)]
      dsimp only [o_op]
      try simp (disch := omega) only [n_lit, n_m, n_add, n_mul, n_div, n_mod, n_cl, n_lt, n_le, n_eq, n_in, n_eqm, n_meq, n_mlt, n_ltm, n_mle, n_lem, not_true_eq_false, not_false_eq_true, true_implies, false_implies, true_and, and_true, Nat.not_lt_zero, Nat.zero_le]
      have fr : i_Fr [109] [] h1 (i_siI h1 109 (j + 1) (i_n (o_pth a p c T (j + 1)))) := i_Fr.refl.siI (by decide)
      have g2 := g1.fp fr g1.l.siI (by decide) (by decide)
      refine ⟨by omega, d72_137 g2.l ?_⟩
      try simp (disch := omega) only [n_lit, n_m, n_add, n_mul, n_div, n_mod, n_cl, n_lt, n_le, n_eq, n_in, n_eqm, n_meq, n_mlt, n_ltm, n_mle, n_lem, not_true_eq_false, not_false_eq_true, true_implies, false_implies, true_and, and_true, Nat.not_lt_zero, Nat.zero_le]
      refine ih (by omega) _ g2 (f1.trans (fr.mono (by decide) (by decide))) (by rw [fr.vI (by decide)]; exact e1) (by rw [fr.rJ (by decide)]; exact hB) (by unfold o_fit; rw [fr.rJ (by decide), fr.rJ (by decide)]; exact hF) (fun i hi => ?_) _ _ _ _
      rw [x_aI_siI g1.l.a109, x_upd]
      by_cases e : i = j + 1
      · rw [if_pos e, e]
      · rw [if_neg e]; exact hP i (by omega)
  -- back
  have back : ∀ m, m ≤ T → ∀ h1, i_CO a t h1 → i_FP h h1 → (∀ i, m ≤ i → i ≤ T → o_is (aJ h1 112 i) (a 0 * a 1) (o_RB a p c T i)) → (∀ i, i < m → o_is (aJ h1 112 i) (a 0 * a 1) (o_rch a p i)) → o_fit a p T h1 → ∀ (y4 y5 y6 y7 : Option Value), i_P i_MT i_AT L xs 72 13 [some (.ref 108), some (.int (i_n c)), some (.int (i_n T)), some (.int (o_zI m)), y4, y5, y6, y7] [] h1 0 0 Q := by
    intro m
    induction m with
    | zero =>
      intro _ h1 g1 f1 hB _ hF y4 y5 y6 y7
      have neg : o_zI 0 < (0 : Int32) := by decide
      refine d72_13 g1.l ⟨fun _ => ?_, fun e => absurd neg e⟩
      have fr : i_Fr [] [(108, 1)] h1 (i_sf h1 108 1 (.int (i_n T))) := i_Fr.refl.sf (by decide)
      have g2 := g1.fp fr (g1.l.sf g1.l.q108_1 rfl) (by decide) (by decide)
      have e2 : fI (i_sf h1 108 1 (.int (i_n T))) 108 1 = i_n T := x_fI_sf g1.l.q108_1
      have hB2 : ∀ i, i ≤ T → o_is (aJ (i_sf h1 108 1 (.int (i_n T))) 112 i) (a 0 * a 1) (o_RB a p c T i) := by
        rw [fr.rJ (by decide)]; exact fun i hi => hB i (Nat.zero_le _) hi
      have hF2 : o_fit a p T (i_sf h1 108 1 (.int (i_n T))) := by unfold o_fit; rw [fr.rJ (by decide), fr.rJ (by decide)]; exact hF
      have f2 := f1.trans (fr.mono (B := [99, 100, 106, 107, 109, 110, 111, 112, 113, 114]) (G := [(108, 1)]) (by decide) (fun _ z => z))
      generalize i_sf h1 108 1 (.int (i_n T)) = h2 at g2 e2 hB2 hF2 f2 ⊢
      refine d72_84 g2.l (c32 g2.l (hB2 0 (Nat.zero_le _)) h48.1 ⟨_, rfl, d72_98 g2.l ⟨61, aI h2 109, g2.l.a109, ?_⟩⟩)
      have ok := o_pth_ok hc hr 0 (Nat.zero_le _)
      have e0 : o_lst (o_RB a p c T 0) (a 0 * a 1) 0 = some (o_pth a p c T 0) := o_lst_s (by unfold o_RB; rw [ok.2.1, ok.2.2]; rfl) _ 0 (Nat.zero_le _) (by have := ok.1; omega) (fun i _ hi => by
        unfold o_RB
        rw [o_rch]
        have : (i == a (154 + 5 * p)) = false := by
          rw [beq_eq_false_iff_ne]
          intro e
          rw [o_pth] at hi
          omega
        rw [this]; rfl)
      rw [e0]
      dsimp only [o_op]
      try simp (disch := omega) only [n_lit, n_m, n_add, n_mul, n_div, n_mod, n_cl, n_lt, n_le, n_eq, n_in, n_eqm, n_meq, n_mlt, n_ltm, n_mle, n_lem, not_true_eq_false, not_false_eq_true, true_implies, false_implies, true_and, and_true, Nat.not_lt_zero, Nat.zero_le]
      have fr3 : i_Fr [109] [] h2 (i_siI h2 109 0 (i_n (o_pth a p c T 0))) := i_Fr.refl.siI (by decide)
      have g3 := g2.fp fr3 g2.l.siI (by decide) (by decide)
      refine ⟨by omega, d72_99 g3.l ?_⟩
      try simp (disch := omega) only [n_lit, n_m, n_add, n_mul, n_div, n_mod, n_cl, n_lt, n_le, n_eq, n_in, n_eqm, n_meq, n_mlt, n_ltm, n_mle, n_lem, not_true_eq_false, not_false_eq_true, true_implies, false_implies, true_and, and_true, Nat.not_lt_zero, Nat.zero_le]
      refine path 1 (by omega) (Nat.le_refl 1) _ g3 (f2.trans (fr3.mono (by decide) (by decide))) (by rw [fr3.vI (by decide)]; exact e2) (by rw [fr3.rJ (by decide)]; exact hB2) (by unfold o_fit; rw [fr3.rJ (by decide), fr3.rJ (by decide)]; exact hF2) (fun i hi => ?_) _ _ _ _
      rw [x_aI_siI g2.l.a109, x_upd, if_pos (by omega), show i = 0 by omega]
    | succ m ih =>
      intro hm h1 g1 f1 hB hR1 hF y4 y5 y6 y7
      have hFm := hF (m + 1) (by omega) (by omega)
      refine d72_13 g1.l ?_
      rw [show o_zI (m + 1) = i_n m from rfl]
      try simp (disch := omega) only [n_lit, n_m, n_add, n_mul, n_div, n_mod, n_cl, n_lt, n_le, n_eq, n_in, n_eqm, n_meq, n_mlt, n_ltm, n_mle, n_lem, not_true_eq_false, not_false_eq_true, true_implies, false_implies, true_and, and_true, Nat.not_lt_zero, Nat.zero_le]
      refine ⟨by omega, by omega, ?_⟩
      have hs1 := hB (m + 1) (Nat.le_refl _) hm
      refine c23 g1.l g1.w g1.2.1 ((hs1.ia hFm.2).congr (P2 := fun b => o_RB a p c T (m + 1) b && o_uns a p b 2 (m + 1)) (fun _ _ => rfl)) (fun s3 e3 => ⟨_, rfl, d72_48 g1.l ?_⟩)
      try simp (disch := omega) only [n_lit, n_m, n_add, n_mul, n_div, n_mod, n_cl, n_lt, n_le, n_eq, n_in, n_eqm, n_meq, n_mlt, n_ltm, n_mle, n_lem, not_true_eq_false, not_false_eq_true, true_implies, false_implies, true_and, and_true, Nat.not_lt_zero, Nat.zero_le]
      have e4 := ((hR1 m (by omega)).and (e3.or (hs1.ia hFm.1))).congr (fun c2 hc2 => o_RB_step g1.w hp hm hc2)
      have fr : i_Fr [112] [] h1 (i_siJ h1 112 m (aJ h1 112 m &&& (s3 ||| (aJ h1 112 (m + 1) &&& aJ h1 113 (m + 1))))) := i_Fr.refl.siJ (by decide)
      have g2 := g1.fp fr g1.l.siJ (by decide) (by decide)
      refine ⟨by omega, by omega, by omega, d72_73 g2.l ?_⟩
      try simp (disch := omega) only [n_lit, n_m, n_add, n_mul, n_div, n_mod, n_cl, n_lt, n_le, n_eq, n_in, n_eqm, n_meq, n_mlt, n_ltm, n_mle, n_lem, not_true_eq_false, not_false_eq_true, true_implies, false_implies, true_and, and_true, Nat.not_lt_zero, Nat.zero_le, n_zdec]
      refine ih (by omega) _ g2 (f1.trans (fr.mono (by decide) (by decide))) (fun i h1i h2i => ?_) (fun i hi => ?_) (by unfold o_fit; rw [fr.rJ (by decide), fr.rJ (by decide)]; exact hF) _ _ _ _
      · by_cases e : i = m
        · subst e; rw [i_siJ_at g1.l.a112]; exact e4
        · rw [i_siJ_no g1.l.a112 e]; exact hB i (by omega) h2i
      · rw [i_siJ_no g1.l.a112 (by omega)]; exact hR1 i (by omega)
  have fr : i_Fr [112] [] h (i_siJ h 112 T ((1 : Int64) <<< ((i_n c).toInt64 &&& (63 : Int64)))) := i_Fr.refl.siJ (by decide)
  have g1 := g.fp fr g.l.siJ (by decide) (by decide)
  refine e72 (d72_0 g.l ?_)
  try simp (disch := omega) only [n_lit, n_m, n_add, n_mul, n_div, n_mod, n_cl, n_lt, n_le, n_eq, n_in, n_eqm, n_meq, n_mlt, n_ltm, n_mle, n_lem, not_true_eq_false, not_false_eq_true, true_implies, false_implies, true_and, and_true, Nat.not_lt_zero, Nat.zero_le]
  refine ⟨by omega, d72_9 g1.l ?_⟩
  rw [show i_n T - 1 = o_zI T by rw [← n_zdec, Int32.sub_eq_add_neg]; rfl]
  refine back T (Nat.le_refl T) _ g1 (fr.mono (by decide) (by decide)) (fun i h1 h2 => ?_) (fun i hi => ?_) (by unfold o_fit; rw [fr.rJ (by decide), fr.rJ (by decide)]; exact hS) _ _ _ _
  · have e : i = T := by omega
    subst e
    rw [i_siJ_at g.l.a112]
    refine (o_is.one hc (by omega)).congr (fun c2 _ => ?_)
    unfold o_RB
    rw [Nat.sub_self, o_bk]
    by_cases e : c2 = c
    · subst e; rw [hr]; rfl
    · have : (c2 == c) = false := by simpa using e
      rw [this, Bool.and_false]
  · rw [i_siJ_no g.l.a112 (by omega)]; exact hR i (by omega)
set_option maxHeartbeats 1000000 in
theorem c70 (g : i_CO a t h) {p c : Nat} (hp : p < a 5) (hc : c < a 0 * a 1) (H0 : o_wyA a p c = none → ∀ h2, i_CO a t h2 → i_FS h h2 → Q (some (.int (-1))) h2) (H1 : ∀ T, o_wyA a p c = some T → ∀ h2, i_CO a t h2 → i_Fr (109 :: fsA) ((108, 1) :: fsF) h h2 → fI h2 108 1 = i_n T → (∀ m, m ≤ T → aI h2 109 m = i_n (o_pth a p c T m)) → Q (some (.int (i_n T))) h2) : i_C i_MT i_AT L xs 70 [.ref 108, .int (i_n p), .int (i_n c)] h Q := by
  have h5 := g.w.2.2.2.2.1
  have h48 := g.w.c48
  have hs := (g.st hp).2
  have hwb := g.w.wb hp
  have key : ∀ m, m ≤ 61 → ∀ h1, i_CO a t h1 → i_FS h h1 → o_wei a h1 → (∀ i, i < max m 1 → o_is (aJ h1 112 i) (a 0 * a 1) (o_rch a p i)) → o_fit a p (m - 1) h1 → (∀ i, i < m → o_rch a p i c = false) → i_P i_MT i_AT L xs 70 46 [some (.ref 108), some (.int (i_n p)), some (.int (i_n c)), some (.int (i_n (a (157 + 5 * p)))), some (.int (i_n m))] [] h1 0 0 Q := by
    -- has it come there
    refine l_up ?_ ?_
    · intro h1 g1 f1 w1 hR hF hj
      refine d70_46 g1.l ?_
      try simp (disch := omega) only [n_lit, n_m, n_add, n_mul, n_div, n_mod, n_cl, n_lt, n_le, n_eq, n_in, n_eqm, n_meq, n_mlt, n_ltm, n_mle, n_lem, not_true_eq_false, not_false_eq_true, true_implies, false_implies, true_and, and_true, Nat.not_lt_zero, Nat.zero_le]
      exact ⟨fun _ => H0 (o_lst_n 61 0 (fun i _ h2 => hj i (by omega))) h1 g1 f1, fun e => absurd (by omega) e⟩
    · intro m hm ih h1 g1 f1 w1 hR hF hj
      have look : ∀ h2, i_CO a t h2 → i_FS h h2 → o_wei a h2 → (∀ i, i ≤ m → o_is (aJ h2 112 i) (a 0 * a 1) (o_rch a p i)) → o_fit a p m h2 → i_P i_MT i_AT L xs 70 110 [some (.ref 108), some (.int (i_n p)), some (.int (i_n c)), some (.int (i_n (a (157 + 5 * p)))), some (.int (i_n m))] [] h2 0 0 Q := by
        intro h2 g2 f2 w2 hR2 hF2
        refine d70_110 g2.l ?_
        try simp (disch := omega) only [n_lit, n_m, n_add, n_mul, n_div, n_mod, n_cl, n_lt, n_le, n_eq, n_in, n_eqm, n_meq, n_mlt, n_ltm, n_mle, n_lem, not_true_eq_false, not_false_eq_true, true_implies, false_implies, true_and, and_true, Nat.not_lt_zero, Nat.zero_le]
        refine ⟨by omega, c193 (by omega) ⟨_, rfl, d70_121 g2.l ?_⟩⟩
        rw [(hR2 m (Nat.le_refl m)).b hc (by omega)]
        try simp (disch := omega) only [n_lit, n_m, i_bo01, j_cmpn, Classical.not_not, n_add, n_mul, n_div, n_mod, n_cl, n_lt, n_le, n_eq, n_in, n_eqm, n_meq, n_mlt, n_ltm, n_mle, n_lem, not_true_eq_false, not_false_eq_true, true_implies, false_implies, true_and, and_true, Nat.not_lt_zero, Nat.zero_le]
        refine ⟨fun e => ih h2 g2 f2 w2 (fun i hi => hR2 i (by omega)) (by rw [show m + 1 - 1 = m by omega]; exact hF2) (fun i hi => ?_), fun e => c72 g2 hp hc (by omega) e hR2 hF2 (fun h3 g3 f3 e3 hP => ⟨rfl, d70_131 g3.l ?_⟩)⟩
        · by_cases ei : i = m
          · subst ei; simpa using e
          · exact hj i (by omega)
        · exact H1 m (o_lst_s (P := fun m => o_rch a p m c) (j := m) e 61 0 (by omega) (by omega) (fun i _ h2 => hj i h2)) h3 g3 ((f2.mono (by decide) (by decide)).trans (f3.mono (by decide) (by decide))) e3 hP
      refine d70_46 g1.l ?_
      try simp (disch := omega) only [n_lit, n_m, n_add, n_mul, n_div, n_mod, n_cl, n_lt, n_le, n_eq, n_in, n_eqm, n_meq, n_mlt, n_ltm, n_mle, n_lem, not_true_eq_false, not_false_eq_true, true_implies, false_implies, true_and, and_true, Nat.not_lt_zero, Nat.zero_le]
      refine ⟨fun e => by omega, fun _ => ⟨fun e => look h1 g1 f1 w1 (fun i hi => hR i (by omega)) (fun i h1 h2 => by omega), fun e => ?_⟩⟩
      refine c69 (d := 2) g1 w1 hwb (by omega) (by omega) (fun s2 h2 e2 g2 f2 => ⟨_, rfl, d70_72 g2.l ⟨61, aJ h2 114, g2.l.a114, ?_⟩⟩)
      try simp (disch := omega) only [n_lit, n_m, n_add, n_mul, n_div, n_mod, n_cl, n_lt, n_le, n_eq, n_in, n_eqm, n_meq, n_mlt, n_ltm, n_mle, n_lem, not_true_eq_false, not_false_eq_true, true_implies, false_implies, true_and, and_true, Nat.not_lt_zero, Nat.zero_le]
      have fr2 : i_Fr [114] [] h2 (i_siJ h2 114 m s2) := i_Fr.refl.siJ (by decide)
      have g3 := g2.fp fr2 g2.l.siJ (by decide) (by decide)
      have w3 := (w1.fr f2 (by decide)).fr fr2 (by decide)
      have e3 : aJ (i_siJ h2 114 m s2) 114 m = s2 := i_siJ_at g2.l.a114
      have n3 : ∀ i, i ≠ m → aJ (i_siJ h2 114 m s2) 114 i = aJ h1 114 i := fun i hi => by rw [i_siJ_no g2.l.a114 hi, f2.rJ (by decide)]
      have r3 : aJ (i_siJ h2 114 m s2) 112 = aJ h1 112 ∧ aJ (i_siJ h2 114 m s2) 113 = aJ h1 113 := ⟨by rw [fr2.rJ (by decide), f2.rJ (by decide)], by rw [fr2.rJ (by decide), f2.rJ (by decide)]⟩
      have F3 : i_FS h (i_siJ h2 114 m s2) := (f1.trans f2.s4).siJ (by decide)
      refine ⟨by omega, d70_73 g3.l ?_⟩
      generalize i_siJ h2 114 m s2 = h3 at g3 w3 e3 n3 r3 F3 ⊢
      refine c69 (d := 0) g3 w3 hwb (by omega) (by omega) (fun s4 h4 e4 g4 f4 => ⟨_, rfl, d70_87 g4.l ⟨61, aJ h4 113, g4.l.a113, ?_⟩⟩)
      try simp (disch := omega) only [n_lit, n_m, n_add, n_mul, n_div, n_mod, n_cl, n_lt, n_le, n_eq, n_in, n_eqm, n_meq, n_mlt, n_ltm, n_mle, n_lem, not_true_eq_false, not_false_eq_true, true_implies, false_implies, true_and, and_true, Nat.not_lt_zero, Nat.zero_le]
      have fr4 : i_Fr [113] [] h4 (i_siJ h4 113 m s4) := i_Fr.refl.siJ (by decide)
      have g5 := g4.fp fr4 g4.l.siJ (by decide) (by decide)
      have w5 := (w3.fr f4 (by decide)).fr fr4 (by decide)
      have e5 : aJ (i_siJ h4 113 m s4) 113 m = s4 := i_siJ_at g4.l.a113
      have n5 : ∀ i, i ≠ m → aJ (i_siJ h4 113 m s4) 113 i = aJ h1 113 i := fun i hi => by rw [i_siJ_no g4.l.a113 hi, f4.rJ (by decide), r3.2]
      have r5 : aJ (i_siJ h4 113 m s4) 112 = aJ h1 112 ∧ aJ (i_siJ h4 113 m s4) 114 = aJ h3 114 := ⟨by rw [fr4.rJ (by decide), f4.rJ (by decide), r3.1], by rw [fr4.rJ (by decide), f4.rJ (by decide)]⟩
      have F5 : i_FS h (i_siJ h4 113 m s4) := (F3.trans f4.s4).siJ (by decide)
      refine ⟨by omega, d70_88 g5.l ?_⟩
      generalize i_siJ h4 113 m s4 = h5 at g5 w5 e5 n5 r5 F5 ⊢
      have hF5 : o_fit a p m h5 := by
        intro i hi1 hi2
        by_cases ei : i = m
        · subst ei
          rw [e5, r5.2, e3]
          exact ⟨e4, e2⟩
        · rw [n5 i ei, r5.2, n3 i ei]
          exact hF i hi1 (by omega)
      try simp (disch := omega) only [n_lit, n_m, n_add, n_mul, n_div, n_mod, n_cl, n_lt, n_le, n_eq, n_in, n_eqm, n_meq, n_mlt, n_ltm, n_mle, n_lem, not_true_eq_false, not_false_eq_true, true_implies, false_implies, true_and, and_true, Nat.not_lt_zero, Nat.zero_le, n_sub]
      rw [r5.1]
      have hm1 := hR (m - 1) (by omega)
      refine ⟨by omega, c71 g5.l g5.w g5.2.1 hm1 (by omega) (hF5 m (by omega) (Nat.le_refl m)).2 (hF5 m (by omega) (Nat.le_refl m)).1 (fun s6 e6 => ⟨_, rfl, d70_109 g5.l ⟨61, aJ h5 112, g5.l.a112, ?_⟩⟩)⟩
      try simp (disch := omega) only [n_lit, n_m, n_add, n_mul, n_div, n_mod, n_cl, n_lt, n_le, n_eq, n_in, n_eqm, n_meq, n_mlt, n_ltm, n_mle, n_lem, not_true_eq_false, not_false_eq_true, true_implies, false_implies, true_and, and_true, Nat.not_lt_zero, Nat.zero_le]
      have fr6 : i_Fr [112] [] h5 (i_siJ h5 112 m s6) := i_Fr.refl.siJ (by decide)
      have g6 := g5.fp fr6 g5.l.siJ (by decide) (by decide)
      refine ⟨by omega, look _ g6 (F5.siJ (by decide)) (w5.fr fr6 (by decide)) (fun i hi => ?_) (by unfold o_fit; rw [fr6.rJ (by decide), fr6.rJ (by decide)]; exact hF5)⟩
      by_cases ei : i = m
      · subst ei
        rw [i_siJ_at g5.l.a112]
        refine e6.congr (fun c2 _ => ?_)
        obtain ⟨j, rfl⟩ : ∃ j, i = j + 1 := ⟨i - 1, by omega⟩
        rw [show j + 1 - 1 = j by omega, o_rch]
      · rw [i_siJ_no g5.l.a112 ei, r5.1]; exact hR i (by omega)
  refine e70 (d70_0 g.l (c67 g (fun h1 g1 f1 w1 => ⟨rfl, d70_4 g1.l ⟨t, g1.tw, g1.T, ?_⟩⟩)))
  rw [n_cl (by omega), g1.wa hp]
  refine ⟨(n_in (by omega)).mpr (by omega), t, g1.tw, g1.T, ?_⟩
  rw [(g1.st hp).1]
  try simp (disch := omega) only [n_lit, n_m, n_add, n_mul, n_div, n_mod, n_cl, n_lt, n_le, n_eq, n_in, n_eqm, n_meq, n_mlt, n_ltm, n_mle, n_lem, not_true_eq_false, not_false_eq_true, true_implies, false_implies, true_and, and_true, Nat.not_lt_zero, Nat.zero_le]
  have fr : i_Fr [112] [] h1 (i_siJ h1 112 0 ((1 : Int64) <<< ((i_n (a (154 + 5 * p))).toInt64 &&& (63 : Int64)))) := i_Fr.refl.siJ (by decide)
  have g2 := g1.fp fr g1.l.siJ (by decide) (by decide)
  refine ⟨by omega, by omega, d70_43 g2.l ?_⟩
  try simp (disch := omega) only [n_lit, n_m, n_add, n_mul, n_div, n_mod, n_cl, n_lt, n_le, n_eq, n_in, n_eqm, n_meq, n_mlt, n_ltm, n_mle, n_lem, not_true_eq_false, not_false_eq_true, true_implies, false_implies, true_and, and_true, Nat.not_lt_zero, Nat.zero_le]
  refine key 0 (by omega) _ g2 ((f1.mono (by decide) (by decide)).trans (fr.mono (by decide) (by decide))) (w1.fr fr (by decide)) (fun i hi => ?_) (fun i h1 h2 => by omega) (fun i hi => absurd hi (Nat.not_lt_zero i))
  have e : i = 0 := by omega
  subst e
  rw [i_siJ_at g1.l.a112]
  exact o_is.one hs (by omega)
theorem c155 (g : i_ST a t h) {x y : Int32} (Hb : ¬ (v_p a x ∧ v_f a y) → i_K0 a t h Q (-1, 1)) (H0 : ∀ p c, x = i_n p → y = i_n c → p < a 5 → c < a 0 * a 1 → o_wall a c = false → o_wyA a p c = none → ∀ h2, i_ST a t h2 → i_FS h h2 → fI h2 0 0 = 6 → Q (some (.int (-1))) h2) (H1 : ∀ p c T, x = i_n p → y = i_n c → p < a 5 → c < a 0 * a 1 → o_wall a c = false → o_wyA a p c = some T → T ≤ 60 → ∀ h2, i_ST a t h2 → i_Fr (109 :: fsA) ((108, 1) :: fsF) h h2 → fI h2 0 0 = 0 → fI h2 108 1 = i_n T → (∀ m, m ≤ T → aI h2 109 m = i_n (o_pth a p c T m)) → Q (some (.int (i_n T))) h2) : i_C i_MT i_AT L xs 155 [.ref 0, .int x, .int y] h Q := by
  have h5 := g.w.2.2.2.2.1
  have bad : ¬ (v_p a x ∧ v_f a y) → i_P i_MT i_AT L xs 155 16 [some (.ref 0), some (.int x), some (.int y)] [] h 0 0 Q := fun z => d155_16 g.l (m179 g (fun h2 g2 f2 s2 => ⟨_, rfl, d155_21 g2.l (Hb z h2 g2 f2 s2)⟩))
  refine e155 (d155_0 g.l (c186 g ⟨_, rfl, d155_5 g.l ?_⟩))
  rw [i_bo_0, Classical.not_not]
  refine ⟨fun z => bad (fun q => z q.1), fun z => c189 g ⟨_, rfl, d155_13 g.l ?_⟩⟩
  rw [i_bo_0, Classical.not_not]
  refine ⟨fun z2 => ?_, fun z2 => bad (fun q => z2 q.2)⟩
  obtain ⟨p, hp, rfl⟩ := n_get z (by omega)
  obtain ⟨c, hc, rfl, hcw⟩ := v_f_get g.w z2
  refine c70 g.1 hp hc (fun e h1 g1 f1 => ?_) (fun T e h1 g1 f1 e1 hP => ?_)
  · have G1 := g.fs g1 f1
    refine ⟨_, rfl, d155_32 G1.l (c183 G1.l.q0_0 ⟨_, rfl, ?_⟩)⟩
    have s := G1.s0 6
    rw [if_pos rfl]
    exact d155_35 s.1.l (H0 p c rfl rfl hp hc hcw e _ s.1 (f1.trans s.2.1.s) s.2.2)
  · have G1 : i_ST a t h1 := ⟨g1, by rw [f1.vR (by decide)]; exact g.2⟩
    have hT : T ≤ 60 := by have := (o_lst_g _ _ _ e).2.1; omega
    refine ⟨_, rfl, d155_32 G1.l (c183 G1.l.q0_0 ⟨_, rfl, ?_⟩)⟩
    have s := G1.s0 0
    have ne : ¬ i_n T = -1 := by
      show ¬ i_n T = i_m
      rw [n_eqm (by omega)]; exact fun q => q
    rw [if_neg ne]
    refine d155_35 s.1.l (H1 p c T rfl rfl hp hc hcw e hT _ s.1 (f1.trans (s.2.1.mono (by decide) (by decide))) s.2.2 ?_ ?_)
    · rw [s.2.1.vI (by decide)]; exact e1
    · rw [s.2.1.rI (by decide)]; exact hP
/-- a cell of the way told -/
def o_wcA (n : Int32) (P : Nat → Int32) (x : Int32) : Int32 × Int32 := if 0 ≤ x ∧ x ≤ n then (P x.toNatClampNeg, 0) else (-1, 6)
def o_wl (n : Int32) : Prop := n = i_m ∨ ∃ T, T ≤ 60 ∧ n = i_n T
theorem o_wl.g {n x : Int32} (w : o_wl n) (hx : 0 ≤ x ∧ x ≤ n) : ∃ k, k ≤ 60 ∧ x = i_n k := by
  rcases w with e | ⟨T, hT, e⟩
  · subst e
    exact absurd (Int32.le_trans hx.1 hx.2) (by decide)
  · subst e
    obtain ⟨k, hk, rfl⟩ := n_gle hx (by omega)
    exact ⟨k, by omega, rfl⟩
theorem c156 (g : i_ST a t h) {x : Int32} (w : o_wl (fI h 108 1)) (H : i_K0 a t h Q (o_wcA (fI h 108 1) (aI h 109) x)) : i_C i_MT i_AT L xs 156 [.ref 0, .int x] h Q := by
  unfold o_wcA at H
  refine e156 (d156_0 g.l (c192 ⟨_, rfl, d156_12 g.l ?_⟩))
  rw [i_bo_0, Classical.not_not]
  refine ⟨fun z => ?_, fun z => m179 g (fun h2 g2 f2 s2 => ⟨_, rfl, d156_21 g2.l (by rw [if_neg z] at H; exact H h2 g2 f2 s2)⟩)⟩
  rw [if_pos z] at H
  obtain ⟨k, hk, rfl⟩ := w.g z
  exact ⟨(n_in (by omega)).mpr (by omega), m181 g (fun h2 g2 f2 s2 => ⟨_, rfl, d156_35 g2.l (H h2 g2 f2 s2)⟩)⟩
theorem c288 (r : i_RA a h) {x : Int32} (w : o_wl (fI h 138 36)) (H : i_R0 a h Q (o_wcA (fI h 138 36) (aI h 157) x)) : i_C i_MT i_AT L xs 288 [.ref 138, .int x] h Q := by
  unfold o_wcA at H
  have bad : ¬ (0 ≤ x ∧ x ≤ fI h 138 36) → i_P i_MT i_AT L xs 288 12 [some (.ref 138), some (.int x)] [] h 0 0 Q := by
    intro z
    rw [if_neg z] at H
    exact d288_12 r.1 (m201 r (fun h2 g2 f2 s2 => ⟨_, rfl, d288_18 g2.1 (d288_31 g2.1 (H h2 g2 f2 s2))⟩))
  refine e288 (d288_0 r.1 ⟨fun z => bad (fun q => absurd q.1 (Int32.not_le.mpr z)), fun z => ⟨fun z2 => ?_, fun z2 => bad (fun q => z2 q.2)⟩⟩)
  have z3 : 0 ≤ x ∧ x ≤ fI h 138 36 := ⟨Int32.not_lt.mp z, z2⟩
  rw [if_pos z3] at H
  obtain ⟨k, hk, rfl⟩ := w.g z3
  exact ⟨(n_in (by omega)).mpr (by omega), m202 r (fun h2 g2 f2 s2 => ⟨_, rfl, d288_31 g2.1 (H h2 g2 f2 s2)⟩)⟩
end
