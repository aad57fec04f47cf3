/-! HUNTED: that it ends; the class's question; the reference -/
section
variable {L : Nat} {xs : Nat → Int32} {h : iH} {Q : Option Value → iH → Prop} {a : Nat → Nat} {t : Nat}
set_option maxRecDepth 20000
theorem o_cn0_lt {P R : Nat → Bool} (hPR : ∀ i, P i = true → R i = true) : ∀ n i, i < n → P i = false → R i = true → o_cn0 P n + 1 ≤ o_cn0 R n
  | 0, i, h, _, _ => absurd h (Nat.not_lt_zero i)
  | n + 1, i, h, h1, h2 => by
    rw [o_cn0, o_cn0]
    have le : ∀ m, o_cn0 P m ≤ o_cn0 R m := by
      intro m
      induction m with
      | zero => exact Nat.le_refl _
      | succ m ih =>
        rw [o_cn0, o_cn0]
        cases e : P m with
        | false => rw [if_neg (by decide)]; omega
        | true => rw [if_pos rfl, if_pos (hPR m e)]; omega
    by_cases ei : i = n
    · subst ei
      rw [h1, h2, if_neg (by decide), if_pos rfl]
      have := le i
      omega
    · have := o_cn0_lt hPR n i (by omega) h1 h2
      cases e : P n with
      | false => rw [if_neg (by decide)]; omega
      | true => rw [if_pos rfl, if_pos (hPR n e)]; omega
def o_hq (a : Nat → Nat) (k i : Nat) : Bool := decide (i / 48 < a 0 * a 1 ∧ i % 48 < a 0 * a 1 ∧ o_wall a (i / 48) = false ∧ o_wall a (i % 48) = false) && o_ht a k (i / 48) (i % 48)
def o_hw (a : Nat → Nat) (k : Nat) : Nat := o_cn0 (o_hq a k) 2304
theorem o_hc_f {k : Nat} : o_hc a k = false ↔ ∀ u c, u < a 0 * a 1 → c < a 0 * a 1 → o_wall a u = false → o_ht a (k + 1) u c = o_ht a k u c := by
  unfold o_hc o_hr
  rw [← Bool.not_eq_true, o_or_t]
  constructor
  · intro z u c hu hc hw
    cases q1 : o_ht a k u c with
    | true => exact o_ht_t.mpr (Or.inl q1)
    | false =>
      rw [← Bool.not_eq_true]
      intro q2
      exact z ⟨u, hu, by rw [hw, Bool.not_false, Bool.true_and, o_or_t]; exact ⟨c, hc, by rw [q1, q2]; rfl⟩⟩
  · rintro z ⟨u, hu, q⟩
    rw [Bool.and_eq_true, o_or_t, Bool.not_eq_true'] at q
    obtain ⟨hw, c, hc, q⟩ := q
    rw [z u c hu hc hw] at q
    simp at q
theorem o_okm_w {u u1 : Nat} (hw : o_wall a u = false) (h : o_okm a u u1 = true) : o_wall a u1 = false := by
  rcases o_okm_t.mp h with rfl | ⟨-, z⟩
  · exact hw
  · exact z
theorem o_ht_wc {u c : Nat} (hw : o_wall a c = true) : ∀ k, o_ht a k u c = (u == c)
  | 0 => rfl
  | k + 1 => by rw [o_ht, hw, Bool.not_true, Bool.and_false, Bool.false_and, Bool.or_false]; exact o_ht_wc hw k
theorem o_hc_up {k : Nat} (e : o_hc a k = false) : o_hc a (k + 1) = false := by
  rw [o_hc_f] at e ⊢
  intro u c hu hc hw
  rw [Bool.eq_iff_iff, o_ht_t, o_ht_t (k := k)]
  rw [← o_ht_t (k := k)]
  constructor
  · rintro (z | ⟨z1, z2, u1, z3, z4, z5⟩)
    · exact z
    · refine o_ht_t.mpr (Or.inr ⟨z1, z2, u1, z3, z4, z5.imp id (fun z c1 h1 h2 => ?_)⟩)
      rw [← e u1 c1 z3 h1 (o_okm_w z1 z4)]
      exact z c1 h1 h2
  · exact Or.inl
theorem o_hc_ge {k : Nat} (e : o_hc a k = false) : ∀ j, k ≤ j → o_hc a j = false ∧ ∀ u c, u < a 0 * a 1 → c < a 0 * a 1 → o_wall a u = false → o_ht a j u c = o_ht a k u c := by
  intro j hj
  obtain ⟨d, rfl⟩ : ∃ d, j = k + d := ⟨j - k, by omega⟩
  clear hj
  induction d with
  | zero => exact ⟨e, fun u c _ _ _ => rfl⟩
  | succ d ih =>
    obtain ⟨i1, i2⟩ := ih
    exact ⟨o_hc_up i1, fun u c hu hc hw => (o_hc_f.mp i1 u c hu hc hw).trans (i2 u c hu hc hw)⟩
theorem o_hw_le {k : Nat} : o_hw a k ≤ 2304 := o_cn0_le 2304
theorem o_hw_up (w : o_WF a) {k : Nat} (e : o_hc a k = true) : o_hw a k + 1 ≤ o_hw a (k + 1) := by
  have h48 := w.c48
  unfold o_hc o_hr at e
  rw [o_or_t] at e
  obtain ⟨u, hu, e⟩ := e
  rw [Bool.and_eq_true, o_or_t, Bool.not_eq_true'] at e
  obtain ⟨hw, c, hc, e⟩ := e
  rw [Bool.and_eq_true, Bool.not_eq_true'] at e
  have hwc : o_wall a c = false := by
    rw [← Bool.not_eq_true]
    intro q
    rw [o_ht_wc q, o_ht_wc q] at e
    rw [e.1] at e; cases e.2
  have e1 : (48 * u + c) / 48 = u := by omega
  have e2 : (48 * u + c) % 48 = c := by omega
  refine o_cn0_lt (fun i z => ?_) 2304 (48 * u + c) (by omega) ?_ ?_
  · unfold o_hq at z ⊢
    rw [Bool.and_eq_true] at z ⊢
    exact ⟨z.1, o_ht_t.mpr (Or.inl z.2)⟩
  · unfold o_hq
    rw [e1, e2, e.2, Bool.and_false]
  · unfold o_hq
    rw [e1, e2, e.1, Bool.and_true, decide_eq_true_eq]
    exact ⟨hu, hc, hw, hwc⟩
theorem o_hw_ge (w : o_WF a) {x : Nat} (hx : x < a 0 * a 1) (hw : o_wall a x = false) : ∀ k, (∀ j, j < k → o_hc a j = true) → k + 1 ≤ o_hw a k
  | 0, _ => by
    have h48 := w.c48
    unfold o_hw
    have := o_cn0_mono (P := o_hq a 0) 2304 (48 * x + x + 1) (by omega)
    rw [o_cn0, if_pos (by
      unfold o_hq
      rw [show (48 * x + x) / 48 = x by omega, show (48 * x + x) % 48 = x by omega, Bool.and_eq_true, decide_eq_true_eq]
      exact ⟨⟨hx, hx, hw, hw⟩, by rw [o_ht]; simp⟩)] at this
    omega
  | k + 1, z => by
    have := o_hw_ge w hx hw k (fun j hj => z j (by omega))
    have := o_hw_up w (z k (by omega))
    omega
theorem o_hw_b (w : o_WF a) {x k : Nat} (hx : x < a 0 * a 1) (hw : o_wall a x = false) (z : ∀ j, j < k → o_hc a j = true) : k ≤ 2303 := by
  have := o_hw_ge w hx hw k z
  have := o_hw_le (a := a) (k := k)
  omega
def o_htN (a : Nat → Nat) (u c : Nat) : Option Nat := o_lst (fun k => o_ht a k u c) 2304 0
def o_htA (a : Nat → Nat) (x y : Int32) : Int32 × Int32 := o_A6 (v_f a x ∧ v_f a y) (o_htN a x.toNatClampNeg y.toNatClampNeg)
/-- how far the rounds have come: on, or at their end -/
def o_hs (a : Nat → Nat) (k : Nat) (b : Bool) : Prop := if b = true then ∀ j, j < k → o_hc a j = true else 1 ≤ k ∧ o_hc a (k - 1) = false ∧ ∀ j, j < k - 1 → o_hc a j = true
theorem o_hs.b (w : o_WF a) {x k : Nat} {b : Bool} (z : o_hs a k b) (hx : x < a 0 * a 1) (hw : o_wall a x = false) : k ≤ 2304 ∧ (b = true → k ≤ 2303) := by
  unfold o_hs at z
  cases b with
  | true =>
    rw [if_pos rfl] at z
    have := o_hw_b w hx hw z
    exact ⟨by omega, fun _ => this⟩
  | false =>
    rw [if_neg (by decide)] at z
    have := o_hw_b w hx hw z.2.2
    exact ⟨by omega, fun z => by cases z⟩
theorem o_hs.n {k : Nat} (z : o_hs a k true) : o_hs a (k + 1) (o_hc a k) := by
  unfold o_hs at z ⊢
  rw [if_pos rfl] at z
  cases e : o_hc a k with
  | true =>
    rw [if_pos rfl]
    intro j hj
    by_cases ej : j = k
    · subst ej; exact e
    · exact z j (by omega)
  | false =>
    rw [if_neg (by decide)]
    exact ⟨by omega, e, z⟩
/-- the answer when the rounds are over -/
theorem o_hs.no (w : o_WF a) {k u c : Nat} {b : Bool} (z : o_hs a k b) (hu : u < a 0 * a 1) (hc : c < a 0 * a 1) (hw : o_wall a u = false) (hb : b = false) (hno : ∀ j, j < k → o_ht a j u c = false) : o_ht a k u c = false ∧ o_htN a u c = none := by
  subst hb
  unfold o_hs at z
  rw [if_neg (by decide)] at z
  obtain ⟨z1, z2, -⟩ := z
  have st := o_hc_ge z2
  have h0 := hno (k - 1) (by omega)
  have all : ∀ j, o_ht a j u c = false := fun j => by
    by_cases q : j < k
    · exact hno j q
    · rw [(st j (by omega)).2 u c hu hc hw]; exact h0
  exact ⟨all k, o_lst_n 2304 0 (fun j _ _ => all j)⟩
theorem o_ht_fnd {k u c : Nat} (hk : k ≤ 2303) (e : o_ht a k u c = true) (hno : ∀ j, j < k → o_ht a j u c = false) : o_htN a u c = some k := o_lst_s (P := fun k => o_ht a k u c) (j := k) e 2304 0 (by omega) (by omega) (fun j _ hj => hno j hj)
set_option maxHeartbeats 1000000 in
theorem c60 (g : i_CO a t h) {u c : Nat} (hu : u < a 0 * a 1) (hc : c < a 0 * a 1) (hw : o_wall a u = false) (H : ∀ h2, i_CO a t h2 → i_Fr [131, 132] [] h h2 → Q (some (.int (o_op (o_htN a u c)))) h2) : i_C i_MT i_AT L xs 60 [.ref 121, .int (i_n u), .int (i_n c)] h Q := by
  have h48 := g.w.c48
  have gfr : ∀ {h1 h2 : iH}, i_CO a t h1 → i_Lay h2 → i_Fr [131] [] h1 h2 → i_CO a t h2 := fun g1 L2 f => g1.fr L2 f (by decide) (fun q z => absurd z (by simp))
  have key : ∀ k, k ≤ 2305 → ∀ (b : Bool) h1, o_hs a k b → (∀ u, u < a 0 * a 1 → o_wall a u = false → o_is (aJ h1 131 u) (a 0 * a 1) (o_ht a k u)) → (∀ j, j < k → o_ht a j u c = false) → i_CO a t h1 → i_Fr [131, 132] [] h h1 → i_P i_MT i_AT L xs 60 39 [some (.ref 121), some (.int (i_n u)), some (.int (i_n c)), some (.int (i_n k)), some (.int (i_bo (b = true))), some (.int (i_n k))] [] h1 0 0 Q := by
    refine l_up ?_ ?_
    · intro b h1 z _ _ g1 _
      have := (z.b g1.w hu hw).1
      omega
    · intro k hk ih b h1 z hW hno g1 f1
      have hb := z.b g1.w hu hw
      have hrow := (hW u hu hw).b hc (by omega)
      have out : b = false ∨ o_ht a k u c = true → i_P i_MT i_AT L xs 60 80 [some (.ref 121), some (.int (i_n u)), some (.int (i_n c)), some (.int (i_n k)), some (.int (i_bo (b = true))), some (.int (i_n k))] [] h1 0 0 Q := by
        intro q
        refine d60_80 g1.l ?_
        try simp (disch := omega) only [n_lit, n_m, n_add, n_mul, n_div, n_mod, n_cl, n_lt, n_le, n_eq, n_in, n_eqm, n_meq, n_mlt, n_ltm, n_mle, n_lem, not_true_eq_false, not_false_eq_true, true_implies, false_implies, true_and, and_true, Nat.not_lt_zero, Nat.zero_le]
        refine ⟨by omega, c193 (by omega) ⟨_, rfl, d60_90 g1.l ?_⟩⟩
        rw [hrow]
        rw [i_bo_0, Classical.not_not]
        refine ⟨fun e => d60_98 g1.l ?_, fun e => d60_98 g1.l ?_⟩
        · have bf : b = false := q.resolve_right e
          rw [(z.no g1.w hu hc hw bf hno).2] at H
          exact H h1 g1 f1
        · have bt : b = true := by
            cases b with
            | true => rfl
            | false => rw [(z.no g1.w hu hc hw rfl hno).1] at e; cases e
          rw [o_ht_fnd (hb.2 bt) e hno] at H
          exact H h1 g1 f1
      refine d60_39 g1.l ?_
      rw [i_bo_0]
      try simp (disch := omega) only [n_lit, n_m, n_add, n_mul, n_div, n_mod, n_cl, n_lt, n_le, n_eq, n_in, n_eqm, n_meq, n_mlt, n_ltm, n_mle, n_lem, not_true_eq_false, not_false_eq_true, true_implies, false_implies, true_and, and_true, Nat.not_lt_zero, Nat.zero_le]
      refine ⟨fun e => out (Or.inl (by
        cases b with
        | false => rfl
        | true => have := hb.2 rfl; omega)), fun _ => ⟨fun e => out (Or.inl (by simpa using e)), fun e => ⟨by omega, c193 (by omega) ⟨_, rfl, d60_62 g1.l ?_⟩⟩⟩⟩
      rw [hrow]
      rw [i_bo_0, Classical.not_not]
      have bt : b = true := by simpa using e
      subst bt
      refine ⟨fun e2 => out (Or.inr e2), fun e2 => c61 g1 hW (fun h2 g2 f2 hW2 => ⟨_, rfl, d60_69 g2.l ?_⟩)⟩
      try simp (disch := omega) only [n_lit, n_m, n_add, n_mul, n_div, n_mod, n_cl, n_lt, n_le, n_eq, n_in, n_eqm, n_meq, n_mlt, n_ltm, n_mle, n_lem, not_true_eq_false, not_false_eq_true, true_implies, false_implies, true_and, and_true, Nat.not_lt_zero, Nat.zero_le]
      refine ih (o_hc a k) h2 z.n hW2 (fun j hj => ?_) g2 (f1.trans f2)
      by_cases ej : j = k
      · subst ej; simpa using e2
      · exact hno j (by omega)
  have init : ∀ v, v ≤ a 0 * a 1 → ∀ h1, i_CO a t h1 → i_Fr [131] [] h h1 → (∀ v2, v2 < v → o_is (aJ h1 131 v2) (a 0 * a 1) (o_ht a 0 v2)) → ∀ (y4 y5 : Option Value), i_P i_MT i_AT L xs 60 2 [some (.ref 121), some (.int (i_n u)), some (.int (i_n c)), some (.int (i_n v)), y4, y5] [] h1 0 0 Q := by
    refine l_up ?_ ?_
    · intro h1 g1 f1 hS y4 y5
      refine d60_2 g1.l ?_
      rw [g1.2.1.1.2.2]
      try simp (disch := omega) only [n_lit, n_m, n_add, n_mul, n_div, n_mod, n_cl, n_lt, n_le, n_eq, n_in, n_eqm, n_meq, n_mlt, n_ltm, n_mle, n_lem, not_true_eq_false, not_false_eq_true, true_implies, false_implies, true_and, and_true, Nat.not_lt_zero, Nat.zero_le, Nat.le_refl]
      refine key 0 (by omega) true h1 ?_ (fun u hu _ => hS u hu) (fun j hj => absurd hj (Nat.not_lt_zero j)) g1 (f1.mono (by decide) (fun _ z => z))
      unfold o_hs
      rw [if_pos rfl]
      exact fun j hj => absurd hj (Nat.not_lt_zero j)
    · intro v hv ih h1 g1 f1 hS y4 y5
      refine d60_2 g1.l ?_
      rw [g1.2.1.1.2.2]
      try simp (disch := omega) only [n_lit, n_m, n_add, n_mul, n_div, n_mod, n_cl, n_lt, n_le, n_eq, n_in, n_eqm, n_meq, n_mlt, n_ltm, n_mle, n_lem, not_true_eq_false, not_false_eq_true, true_implies, false_implies, true_and, and_true, Nat.not_lt_zero, Nat.zero_le]
      have Fi : i_Fr [131] [] h1 (i_siJ h1 131 v ((1 : Int64) <<< ((i_n v).toInt64 &&& (63 : Int64)))) := i_Fr.refl.siJ (by decide)
      have g2 := gfr g1 g1.l.siJ Fi
      refine ⟨fun e => by omega, fun _ => ⟨by omega, d60_25 g2.l ?_⟩⟩
      try simp (disch := omega) only [n_lit, n_m, n_add, n_mul, n_div, n_mod, n_cl, n_lt, n_le, n_eq, n_in, n_eqm, n_meq, n_mlt, n_ltm, n_mle, n_lem, not_true_eq_false, not_false_eq_true, true_implies, false_implies, true_and, and_true, Nat.not_lt_zero, Nat.zero_le]
      refine ih _ g2 (f1.trans Fi) (fun v2 hv2 => ?_) _ _
      by_cases e : v2 = v
      · subst e
        rw [i_siJ_at g1.l.a131]
        exact (o_is.one hv (by omega)).congr (fun c _ => by rw [o_ht, Bool.eq_iff_iff, beq_iff_eq, beq_iff_eq]; exact eq_comm)
      · rw [i_siJ_no g1.l.a131 e]
        exact hS v2 (by omega)
  refine e60 (d60_0 g.l ?_)
  try simp (disch := omega) only [n_lit, n_m, n_add, n_mul, n_div, n_mod, n_cl, n_lt, n_le, n_eq, n_in, n_eqm, n_meq, n_mlt, n_ltm, n_mle, n_lem, not_true_eq_false, not_false_eq_true, true_implies, false_implies, true_and, and_true, Nat.not_lt_zero, Nat.zero_le]
  exact init 0 (Nat.zero_le _) h g i_Fr.refl (fun v hv => absurd hv (Nat.not_lt_zero v)) _ _
theorem c162 (g : i_ST a t h) {x y : Int32} (H : i_KS a t h Q (o_htA a x y)) : i_C i_MT i_AT L xs 162 [.ref 0, .int x, .int y] h Q := by
  have h48 := g.w.c48
  unfold o_htA at H
  have bad : ¬ (v_f a x ∧ v_f a y) → i_P i_MT i_AT L xs 162 16 [some (.ref 0), some (.int x), some (.int y)] [] h 0 0 Q := by
    intro z
    rw [o_A6_f z] at H
    exact d162_16 g.l (m179 g (fun h2 g2 f2 s2 => ⟨_, rfl, d162_21 g2.l (H h2 g2 f2.s s2)⟩))
  refine e162 (d162_0 g.l (c189 g ⟨_, rfl, d162_5 g.l ?_⟩))
  rw [i_bo_0, Classical.not_not]
  refine ⟨fun z => bad (fun q => z q.1), fun z => c189 g ⟨_, rfl, d162_13 g.l ?_⟩⟩
  rw [i_bo_0, Classical.not_not]
  refine ⟨fun z2 => ?_, fun z2 => bad (fun q => z2 q.2)⟩
  have H := H.a6 ⟨z, z2⟩
  obtain ⟨u, hu, rfl, hw⟩ := v_f_get g.w z
  obtain ⟨c, hc, rfl, hwc⟩ := v_f_get g.w z2
  rw [n_cl (by omega), n_cl (by omega)] at H
  refine c60 g.1 hu hc hw (fun h1 g1 f1 => ?_)
  have fs : i_FS h h1 := f1.mono (by decide) (by decide)
  have G1 := g.fs g1 fs
  refine ⟨_, rfl, d162_32 G1.l ?_⟩
  exact m183 G1 (fun k e => by have := o_lst_g _ _ _ e; omega) (fun h2 g2 f2 s2 => ⟨_, rfl, d162_35 g2.l (H h2 g2 (fs.trans f2.s) s2)⟩)
/-- the first of n rounds in which it is caught, or none of them -/
def o_hz (a : Nat → Nat) (n u c : Nat) : Option Nat := if u = c ∨ (o_wall a u = false ∧ o_wall a c = false) then o_lst (fun k => o_ht a k u c) n 0 else none
def o_htb (a : Nat → Nat) (h : iH) (n : Nat) : Prop := ∀ u c, u < a 0 * a 1 → c < a 0 * a 1 → aI h 169 (48 * u + c) = o_op (o_hz a n u c)
theorem o_lst_add {P : Nat → Bool} : ∀ n k, o_lst P (n + 1) k = match o_lst P n k with
    | some j => some j
    | none => if P (k + n) = true then some (k + n) else none
  | 0, k => by rw [o_lst, o_lst]; rfl
  | n + 1, k => by
    rw [o_lst]
    rw [o_lst_add n (k + 1)]
    rw [show o_lst P (n + 1) k = if P k = true then some k else o_lst P n (k + 1) from rfl]
    by_cases e : P k = true
    · rw [if_pos e, if_pos e]
    · rw [if_neg e, if_neg e, show k + 1 + n = k + (n + 1) by omega]
theorem o_hz_lt {n u c k : Nat} (e : o_hz a n u c = some k) : k < n := by
  unfold o_hz at e
  split at e
  · have := (o_lst_g _ _ _ e).2.1; omega
  · cases e
/-- known to be caught before round k, for whom the reference asks -/
theorem o_hz_ht {k u c : Nat} (hw : o_wall a u = false) (hwc : o_wall a c = false) : o_ht a k u c = (o_hz a (k + 1) u c).isSome := by
  unfold o_hz
  rw [if_pos (Or.inr ⟨hw, hwc⟩)]
  have mono : ∀ j, j ≤ k → o_ht a j u c = true → o_ht a k u c = true := by
    intro j hj
    obtain ⟨d, rfl⟩ : ∃ d, k = j + d := ⟨k - j, by omega⟩
    clear hj
    intro z
    induction d with
    | zero => exact z
    | succ d ih => exact o_ht_t.mpr (Or.inl ih)
  cases e : o_lst (fun k => o_ht a k u c) (k + 1) 0 with
  | some j =>
    have := o_lst_g _ _ _ e
    exact mono j (by omega) this.2.2.1
  | none =>
    show o_ht a k u c = false
    rw [← Bool.not_eq_true]
    intro z
    rw [o_lst_add] at e
    cases e2 : o_lst (fun k => o_ht a k u c) k 0 with
    | some j => rw [e2] at e; cases e
    | none =>
      rw [e2] at e
      simp only [Nat.zero_add] at e
      rw [if_pos z] at e; cases e
end
