/-! HUNTED, the reference -/
section
variable {L : Nat} {xs : Nat → Int32} {h : iH} {Q : Option Value → iH → Prop} {a : Nat → Nat} {t : Nat}
set_option maxRecDepth 20000
theorem o_hz_s {n u c : Nat} : o_hz a (n + 1) u c = match o_hz a n u c with
    | some j => some j
    | none => if (u = c ∨ (o_wall a u = false ∧ o_wall a c = false)) ∧ o_ht a n u c = true then some n else none := by
  unfold o_hz
  by_cases e : u = c ∨ (o_wall a u = false ∧ o_wall a c = false)
  · rw [if_pos e, if_pos e, o_lst_add]
    cases o_lst (fun k => o_ht a k u c) n 0 with
    | some j => rfl
    | none => by_cases q : o_ht a n u c = true <;> simp [q, e]
  · rw [if_neg e, if_neg e]
    simp [e]
theorem o_hz_uu {n u : Nat} : o_hz a (n + 1) u u = some 0 := by
  unfold o_hz
  rw [if_pos (Or.inl rfl)]
  exact o_lst_s (P := fun k => o_ht a k u u) (j := 0) (by show (u == u) = true; simp) _ _ (by omega) (by omega) (fun i _ hi => absurd hi (Nat.not_lt_zero i))
/-- the table, as far as round k + 1 has come -/
def o_hm (a : Nat → Nat) (h : iH) (k i : Nat) : Prop := ∀ u c, u < a 0 * a 1 → c < a 0 * a 1 → aI h 169 (48 * u + c) = o_op (o_hz a (if 48 * u + c < i then k + 2 else k + 1) u c)
def o_hE (a : Nat → Nat) (k u c : Nat) : Bool := o_or (fun u1 => o_okm a u u1 && (u1 == c || o_aln (fun c1 => !o_okm a c c1 || o_ht a k u1 c1) (a 0 * a 1))) (a 0 * a 1)
theorem o_op_m {v : Option Nat} (hv : ∀ k, v = some k → k < 2147483648) : (o_op v = i_m ↔ v = none) := by
  cases v with
  | none => simp [o_op]
  | some k =>
    have := hv k rfl
    show i_n k = i_m ↔ _
    rw [n_eqm (by omega)]
    simp
theorem o_hm_q {k i u c : Nat} (hm : o_hm a h k i) (hk : k ≤ 2304) (hu : u < a 0 * a 1) (hc : c < a 0 * a 1) (hw : o_wall a u = false) (hwc : o_wall a c = false) : (¬ aI h 169 (48 * u + c) = i_m ∧ ¬ i_n (k + 1) ≤ aI h 169 (48 * u + c)) ↔ o_ht a k u c = true := by
  rw [hm u c hu hc, o_hz_ht hw hwc]
  have e2 := o_hz_s (a := a) (n := k + 1) (u := u) (c := c)
  have h1 : ∀ j, o_hz a (k + 1) u c = some j → j < k + 1 := fun j e => o_hz_lt e
  cases hv : o_hz a (k + 1) u c with
  | some j =>
    have hj := h1 j hv
    rw [hv] at e2
    have : o_hz a (if 48 * u + c < i then k + 2 else k + 1) u c = some j := by
      split
      · exact e2
      · exact hv
    rw [this]
    show (¬ i_n j = i_m ∧ ¬ i_n (k + 1) ≤ i_n j) ↔ _
    rw [n_eqm (by omega), n_le (by omega) (by omega)]
    simp; omega
  | none =>
    rw [hv] at e2
    split
    · rw [e2]
      simp only
      split
      · show (¬ i_n (k + 1) = i_m ∧ ¬ i_n (k + 1) ≤ i_n (k + 1)) ↔ _
        rw [n_le (by omega) (by omega)]
        simp
      · show (¬ i_m = i_m ∧ _) ↔ _
        simp
    · rw [hv]
      show (¬ i_m = i_m ∧ _) ↔ _
      simp
set_option maxHeartbeats 1000000 in
theorem c305 (r : i_RA a h) {u c k i : Nat} (hu : u < a 0 * a 1) (hc : c < a 0 * a 1) (hw : o_wall a u = false) (hwc : o_wall a c = false) (hk : k ≤ 2304) (hm : o_hm a h k i) (H : Q (some (.int (i_bo (o_hE a k u c = true)))) h) : i_C i_MT i_AT L xs 305 [.ref 138, .int (i_n u), .int (i_n c), .int (i_n (k + 1))] h Q := by
  have h48 := r.2.1.c48
  let E := fun u1 => o_okm a u u1 && (u1 == c || o_aln (fun c1 => !o_okm a c c1 || o_ht a k u1 c1) (a 0 * a 1))
  have key : ∀ u1, u1 ≤ a 0 * a 1 → (∀ v, v < u1 → E v = false) → ∀ (y5 y6 : Option Value), i_P i_MT i_AT L xs 305 3 [some (.ref 138), some (.int (i_n u)), some (.int (i_n c)), some (.int (i_n (k + 1))), some (.int (i_n u1)), y5, y6] [] h 0 0 Q := by
    refine l_up ?_ ?_
    · intro z y5 y6
      refine d305_3 r.1 (c248 r ⟨_, rfl, d305_9 r.1 ?_⟩)
      try simp (disch := omega) only [n_lit, n_m, n_add, n_mul, n_div, n_mod, n_cl, n_lt, n_le, n_eq, n_in, n_eqm, n_meq, n_mlt, n_ltm, n_mle, n_lem, not_true_eq_false, not_false_eq_true, true_implies, false_implies, true_and, and_true, Nat.not_lt_zero, Nat.zero_le, Nat.le_refl]
      have : o_hE a k u c = false := by
        unfold o_hE
        rw [← Bool.not_eq_true, o_or_t]
        rintro ⟨v, h1, h2⟩
        have z := z v h1
        dsimp only [E] at z
        rw [z] at h2; cases h2
      rw [this] at H
      exact H
    · intro u1 hu1 ih z y5 y6
      have no : E u1 = false → ∀ (y5 y6 : Option Value), i_P i_MT i_AT L xs 305 115 [some (.ref 138), some (.int (i_n u)), some (.int (i_n c)), some (.int (i_n (k + 1))), some (.int (i_n u1)), y5, y6] [] h 0 0 Q := by
        intro e y5 y6
        refine d305_115 r.1 ?_
        try simp (disch := omega) only [n_lit, n_m, n_add, n_mul, n_div, n_mod, n_cl, n_lt, n_le, n_eq, n_in, n_eqm, n_meq, n_mlt, n_ltm, n_mle, n_lem, not_true_eq_false, not_false_eq_true, true_implies, false_implies, true_and, and_true, Nat.not_lt_zero, Nat.zero_le]
        refine ih (fun v hv => ?_) _ _
        by_cases ev : v = u1
        · subst ev; exact e
        · exact z v (by omega)
      refine d305_3 r.1 (c248 r ⟨_, rfl, d305_9 r.1 ?_⟩)
      try simp (disch := omega) only [n_lit, n_m, n_add, n_mul, n_div, n_mod, n_cl, n_lt, n_le, n_eq, n_in, n_eqm, n_meq, n_mlt, n_ltm, n_mle, n_lem, not_true_eq_false, not_false_eq_true, true_implies, false_implies, true_and, and_true, Nat.not_lt_zero, Nat.zero_le]
      refine ⟨fun e => by omega, fun _ => c302 r hu hu1 ⟨_, rfl, d305_19 r.1 ?_⟩⟩
      rw [i_bo_0, Classical.not_not]
      refine ⟨fun e => ?_, fun e => no (by dsimp only [E]; rw [show o_okm a u u1 = false by simpa using e]; rfl) _ _⟩
      have hw1 := o_okm_w hw e
      have yes : E u1 = true → Q (some (.int (i_n 1))) h := by
        intro e3
        have : o_hE a k u c = true := (o_or_t (P := E) (a 0 * a 1)).mpr ⟨u1, hu1, e3⟩
        rw [this] at H
        exact H
      -- behind the replies
      have fin : ∀ b : Bool, b = E u1 → ∀ y : Int32, i_P i_MT i_AT L xs 305 108 [some (.ref 138), some (.int (i_n u)), some (.int (i_n c)), some (.int (i_n (k + 1))), some (.int (i_n u1)), some (.int (i_bo (b = true))), some (.int y)] [] h 0 0 Q := by
        intro b hb y
        refine d305_108 r.1 ?_
        rw [i_bo_0, Classical.not_not]
        exact ⟨fun q => no (by rw [← hb]; simpa using q) _ _, fun q => yes (by rw [← hb]; exact q)⟩
      have Eu : u1 ≠ c → ∀ b, b = o_aln (fun c1 => !o_okm a c c1 || o_ht a k u1 c1) (a 0 * a 1) → b = E u1 := by
        intro q b hb
        dsimp only [E]
        rw [e, show (u1 == c) = false by simpa using q, Bool.false_or, Bool.true_and, hb]
      have row : ∀ c1, c1 ≤ a 0 * a 1 → i_P i_MT i_AT L xs 305 31 [some (.ref 138), some (.int (i_n u)), some (.int (i_n c)), some (.int (i_n (k + 1))), some (.int (i_n u1)), some (.int (i_bo (o_aln (fun c1 => !o_okm a c c1 || o_ht a k u1 c1) c1 = true))), some (.int (i_n c1))] [] h 0 0 Q → True := fun _ _ _ => trivial
      by_cases euc : u1 = c
      · refine d305_31 r.1 (c248 r ⟨_, rfl, d305_37 r.1 ?_⟩)
        try simp (disch := omega) only [n_lit, n_m, n_add, n_mul, n_div, n_mod, n_cl, n_lt, n_le, n_eq, n_in, n_eqm, n_meq, n_mlt, n_ltm, n_mle, n_lem, not_true_eq_false, not_false_eq_true, true_implies, false_implies, true_and, and_true, Nat.not_lt_zero, Nat.zero_le]
        refine ⟨fun q => by omega, fun _ => ⟨fun _ => ?_, fun q => absurd euc q⟩⟩
        have := fin true (by dsimp only [E]; rw [e, euc]; simp) (i_n 0)
        exact this
      · have alS : ∀ j, o_aln (fun c1 => !o_okm a c c1 || o_ht a k u1 c1) (j + 1) = (o_aln (fun c1 => !o_okm a c c1 || o_ht a k u1 c1) j && (!o_okm a c j || o_ht a k u1 j)) := by
          intro j
          unfold o_aln
          rw [List.range_succ, List.all_append]
          simp
        have row : ∀ c1, c1 ≤ a 0 * a 1 → i_P i_MT i_AT L xs 305 31 [some (.ref 138), some (.int (i_n u)), some (.int (i_n c)), some (.int (i_n (k + 1))), some (.int (i_n u1)), some (.int (i_bo (o_aln (fun c1 => !o_okm a c c1 || o_ht a k u1 c1) c1 = true))), some (.int (i_n c1))] [] h 0 0 Q := by
          refine l_up ?_ ?_
          · refine d305_31 r.1 (c248 r ⟨_, rfl, d305_37 r.1 ?_⟩)
            try simp (disch := omega) only [n_lit, n_m, n_add, n_mul, n_div, n_mod, n_cl, n_lt, n_le, n_eq, n_in, n_eqm, n_meq, n_mlt, n_ltm, n_mle, n_lem, not_true_eq_false, not_false_eq_true, true_implies, false_implies, true_and, and_true, Nat.not_lt_zero, Nat.zero_le, Nat.le_refl]
            exact fin _ (Eu euc _ rfl) _
          · intro c1 hc1 ih2
            rw [alS] at ih2
            generalize hB : o_aln (fun c1 => !o_okm a c c1 || o_ht a k u1 c1) c1 = B at ih2
            have nx : ∀ b : Bool, b = (B && (!o_okm a c c1 || o_ht a k u1 c1)) → i_P i_MT i_AT L xs 305 100 [some (.ref 138), some (.int (i_n u)), some (.int (i_n c)), some (.int (i_n (k + 1))), some (.int (i_n u1)), some (.int (i_bo (B = true))), some (.int (i_n c1))] [.int (i_bo (b = true))] h 0 0 Q := by
              intro b hb
              refine d305_100 r.1 ?_
              try simp (disch := omega) only [n_lit, n_m, n_add, n_mul, n_div, n_mod, n_cl, n_lt, n_le, n_eq, n_in, n_eqm, n_meq, n_mlt, n_ltm, n_mle, n_lem, not_true_eq_false, not_false_eq_true, true_implies, false_implies, true_and, and_true, Nat.not_lt_zero, Nat.zero_le]
              rw [hb]
              exact ih2
            have n1 : (B && (!o_okm a c c1 || o_ht a k u1 c1)) = true → i_P i_MT i_AT L xs 305 95 [some (.ref 138), some (.int (i_n u)), some (.int (i_n c)), some (.int (i_n (k + 1))), some (.int (i_n u1)), some (.int (i_bo (B = true))), some (.int (i_n c1))] [] h 0 0 Q := fun q => d305_95 r.1 (nx true q.symm)
            have n0 : (B && (!o_okm a c c1 || o_ht a k u1 c1)) = false → i_P i_MT i_AT L xs 305 99 [some (.ref 138), some (.int (i_n u)), some (.int (i_n c)), some (.int (i_n (k + 1))), some (.int (i_n u1)), some (.int (i_bo (B = true))), some (.int (i_n c1))] [] h 0 0 Q := fun q => d305_99 r.1 (nx false q.symm)
            refine d305_31 r.1 (c248 r ⟨_, rfl, d305_37 r.1 ?_⟩)
            rw [i_bo_0, Classical.not_not]
            try simp (disch := omega) only [n_lit, n_m, n_add, n_mul, n_div, n_mod, n_cl, n_lt, n_le, n_eq, n_in, n_eqm, n_meq, n_mlt, n_ltm, n_mle, n_lem, not_true_eq_false, not_false_eq_true, true_implies, false_implies, true_and, and_true, Nat.not_lt_zero, Nat.zero_le]
            refine ⟨fun q => by omega, fun _ => ⟨fun q => absurd q euc, fun _ => ⟨fun q => n0 (by rw [show B = false by simpa using q]; rfl), fun q => c302 r hc hc1 ⟨_, rfl, d305_58 r.1 ?_⟩⟩⟩⟩
            have q : B = true := by simpa using q
            rw [i_bo_0, Classical.not_not]
            refine ⟨fun q2 => n1 (by rw [q, show o_okm a c c1 = false by simpa using q2]; rfl), fun q2 => ?_⟩
            have hq := o_hm_q hm hk hu1 hc1 hw1 (o_okm_w hwc q2)
            try simp (disch := omega) only [n_lit, n_m, n_add, n_mul, n_div, n_mod, n_cl, n_lt, n_le, n_eq, n_in, n_eqm, n_meq, n_mlt, n_ltm, n_mle, n_lem, not_true_eq_false, not_false_eq_true, true_implies, false_implies, true_and, and_true, Nat.not_lt_zero, Nat.zero_le]
            refine ⟨by omega, fun q3 => n0 ?_, fun q3 => ⟨by omega, fun q4 => n0 ?_, fun q4 => n1 ?_⟩⟩
            · rw [q, q2, show o_ht a k u1 c1 = false by rw [← Bool.not_eq_true, ← hq]; exact fun z => z.1 q3]; rfl
            · rw [q, q2, show o_ht a k u1 c1 = false by rw [← Bool.not_eq_true, ← hq]; exact fun z => z.2 q4]; rfl
            · rw [q, q2, hq.mp ⟨q3, q4⟩]; rfl
        exact row 0 (Nat.zero_le _)
  refine e305 (d305_0 r.1 ?_)
  try simp (disch := omega) only [n_lit, n_m, n_add, n_mul, n_div, n_mod, n_cl, n_lt, n_le, n_eq, n_in, n_eqm, n_meq, n_mlt, n_ltm, n_mle, n_lem, not_true_eq_false, not_false_eq_true, true_implies, false_implies, true_and, and_true, Nat.not_lt_zero, Nat.zero_le]
  exact key 0 (Nat.zero_le _) (fun v hv => absurd hv (Nat.not_lt_zero v)) _ _
set_option maxHeartbeats 2000000 in
theorem c306 (r : i_RA a h) {x y : Int32} (H : i_RS a h Q (o_htA a x y)) : i_C i_MT i_AT L xs 306 [.ref 138, .int x, .int y] h Q := by
  have h5 := r.2.1.2.2.2.2.1
  have h48 := r.2.1.c48
  unfold o_htA at H
  have bad : ¬ (v_f a x ∧ v_f a y) → ∀ (y3 y4 y5 y6 y7 : Option Value), i_P i_MT i_AT L xs 306 34 [some (.ref 138), some (.int x), some (.int y), y3, y4, y5, y6, y7] [] h 0 0 Q := by
    intro z y3 y4 y5 y6 y7
    rw [o_A6_f z] at H
    exact d306_34 r.1 (m201 r (fun h2 g2 f2 s2 => ⟨_, rfl, d306_39 g2.1 (H h2 g2 f2.s s2)⟩))
  refine e306 (d306_0 r.1 (c249 r ⟨_, rfl, d306_6 r.1 ?_⟩))
  rw [i_bo_0, Classical.not_not]
  refine ⟨fun z => bad (fun q => z q.1.1) _ _ _ _ _, fun z1 => c249 r ⟨_, rfl, d306_15 r.1 ?_⟩⟩
  rw [i_bo_0, Classical.not_not]
  refine ⟨fun z => bad (fun q => z q.2.1) _ _ _ _ _, fun z2 => ?_⟩
  obtain ⟨u, hu, hu48, rfl, hop⟩ := r_open (n := 0) (pc1 := 0) (pc2 := 0) r z1
  obtain ⟨c, hc, hc48, rfl, hop2⟩ := r_open (n := 0) (pc1 := 0) (pc2 := 0) r z2
  refine c250 r hu48 ⟨_, rfl, d306_23 r.1 ?_⟩
  rw [i_bo_0, Classical.not_not]
  refine ⟨fun z => bad (fun q => z (hop.mp q.1)) _ _ _ _ _, fun hw => c250 r hc48 ⟨_, rfl, d306_31 r.1 ?_⟩⟩
  rw [i_bo_0, Classical.not_not]
  refine ⟨fun hwc => c248 r ⟨_, rfl, d306_44 r.1 ?_⟩, fun z => bad (fun q => z (hop2.mp q.2)) _ _ _ _ _⟩
  have H := H.a6 ⟨hop.mpr hw, hop2.mpr hwc⟩
  rw [n_cl (by omega), n_cl (by omega)] at H
  have rfr : ∀ {h1 h2 : iH}, i_RA a h1 → i_Lay h2 → i_Fr [169] [] h1 h2 → i_RA a h2 := fun r1 hL2 f => r1.fr hL2 f (by decide)
  have hzl : ∀ {n v d k : Nat}, n ≤ 2306 → o_hz a n v d = some k → k < 2147483648 := fun hn e => by have := o_hz_lt e; omega
  have key : ∀ k, k ≤ 2305 → ∀ (b : Bool) h1, o_hs a k b → o_hm a h1 k 0 → i_RA a h1 → i_Fr [169] [] h h1 → ∀ (y6 y7 : Option Value), i_P i_MT i_AT L xs 306 106 [some (.ref 138), some (.int (i_n u)), some (.int (i_n c)), some (.int (i_n (a 0 * a 1))), some (.int (i_bo (b = true))), some (.int (i_n (k + 1))), y6, y7] [] h1 0 0 Q := by
    refine l_up ?_ ?_
    · intro b h1 z _ r1 _
      have := (z.b r1.2.1 hu hw).1
      omega
    · intro k hk ih b h1 z hm r1 f1 y6 y7
      have hb := z.b r1.2.1 hu hw
      have me := hm u c hu hc
      rw [if_neg (Nat.not_lt_zero _)] at me
      have mq := o_op_m (v := o_hz a (k + 1) u c) (fun j e => hzl (by omega) e)
      have hno : o_hz a (k + 1) u c = none → ∀ j, j < k + 1 → o_ht a j u c = false := by
        intro e j hj
        rw [← Bool.not_eq_true]
        intro q
        have := o_hz_ht (k := k) hw hwc
        rw [e] at this
        have q2 : o_ht a k u c = true := by
          obtain ⟨d, rfl⟩ : ∃ d, k = j + d := ⟨k - j, by omega⟩
          clear hm me mq hb z ih hk hj this e
          induction d with
          | zero => exact q
          | succ d ih => exact o_ht_t.mpr (Or.inl ih)
        rw [this] at q2; cases q2
      -- the end
      have out : b = false ∨ o_hz a (k + 1) u c ≠ none → ∀ (y6 y7 : Option Value), i_P i_MT i_AT L xs 306 234 [some (.ref 138), some (.int (i_n u)), some (.int (i_n c)), some (.int (i_n (a 0 * a 1))), some (.int (i_bo (b = true))), some (.int (i_n (k + 1))), y6, y7] [] h1 0 0 Q := by
        intro q y6 y7
        refine d306_234 r1.1 ?_
        try simp (disch := omega) only [n_lit, n_m, n_add, n_mul, n_div, n_mod, n_cl, n_lt, n_le, n_eq, n_in, n_eqm, n_meq, n_mlt, n_ltm, n_mle, n_lem, not_true_eq_false, not_false_eq_true, true_implies, false_implies, true_and, and_true, Nat.not_lt_zero, Nat.zero_le, me]
        refine ⟨by omega, fun e => ⟨by omega, m202 r1 (fun h2 g2 f2 s2 => ⟨_, rfl, d306_273 g2.1 ?_⟩)⟩, fun e => m201 r1 (fun h2 g2 f2 s2 => ⟨_, rfl, d306_255 g2.1 (d306_273 g2.1 ?_)⟩)⟩
        · cases e2 : o_hz a (k + 1) u c with
          | none => rw [e2] at e; exact absurd rfl e
          | some j =>
            have hj := o_hz_lt e2
            have g := e2
            unfold o_hz at g
            rw [if_pos (Or.inr ⟨hw, hwc⟩)] at g
            obtain ⟨-, -, g1, g2'⟩ := o_lst_g _ _ _ g
            have hj2 : j ≤ 2303 := by
              cases b with
              | true => have := hb.2 rfl; omega
              | false =>
                by_cases ejk : j = k
                · subst ejk
                  have := (z.no r1.2.1 hu hc hw rfl (fun i hi => g2' i (by omega) hi)).1
                  rw [this] at g1; cases g1
                · have := hb.1; omega
            have := H.1 j (o_ht_fnd hj2 g1 (fun i hi => g2' i (by omega) hi)) h2 g2 ((f1.mono (by decide) (by decide)).trans f2.s) s2
            exact this
        · have e2 : o_hz a (k + 1) u c = none := mq.mp (Classical.not_not.mp e)
          have bf : b = false := q.resolve_right (fun z => z e2)
          have := (z.no r1.2.1 hu hc hw bf (fun j hj => hno e2 j (by omega))).2
          exact H.2 this h2 g2 ((f1.mono (by decide) (by decide)).trans f2.s) s2
      -- a round
      have rnd : b = true → ∀ v, v ≤ a 0 * a 1 → ∀ h2, o_hm a h2 k (48 * v) → i_RA a h2 → i_Fr [169] [] h h2 → ∀ (y7 : Option Value), i_P i_MT i_AT L xs 306 132 [some (.ref 138), some (.int (i_n u)), some (.int (i_n c)), some (.int (i_n (a 0 * a 1))), some (.int (i_bo (o_or (o_hr a k) v = true))), some (.int (i_n (k + 1))), some (.int (i_n v)), y7] [] h2 0 0 Q := by
        intro bt
        subst bt
        refine l_up ?_ ?_
        · intro h2 m2 r2 f2 y7
          refine d306_132 r2.1 ?_
          try simp (disch := omega) only [n_lit, n_m, n_add, n_mul, n_div, n_mod, n_cl, n_lt, n_le, n_eq, n_in, n_eqm, n_meq, n_mlt, n_ltm, n_mle, n_lem, not_true_eq_false, not_false_eq_true, true_implies, false_implies, true_and, and_true, Nat.not_lt_zero, Nat.zero_le, Nat.le_refl]
          refine ih (o_hc a k) h2 z.n (fun v d hv hd => ?_) r2 f2 _ _
          rw [m2 v d hv hd, if_pos (by omega), if_neg (Nat.not_lt_zero _)]
        · intro v hv ihv h2 m2 r2 f2 y7
          rw [o_or] at ihv
          have row : ∀ d, d ≤ a 0 * a 1 → ∀ h3, o_hm a h3 k (48 * v + d) → i_RA a h3 → i_Fr [169] [] h h3 → i_P i_MT i_AT L xs 306 141 [some (.ref 138), some (.int (i_n u)), some (.int (i_n c)), some (.int (i_n (a 0 * a 1))), some (.int (i_bo ((o_or (o_hr a k) v || (!o_wall a v && o_or (fun d => o_ht a (k + 1) v d && !o_ht a k v d) d)) = true))), some (.int (i_n (k + 1))), some (.int (i_n v)), some (.int (i_n d))] [] h3 0 0 Q := by
            refine l_up ?_ ?_
            · intro h3 m3 r3 f3
              refine d306_141 r3.1 ?_
              try simp (disch := omega) only [n_lit, n_m, n_add, n_mul, n_div, n_mod, n_cl, n_lt, n_le, n_eq, n_in, n_eqm, n_meq, n_mlt, n_ltm, n_mle, n_lem, not_true_eq_false, not_false_eq_true, true_implies, false_implies, true_and, and_true, Nat.not_lt_zero, Nat.zero_le, Nat.le_refl]
              refine ihv h3 (fun v2 d2 hv2 hd2 => ?_) r3 f3 _
              rw [m3 v2 d2 hv2 hd2]
              by_cases q : 48 * v2 + d2 < 48 * v + a 0 * a 1
              · rw [if_pos q, if_pos (by omega)]
              · rw [if_neg q, if_neg (by omega)]
            · intro d hd ih3 h3 m3 r3 f3
              rw [o_or] at ih3
              have fl : ∀ F1 F2 w x y : Bool, (F1 || (!w && F2)) = true → (F1 || (!w && (F2 || (x && !y)))) = true := by decide
              generalize hX : (o_or (o_hr a k) v || (!o_wall a v && o_or (fun d => o_ht a (k + 1) v d && !o_ht a k v d) d)) = X
              have m3d := m3 v d hv hd
              rw [if_neg (Nat.lt_irrefl _)] at m3d
              have hz2 := o_hz_s (a := a) (n := k + 1) (u := v) (c := d)
              -- nothing new here
              have nx : o_hz a (k + 2) v d = o_hz a (k + 1) v d → (o_wall a v = false → (o_ht a (k + 1) v d && !o_ht a k v d) = false) → i_P i_MT i_AT L xs 306 216 [some (.ref 138), some (.int (i_n u)), some (.int (i_n c)), some (.int (i_n (a 0 * a 1))), some (.int (i_bo (X = true))), some (.int (i_n (k + 1))), some (.int (i_n v)), some (.int (i_n d))] [] h3 0 0 Q := by
                intro e1 e2
                refine d306_216 r3.1 ?_
                try simp (disch := omega) only [n_lit, n_m, n_add, n_mul, n_div, n_mod, n_cl, n_lt, n_le, n_eq, n_in, n_eqm, n_meq, n_mlt, n_ltm, n_mle, n_lem, not_true_eq_false, not_false_eq_true, true_implies, false_implies, true_and, and_true, Nat.not_lt_zero, Nat.zero_le]
                have m4 : o_hm a h3 k (48 * v + (d + 1)) := fun v2 d2 hv2 hd2 => ?_
                · have := ih3 h3 m4 r3 f3
                  have e3 : (o_or (o_hr a k) v || (!o_wall a v && (o_or (fun d => o_ht a (k + 1) v d && !o_ht a k v d) d || (o_ht a (k + 1) v d && !o_ht a k v d)))) = X := by
                    rw [← hX]
                    cases hwv : o_wall a v with
                    | true => simp
                    | false => rw [e2 hwv, Bool.or_false]
                  rw [e3] at this
                  exact this
                · rw [m3 v2 d2 hv2 hd2]
                  by_cases q : 48 * v2 + d2 = 48 * v + d
                  · obtain ⟨rfl, rfl⟩ : v2 = v ∧ d2 = d := by omega
                    rw [if_neg (by omega), if_pos (by omega), e1]
                  · by_cases q2 : 48 * v2 + d2 < 48 * v + d
                    · rw [if_pos q2, if_pos (by omega)]
                    · rw [if_neg q2, if_neg (by omega)]
              have same : ¬ (o_wall a v = false ∧ o_wall a d = false) → o_hz a (k + 2) v d = o_hz a (k + 1) v d := by
                intro q
                by_cases evd : v = d
                · subst evd; rw [o_hz_uu, o_hz_uu]
                · rw [hz2]
                  have : o_hz a (k + 1) v d = none := by unfold o_hz; rw [if_neg (by rintro (z | z); exact evd z; exact q z)]
                  rw [this]
                  simp only
                  rw [if_neg (by rintro ⟨z | z, -⟩; exact evd z; exact q z)]
              refine d306_141 r3.1 ?_
              try simp (disch := omega) only [n_lit, n_m, n_add, n_mul, n_div, n_mod, n_cl, n_lt, n_le, n_eq, n_in, n_eqm, n_meq, n_mlt, n_ltm, n_mle, n_lem, not_true_eq_false, not_false_eq_true, true_implies, false_implies, true_and, and_true, Nat.not_lt_zero, Nat.zero_le]
              refine ⟨fun e => by omega, fun _ => c250 r3 (by omega) ⟨_, rfl, d306_153 r3.1 ?_⟩⟩
              rw [i_bo_0, Classical.not_not]
              refine ⟨fun e => nx (same (fun q => e q.1)) (fun q => absurd q e), fun hwv => c250 r3 (by omega) ⟨_, rfl, d306_162 r3.1 ?_⟩⟩
              rw [i_bo_0, Classical.not_not]
              refine ⟨fun e => nx (same (fun q => e q.2)) (fun _ => ?_), fun hwd => ?_⟩
              · have : o_wall a d = true := by simpa using e
                rw [o_ht_wc this, o_ht_wc this]; cases (v == d) <;> rfl
              have mq2 := o_op_m (v := o_hz a (k + 1) v d) (fun j e => hzl (by omega) e)
              try simp (disch := omega) only [n_lit, n_m, n_add, n_mul, n_div, n_mod, n_cl, n_lt, n_le, n_eq, n_in, n_eqm, n_meq, n_mlt, n_ltm, n_mle, n_lem, not_true_eq_false, not_false_eq_true, true_implies, false_implies, true_and, and_true, Nat.not_lt_zero, Nat.zero_le, m3d]
              refine ⟨by omega, fun e => nx ?_ (fun _ => ?_), fun e => c305 r3 hv hd hwv hwd (by omega) m3 ⟨_, rfl, d306_192 r3.1 ?_⟩⟩
              · rw [hz2]
                cases e2 : o_hz a (k + 1) v d with
                | some j => rfl
                | none => exact absurd (mq2.mpr e2) e
              · have : o_ht a k v d = true := by
                  rw [o_hz_ht hwv hwd]
                  cases e2 : o_hz a (k + 1) v d with
                  | some j => rfl
                  | none => exact absurd (mq2.mpr e2) e
                rw [this]; simp
              · have e0 : o_hz a (k + 1) v d = none := mq2.mp (Classical.not_not.mp e)
                have h0 : o_ht a k v d = false := by rw [o_hz_ht hwv hwd, e0]; rfl
                have h1 : o_ht a (k + 1) v d = o_hE a k v d := by rw [o_ht, h0, hwv, hwd]; rfl
                rw [e0] at hz2
                simp only at hz2
                rw [i_bo_0, Classical.not_not]
                refine ⟨fun e3 => ?_, fun e3 => nx ?_ (fun _ => ?_)⟩
                · try simp (disch := omega) only [n_lit, n_m, n_add, n_mul, n_div, n_mod, n_cl, n_lt, n_le, n_eq, n_in, n_eqm, n_meq, n_mlt, n_ltm, n_mle, n_lem, not_true_eq_false, not_false_eq_true, true_implies, false_implies, true_and, and_true, Nat.not_lt_zero, Nat.zero_le]
                  refine ⟨by omega, ?_⟩
                  rw [e3] at h1
                  rw [if_pos ⟨Or.inr ⟨hwv, hwd⟩, h1⟩] at hz2
                  have Fi : i_Fr [169] [] h3 (i_siI h3 169 (48 * v + d) (i_n (k + 1))) := i_Fr.refl.siI (by decide)
                  have r4 := rfr r3 r3.1.siI Fi
                  have m4 : o_hm a (i_siI h3 169 (48 * v + d) (i_n (k + 1))) k (48 * v + (d + 1)) := by
                    intro v2 d2 hv2 hd2
                    rw [x_aI_siI r3.1.a169, x_upd]
                    by_cases q : 48 * v2 + d2 = 48 * v + d
                    · obtain ⟨rfl, rfl⟩ : v2 = v ∧ d2 = d := by omega
                      rw [if_pos rfl, if_pos (by omega), hz2]; rfl
                    · rw [if_neg q, m3 v2 d2 hv2 hd2]
                      by_cases q2 : 48 * v2 + d2 < 48 * v + d
                      · rw [if_pos q2, if_pos (by omega)]
                      · rw [if_neg q2, if_neg (by omega)]
                  generalize i_siI h3 169 (48 * v + d) (i_n (k + 1)) = h4 at Fi r4 m4 ⊢
                  refine d306_213 r4.1 (d306_216 r4.1 ?_)
                  try simp (disch := omega) only [n_lit, n_m, n_add, n_mul, n_div, n_mod, n_cl, n_lt, n_le, n_eq, n_in, n_eqm, n_meq, n_mlt, n_ltm, n_mle, n_lem, not_true_eq_false, not_false_eq_true, true_implies, false_implies, true_and, and_true, Nat.not_lt_zero, Nat.zero_le]
                  have := ih3 h4 m4 r4 (f3.trans Fi)
                  have e9 : (o_or (o_hr a k) v || (!o_wall a v && (o_or (fun d => o_ht a (k + 1) v d && !o_ht a k v d) d || (o_ht a (k + 1) v d && !o_ht a k v d)))) = true := by
                    rw [h1, h0, hwv]; simp
                  rw [e9] at this
                  exact this
                · rw [hz2, e0, if_neg]
                  rintro ⟨-, z⟩
                  rw [h1] at z; exact e3 z
                · rw [h1, show o_hE a k v d = false by simpa using e3]; rfl
          refine d306_132 r2.1 ?_
          try simp (disch := omega) only [n_lit, n_m, n_add, n_mul, n_div, n_mod, n_cl, n_lt, n_le, n_eq, n_in, n_eqm, n_meq, n_mlt, n_ltm, n_mle, n_lem, not_true_eq_false, not_false_eq_true, true_implies, false_implies, true_and, and_true, Nat.not_lt_zero, Nat.zero_le]
          refine ⟨fun e => by omega, fun _ => ?_⟩
          have := row 0 (Nat.zero_le _) h2 m2 r2 f2
          rw [show o_or (fun d => o_ht a (k + 1) v d && !o_ht a k v d) 0 = false from rfl, Bool.and_false, Bool.or_false] at this
          exact this
      refine d306_106 r1.1 ?_
      rw [i_bo_0]
      try simp (disch := omega) only [n_lit, n_m, n_add, n_mul, n_div, n_mod, n_cl, n_lt, n_le, n_eq, n_in, n_eqm, n_meq, n_mlt, n_ltm, n_mle, n_lem, not_true_eq_false, not_false_eq_true, true_implies, false_implies, true_and, and_true, Nat.not_lt_zero, Nat.zero_le, me]
      refine ⟨fun e => out (Or.inl (by simpa using e)) _ _, fun e => ⟨by omega, fun e2 => out (Or.inr (fun q => e2 (mq.mpr q))) _ _, fun e2 => ?_⟩⟩
      have bt : b = true := by simpa using e
      exact rnd bt 0 (Nat.zero_le _) h1 hm r1 f1 _
  have init : ∀ v, v ≤ a 0 * a 1 → ∀ h1, i_RA a h1 → i_Fr [169] [] h h1 → (∀ v2 d, v2 < v → d < a 0 * a 1 → aI h1 169 (48 * v2 + d) = o_op (o_hz a 1 v2 d)) → ∀ (y5 y6 y7 : Option Value), i_P i_MT i_AT L xs 306 48 [some (.ref 138), some (.int (i_n u)), some (.int (i_n c)), some (.int (i_n (a 0 * a 1))), some (.int (i_n v)), y5, y6, y7] [] h1 0 0 Q := by
    refine l_up ?_ ?_
    · intro h1 r1 f1 m1 y5 y6 y7
      refine d306_48 r1.1 ?_
      try simp (disch := omega) only [n_lit, n_m, n_add, n_mul, n_div, n_mod, n_cl, n_lt, n_le, n_eq, n_in, n_eqm, n_meq, n_mlt, n_ltm, n_mle, n_lem, not_true_eq_false, not_false_eq_true, true_implies, false_implies, true_and, and_true, Nat.not_lt_zero, Nat.zero_le, Nat.le_refl]
      exact key 0 (by omega) true h1 (by unfold o_hs; rw [if_pos rfl]; exact fun j hj => absurd hj (Nat.not_lt_zero j)) (fun v d hv hd => by rw [if_neg (Nat.not_lt_zero _)]; exact m1 v d hv hd) r1 f1 _ _
    · intro v hv ih h1 r1 f1 m1 y5 y6 y7
      have row : ∀ d, d ≤ a 0 * a 1 → ∀ h2, i_RA a h2 → i_Fr [169] [] h h2 → (∀ v2 d, v2 < v → d < a 0 * a 1 → aI h2 169 (48 * v2 + d) = o_op (o_hz a 1 v2 d)) → (∀ d2, d2 < d → aI h2 169 (48 * v + d2) = o_op (o_hz a 1 v d2)) → ∀ (y6 y7 : Option Value), i_P i_MT i_AT L xs 306 57 [some (.ref 138), some (.int (i_n u)), some (.int (i_n c)), some (.int (i_n (a 0 * a 1))), some (.int (i_n v)), some (.int (i_n d)), y6, y7] [] h2 0 0 Q := by
        refine l_up ?_ ?_
        · intro h2 r2 f2 m2 m3 y6 y7
          refine d306_57 r2.1 ?_
          try simp (disch := omega) only [n_lit, n_m, n_add, n_mul, n_div, n_mod, n_cl, n_lt, n_le, n_eq, n_in, n_eqm, n_meq, n_mlt, n_ltm, n_mle, n_lem, not_true_eq_false, not_false_eq_true, true_implies, false_implies, true_and, and_true, Nat.not_lt_zero, Nat.zero_le, Nat.le_refl]
          refine ih h2 r2 f2 (fun v2 d h1 h2 => ?_) _ _ _
          by_cases e : v2 = v
          · subst e; exact m3 d h2
          · exact m2 v2 d (by omega) h2
        · intro d hd ih2 h2 r2 f2 m2 m3 y6 y7
          have put : ∀ w, w = o_op (o_hz a 1 v d) → ∀ (y6 y7 : Option Value), i_P i_MT i_AT L xs 306 87 [some (.ref 138), some (.int (i_n u)), some (.int (i_n c)), some (.int (i_n (a 0 * a 1))), some (.int (i_n v)), some (.int (i_n d)), y6, y7] [.int w, .int (i_n (48 * v + d)), .ref 169] h2 0 0 Q := by
            intro w hw2 y6 y7
            refine d306_87 r2.1 ⟨_, _, r2.1.a169, ?_⟩
            rw [n_cl (by omega)]
            refine ⟨(n_in (by omega)).mpr (by omega), ?_⟩
            have Fi : i_Fr [169] [] h2 (i_siI h2 169 (48 * v + d) w) := i_Fr.refl.siI (by decide)
            have r3 := rfr r2 r2.1.siI Fi
            refine d306_88 r3.1 ?_
            try simp (disch := omega) only [n_lit, n_m, n_add, n_mul, n_div, n_mod, n_cl, n_lt, n_le, n_eq, n_in, n_eqm, n_meq, n_mlt, n_ltm, n_mle, n_lem, not_true_eq_false, not_false_eq_true, true_implies, false_implies, true_and, and_true, Nat.not_lt_zero, Nat.zero_le]
            refine ih2 _ r3 (f2.trans Fi) (fun v2 d2 h1 h3 => ?_) (fun d2 h1 => ?_) _ _
            · rw [x_aI_siI r2.1.a169, x_upd, if_neg (by omega)]; exact m2 v2 d2 h1 h3
            · rw [x_aI_siI r2.1.a169, x_upd]
              by_cases e : d2 = d
              · subst e; rw [if_pos rfl, hw2]
              · rw [if_neg (by omega)]; exact m3 d2 (by omega)
          refine d306_57 r2.1 ?_
          try simp (disch := omega) only [n_lit, n_m, n_add, n_mul, n_div, n_mod, n_cl, n_lt, n_le, n_eq, n_in, n_eqm, n_meq, n_mlt, n_ltm, n_mle, n_lem, not_true_eq_false, not_false_eq_true, true_implies, false_implies, true_and, and_true, Nat.not_lt_zero, Nat.zero_le]
          refine ⟨fun e => by omega, fun _ => ⟨fun e => put _ ?_ _ _, fun e => put _ ?_ _ _⟩⟩
          · have : o_hz a 1 v d = none := by
              rw [show (1 : Nat) = 0 + 1 from rfl, o_hz_s]
              have z0 : o_hz a 0 v d = none := by unfold o_hz; split <;> rfl
              rw [z0]
              simp only
              rw [if_neg]
              rintro ⟨-, z⟩
              rw [o_ht, beq_iff_eq] at z
              exact e z
            rw [this]; rfl
          · have := Classical.not_not.mp e
            subst this
            rw [show (1 : Nat) = 0 + 1 from rfl, o_hz_uu]; rfl
      refine d306_48 r1.1 ?_
      try simp (disch := omega) only [n_lit, n_m, n_add, n_mul, n_div, n_mod, n_cl, n_lt, n_le, n_eq, n_in, n_eqm, n_meq, n_mlt, n_ltm, n_mle, n_lem, not_true_eq_false, not_false_eq_true, true_implies, false_implies, true_and, and_true, Nat.not_lt_zero, Nat.zero_le]
      exact ⟨fun e => by omega, fun _ => row 0 (Nat.zero_le _) h1 r1 f1 m1 (fun d hd => absurd hd (Nat.not_lt_zero d)) _ _⟩
  try simp (disch := omega) only [n_lit, n_m, n_add, n_mul, n_div, n_mod, n_cl, n_lt, n_le, n_eq, n_in, n_eqm, n_meq, n_mlt, n_ltm, n_mle, n_lem, not_true_eq_false, not_false_eq_true, true_implies, false_implies, true_and, and_true, Nat.not_lt_zero, Nat.zero_le]
  exact init 0 (Nat.zero_le _) h r i_Fr.refl (fun v d hv => absurd hv (Nat.not_lt_zero v)) _ _ _
end
