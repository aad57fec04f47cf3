/-! FOUND, the class: what is seen from where -/
section
variable {L : Nat} {xs : Nat → Int32} {h : iH} {Q : Option Value → iH → Prop} {a : Nat → Nat} {t : Nat}
set_option maxRecDepth 20000
theorem i_CO.gr (g : i_CO a t h) {h2 : iH} (hL : i_Lay h2) (gr : i_GR a h2) (f : i_Fr [99, 100] [] h h2) : i_CO a t h2 := by
  obtain ⟨g1, g2, g3, g4⟩ := g
  refine ⟨g1.fr hL f (fun p hp => ?_) (fun q z => absurd z (by simp)), gr, ?_, ?_⟩
  · simp only [List.mem_cons, List.not_mem_nil, or_false] at hp; omega
  · unfold i_VW; rw [f.rJ (by decide)]; exact g3
  · unfold i_WG; rw [f.rI (by decide)]; exact g4
/-- who is sought, in order -/
def o_skl (P : Nat → Bool) : Nat → List Nat
  | 0 => []
  | k + 1 => if P k = true then o_skl P k ++ [k] else o_skl P k
theorem o_skl_len {P : Nat → Bool} : ∀ k, (o_skl P k).length = o_cn0 P k
  | 0 => rfl
  | k + 1 => by
    rw [o_skl, o_cn0]
    split
    · rw [List.length_append, o_skl_len k]; rfl
    · exact o_skl_len k
theorem o_skl_lt {P : Nat → Bool} : ∀ k j, j < (o_skl P k).length → (o_skl P k).getD j 0 < k
  | 0, j, z => absurd z (Nat.not_lt_zero j)
  | k + 1, j, z => by
    rw [o_skl] at z ⊢
    by_cases e : P k = true
    · rw [if_pos e] at z ⊢
      rw [List.length_append, List.length_singleton] at z
      by_cases q : j < (o_skl P k).length
      · rw [List.getD_eq_getElem?_getD, List.getElem?_append_left q, ← List.getD_eq_getElem?_getD]
        have := o_skl_lt k j q
        omega
      · rw [List.getD_eq_getElem?_getD, List.getElem?_append_right (by omega), show j - (o_skl P k).length = 0 by omega]
        exact Nat.lt_succ_self k
    · rw [if_neg e] at z ⊢
      have := o_skl_lt k j z
      omega
theorem o_skl_st {P : Nat → Bool} {k : Nat} : ∀ n, k ≤ n → o_cn0 P n ≤ o_cn0 P k → o_skl P n = o_skl P k
  | 0, h, _ => by rw [show k = 0 by omega]
  | n + 1, h, e => by
    by_cases q : k = n + 1
    · rw [q]
    · rw [o_cn0] at e
      have := o_cn0_mono (P := P) n k (by omega)
      by_cases z : P n = true
      · rw [if_pos z] at e; omega
      · rw [if_neg z] at e
        rw [o_skl, if_neg z]
        exact o_skl_st n (by omega) (by omega)
def o_gi (a : Nat → Nat) (h : iH) (T : Nat → Nat → Nat → Bool) (ν : Nat → Nat → Nat) : Prop := ∀ l, l < 8 → (∀ c, c < a 0 * a 1 → aI h 125 (l * 48 + c) = i_n (o_st (T l c) (ν l c))) ∧ o_is (aJ h 126 l) (a 0 * a 1) (fun c => o_st (T l c) (ν l c) != 0)
theorem o_gi.kp {T : Nat → Nat → Nat → Bool} {ν ν2 : Nat → Nat → Nat} (x : o_gi a h T ν) (e : ∀ l c, l < 8 → c < a 0 * a 1 → o_st (T l c) (ν l c) = o_st (T l c) (ν2 l c)) : o_gi a h T ν2 := by
  intro l hl
  obtain ⟨x1, x2⟩ := x l hl
  refine ⟨fun c hc => ?_, x2.congr (fun c hc => ?_)⟩
  · rw [x1 c hc, e l c hl hc]
  · rw [e l c hl hc]
theorem o_gi.fr {T : Nat → Nat → Nat → Bool} {ν : Nat → Nat → Nat} {h2 : iH} {A : List Nat} {F : List (Nat × Nat)} (x : o_gi a h T ν) (f : i_Fr A F h h2) (hA : 125 ∉ A ∧ 126 ∉ A) : o_gi a h2 T ν := by
  unfold o_gi
  rw [f.rI hA.1, f.rJ hA.2]; exact x
theorem o_gi.set {T : Nat → Nat → Nat → Bool} {ν : Nat → Nat → Nat} {l c j : Nat} (x : o_gi a h T ν) (hL : i_Lay h) (h48 : a 0 * a 1 ≤ 48) (hl : l < 8) (hc : c < a 0 * a 1) (e : ν l c = j) (hT : T l c j = true) : o_gi a (i_siJ (i_siI h 125 (l * 48 + c) (i_n (o_st (T l c) j ||| 1 <<< j))) 126 l (aJ (i_siI h 125 (l * 48 + c) (i_n (o_st (T l c) j ||| 1 <<< j))) 126 l ||| ((1 : Int64) <<< ((i_n c).toInt64 &&& (63 : Int64))))) T (fun l2 c2 => if l2 = l ∧ c2 = c then j + 1 else ν l2 c2) := by
  have L1 := hL.siI (q := 125) (i := l * 48 + c) (x := i_n (o_st (T l c) j ||| 1 <<< j))
  have f1 : i_Fr [125] [] h (i_siI h 125 (l * 48 + c) (i_n (o_st (T l c) j ||| 1 <<< j))) := i_Fr.refl.siI (by decide)
  have e1 : ∀ i, aI (i_siI h 125 (l * 48 + c) (i_n (o_st (T l c) j ||| 1 <<< j))) 125 i = if i = l * 48 + c then i_n (o_st (T l c) j ||| 1 <<< j) else aI h 125 i := fun i => by rw [x_aI_siI hL.a125, x_upd]
  generalize i_siI h 125 (l * 48 + c) (i_n (o_st (T l c) j ||| 1 <<< j)) = h1 at L1 f1 e1 ⊢
  have f2 : i_Fr [126] [] h1 (i_siJ h1 126 l (aJ h1 126 l ||| ((1 : Int64) <<< ((i_n c).toInt64 &&& (63 : Int64))))) := i_Fr.refl.siJ (by decide)
  intro l2 hl2
  obtain ⟨x1, x2⟩ := x l2 hl2
  have st : o_st (T l c) (j + 1) = o_st (T l c) j ||| 1 <<< j := by rw [o_st, if_pos hT]
  refine ⟨fun c2 hc2 => ?_, ?_⟩
  · rw [f2.rI (by decide), e1]
    dsimp only
    by_cases q : l2 = l ∧ c2 = c
    · obtain ⟨rfl, rfl⟩ := q
      rw [if_pos rfl, if_pos ⟨rfl, rfl⟩, st]
    · rw [if_neg (by omega), if_neg q]; exact x1 c2 hc2
  · by_cases q : l2 = l
    · subst q
      rw [i_siJ_at L1.a126, f1.rJ (by decide)]
      refine (x2.or (o_is.one hc (by omega))).congr (fun c2 hc2 => ?_)
      dsimp only
      by_cases ec : c2 = c
      · subst ec
        rw [if_pos ⟨rfl, rfl⟩, show (c2 == c2) = true by simp, Bool.or_true, o_st_ne0, eq_comm, o_or_t]
        exact ⟨j, Nat.lt_succ_self j, hT⟩
      · rw [if_neg (fun z => ec z.2), show (c2 == c) = false by simpa using ec, Bool.or_false]
    · rw [i_siJ_no L1.a126 q, f1.rJ (by decide)]
      exact x2.congr (fun c2 _ => by dsimp only; rw [if_neg (fun z => q z.1)])
theorem c52 (g : i_CO a t h) {c j s : Nat} {T : Nat → Nat → Nat → Bool} {ν : Nat → Nat → Nat} (hc : c < a 0 * a 1) (hj : j < 6) (hS : aI h 122 j = i_n s) (hs : s < a 0 * a 1) (hT : ∀ l, l < 8 → T l c j = o_cone (a 0) c l s) (hν : ∀ l, l < 8 → ν l c = j) (hG : o_gi a h T ν) (H : ∀ h2, i_CO a t h2 → i_Fr [99, 100, 125, 126] [] h h2 → o_gi a h2 T (fun l c2 => if c2 = c then j + 1 else ν l c2) → Q none h2) : i_C i_MT i_AT L xs 52 [.ref 121, .int (i_n c), .int (i_n j)] h Q := by
  have h48 := g.w.c48
  have key : ∀ l, l ≤ 8 → ∀ h1, i_CO a t h1 → i_Fr [99, 100, 125, 126] [] h h1 → o_gi a h1 T (fun l2 c2 => if l2 < l ∧ c2 = c then j + 1 else ν l2 c2) → i_P i_MT i_AT L xs 52 2 [some (.ref 121), some (.int (i_n c)), some (.int (i_n j)), some (.int (i_n l))] [] h1 0 0 Q := by
    refine l_up ?_ ?_
    · intro h1 g1 f1 G1
      refine d52_2 g1.l ?_
      try simp (disch := omega) only [n_lit, n_m, n_add, n_mul, n_div, n_mod, n_cl, n_lt, n_le, n_eq, n_in, n_eqm, n_meq, n_mlt, n_ltm, n_mle, n_lem, not_true_eq_false, not_false_eq_true, true_implies, false_implies, true_and, and_true, Nat.not_lt_zero, Nat.zero_le, Nat.le_refl]
      refine H h1 g1 f1 (G1.kp (fun l2 c2 h1 h2 => ?_))
      congr 1
      by_cases e : c2 = c
      · rw [if_pos e, if_pos ⟨h1, e⟩]
      · rw [if_neg e, if_neg (fun z => e z.2)]
    · intro l hl ih h1 g1 f1 G1
      refine d52_2 g1.l ?_
      try simp (disch := omega) only [n_lit, n_m, n_add, n_mul, n_div, n_mod, n_cl, n_lt, n_le, n_eq, n_in, n_eqm, n_meq, n_mlt, n_ltm, n_mle, n_lem, not_true_eq_false, not_false_eq_true, true_implies, false_implies, true_and, and_true, Nat.not_lt_zero, Nat.zero_le]
      refine ⟨fun e => by omega, fun _ => c30 g1.l g1.w g1.2.1 hc hl (fun s1 h2 hs1 L2 gr2 f2 => ⟨_, rfl, ?_⟩)⟩
      have f2b : i_Fr [99, 100] [] h1 h2 := f2.mono (by decide) (fun _ z => z)
      have g2 := g1.gr L2 gr2 f2b
      have G2 := G1.fr f2 (by decide)
      have F2 := f1.trans (f2.mono (B := [99, 100, 125, 126]) (G := []) (by decide) (fun _ z => z))
      have nx : ∀ h3, i_CO a t h3 → i_Fr [99, 100, 125, 126] [] h h3 → o_gi a h3 T (fun l2 c2 => if l2 = l ∧ c2 = c then j + 1 else if l2 < l ∧ c2 = c then j + 1 else ν l2 c2) → i_P i_MT i_AT L xs 52 61 [some (.ref 121), some (.int (i_n c)), some (.int (i_n j)), some (.int (i_n l))] [] h3 0 0 Q := by
        intro h3 g3 f3 G3
        refine d52_61 g3.l ?_
        try simp (disch := omega) only [n_lit, n_m, n_add, n_mul, n_div, n_mod, n_cl, n_lt, n_le, n_eq, n_in, n_eqm, n_meq, n_mlt, n_ltm, n_mle, n_lem, not_true_eq_false, not_false_eq_true, true_implies, false_implies, true_and, and_true, Nat.not_lt_zero, Nat.zero_le]
        refine ih h3 g3 f3 (G3.kp (fun l2 c2 h1 h2 => ?_))
        congr 1
        by_cases e : c2 = c
        · by_cases e1 : l2 = l
          · rw [if_pos ⟨e1, e⟩, if_pos ⟨by omega, e⟩]
          · rw [if_neg (fun z => e1 z.1)]
            by_cases e2 : l2 < l
            · rw [if_pos ⟨e2, e⟩, if_pos ⟨by omega, e⟩]
            · rw [if_neg (fun z => e2 z.1), if_neg (fun z => by omega)]
        · rw [if_neg (fun z => e z.2), if_neg (fun z => e z.2), if_neg (fun z => e z.2)]
      refine d52_20 g2.l ?_
      rw [n_cl (by omega), F2.rI (by decide), hS]
      refine ⟨(n_in (by omega)).mpr hj, c193 (by omega) ⟨_, rfl, d52_29 g2.l ?_⟩⟩
      rw [hs1.b hs (by omega), ← hT l hl]
      have ν1 : (if l < l ∧ c = c then j + 1 else ν l c) = j := by rw [if_neg (fun z => Nat.lt_irrefl l z.1), hν l hl]
      try simp (disch := omega) only [n_lit, n_m, i_bo01, j_cmpn, Classical.not_not, n_add, n_mul, n_div, n_mod, n_cl, n_lt, n_le, n_eq, n_in, n_eqm, n_meq, n_mlt, n_ltm, n_mle, n_lem, not_true_eq_false, not_false_eq_true, true_implies, false_implies, true_and, and_true, Nat.not_lt_zero, Nat.zero_le]
      refine ⟨fun e => nx h2 g2 F2 (G2.kp (fun l2 c2 h1 h2 => ?_)), fun e => ⟨by omega, by omega, ?_⟩⟩
      · have e0 : T l c j = false := by simpa using e
        by_cases q : l2 = l ∧ c2 = c
        · obtain ⟨rfl, rfl⟩ := q
          rw [if_pos (show l2 = l2 ∧ c2 = c2 from ⟨rfl, rfl⟩), ν1, o_st, if_neg (by simp [e0])]
        · rw [if_neg q]
      · have e1 := (G2 l hl).1 c hc
        dsimp only at e1
        rw [ν1] at e1
        rw [e1]
        try simp (disch := omega) only [n_lit, n_m, n_add, n_mul, n_div, n_mod, n_cl, n_lt, n_le, n_eq, n_in, n_eqm, n_meq, n_mlt, n_ltm, n_mle, n_lem, not_true_eq_false, not_false_eq_true, true_implies, false_implies, true_and, and_true, Nat.not_lt_zero, Nat.zero_le, n_shl2, n_and, n_or]
        have g3 : i_CO a t (i_siI h2 125 (l * 48 + c) (i_n (o_st (T l c) j ||| 1 <<< j))) := g2.fr (g2.l.siI) (i_Fr.refl.siI (A := [125]) (F := []) (by decide)) (by decide) (fun q z => absurd z (by simp))
        refine d52_49 g3.l ?_
        try simp (disch := omega) only [n_lit, n_m, n_add, n_mul, n_div, n_mod, n_cl, n_lt, n_le, n_eq, n_in, n_eqm, n_meq, n_mlt, n_ltm, n_mle, n_lem, not_true_eq_false, not_false_eq_true, true_implies, false_implies, true_and, and_true, Nat.not_lt_zero, Nat.zero_le]
        have G3 := G2.set (c := c) (l := l) (j := j) g2.l h48.1 hl hc ν1 e
        refine ⟨by omega, by omega, nx _ (g3.fr g3.l.siJ (i_Fr.refl.siJ (A := [126]) (F := []) (by decide)) (by decide) (fun q z => absurd z (by simp))) (F2.trans ((i_Fr.refl.siI (by decide)).siJ (by decide))) G3⟩
  refine e52 (d52_0 g.l ?_)
  try simp (disch := omega) only [n_lit, n_m, n_add, n_mul, n_div, n_mod, n_cl, n_lt, n_le, n_eq, n_in, n_eqm, n_meq, n_mlt, n_ltm, n_mle, n_lem, not_true_eq_false, not_false_eq_true, true_implies, false_implies, true_and, and_true, Nat.not_lt_zero, Nat.zero_le]
  exact key 0 (by omega) h g i_Fr.refl (hG.kp (fun l c2 _ _ => by rw [if_neg (fun z => absurd z.1 (Nat.not_lt_zero l))]))
/-- from c with the look l, in the minute m, S j is seen -/
def o_ft (a : Nat → Nat) (f : Nat) (S : Nat → Nat) (m l c j : Nat) : Bool := o_seen (a 0) (o_bl a m) c l f (S j)
set_option maxHeartbeats 1000000 in
theorem c51 (g : i_CO a t h) {f n m : Nat} {x : Int64} {S : Nat → Nat} (hf : f < 100) (hn : n ≤ 6) (hS : ∀ j, j < n → aI h 122 j = i_n (S j) ∧ S j < a 0 * a 1) (hx : o_is x (a 0 * a 1) (o_bl a m)) (H : ∀ h2, i_CO a t h2 → i_Fr [99, 100, 125, 126] [] h h2 → o_gi a h2 (o_ft a f S m) (fun _ _ => n) → Q none h2) : i_C i_MT i_AT L xs 51 [.ref 121, .int (i_n f), .int (i_n n), .long x] h Q := by
  have h48 := g.w.c48
  have key : ∀ c, c ≤ a 0 * a 1 → ∀ h1, i_CO a t h1 → i_Fr [99, 100, 125, 126] [] h h1 → o_gi a h1 (o_ft a f S m) (fun _ c2 => if c2 < c then n else 0) → ∀ (y6 y7 : Option Value), i_P i_MT i_AT L xs 51 19 [some (.ref 121), some (.int (i_n f)), some (.int (i_n n)), some (.long x), none, some (.int (i_n c)), y6, y7] [] h1 0 0 Q := by
    refine l_up ?_ ?_
    · intro h1 g1 f1 G1 y6 y7
      refine d51_19 g1.l ?_
      rw [g1.2.1.1.2.2]
      try simp (disch := omega) only [n_lit, n_m, n_add, n_mul, n_div, n_mod, n_cl, n_lt, n_le, n_eq, n_in, n_eqm, n_meq, n_mlt, n_ltm, n_mle, n_lem, not_true_eq_false, not_false_eq_true, true_implies, false_implies, true_and, and_true, Nat.not_lt_zero, Nat.zero_le, Nat.le_refl]
      exact H h1 g1 f1 (G1.kp (fun l c2 _ hc2 => by rw [if_pos hc2]))
    · intro c hc ih h1 g1 f1 G1 y6 y7
      have hp := g.w.pos hc
      have row : ∀ j, j ≤ n → ∀ h2, i_CO a t h2 → i_Fr [99, 100, 125, 126] [] h h2 → o_gi a h2 (o_ft a f S m) (fun _ c2 => if c2 = c then j else if c2 < c then n else 0) → ∀ (y7 : Option Value), i_P i_MT i_AT L xs 51 37 [some (.ref 121), some (.int (i_n f)), some (.int (i_n n)), some (.long x), none, some (.int (i_n c)), some (.int (i_n j)), y7] [] h2 0 0 Q := by
        refine l_up ?_ ?_
        · intro h2 g2 f2 G2 y7
          refine d51_37 g2.l ?_
          try simp (disch := omega) only [n_lit, n_m, n_add, n_mul, n_div, n_mod, n_cl, n_lt, n_le, n_eq, n_in, n_eqm, n_meq, n_mlt, n_ltm, n_mle, n_lem, not_true_eq_false, not_false_eq_true, true_implies, false_implies, true_and, and_true, Nat.not_lt_zero, Nat.zero_le, Nat.le_refl]
          refine ih h2 g2 f2 (G2.kp (fun l c2 _ hc2 => ?_)) _ _
          congr 1
          by_cases e : c2 = c
          · rw [if_pos e, if_pos (by omega)]
          · rw [if_neg e]
            by_cases e2 : c2 < c
            · rw [if_pos e2, if_pos (by omega)]
            · rw [if_neg e2, if_neg (by omega)]
        · intro j hj ih2 h2 g2 f2 G2 y7
          have hs := hS j hj
          have e122 : aI h2 122 j = i_n (S j) := by rw [f2.rI (by decide)]; exact hs.1
          have nx : ∀ h3, i_CO a t h3 → i_Fr [99, 100, 125, 126] [] h h3 → o_gi a h3 (o_ft a f S m) (fun l c2 => if c2 = c then j + 1 else if c2 = c then j else if c2 < c then n else 0) → ∀ u : Int32, i_P i_MT i_AT L xs 51 106 [some (.ref 121), some (.int (i_n f)), some (.int (i_n n)), some (.long x), none, some (.int (i_n c)), some (.int (i_n j)), some (.int u)] [] h3 0 0 Q := by
            intro h3 g3 f3 G3 u
            refine d51_106 g3.l ?_
            try simp (disch := omega) only [n_lit, n_m, n_add, n_mul, n_div, n_mod, n_cl, n_lt, n_le, n_eq, n_in, n_eqm, n_meq, n_mlt, n_ltm, n_mle, n_lem, not_true_eq_false, not_false_eq_true, true_implies, false_implies, true_and, and_true, Nat.not_lt_zero, Nat.zero_le]
            refine ih2 h3 g3 f3 (G3.kp (fun l c2 _ _ => ?_)) _
            congr 1
            by_cases e : c2 = c
            · rw [if_pos e, if_pos e]
            · rw [if_neg e, if_neg e, if_neg e]
          have no : (∀ l, l < 8 → o_ft a f S m l c j = false) → ∀ h3, i_CO a t h3 → i_Fr [99, 100, 125, 126] [] h h3 → o_gi a h3 (o_ft a f S m) (fun _ c2 => if c2 = c then j else if c2 < c then n else 0) → ∀ u : Int32, i_P i_MT i_AT L xs 51 106 [some (.ref 121), some (.int (i_n f)), some (.int (i_n n)), some (.long x), none, some (.int (i_n c)), some (.int (i_n j)), some (.int u)] [] h3 0 0 Q := by
            intro e0 h3 g3 f3 G3
            refine nx h3 g3 f3 (G3.kp (fun l c2 hl _ => ?_))
            by_cases e : c2 = c
            · subst e
              rw [if_pos rfl, if_pos rfl, o_st, if_neg (by simp [e0 l hl])]
            · rw [if_neg e, if_neg e]
          have hfl := o_far_lt (show 0 < a 0 by omega) hc hs.2
          refine d51_37 g2.l ?_
          try simp (disch := omega) only [n_lit, n_m, n_add, n_mul, n_div, n_mod, n_cl, n_lt, n_le, n_eq, n_in, n_eqm, n_meq, n_mlt, n_ltm, n_mle, n_lem, not_true_eq_false, not_false_eq_true, true_implies, false_implies, true_and, and_true, Nat.not_lt_zero, Nat.zero_le, e122]
          refine ⟨fun e => by omega, fun _ => ⟨by omega, c27 g2.l g2.w g2.2.1 hc hs.2 ⟨_, rfl, d51_62 g2.l ?_⟩⟩⟩
          try simp (disch := omega) only [n_lit, n_m, n_add, n_mul, n_div, n_mod, n_cl, n_lt, n_le, n_eq, n_in, n_eqm, n_meq, n_mlt, n_ltm, n_mle, n_lem, not_true_eq_false, not_false_eq_true, true_implies, false_implies, true_and, and_true, Nat.not_lt_zero, Nat.zero_le, e122]
          refine ⟨fun e => no (fun l _ => ?_) h2 g2 f2 G2 _, fun e => ⟨by omega, c29 g2.l g2.w g2.2.1 hc hs.2 (fun s1 h3 hs1 L3 gr3 f3 => ⟨_, rfl, ?_⟩)⟩⟩
          · unfold o_ft o_seen
            rw [decide_eq_false (by omega), Bool.and_false, Bool.false_and]
          · have f3b : i_Fr [99, 100] [] h2 h3 := f3.mono (by decide) (fun _ z => z)
            have g3 := g2.gr L3 gr3 f3b
            have G3 := G2.fr f3 (by decide)
            have F3 := f2.trans (f3.mono (B := [99, 100, 125, 126]) (G := []) (by decide) (fun _ z => z))
            refine d51_91 g3.l ?_
            have hfree := o_free_and hs1 hx (fun k h1 h2 => (o_mid_lt (by omega) (by omega) hc hs.2).1) h48.1
            rw [j_cmp0, hfree]
            refine ⟨fun e2 => no (fun l _ => ?_) h3 g3 F3 G3 _, fun e2 => ?_⟩
            · unfold o_ft o_seen
              rw [show o_free (a 0) (o_bl a m) c (S j) = false by simpa using e2, Bool.and_false]
            · have e3 := Classical.not_not.mp e2
              refine c52 g3 hc (by omega) (s := S j) (T := o_ft a f S m) (ν := fun _ c2 => if c2 = c then j else if c2 < c then n else 0) (by rw [F3.rI (by decide)]; exact hs.1) hs.2 (fun l _ => ?_) (fun l _ => by rw [if_pos rfl]) G3 (fun h4 g4 f4 G4 => ⟨rfl, nx h4 g4 (F3.trans f4) G4 _⟩)
              unfold o_ft o_seen
              rw [e3, decide_eq_true (show o_far (a 0) c (S j) ≤ f by omega), Bool.and_true, Bool.and_true]
      refine d51_19 g1.l ?_
      rw [g1.2.1.1.2.2]
      try simp (disch := omega) only [n_lit, n_m, n_add, n_mul, n_div, n_mod, n_cl, n_lt, n_le, n_eq, n_in, n_eqm, n_meq, n_mlt, n_ltm, n_mle, n_lem, not_true_eq_false, not_false_eq_true, true_implies, false_implies, true_and, and_true, Nat.not_lt_zero, Nat.zero_le]
      refine ⟨fun e => by omega, fun _ => row 0 (Nat.zero_le _) h1 g1 f1 (G1.kp (fun l c2 _ _ => ?_)) _⟩
      congr 1
      by_cases e : c2 = c
      · rw [if_pos e, if_neg (by omega)]
      · rw [if_neg e]
  refine e51 (d51_0 g.l (c349 g.l g.l.a125 (by omega) (fun h1 L1 f1 z1 => ⟨rfl, ?_⟩)))
  have g1 : i_CO a t h1 := g.fr L1 f1 (by decide) (fun q z => absurd z (by simp))
  refine d51_8 g1.l (c348 g1.l g1.l.a126 (by omega) (fun h2 L2 f2 z2 => ⟨rfl, ?_⟩))
  have g2 : i_CO a t h2 := g1.fr L2 f2 (by decide) (fun q z => absurd z (by simp))
  refine d51_16 g2.l ?_
  try simp (disch := omega) only [n_lit, n_m, n_add, n_mul, n_div, n_mod, n_cl, n_lt, n_le, n_eq, n_in, n_eqm, n_meq, n_mlt, n_ltm, n_mle, n_lem, not_true_eq_false, not_false_eq_true, true_implies, false_implies, true_and, and_true, Nat.not_lt_zero, Nat.zero_le]
  refine key 0 (Nat.zero_le _) h2 g2 ((f1.mono (by decide) (fun _ z => z)).trans (f2.mono (by decide) (fun _ z => z))) (fun l hl => ⟨fun c hc => ?_, ?_⟩) _ _
  · dsimp only
    rw [if_neg (Nat.not_lt_zero c), f2.rI (by decide), z1 _ (by omega)]; rfl
  · rw [z2 l hl]
    exact o_is.emp.congr (fun c _ => by dsimp only; rw [if_neg (Nat.not_lt_zero c)]; rfl)
def o_mB (h : iH) (B C : Nat) : Prop := fR h 121 2 = B ∧ fR h 121 3 = C ∧ ((B = 123 ∧ C = 124) ∨ (B = 124 ∧ C = 123))
theorem o_mB.f2 (hL : i_Lay h) {B C : Nat} (b : o_mB h B C) : i_fld h 121 5 2 = some (.ref B) := by
  have := hL.fw (q := 121) (ci := 5) (b := 2) rfl rfl rfl
  rw [b.1] at this; exact this
theorem o_mB.f3 (hL : i_Lay h) {B C : Nat} (b : o_mB h B C) : i_fld h 121 5 3 = some (.ref C) := by
  have := hL.fw (q := 121) (ci := 5) (b := 3) rfl rfl rfl
  rw [b.2.1] at this; exact this
theorem o_mB.aB (hL : i_Lay h) {B C : Nat} (b : o_mB h B C) : i_arJ h B = some (64, aJ h B) ∧ i_arJ h C = some (64, aJ h C) := by
  rcases b.2.2 with e | e <;> rw [e.1, e.2]
  · exact ⟨hL.a123, hL.a124⟩
  · exact ⟨hL.a124, hL.a123⟩
theorem o_mB.fr {h2 : iH} {A : List Nat} {F : List (Nat × Nat)} {B C : Nat} (b : o_mB h B C) (f : i_Fr A F h h2) (h8 : (121, 2) ∉ F) (h9 : (121, 3) ∉ F) : o_mB h2 B C := by
  unfold o_mB
  rw [f.vR h8, f.vR h9]; exact b
theorem o_mB.ne {B C : Nat} (b : o_mB h B C) : B ≠ C ∧ 122 < B ∧ B < 125 ∧ 122 < C ∧ C < 125 := by
  rcases b.2.2 with e | e <;> omega
theorem i_sw2.mB (s : i_sw2 h 121 2 3 123 124) : ∃ B C, o_mB h B C := by
  rcases s with e | e
  · exact ⟨123, 124, e.1, e.2, Or.inl ⟨rfl, rfl⟩⟩
  · exact ⟨124, 123, e.1, e.2, Or.inr ⟨rfl, rfl⟩⟩
theorem o_mB.sw {B C : Nat} (b : o_mB h B C) : i_sw2 h 121 2 3 123 124 := by
  rcases b.2.2 with e | e
  · exact Or.inl ⟨b.1.trans e.1, b.2.1.trans e.2⟩
  · exact Or.inr ⟨b.1.trans e.1, b.2.1.trans e.2⟩
def o_arr (a : Nat → Nat) (P : Nat → Bool) (l c : Nat) : Bool := P c || o_stp a P l c
set_option maxHeartbeats 2000000 in
theorem c53 (g : i_CO a t h) {n V B C : Nat} {T : Nat → Nat → Nat → Bool} {F G : Nat → Nat → Bool} (b : o_mB h B C) (gk : o_gi a h T (fun _ _ => n)) (hn : n ≤ 6) (hV : V < 64) (hF : o_rw a h B 64 F) (hG : o_rw a h C 64 G) (H : ∀ h2, i_CO a t h2 → i_Fr [123, 124] [] h h2 → (∀ q, q ≠ C → aJ h2 q = aJ h q) → o_rw a h2 C 64 (fun V2 c => G V2 c || o_or (fun l => o_arr a (F V) l c && (V ||| o_st (T l c) n) == V2) 8) → Q none h2) : i_C i_MT i_AT L xs 53 [.ref 121, .int (i_n V)] h Q := by
  have h48 := g.w.c48
  have nb := b.ne
  have hCB : C ≠ B := fun e => nb.1 e.symm
  have st6 : ∀ l c, o_st (T l c) n < 64 := fun l c => Nat.lt_of_lt_of_le (o_st_lt n) (show 2 ^ n ≤ 2 ^ 6 from Nat.pow_le_pow_right (by omega) hn)
  have inA : ∀ q, q ∈ [C] → q ∈ [123, 124] := fun q hq => by simp only [List.mem_cons, List.not_mem_nil, or_false] at hq ⊢; omega
  have key : ∀ l, l ≤ 8 → ∀ h1, i_CO a t h1 → i_Fr [123, 124] [] h h1 → (∀ q, q ≠ C → aJ h1 q = aJ h q) → o_rw a h1 C 64 (fun V2 c => G V2 c || o_or (fun l => o_arr a (F V) l c && (V ||| o_st (T l c) n) == V2) l) → ∀ (y3 y4 y5 y6 y7 : Option Value), i_P i_MT i_AT L xs 53 14 [some (.ref 121), some (.int (i_n V)), some (.int (i_n l)), y3, y4, y5, y6, y7] [] h1 0 0 Q := by
    refine l_up ?_ ?_
    · intro h1 g1 f1 fo hr y3 y4 y5 y6 y7
      refine d53_14 g1.l ?_
      try simp (disch := omega) only [n_lit, n_m, n_add, n_mul, n_div, n_mod, n_cl, n_lt, n_le, n_eq, n_in, n_eqm, n_meq, n_mlt, n_ltm, n_mle, n_lem, not_true_eq_false, not_false_eq_true, true_implies, false_implies, true_and, and_true, Nat.not_lt_zero, Nat.zero_le, Nat.le_refl]
      exact H h1 g1 f1 fo hr
    · intro l hl ih h1 g1 f1 fo hr y3 y4 y5 y6 y7
      have b1 := b.fr f1 (by simp) (by simp)
      have eB : aJ h1 B = aJ h B := fo B nb.1
      have gk1 := gk.fr f1 (by decide)
      have hFV : o_is (aJ h1 B V) (a 0 * a 1) (F V) := by rw [eB]; exact hF V hV
      refine d53_14 g1.l ?_
      try simp (disch := omega) only [n_lit, n_m, n_add, n_mul, n_div, n_mod, n_cl, n_lt, n_le, n_eq, n_in, n_eqm, n_meq, n_mlt, n_ltm, n_mle, n_lem, not_true_eq_false, not_false_eq_true, true_implies, false_implies, true_and, and_true, Nat.not_lt_zero, Nat.zero_le]
      refine ⟨fun e => by omega, fun _ => ⟨B, b1.f2 g1.l, 64, aJ h1 B, (b1.aB g1.l).1, hV, B, b1.f2 g1.l, 64, aJ h1 B, (b1.aB g1.l).1, hV, ?_⟩⟩
      refine c24 g1.l g1.w g1.2.1 hFV hl (fun s2 hs2 => ⟨_, rfl, d53_43 g1.l ?_⟩)
      have hX : o_is (aJ h1 B V ||| s2) (a 0 * a 1) (o_arr a (F V) l) := (hFV.or hs2).congr (fun c _ => rfl)
      generalize aJ h1 B V ||| s2 = X at hX ⊢
      have g126 := (gk1 l hl).2
      try simp (disch := omega) only [n_lit, n_m, n_add, n_mul, n_div, n_mod, n_cl, n_lt, n_le, n_eq, n_in, n_eqm, n_meq, n_mlt, n_ltm, n_mle, n_lem, not_true_eq_false, not_false_eq_true, true_implies, false_implies, true_and, and_true, Nat.not_lt_zero, Nat.zero_le]
      refine ⟨C, b1.f3 g1.l, 64, aJ h1 C, (b1.aB g1.l).2, hV, hl, 64, aJ h1 C, (b1.aB g1.l).2, hV, ?_⟩
      have Fi : i_Fr [C] [] h1 (i_siJ h1 C V (aJ h1 C V ||| (X &&& (aJ h1 126 l ^^^ (-1 : Int64))))) := i_Fr.refl.siJ List.mem_cons_self
      have Fi2 : i_Fr [123, 124] [] h1 (i_siJ h1 C V (aJ h1 C V ||| (X &&& (aJ h1 126 l ^^^ (-1 : Int64))))) := Fi.mono inA (fun _ z => z)
      have g2 := g1.fp Fi2 g1.l.siJ (by decide) (fun _ e => absurd e (by simp))
      have r2 : o_rw a (i_siJ h1 C V (aJ h1 C V ||| (X &&& (aJ h1 126 l ^^^ (-1 : Int64))))) C 64 (fun V2 c => (G V2 c || o_or (fun l => o_arr a (F V) l c && (V ||| o_st (T l c) n) == V2) l) || (V2 == V && (o_arr a (F V) l c && !(o_st (T l c) n != 0)))) := by
        intro V2 hV2
        by_cases eV : V2 = V
        · subst eV
          rw [i_siJ_at (b1.aB g1.l).2]
          refine ((hr V2 hV2).or (hX.andn g126)).congr (fun c hc => ?_)
          dsimp only
          rw [show (V2 == V2) = true by simp, Bool.true_and]
        · rw [i_siJ_no (b1.aB g1.l).2 eV]
          refine (hr V2 hV2).congr (fun c hc => ?_)
          dsimp only
          rw [show (V2 == V) = false by simpa using eV, Bool.false_and, Bool.or_false]
      have fo2 : ∀ q, q ≠ C → aJ (i_siJ h1 C V (aJ h1 C V ||| (X &&& (aJ h1 126 l ^^^ (-1 : Int64))))) q = aJ h q := fun q hq => by rw [Fi.rJ (by simp; exact hq)]; exact fo q hq
      have gk2 := gk1.fr Fi2 (by decide)
      have b2 := b1.fr Fi (by simp) (by simp)
      have f2 := f1.trans Fi2
      generalize i_siJ h1 C V (aJ h1 C V ||| (X &&& (aJ h1 126 l ^^^ (-1 : Int64)))) = h2 at g2 r2 fo2 gk2 b2 f2 ⊢
      refine d53_66 g2.l ?_
      have h126 := (gk2 l hl).2
      have h125 := (gk2 l hl).1
      have hY := hX.and h126
      try simp (disch := omega) only [n_lit, n_m, n_add, n_mul, n_div, n_mod, n_cl, n_lt, n_le, n_eq, n_in, n_eqm, n_meq, n_mlt, n_ltm, n_mle, n_lem, not_true_eq_false, not_false_eq_true, true_implies, false_implies, true_and, and_true, Nat.not_lt_zero, Nat.zero_le]
      refine ⟨hl, ?_⟩
      generalize X &&& aJ h2 126 l = Y at hY ⊢
      generalize hG2 : (fun V2 c => (G V2 c || o_or (fun l => o_arr a (F V) l c && (V ||| o_st (T l c) n) == V2) l) || (V2 == V && (o_arr a (F V) l c && !(o_st (T l c) n != 0)))) = G2 at r2
      have row : ∀ j, j ≤ a 0 * a 1 → ∀ h3, i_CO a t h3 → i_Fr [C] [] h2 h3 → o_rw a h3 C 64 (fun V2 c => G2 V2 c || (decide (c < j) && (o_arr a (F V) l c && (o_st (T l c) n != 0) && (V ||| o_st (T l c) n) == V2))) → i_P i_MT i_AT L xs 53 79 [some (.ref 121), some (.int (i_n V)), some (.int (i_n l)), some (.long X), none, some (.long Y), none, some (.int (i_n j))] [] h3 0 0 Q := by
        have done : ∀ j h3, i_CO a t h3 → i_Fr [C] [] h2 h3 → o_rw a h3 C 64 (fun V2 c => G2 V2 c || (decide (c < j) && (o_arr a (F V) l c && (o_st (T l c) n != 0) && (V ||| o_st (T l c) n) == V2))) → (∀ c, c < a 0 * a 1 → (o_arr a (F V) l c && (o_st (T l c) n != 0)) = true → c < j) → i_P i_MT i_AT L xs 53 143 [some (.ref 121), some (.int (i_n V)), some (.int (i_n l)), some (.long X), none, some (.long Y), none, some (.int (i_n j))] [] h3 0 0 Q := by
          intro j h3 g3 f3 hr3 hp
          refine d53_143 g3.l ?_
          try simp (disch := omega) only [n_lit, n_m, n_add, n_mul, n_div, n_mod, n_cl, n_lt, n_le, n_eq, n_in, n_eqm, n_meq, n_mlt, n_ltm, n_mle, n_lem, not_true_eq_false, not_false_eq_true, true_implies, false_implies, true_and, and_true, Nat.not_lt_zero, Nat.zero_le]
          refine ih h3 g3 (f2.trans (f3.mono inA (fun _ z => z))) (fun q hq => by rw [f3.rJ (by simp; exact hq)]; exact fo2 q hq) (fun V2 hV2 => (hr3 V2 hV2).congr (fun c hc => ?_)) _ _ _ _ _
          have e : (decide (c < j) && (o_arr a (F V) l c && (o_st (T l c) n != 0) && (V ||| o_st (T l c) n) == V2)) = (o_arr a (F V) l c && (o_st (T l c) n != 0) && (V ||| o_st (T l c) n) == V2) := by
            cases hpc : (o_arr a (F V) l c && (o_st (T l c) n != 0)) with
            | false => rw [Bool.false_and, Bool.and_false]
            | true => rw [decide_eq_true (hp c hc hpc), Bool.true_and]
          dsimp only
          rw [e, ← hG2]
          dsimp only
          rw [o_or]
          have := o_mrg (G V2 c) (o_or (fun l => o_arr a (F V) l c && (V ||| o_st (T l c) n) == V2) l) (o_arr a (F V) l c) true V2 V (o_st (T l c) n)
          simpa [Bool.or_assoc] using this
        refine l_up ?_ ?_
        · intro h3 g3 f3 hr3
          refine d53_79 g3.l ?_
          rw [g3.2.1.1.2.2]
          try simp (disch := omega) only [n_lit, n_m, n_add, n_mul, n_div, n_mod, n_cl, n_lt, n_le, n_eq, n_in, n_eqm, n_meq, n_mlt, n_ltm, n_mle, n_lem, not_true_eq_false, not_false_eq_true, true_implies, false_implies, true_and, and_true, Nat.not_lt_zero, Nat.zero_le, Nat.le_refl]
          exact done _ h3 g3 f3 hr3 (fun c hc _ => hc)
        · intro j hj ih3 h3 g3 f3 hr3
          have gl := st6 l j
          have kg := Nat.or_lt_two_pow (n := 6) hV gl
          have b3 := b2.fr f3 (by simp) (by simp)
          have nx : ∀ h4, i_CO a t h4 → i_Fr [C] [] h2 h4 → o_rw a h4 C 64 (fun V2 c => G2 V2 c || (decide (c < j + 1) && (o_arr a (F V) l c && (o_st (T l c) n != 0) && (V ||| o_st (T l c) n) == V2))) → i_P i_MT i_AT L xs 53 137 [some (.ref 121), some (.int (i_n V)), some (.int (i_n l)), some (.long X), none, some (.long Y), none, some (.int (i_n j))] [] h4 0 0 Q := by
            intro h4 g4 f4 hr4
            refine d53_137 g4.l ?_
            try simp (disch := omega) only [n_lit, n_m, n_add, n_mul, n_div, n_mod, n_cl, n_lt, n_le, n_eq, n_in, n_eqm, n_meq, n_mlt, n_ltm, n_mle, n_lem, not_true_eq_false, not_false_eq_true, true_implies, false_implies, true_and, and_true, Nat.not_lt_zero, Nat.zero_le]
            exact ih3 h4 g4 f4 hr4
          have lt1 : ∀ c, c ≠ j → decide (c < j + 1) = decide (c < j) := fun c ec => by
            by_cases q : c < j
            · rw [decide_eq_true q, decide_eq_true (by omega)]
            · rw [decide_eq_false q, decide_eq_false (by omega)]
          refine d53_79 g3.l ?_
          rw [g3.2.1.1.2.2]
          try simp (disch := omega) only [n_lit, n_m, i_bo01, j_cmpn, Classical.not_not, n_add, n_mul, n_div, n_mod, n_cl, n_lt, n_le, n_eq, n_in, n_eqm, n_meq, n_mlt, n_ltm, n_mle, n_lem, not_true_eq_false, not_false_eq_true, true_implies, false_implies, true_and, and_true, Nat.not_lt_zero, Nat.zero_le]
          refine ⟨fun e => by omega, fun _ => ⟨fun e => ?_, fun e => c193 (by omega) ⟨_, rfl, d53_108 g3.l ?_⟩⟩⟩
          · have hX0 := (hY.s0 (by omega)).mp e
            exact done j h3 g3 f3 hr3 (fun c hc hp => absurd ((o_or_t (a 0 * a 1)).mpr ⟨c, hc, hp⟩) (by rw [hX0]; decide))
          · rw [hY.b hj (by omega)]
            have e125 : aI h3 125 (l * 48 + j) = i_n (o_st (T l j) n) := by rw [f3.rI (by simp; omega)]; exact h125 j hj
            try simp (disch := omega) only [n_lit, n_m, i_bo01, j_cmpn, Classical.not_not, n_add, n_mul, n_div, n_mod, n_cl, n_lt, n_le, n_eq, n_in, n_eqm, n_meq, n_mlt, n_ltm, n_mle, n_lem, not_true_eq_false, not_false_eq_true, true_implies, false_implies, true_and, and_true, Nat.not_lt_zero, Nat.zero_le, e125, n_or]
            refine ⟨fun e2 => nx h3 g3 f3 (fun V2 hV2 => (hr3 V2 hV2).congr (fun c hc => ?_)), fun e2 => ⟨C, b3.f3 g3.l, by omega, 64, aJ h3 C, (b3.aB g3.l).2, by omega, 64, aJ h3 C, (b3.aB g3.l).2, by omega, ?_⟩⟩
            · dsimp only
              by_cases ec : c = j
              · subst ec
                rw [show (o_arr a (F V) l c && (o_st (T l c) n != 0)) = false by simpa using e2]; simp
              · rw [lt1 c ec]
            · have fr : i_Fr [C] [] h3 (i_siJ h3 C (V ||| o_st (T l j) n) (aJ h3 C (V ||| o_st (T l j) n) ||| ((1 : Int64) <<< ((i_n j).toInt64 &&& (63 : Int64))))) := i_Fr.refl.siJ List.mem_cons_self
              have g4 := g3.fp fr g3.l.siJ (fun q hq => by simp only [List.mem_cons, List.not_mem_nil, or_false] at hq; omega) (fun _ e => absurd e (by simp))
              refine nx _ g4 (f3.trans fr) (fun V2 hV2 => ?_)
              by_cases eV : V2 = V ||| o_st (T l j) n
              · rw [eV, i_siJ_at (b3.aB g3.l).2]
                refine ((hr3 _ kg).or (o_is.one hj (by omega))).congr (fun c hc => ?_)
                dsimp only
                by_cases ec : c = j
                · subst ec
                  simp only [Bool.and_eq_true] at e2
                  simp [e2.1, e2.2]
                · rw [lt1 c ec, show (c == j) = false by simpa using ec, Bool.or_false]
              · rw [i_siJ_no (b3.aB g3.l).2 eV]
                refine (hr3 V2 hV2).congr (fun c hc => ?_)
                dsimp only
                by_cases ec : c = j
                · subst ec
                  rw [show ((V ||| o_st (T l c) n) == V2) = false by simpa using (fun z => eV z.symm)]; simp
                · rw [lt1 c ec]
      refine row 0 (Nat.zero_le _) h2 g2 i_Fr.refl (fun V2 hV2 => (r2 V2 hV2).congr (fun c hc => ?_))
      dsimp only
      rw [decide_eq_false (Nat.not_lt_zero c), Bool.false_and, Bool.or_false]
  refine e53 (d53_0 g.l ⟨B, b.f2 g.l, 64, aJ h B, (b.aB g.l).1, (n_in (by omega)).mpr hV, ?_⟩)
  rw [n_cl (by omega), j_cmp0, (hF V hV).s0 (by omega)]
  refine ⟨fun _ => ?_, fun e => H h g i_Fr.refl (fun _ _ => rfl) (fun V2 hV2 => (hG V2 hV2).congr (fun c hc => ?_))⟩
  · refine key 0 (by omega) h g i_Fr.refl (fun _ _ => rfl) (fun V2 hV2 => (hG V2 hV2).congr (fun c hc => ?_)) _ _ _ _ _
    dsimp only
    rw [o_or, Bool.or_false]
  · have e := Classical.not_not.mp e
    have no : ∀ c, c < a 0 * a 1 → F V c = false := fun c hc => by
      rw [← Bool.not_eq_true]
      intro q
      rw [(o_or_t (P := F V) (a 0 * a 1)).mpr ⟨c, hc, q⟩] at e
      cases e
    have : o_or (fun l => o_arr a (F V) l c && (V ||| o_st (T l c) n) == V2) 8 = false := by
      rw [← Bool.not_eq_true, o_or_t]
      rintro ⟨l, -, z⟩
      rw [Bool.and_eq_true] at z
      have z := z.1
      unfold o_arr at z
      rw [Bool.or_eq_true, o_stp_t, no c hc] at z
      rcases z with z | ⟨-, b, q1, q2, -⟩
      · cases z
      · rw [no b q1] at q2; cases q2
    dsimp only
    rw [this, Bool.or_false]
/-- where the one who seeks may be, V having been seen -/
def o_fd (a : Nat → Nat) (p : Nat) (S : Nat → Nat) (n : Nat) : Nat → Nat → Nat → Bool
  | 0, V, c => V == 0 && c == a (154 + 5 * p)
  | m + 1, V, c => o_or (fun V2 => o_or (fun l => o_arr a (o_fd a p S n m V2) l c && (V2 ||| o_st (o_ft a (a (156 + 5 * p)) S (m + 1) l c) n) == V) 8) 64
def o_fdN (a : Nat → Nat) (p : Nat) (S : Nat → Nat) (n : Nat) : Option Nat := o_lst (fun m => o_or (o_fd a p S n m (2 ^ n - 1)) (a 0 * a 1)) 31 0
def o_skS (a : Nat → Nat) (P : Nat → Bool) (j : Nat) : Nat := (o_skl P (a 0 * a 1)).getD j 0
def o_mok (a : Nat → Nat) (y : Int64) : Bool := (List.range 64).all (fun c => !(i_b y c) || decide (c < a 0 * a 1)) && decide (o_cn0 (i_b y) (a 0 * a 1) ≤ 6)
def o_fdA (a : Nat → Nat) (x : Int32) (y : Int64) : Int32 × Int32 := o_A6 (v_p a x ∧ o_mok a y = true) (o_fdN a x.toNatClampNeg (o_skS a (i_b y)) (o_cn0 (i_b y) (a 0 * a 1)))
theorem o_fd0 {p n : Nat} {S : Nat → Nat} (hn : n = 0) (hs : a (154 + 5 * p) < a 0 * a 1) : o_fdN a p S n = some 0 := by
  subst hn
  refine o_lst_s (P := fun m => o_or (o_fd a p S 0 m (2 ^ 0 - 1)) (a 0 * a 1)) (j := 0) ?_ 31 0 (by omega) (by omega) (fun j _ hj => absurd hj (Nat.not_lt_zero j))
  rw [o_or_t]
  exact ⟨a (154 + 5 * p), hs, by rw [o_fd]; simp⟩
theorem o_ft_eq {f m m2 : Nat} {S : Nat → Nat} (h3 : a 3 = 0) : o_ft a f S m = o_ft a f S m2 := by
  funext l c j
  have : o_bl a m = o_bl a m2 := by funext c; unfold o_bl; rw [h3]; rfl
  unfold o_ft
  rw [this]
abbrev fdA : List Nat := [99, 100, 122, 123, 124, 125, 126]
abbrev fdF : List (Nat × Nat) := [(121, 2), (121, 3)]
theorem i_CO.fdw (g : i_CO a t h) {h2 : iH} (hL : i_Lay h2) (f : i_Fr [123, 124] fdF h h2) : i_CO a t h2 := g.fr hL f (by decide) (by decide)
set_option maxHeartbeats 2000000 in
theorem c50 (g : i_CO a t h) (sw : i_sw2 h 121 2 3 123 124) {p : Nat} {x : Int64} {P : Nat → Bool} (hp : p < a 5) (hx : o_is x (a 0 * a 1) P) (hn6 : o_cn0 P (a 0 * a 1) ≤ 6) (H : ∀ h2, i_CO a t h2 → i_Fr fdA fdF h h2 → i_sw2 h2 121 2 3 123 124 → Q (some (.int (o_op (o_fdN a p (o_skS a P) (o_cn0 P (a 0 * a 1)))))) h2) : i_C i_MT i_AT L xs 50 [.ref 121, .int (i_n p), .long x] h Q := by
  have h5 := g.w.2.2.2.2.1
  have h3 := g.w.2.2.1
  have h48 := g.w.c48
  have hs := (g.st hp).2
  obtain ⟨B0, C0, b0⟩ := sw.mB
  have n0 := b0.ne
  generalize hn : o_cn0 P (a 0 * a 1) = n at H hn6
  generalize hS : o_skS a P = S at H
  have hSl : ∀ j, j < n → S j < a 0 * a 1 := fun j hj => by
    rw [← hS]
    exact o_skl_lt _ _ (by rw [o_skl_len]; omega)
  have fl : 2 ^ n ≤ 64 := Nat.pow_le_pow_right (n := 2) (j := 6) (by omega) hn6
  have fl0 : 0 < 2 ^ n := Nat.two_pow_pos n
  -- the minutes
  have key : ∀ k, k ≤ 31 → 1 ≤ k → ∀ (B C : Nat) h1, o_mB h1 B C → o_rw a h1 B 64 (o_fd a p S n (k - 1)) → (∀ j, j < k → o_or (o_fd a p S n j (2 ^ n - 1)) (a 0 * a 1) = false) → (∀ j, j < n → aI h1 122 j = i_n (S j)) → (k ≠ 1 → a 3 = 0 → o_gi a h1 (o_ft a (a (156 + 5 * p)) S 1) (fun _ _ => n)) → i_CO a t h1 → i_Fr fdA fdF h h1 → ∀ (y6 : Option Value), i_P i_MT i_AT L xs 50 96 [some (.ref 121), some (.int (i_n p)), some (.long x), none, some (.int (i_n n)), some (.int (i_n k)), y6] [] h1 0 0 Q := by
    refine l_up ?_ ?_
    · intro _ B C h1 b1 hF hno hS1 hg g1 f1 y6
      refine d50_96 g1.l ?_
      try simp (disch := omega) only [n_lit, n_m, n_add, n_mul, n_div, n_mod, n_cl, n_lt, n_le, n_eq, n_in, n_eqm, n_meq, n_mlt, n_ltm, n_mle, n_lem, not_true_eq_false, not_false_eq_true, true_implies, false_implies, true_and, and_true, Nat.not_lt_zero, Nat.zero_le]
      refine ⟨fun _ => ?_, fun e => absurd (by omega) e⟩
      have e : o_fdN a p S n = none := o_lst_n 31 0 (fun j _ h2 => hno j (by omega))
      rw [e] at H
      exact H h1 g1 f1 b1.sw
    · intro k hk ih hk1 B C h1 b1 hF hno hS1 hg g1 f1 y6
      have nb := b1.ne
      -- behind the gains
      have go : ∀ h2, o_mB h2 B C → o_rw a h2 B 64 (o_fd a p S n (k - 1)) → (∀ j, j < n → aI h2 122 j = i_n (S j)) → o_gi a h2 (o_ft a (a (156 + 5 * p)) S k) (fun _ _ => n) → i_CO a t h2 → i_Fr fdA fdF h h2 → ∀ (y6 : Option Value), i_P i_MT i_AT L xs 50 153 [some (.ref 121), some (.int (i_n p)), some (.long x), none, some (.int (i_n n)), some (.int (i_n k)), y6] [] h2 0 0 Q := by
        intro h2 b2 r2 hS2 G2 g2 F2 y6
        refine d50_153 g2.l ⟨C, b2.f3 g2.l, c348 g2.l (b2.aB g2.l).2 (by omega) (fun h3 L3 f3 z3 => ⟨rfl, ?_⟩)⟩
        have f3b : i_Fr [123, 124] fdF h2 h3 := f3.mono (fun q hq => by simp only [List.mem_cons, List.not_mem_nil, or_false] at hq ⊢; omega) (fun _ e => absurd e (by simp))
        have g3 := g2.fdw L3 f3b
        have b3 := b2.fr f3 (by simp) (by simp)
        have r3 : o_rw a h3 B 64 (o_fd a p S n (k - 1)) := by unfold o_rw; rw [f3.rJ (by simp; omega)]; exact r2
        have s3 : o_rw a h3 C 64 (fun _ _ => false) := fun V hV => by rw [z3 V hV]; exact o_is.emp
        have G3 := G2.fr f3b (by decide)
        have hS3 : ∀ j, j < n → aI h3 122 j = i_n (S j) := by rw [f3b.rI (by decide)]; exact hS2
        have F3 := F2.trans (f3b.mono (by decide) (fun _ z => z))
        have row : ∀ V, V ≤ 64 → ∀ h4, o_mB h4 B C → o_rw a h4 B 64 (o_fd a p S n (k - 1)) → o_rw a h4 C 64 (fun V3 c => o_or (fun V2 => o_or (fun l => o_arr a (o_fd a p S n (k - 1) V2) l c && (V2 ||| o_st (o_ft a (a (156 + 5 * p)) S k l c) n) == V3) 8) V) → (∀ j, j < n → aI h4 122 j = i_n (S j)) → o_gi a h4 (o_ft a (a (156 + 5 * p)) S k) (fun _ _ => n) → i_CO a t h4 → i_Fr fdA fdF h h4 →  i_P i_MT i_AT L xs 50 164 [some (.ref 121), some (.int (i_n p)), some (.long x), none, some (.int (i_n n)), some (.int (i_n k)), some (.int (i_n V))] [] h4 0 0 Q := by
          refine l_up ?_ ?_
          · intro h4 b4 r4 s4 hS4 G4 g4 F4 
            have e : o_rw a h4 C 64 (o_fd a p S n k) := fun V hV => (s4 V hV).congr (fun c _ => by
              obtain ⟨j, rfl⟩ : ∃ j, k = j + 1 := ⟨k - 1, by omega⟩
              rw [show j + 1 - 1 = j from rfl, o_fd])
            refine d50_164 g4.l ?_
            try simp (disch := omega) only [n_lit, n_m, n_add, n_mul, n_div, n_mod, n_cl, n_lt, n_le, n_eq, n_in, n_eqm, n_meq, n_mlt, n_ltm, n_mle, n_lem, not_true_eq_false, not_false_eq_true, true_implies, false_implies, true_and, and_true, Nat.not_lt_zero, Nat.zero_le, n_shl2, n_and, Nat.shiftLeft_eq, Nat.one_mul, Nat.le_refl]
            rw [show i_n (2 ^ n) - i_n 1 = i_n (2 ^ n - 1) from n_sub fl0, n_cl (by omega)]
            refine ⟨C, b4.f3 g4.l, 64, aJ h4 C, (b4.aB g4.l).2, (n_in (by omega)).mpr (by omega), ?_⟩
            have eV := e (2 ^ n - 1) (by omega)
            rw [j_cmpn, eV.s0 (by omega)]
            refine ⟨fun z => ⟨B, b4.f2 g4.l, C, b4.f3 g4.l, ⟨_, b4.f2 g4.l⟩, ?_⟩, fun z => ?_⟩
            · have F8 : i_Fr [123, 124] fdF h4 (i_sf h4 121 2 (.ref C)) := i_Fr.refl.sf (by decide)
              have L3 : i_Lay (i_sf h4 121 2 (.ref C)) := g4.l.sf (b4.f2 g4.l) rfl
              have g12 := g4.fdw L3 F8
              have F8b : i_Fr [] [(121, 2)] h4 (i_sf h4 121 2 (.ref C)) := i_Fr.refl.sf (by decide)
              have e8 : fR (i_sf h4 121 2 (.ref C)) 121 2 = C := x_fR_sf (b4.f2 g4.l)
              have e9 : i_fld (i_sf h4 121 2 (.ref C)) 121 5 3 = some (.ref C) := by
                have := L3.fw (q := 121) (ci := 5) (b := 3) rfl rfl rfl
                rw [F8b.vR (by decide), b4.2.1] at this
                exact this
              refine d50_216 g12.l ⟨⟨_, e9⟩, ?_⟩
              have F9 : i_Fr [123, 124] fdF (i_sf h4 121 2 (.ref C)) (i_sf (i_sf h4 121 2 (.ref C)) 121 3 (.ref B)) := i_Fr.refl.sf (by decide)
              have F9b : i_Fr [] [(121, 3)] (i_sf h4 121 2 (.ref C)) (i_sf (i_sf h4 121 2 (.ref C)) 121 3 (.ref B)) := i_Fr.refl.sf (by decide)
              have L4 : i_Lay (i_sf (i_sf h4 121 2 (.ref C)) 121 3 (.ref B)) := L3.sf e9 rfl
              have g13 := g12.fdw L4 F9
              have b13 : o_mB (i_sf (i_sf h4 121 2 (.ref C)) 121 3 (.ref B)) C B := by
                refine ⟨by rw [F9b.vR (by decide)]; exact e8, x_fR_sf e9, ?_⟩
                rcases b4.2.2 with e | e
                · exact Or.inr ⟨e.2, e.1⟩
                · exact Or.inl ⟨e.2, e.1⟩
              have r13 : o_rw a (i_sf (i_sf h4 121 2 (.ref C)) 121 3 (.ref B)) C 64 (o_fd a p S n k) := by
                unfold o_rw
                rw [F9b.rJ (by simp), F8b.rJ (by simp)]; exact e
              have S13 : ∀ j, j < n → aI (i_sf (i_sf h4 121 2 (.ref C)) 121 3 (.ref B)) 122 j = i_n (S j) := by
                rw [F9b.rI (by simp), F8b.rI (by simp)]; exact hS4
              have G13 := (G4.fr F8b (by decide)).fr F9b (by decide)
              have F13 := F4.trans ((F8.trans F9).mono (B := fdA) (G := fdF) (by decide) (fun _ z => z))
              generalize i_sf (i_sf h4 121 2 (.ref C)) 121 3 (.ref B) = h13 at g13 b13 r13 S13 G13 F13 ⊢
              refine d50_222 g13.l ?_
              try simp (disch := omega) only [n_lit, n_m, n_add, n_mul, n_div, n_mod, n_cl, n_lt, n_le, n_eq, n_in, n_eqm, n_meq, n_mlt, n_ltm, n_mle, n_lem, not_true_eq_false, not_false_eq_true, true_implies, false_implies, true_and, and_true, Nat.not_lt_zero, Nat.zero_le]
              refine ih (by omega) C B h13 b13 (by rw [show k + 1 - 1 = k by omega]; exact r13) (fun j hj => ?_) S13 (fun _ a3 => by rw [o_ft_eq (m2 := k) a3]; exact G13) g13 F13 _
              by_cases ej : j = k
              · subst ej; exact z
              · exact hno j (by omega)
            · have z2 : o_or (o_fd a p S n k (2 ^ n - 1)) (a 0 * a 1) = true := by simpa using z
              have e2 : o_fdN a p S n = some k := o_lst_s (P := fun m => o_or (o_fd a p S n m (2 ^ n - 1)) (a 0 * a 1)) (j := k) z2 31 0 (by omega) (by omega) (fun j _ hj => hno j hj)
              rw [e2] at H
              exact H h4 g4 F4 b4.sw
          · intro V hV ih2 h4 b4 r4 s4 hS4 G4 g4 F4 
            refine d50_164 g4.l ?_
            try simp (disch := omega) only [n_lit, n_m, n_add, n_mul, n_div, n_mod, n_cl, n_lt, n_le, n_eq, n_in, n_eqm, n_meq, n_mlt, n_ltm, n_mle, n_lem, not_true_eq_false, not_false_eq_true, true_implies, false_implies, true_and, and_true, Nat.not_lt_zero, Nat.zero_le]
            refine ⟨fun e => by omega, fun _ => c53 g4 b4 G4 hn6 hV r4 s4 (fun h6 g6 f6 o6 s6 => ⟨rfl, d50_177 g6.l ?_⟩)⟩
            try simp (disch := omega) only [n_lit, n_m, n_add, n_mul, n_div, n_mod, n_cl, n_lt, n_le, n_eq, n_in, n_eqm, n_meq, n_mlt, n_ltm, n_mle, n_lem, not_true_eq_false, not_false_eq_true, true_implies, false_implies, true_and, and_true, Nat.not_lt_zero, Nat.zero_le]
            refine ih2 h6 (b4.fr f6 (by simp) (by simp)) ?_ s6 ?_ (G4.fr f6 (by decide)) g6 (F4.trans (f6.mono (by decide) (fun _ z => absurd z (by simp)))) 
            · unfold o_rw
              rw [o6 B nb.1]; exact r4
            · rw [f6.rI (by decide)]; exact hS4
        refine d50_161 g3.l ?_
        try simp (disch := omega) only [n_lit, n_m, n_add, n_mul, n_div, n_mod, n_cl, n_lt, n_le, n_eq, n_in, n_eqm, n_meq, n_mlt, n_ltm, n_mle, n_lem, not_true_eq_false, not_false_eq_true, true_implies, false_implies, true_and, and_true, Nat.not_lt_zero, Nat.zero_le]
        exact row 0 (by omega) h3 b3 r3 s3 hS3 G3 g3 F3 
      have mk : ∀ (y6 : Option Value), i_P i_MT i_AT L xs 50 122 [some (.ref 121), some (.int (i_n p)), some (.long x), none, some (.int (i_n n)), some (.int (i_n k)), y6] [] h1 0 0 Q := by
        intro y6
        refine d50_122 g1.l ⟨t, g1.tw, g1.T, ?_⟩
        rw [n_cl (by omega), n_cl (by omega), (g1.fars hp).1]
        refine ⟨(n_in (by omega)).mpr (by omega), (n_in (by omega)).mpr (by omega), ?_⟩
        have hf9 := (g1.fars hp).2
        refine c51 g1 (S := S) (m := k) (by omega) hn6 (fun j hj => ⟨hS1 j hj, hSl j hj⟩) (g1.bl (by omega)) (fun h2 g2 f2 G2 => ⟨rfl, go h2 (b1.fr f2 (by simp) (by simp)) ?_ ?_ G2 g2 (f1.trans (f2.mono (by decide) (fun _ z => absurd z (by simp)))) _⟩)
        · unfold o_rw; rw [f2.rJ (by simp; omega)]; exact hF
        · rw [f2.rI (by decide)]; exact hS1
      refine d50_96 g1.l ?_
      try simp (disch := omega) only [n_lit, n_m, n_add, n_mul, n_div, n_mod, n_cl, n_lt, n_le, n_eq, n_in, n_eqm, n_meq, n_mlt, n_ltm, n_mle, n_lem, not_true_eq_false, not_false_eq_true, true_implies, false_implies, true_and, and_true, Nat.not_lt_zero, Nat.zero_le]
      refine ⟨fun e => by omega, fun _ => ⟨fun e => mk _, fun e => ⟨t, g1.tw, g1.T, ?_⟩⟩⟩
      rw [g1.nc]
      try simp (disch := omega) only [n_lit, n_m, n_add, n_mul, n_div, n_mod, n_cl, n_lt, n_le, n_eq, n_in, n_eqm, n_meq, n_mlt, n_ltm, n_mle, n_lem, not_true_eq_false, not_false_eq_true, true_implies, false_implies, true_and, and_true, Nat.not_lt_zero, Nat.zero_le]
      refine ⟨fun e3 => go h1 b1 hF hS1 ?_ g1 f1 _, fun e3 => mk _⟩
      rw [o_ft_eq (m2 := 1) (by omega)]
      exact hg e (by omega)
  -- behind the list
  have lst : ∀ h1, (∀ j, j < n → aI h1 122 j = i_n (S j)) → i_CO a t h1 → i_Fr fdA fdF h h1 → o_mB h1 B0 C0 → ∀ (u : Int32), ∀ (y6 : Option Value), i_P i_MT i_AT L xs 50 55 [some (.ref 121), some (.int (i_n p)), some (.long x), none, some (.int (i_n n)), some (.int u), y6] [] h1 0 0 Q := by
    intro h1 hS1 g1 F1 b1 u y6
    refine d50_55 g1.l ?_
    try simp (disch := omega) only [n_lit, n_m, n_add, n_mul, n_div, n_mod, n_cl, n_lt, n_le, n_eq, n_in, n_eqm, n_meq, n_mlt, n_ltm, n_mle, n_lem, not_true_eq_false, not_false_eq_true, true_implies, false_implies, true_and, and_true, Nat.not_lt_zero, Nat.zero_le]
    refine ⟨fun e => ⟨B0, b1.f2 g1.l, c348 g1.l (b1.aB g1.l).1 (by omega) (fun h2 L2 f2 z2 => ⟨rfl, ?_⟩)⟩, fun e => ?_⟩
    · have f2b : i_Fr [123, 124] fdF h1 h2 := f2.mono (fun q hq => by simp only [List.mem_cons, List.not_mem_nil, or_false] at hq ⊢; omega) (fun _ e => absurd e (by simp))
      have g2 := g1.fdw L2 f2b
      have b2 := b1.fr f2 (by simp) (by simp)
      have hS2 : ∀ j, j < n → aI h2 122 j = i_n (S j) := by rw [f2b.rI (by decide)]; exact hS1
      refine d50_70 g2.l ⟨B0, b2.f2 g2.l, t, g2.tw, g2.T, ?_⟩
      rw [n_cl (by omega), (g2.st hp).1]
      refine ⟨(n_in (by omega)).mpr (by omega), 64, aJ h2 B0, (b2.aB g2.l).1, (show i_in (i_n 0) 64 from (n_in (by omega)).mpr (by omega)), ?_⟩
      rw [show ((0 : Int32).toNatClampNeg) = 0 from rfl]
      have Fi : i_Fr [B0] [] h2 (i_siJ h2 B0 0 ((1 : Int64) <<< ((i_n (a (154 + 5 * p))).toInt64 &&& (63 : Int64)))) := i_Fr.refl.siJ List.mem_cons_self
      have Fi2 : i_Fr [123, 124] fdF h2 (i_siJ h2 B0 0 ((1 : Int64) <<< ((i_n (a (154 + 5 * p))).toInt64 &&& (63 : Int64)))) := Fi.mono (fun q hq => by simp only [List.mem_cons, List.not_mem_nil, or_false] at hq ⊢; omega) (fun _ e => absurd e (by simp))
      have g3 := g2.fdw g2.l.siJ Fi2
      have b3 := b2.fr Fi (by simp) (by simp)
      have hS3 : ∀ j, j < n → aI (i_siJ h2 B0 0 ((1 : Int64) <<< ((i_n (a (154 + 5 * p))).toInt64 &&& (63 : Int64)))) 122 j = i_n (S j) := by rw [Fi2.rI (by decide)]; exact hS2
      have r3 : o_rw a (i_siJ h2 B0 0 ((1 : Int64) <<< ((i_n (a (154 + 5 * p))).toInt64 &&& (63 : Int64)))) B0 64 (o_fd a p S n 0) := by
        intro V hV
        by_cases eV : V = 0
        · subst eV
          rw [i_siJ_at (b2.aB g2.l).1]
          exact (o_is.one hs (by omega)).congr (fun c _ => by rw [o_fd]; simp)
        · rw [i_siJ_no (b2.aB g2.l).1 eV, z2 V hV]
          exact o_is.emp.congr (fun c _ => by rw [o_fd, show (V == 0) = false by simpa using eV, Bool.false_and])
      have F3 := F1.trans ((f2b.trans Fi2).mono (B := fdA) (G := fdF) (by decide) (fun _ z => z))
      generalize i_siJ h2 B0 0 ((1 : Int64) <<< ((i_n (a (154 + 5 * p))).toInt64 &&& (63 : Int64))) = h3 at g3 b3 hS3 r3 F3 ⊢
      refine d50_93 g3.l ?_
      try simp (disch := omega) only [n_lit, n_m, n_add, n_mul, n_div, n_mod, n_cl, n_lt, n_le, n_eq, n_in, n_eqm, n_meq, n_mlt, n_ltm, n_mle, n_lem, not_true_eq_false, not_false_eq_true, true_implies, false_implies, true_and, and_true, Nat.not_lt_zero, Nat.zero_le]
      refine key 1 (by omega) (Nat.le_refl 1) B0 C0 h3 b3 r3 (fun j hj => ?_) hS3 (fun e => absurd rfl e) g3 F3 _
      have : j = 0 := by omega
      subst this
      rw [← Bool.not_eq_true, o_or_t]
      rintro ⟨i, -, q⟩
      rw [o_fd, Bool.and_eq_true, beq_iff_eq] at q
      have q1 : 2 ^ n = 1 := by omega
      have : 2 ^ n ≥ 2 ^ 1 := Nat.pow_le_pow_right (by omega) (by omega)
      omega
    · rw [o_fd0 (Classical.not_not.mp e) hs] at H
      exact H h1 g1 F1 b1.sw
  have scan : ∀ c, c ≤ a 0 * a 1 → ∀ h1, (∀ j, j < (o_skl P c).length → aI h1 122 j = i_n ((o_skl P c).getD j 0)) → i_CO a t h1 → i_Fr fdA fdF h h1 → o_mB h1 B0 C0 → ∀ (y6 : Option Value), i_P i_MT i_AT L xs 50 6 [some (.ref 121), some (.int (i_n p)), some (.long x), none, some (.int (i_n (o_skl P c).length)), some (.int (i_n c)), y6] [] h1 0 0 Q := by
    have done : ∀ c, o_skl P (a 0 * a 1) = o_skl P c → ∀ h1, (∀ j, j < (o_skl P c).length → aI h1 122 j = i_n ((o_skl P c).getD j 0)) → i_CO a t h1 → i_Fr fdA fdF h h1 → o_mB h1 B0 C0 → ∀ (y6 : Option Value), i_P i_MT i_AT L xs 50 55 [some (.ref 121), some (.int (i_n p)), some (.long x), none, some (.int (i_n (o_skl P c).length)), some (.int (i_n c)), y6] [] h1 0 0 Q := by
      intro c e h1 hS1 g1 F1 b1
      rw [← e] at hS1 ⊢
      rw [o_skl_len, hn] at hS1 ⊢
      exact lst h1 (by rw [← hS]; exact hS1) g1 F1 b1 _
    refine l_up ?_ ?_
    · intro h1 hS1 g1 F1 b1 y6
      refine d50_6 g1.l ?_
      rw [g1.2.1.1.2.2]
      try simp (disch := omega) only [n_lit, n_m, n_add, n_mul, n_div, n_mod, n_cl, n_lt, n_le, n_eq, n_in, n_eqm, n_meq, n_mlt, n_ltm, n_mle, n_lem, not_true_eq_false, not_false_eq_true, true_implies, false_implies, true_and, and_true, Nat.not_lt_zero, Nat.zero_le, Nat.le_refl]
      exact done _ rfl h1 hS1 g1 F1 b1 _
    · intro c hc ih h1 hS1 g1 F1 b1 y6
      have hl : (o_skl P c).length ≤ 6 := by
        rw [o_skl_len]
        have := o_cn0_mono (P := P) (a 0 * a 1) c (by omega)
        omega
      have hl1 : (o_skl P (c + 1)).length ≤ 6 := by
        rw [o_skl_len]
        have := o_cn0_mono (P := P) (a 0 * a 1) (c + 1) (by omega)
        omega
      rw [o_skl] at ih hl1
      refine d50_6 g1.l ?_
      rw [g1.2.1.1.2.2]
      try simp (disch := omega) only [n_lit, n_m, n_add, n_mul, n_div, n_mod, n_cl, n_lt, n_le, n_eq, n_in, n_eqm, n_meq, n_mlt, n_ltm, n_mle, n_lem, not_true_eq_false, not_false_eq_true, true_implies, false_implies, true_and, and_true, Nat.not_lt_zero, Nat.zero_le]
      refine ⟨fun e => by omega, fun _ => ⟨fun e => ?_, fun e => c193 (by omega) ⟨_, rfl, d50_34 g1.l ?_⟩⟩⟩
      · refine done c (o_skl_st _ (by omega) ?_) h1 hS1 g1 F1 b1 _
        rw [o_skl_len] at e
        omega
      · rw [hx.b hc (by omega)]
        try simp (disch := omega) only [n_lit, n_m, i_bo01, j_cmpn, Classical.not_not, n_add, n_mul, n_div, n_mod, n_cl, n_lt, n_le, n_eq, n_in, n_eqm, n_meq, n_mlt, n_ltm, n_mle, n_lem, not_true_eq_false, not_false_eq_true, true_implies, false_implies, true_and, and_true, Nat.not_lt_zero, Nat.zero_le]
        refine ⟨fun e2 => d50_49 g1.l ?_, fun e2 => ⟨by omega, ?_⟩⟩
        · rw [if_neg (by simp [e2])] at ih
          try simp (disch := omega) only [n_lit, n_m, n_add, n_mul, n_div, n_mod, n_cl, n_lt, n_le, n_eq, n_in, n_eqm, n_meq, n_mlt, n_ltm, n_mle, n_lem, not_true_eq_false, not_false_eq_true, true_implies, false_implies, true_and, and_true, Nat.not_lt_zero, Nat.zero_le]
          exact ih h1 hS1 g1 F1 b1 _
        · rw [if_pos e2] at ih hl1
          rw [List.length_append, List.length_singleton] at ih hl1
          have Fi : i_Fr [122] [] h1 (i_siI h1 122 (o_skl P c).length (i_n c)) := i_Fr.refl.siI (by decide)
          have g2 : i_CO a t (i_siI h1 122 (o_skl P c).length (i_n c)) := g1.fr g1.l.siI Fi (by decide) (fun q z => absurd z (by simp))
          refine d50_49 g2.l ?_
          try simp (disch := omega) only [n_lit, n_m, n_add, n_mul, n_div, n_mod, n_cl, n_lt, n_le, n_eq, n_in, n_eqm, n_meq, n_mlt, n_ltm, n_mle, n_lem, not_true_eq_false, not_false_eq_true, true_implies, false_implies, true_and, and_true, Nat.not_lt_zero, Nat.zero_le]
          refine ih _ (fun j hj => ?_) g2 (F1.trans (Fi.mono (by decide) (fun _ z => absurd z (by simp)))) (b1.fr Fi (by simp) (by simp)) _
          rw [x_aI_siI g1.l.a122, x_upd]
          by_cases ej : j = (o_skl P c).length
          · rw [if_pos ej, ej, List.getD_eq_getElem?_getD, List.getElem?_append_right (Nat.le_refl _), Nat.sub_self]
            rfl
          · rw [if_neg ej, List.getD_eq_getElem?_getD, List.getElem?_append_left (by omega), ← List.getD_eq_getElem?_getD]
            exact hS1 j (by omega)
  refine e50 (d50_0 g.l ?_)
  try simp (disch := omega) only [n_lit, n_m, n_add, n_mul, n_div, n_mod, n_cl, n_lt, n_le, n_eq, n_in, n_eqm, n_meq, n_mlt, n_ltm, n_mle, n_lem, not_true_eq_false, not_false_eq_true, true_implies, false_implies, true_and, and_true, Nat.not_lt_zero, Nat.zero_le]
  exact scan 0 (Nat.zero_le _) h (fun j hj => absurd hj (Nat.not_lt_zero j)) g i_Fr.refl b0 _
theorem o_mok_t {y : Int64} : o_mok a y = true ↔ (∀ c, c < 64 → i_b y c = true → c < a 0 * a 1) ∧ o_cn0 (i_b y) (a 0 * a 1) ≤ 6 := by
  unfold o_mok
  simp only [Bool.and_eq_true, List.all_eq_true, List.mem_range, Bool.or_eq_true, Bool.not_eq_true', decide_eq_true_eq]
  constructor
  · rintro ⟨z1, z2⟩
    refine ⟨fun c hc e => ?_, z2⟩
    rcases z1 c hc with q | q
    · rw [e] at q; cases q
    · exact q
  · rintro ⟨z1, z2⟩
    refine ⟨fun c hc => ?_, z2⟩
    cases e : i_b y c with
    | false => exact Or.inl rfl
    | true => exact Or.inr (z1 c hc e)
theorem o_cn0_cut {P : Nat → Bool} {m : Nat} : ∀ n, m ≤ n → (∀ c, m ≤ c → c < n → P c = false) → o_cn0 P n = o_cn0 P m
  | 0, h, _ => by rw [show m = 0 by omega]
  | n + 1, h, z => by
    by_cases q : m = n + 1
    · rw [q]
    · rw [o_cn0, if_neg (by rw [z n (by omega) (by omega)]; decide), Nat.add_zero]
      exact o_cn0_cut n (by omega) (fun c h1 h2 => z c h1 (by omega))
theorem o_pj_cn {y : Int64} : o_pj y = o_cn0 (i_b y) 64 := by
  unfold o_pj o_pl
  exact o_cn0_ext 64 (fun c _ => rfl)
theorem c159 (g : i_ST a t h) (sw : i_SW h) {x : Int32} {y : Int64} (H : i_KW a t h Q (o_fdA a x y)) : i_C i_MT i_AT L xs 159 [.ref 0, .int x, .long y] h Q := by
  have h5 := g.w.2.2.2.2.1
  have h48 := g.w.c48
  unfold o_fdA at H
  have bad : ¬ (v_p a x ∧ o_mok a y = true) → i_P i_MT i_AT L xs 159 38 [some (.ref 0), some (.int x), some (.long y), none] [] h 0 0 Q := by
    intro z
    rw [o_A6_f z] at H
    exact d159_38 g.l (m179 g (fun h2 g2 f2 s2 => ⟨_, rfl, d159_43 g2.l (H h2 g2 f2.s.w (sw.f0 f2) s2)⟩))
  have hall := g.1.2.1.2.1.1
  have e1 : (y &&& (fJ h 96 3 ^^^ (-1 : Int64))) = 0 ↔ ∀ c, c < 64 → i_b y c = true → c < a 0 * a 1 := by
    rw [j_eq0]
    constructor
    · intro z c hc e
      have := z c hc
      rw [j_and, j_not _ hc, hall c hc, e] at this
      simpa using this
    · intro z c hc
      rw [j_and, j_not _ hc, hall c hc]
      cases e : i_b y c with
      | false => rfl
      | true => simp [z c hc e]
  refine e159 (d159_0 g.l (c186 g ⟨_, rfl, d159_5 g.l ?_⟩))
  rw [i_bo_0, Classical.not_not]
  rw [j_cmp0, e1]
  refine ⟨fun z => bad (fun q => z q.1), fun z => ⟨fun z2 => bad (fun q => z2 (o_mok_t.mp q.2).1), fun z2 => c334s ⟨_, rfl, d159_33 g.l ?_⟩⟩⟩
  have z2 := Classical.not_not.mp z2
  have e2 : o_pj y = o_cn0 (i_b y) (a 0 * a 1) := by
    rw [o_pj_cn]
    refine o_cn0_cut 64 (by omega) (fun c h1 h2 => ?_)
    rw [← Bool.not_eq_true]
    intro q
    have := z2 c h2 q
    omega
  have le := o_pj_le y
  try simp (disch := omega) only [n_lit, n_m, n_add, n_mul, n_div, n_mod, n_cl, n_lt, n_le, n_eq, n_in, n_eqm, n_meq, n_mlt, n_ltm, n_mle, n_lem, not_true_eq_false, not_false_eq_true, true_implies, false_implies, true_and, and_true, Nat.not_lt_zero, Nat.zero_le]
  rw [e2]
  refine ⟨fun z3 => ?_, fun z3 => bad (fun q => z3 (o_mok_t.mp q.2).2)⟩
  have H := H.a6 ⟨z, o_mok_t.mpr ⟨z2, z3⟩⟩
  obtain ⟨p, hp, rfl⟩ := n_get z (by omega)
  rw [n_cl (by omega)] at H
  refine c50 g.1 sw.2.2.1 hp (P := i_b y) (fun c hc => ?_) z3 (fun h1 g1 f1 s1 => ?_)
  · cases e : i_b y c with
    | false => simp
    | true => simp [z2 c hc e]
  have fw : i_FW h h1 := f1.mono (by decide) (by decide)
  have G1 := g.fw g1 fw
  have sw1 : i_SW h1 := by
    obtain ⟨q1, q2, q3, q4⟩ := sw
    refine ⟨?_, ?_, s1, ?_⟩ <;> unfold i_sw2
    · rw [f1.vR (by decide), f1.vR (by decide)]; exact q1
    · rw [f1.vR (by decide), f1.vR (by decide)]; exact q2
    · rw [f1.vR (by decide), f1.vR (by decide)]; exact q4
  refine ⟨_, rfl, d159_54 G1.l ?_⟩
  exact m183 G1 (fun k e => by have := o_lst_g _ _ _ e; omega) (fun h2 g2 f2 s2 => ⟨_, rfl, d159_57 g2.l (H h2 g2 (fw.trans f2.s.w) (sw1.f0 f2) s2)⟩)
end
