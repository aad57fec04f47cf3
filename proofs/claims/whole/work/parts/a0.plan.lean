/-! A PLAN'S TEXT, what it says -/
section
variable {a : Nat → Nat} {n k k0 : Nat} {T : Nat → Nat}
set_option maxRecDepth 20000
def o_rep (l : List Nat) : Nat → List Nat
  | 0 => []
  | m + 1 => l ++ o_rep l m
def o_sl (A : Nat → List Nat) (i : Nat) (x : List Nat) : Nat → List Nat := fun j => if j = i then x else A j
theorem o_sl_t {A : Nat → List Nat} {i : Nat} {x : List Nat} : o_sl A i x i = x := if_pos rfl
theorem o_sl_f {A : Nat → List Nat} {i j : Nat} {x : List Nat} (e : j ≠ i) : o_sl A i x j = A j := if_neg e
abbrev o_Mv : Type := Sum (Nat × Nat) (Nat × Nat × List Nat)
abbrev o_mvw (w : Nat) : Prop := (29 ≤ w ∧ w ≤ 31) ∨ (24 ≤ w ∧ w ≤ 26)
/-- what a word of a way does: step, slow, turn -/
def o_kd (w : Nat) : Nat := if w = 29 then 1 else if w = 24 then 2 else 3
abbrev o_M1 : Type := Sum (Nat × Nat) (Nat × Nat × Nat × (Nat → List Nat) × (Nat → Nat))
/-- one move from k on, no end of a loop -/
def p_m1 (T : Nat → Nat) (n k c d : Nat) (A : Nat → List Nat) (z : Nat → Nat) : o_M1 :=
  if ¬ o_mvw (o_wy T n k) then .inl (o_bad T n k, o_tks T n k) else
  if c = 40 then .inl (6, o_tks T n k) else
  if o_wy T n k = 26 then .inr (o_tke T n k, c + 1, d, o_sl A d (A d ++ [32]), z) else
  if o_wy T n k = 30 then (if o_nf T n (o_ke T n 1 k) 1 60 = 0 then .inr (o_ke T n 2 k, c + 1, d, o_sl A d (A d ++ List.replicate (o_tkv T n (o_ke T n 1 k)) 0), z) else .inl (o_nf T n (o_ke T n 1 k) 1 60, o_tks T n (o_ke T n 1 k))) else
  if o_wy T n k = 31 then (if d = 2 then .inl (7, o_tks T n k) else if o_nf T n (o_ke T n 1 k) 1 60 = 0 then .inr (o_ke T n 2 k, c + 1, d + 1, o_sl A (d + 1) [], o_su z (d + 1) (o_tkv T n (o_ke T n 1 k))) else .inl (o_nf T n (o_ke T n 1 k) 1 60, o_tks T n (o_ke T n 1 k))) else
  if o_wy T n (o_ke T n 1 k) < 8 then .inr (o_ke T n 2 k, c + 1, d, o_sl A d (A d ++ [8 * o_kd (o_wy T n k) + o_wy T n (o_ke T n 1 k)]), z) else .inl (o_bad T n (o_ke T n 1 k), o_tks T n (o_ke T n 1 k))
def p_mv (T : Nat → Nat) (n : Nat) : Nat → Nat → Nat → Nat → (Nat → List Nat) → (Nat → Nat) → o_Mv
  | 0, _, _, _, _, _ => .inl (1, 0)
  | f + 1, k, c, d, A, z =>
    if o_tkk T n k = 3 ∧ d = 0 then .inr (k, c, A 0) else
    if o_wy T n k = 32 ∧ 0 < d then p_mv T n f (o_tke T n k) c (d - 1) (o_sl A (d - 1) (A (d - 1) ++ o_rep (A d) (z d))) z else
    (match p_m1 T n k c d A z with
    | .inl e => .inl e
    | .inr (k2, c2, d2, A2, z2) => p_mv T n f k2 c2 d2 A2 z2)
def o_lay (s : Nat → Nat) (p : Nat) (l : List Nat) : Nat → Nat := fun i => if 60 * p ≤ i ∧ i < 60 * p + 60 then l.getD (i - 60 * p) 0 else s i
abbrev o_L : Type := Sum (Nat × Nat) (Nat × Nat × Nat × (Nat → Nat))
def p_line (T : Nat → Nat) (n : Nat) (a : Nat → Nat) (k0 c pl : Nat) (s : Nat → Nat) : o_L :=
  if o_nm T n k0 then (match o_fnd a (o_tkc T n k0) with
  | none => .inl (3, o_tks T n k0)
  | some p => if pl.testBit p = true then .inl (5, o_tks T n k0) else
    if o_wy T n (o_ke T n 1 k0) = 28 then (match p_mv T n 300 (o_ke T n 2 k0) c 0 (fun _ => []) (fun _ => 0) with
    | .inl e => .inl e
    | .inr (k2, c2, l) => .inr (o_tke T n k2, c2, pl ||| (1 <<< p), o_lay s p l))
    else .inl (o_bad T n (o_ke T n 1 k0), o_tks T n (o_ke T n 1 k0)))
  else .inl (o_bad T n k0, o_tks T n k0)
abbrev o_P : Type := Sum (Nat × Nat) (Nat × (Nat → Nat))
def p_lines (T : Nat → Nat) (n : Nat) (a : Nat → Nat) : Nat → Nat → Nat → Nat → (Nat → Nat) → o_P
  | 0, _, _, _, _ => .inl (1, 0)
  | f + 1, k, c, pl, s => if o_tkk T n k = 0 then .inr (c, s) else (match p_line T n a k c pl s with
    | .inl e => .inl e
    | .inr (k2, c2, pl2, s2) => p_lines T n a f k2 c2 pl2 s2)
def p_plan (T : Nat → Nat) (n : Nat) (a : Nat → Nat) : o_P := p_lines T n a 300 0 0 0 (fun _ => 0)
/-- the town with the plan -/
def o_pln (a s : Nat → Nat) : Nat → Nat := fun i => if 194 ≤ i ∧ i < 674 then s (i - 194) else if 674 ≤ i ∧ i < 680 then 0 else a i
/-! what is well made of it -/
def o_mvk (n k c : Nat) (T : Nat → Nat) (r : o_Mv) : Prop := match r with
  | .inl (f, _) => 1 ≤ f ∧ f ≤ 7
  | .inr (k2, c2, l) => k ≤ k2 ∧ k2 ≤ n ∧ o_tkk T n k2 = 3 ∧ c ≤ c2 ∧ c2 ≤ 40 ∧ ∀ x, x ∈ l → x < 40
theorem o_rep_mem {l : List Nat} {x : Nat} : ∀ m, x ∈ o_rep l m → x ∈ l
  | 0, h => by rw [o_rep] at h; cases h
  | m + 1, h => by
    rw [o_rep, List.mem_append] at h
    rcases h with h | h
    · exact h
    · exact o_rep_mem m h
theorem o_mvk_on {k2 c2 : Nat} {r : o_Mv} (h : o_mvk n k2 c2 T r) (hk : k ≤ k2) (hc : k0 ≤ c2) : o_mvk n k k0 T r := by
  match r, h with
  | .inl (f, p), h => exact h
  | .inr (k3, c3, l), h =>
    obtain ⟨h1, h2, h3, h4, h5, h6⟩ := h
    exact ⟨by omega, h2, h3, by omega, h5, h6⟩
theorem o_bad_7 : 1 ≤ o_bad T n k ∧ o_bad T n k ≤ 7 := by have := o_bad_0 (T := T) (n := n) (k := k); omega
theorem o_nf_7 {lo hi : Nat} (e : o_nf T n k lo hi ≠ 0) : 1 ≤ o_nf T n k lo hi ∧ o_nf T n k lo hi ≤ 7 := by have := o_nf_le (T := T) (n := n) (k := k) (lo := lo) (hi := hi); omega
def o_m1k (n k c : Nat) (r : o_M1) : Prop := match r with
  | .inl (f, _) => 1 ≤ f ∧ f ≤ 7
  | .inr (k2, c2, d2, A2, z2) => k < k2 ∧ k2 ≤ n ∧ c2 = c + 1 ∧ c2 ≤ 40 ∧ d2 ≤ 2 ∧ (∀ i, i ≤ d2 → ∀ x, x ∈ A2 i → x < 40) ∧ (∀ j, 1 ≤ j → j ≤ d2 → 1 ≤ z2 j ∧ z2 j ≤ 60)
theorem p_m1_g {c d : Nat} {A : Nat → List Nat} {z : Nat → Nat} (hk : k ≤ n) (hc : c ≤ 40) (hd : d ≤ 2) (hA : ∀ i, i ≤ d → ∀ x, x ∈ A i → x < 40) (hz : ∀ j, 1 ≤ j → j ≤ d → 1 ≤ z j ∧ z j ≤ 60) : o_m1k n k c (p_m1 T n k c d A z) := by
  have l1 := o_tk_le (T := T) hk
  have l2 := o_tk_le (T := T) l1.2.2
  have e1 : o_ke T n 1 k = o_tke T n k := rfl
  have e2 : o_ke T n 2 k = o_tke T n (o_tke T n k) := rfl
  unfold p_m1
  split
  · exact o_bad_7
  split
  · exact ⟨by omega, by omega⟩
  rename_i q3 q4
  have on := o_tk_on (T := T) hk (by have := o_wy_kind (T := T) (n := n) (k := k) (by omega); omega)
  have app : ∀ (l : List Nat), (∀ x, x ∈ l → x < 40) → ∀ i, i ≤ d → ∀ x, x ∈ o_sl A d (A d ++ l) i → x < 40 := fun l hl i hi x hx => by
    by_cases y : i = d
    · subst y
      rw [o_sl_t, List.mem_append] at hx
      rcases hx with hx | hx
      · exact hA _ hi x hx
      · exact hl x hx
    · rw [o_sl_f y] at hx
      exact hA i hi x hx
  split
  · exact ⟨on, l1.2.2, rfl, by omega, hd, app _ (fun x hx => by
      rw [List.mem_singleton] at hx; omega), hz⟩
  split
  · split
    · exact ⟨by omega, by rw [e2]; exact l2.2.2, rfl, by omega, hd, app _ (fun x hx => by
        have := (List.mem_replicate.mp hx).2; omega), hz⟩
    · rename_i e; exact o_nf_7 e
  split
  · split
    · exact ⟨by omega, by omega⟩
    · split
      · rename_i e
        have nf := (o_nf_0 e).2
        refine ⟨by omega, by rw [e2]; exact l2.2.2, rfl, by omega, by omega, fun i hi x hx => ?_, fun j h1 h2 => ?_⟩
        · by_cases y : i = d + 1
          · subst y
            rw [o_sl_t] at hx
            cases hx
          · rw [o_sl_f y] at hx
            exact hA i (by omega) x hx
        · by_cases y : j = d + 1
          · subst y; rw [o_su_t]; exact nf
          · rw [o_su_f y]; exact hz j h1 (by omega)
      · rename_i e; exact o_nf_7 e
  split
  · rename_i q8
    refine ⟨by omega, by rw [e2]; exact l2.2.2, rfl, by omega, hd, app _ (fun x hx => ?_), hz⟩
    rw [List.mem_singleton] at hx
    have : o_kd (o_wy T n k) ≤ 3 := by unfold o_kd; split <;> (try split) <;> omega
    omega
  · exact o_bad_7
theorem p_mv_g : ∀ f k c d (A : Nat → List Nat) (z : Nat → Nat), n - k < f → k ≤ n → c ≤ 40 → d ≤ 2 → (∀ i, i ≤ d → ∀ x, x ∈ A i → x < 40) → (∀ j, 1 ≤ j → j ≤ d → 1 ≤ z j ∧ z j ≤ 60) → o_mvk n k c T (p_mv T n f k c d A z)
  | 0, k, c, d, A, z, h, _, _, _, _, _ => absurd h (by omega)
  | f + 1, k, c, d, A, z, hf, hk, hc, hd, hA, hz => by
    have l1 := o_tk_le (T := T) hk
    rw [p_mv]
    split
    · rename_i q
      exact ⟨Nat.le_refl _, hk, q.1, Nat.le_refl _, hc, hA 0 (by omega)⟩
    split
    · rename_i q1 q
      have on := o_tk_on (T := T) hk (by have := o_wy_kind (T := T) (n := n) (k := k) (by omega); omega)
      refine o_mvk_on (p_mv_g f _ _ _ _ _ (by omega) l1.2.2 hc (by omega) (fun i hi x hx => ?_) (fun j h1 h2 => hz j h1 (by omega))) (by omega) (Nat.le_refl _)
      by_cases y : i = d - 1
      · subst y
        rw [o_sl_t, List.mem_append] at hx
        rcases hx with hx | hx
        · exact hA _ (by omega) x hx
        · exact hA d (Nat.le_refl _) x (o_rep_mem _ hx)
      · rw [o_sl_f y] at hx
        exact hA i (by omega) x hx
    · have g := p_m1_g (T := T) hk hc hd hA hz
      split
      · rename_i e he
        rw [he] at g
        exact g
      · rename_i k2 c2 d2 A2 z2 he
        rw [he] at g
        obtain ⟨g1, g2, g3, g4, g5, g6, g7⟩ := g
        exact o_mvk_on (p_mv_g f _ _ _ _ _ (by omega) g2 g4 g5 g6 g7) (by omega) (by omega)
def o_lok (n k : Nat) (r : o_L) : Prop := match r with
  | .inl (f, _) => 1 ≤ f ∧ f ≤ 7
  | .inr (k2, c2, pl2, s2) => k + 2 ≤ k2 ∧ k2 ≤ n ∧ c2 ≤ 40 ∧ pl2 < 256 ∧ (∀ i, s2 i < 40) ∧ ∀ p, p < 8 → pl2.testBit p = false → ∀ i, i < 60 → s2 (60 * p + i) = 0
theorem p_line_g {c pl : Nat} {s : Nat → Nat} (h5 : a 5 ≤ 8) (hn : n ≤ 300) (hk : k ≤ n) (hc : c ≤ 40) (hp : pl < 256) (hs : ∀ i, s i < 40) (hz : ∀ p, p < 8 → pl.testBit p = false → ∀ i, i < 60 → s (60 * p + i) = 0) : o_lok n k (p_line T n a k c pl s) := by
  have l1 := o_tk_le (T := T) hk
  have l2 := o_tk_le (T := T) l1.2.2
  unfold p_line
  split
  · rename_i q
    have on := o_tk_on (T := T) hk (by have := q.1; omega)
    split
    · exact ⟨by omega, by omega⟩
    · rename_i p ep
      have hp8 := o_fd_lt ep
      split
      · exact ⟨by omega, by omega⟩
      · split
        · rename_i q28
          have on2 := o_tk_on (T := T) (k := o_ke T n 1 k) l1.2.2 (by have := o_wy_kind (T := T) (n := n) (k := o_ke T n 1 k) (by omega); omega)
          have e1 : o_ke T n 1 k = o_tke T n k := rfl
          have e2 : o_ke T n 2 k = o_tke T n (o_tke T n k) := rfl
          rw [e1] at on2
          have mg := p_mv_g (T := T) (n := n) 300 (o_ke T n 2 k) c 0 (fun _ => []) (fun _ => 0) (by rw [e2]; omega) (by rw [e2]; exact l2.2.2) hc (by omega) (fun i _ x hx => by cases hx) (fun j h1 h2 => by omega)
          split
          · rename_i e he
            rw [he] at mg
            exact mg
          · rename_i k2 c2 l he
            rw [he] at mg
            obtain ⟨m1, m2, m3, m4, m5, m6⟩ := mg
            have on3 := o_tk_on (T := T) (k := k2) m2 (by omega)
            have l3 := o_tk_le (T := T) (k := k2) m2
            rw [e2] at m1
            refine ⟨by omega, l3.2.2, m5, o_or_lt hp (by omega), fun i => ?_, fun r hr hb i hi => ?_⟩
            · unfold o_lay
              split
              · rw [List.getD_eq_getElem?_getD]
                cases hg : l[i - 60 * p]? with
                | none => show 0 < 40; omega
                | some x => exact m6 x (List.mem_of_getElem? hg)
              · exact hs i
            · rw [Nat.testBit_or, Bool.or_eq_false_iff] at hb
              have ne : r ≠ p := by
                intro y
                subst y
                have := hb.2
                rw [Nat.one_shiftLeft, Nat.testBit_two_pow_self] at this
                cases this
              unfold o_lay
              rw [if_neg (by omega)]
              exact hz r hr hb.1 i hi
        · exact o_bad_7
  · exact o_bad_7
def o_pok (r : o_P) : Prop := match r with
  | .inl (f, _) => 1 ≤ f ∧ f ≤ 7
  | .inr (c, s) => c ≤ 40 ∧ ∀ i, s i < 40
theorem p_lines_g (h5 : a 5 ≤ 8) (hn : n ≤ 300) : ∀ f k c pl (s : Nat → Nat), (n - k < f ∨ (k = 0 ∧ f = 300)) → k ≤ n → c ≤ 40 → pl < 256 → (∀ i, s i < 40) → (∀ p, p < 8 → pl.testBit p = false → ∀ i, i < 60 → s (60 * p + i) = 0) → o_pok (p_lines T n a f k c pl s)
  | 0, k, c, pl, s, h, _, _, _, _, _ => absurd h (by omega)
  | f + 1, k, c, pl, s, hf, hk, hc, hp, hs, hz => by
    rw [p_lines]
    split
    · exact ⟨hc, hs⟩
    · have g := p_line_g (T := T) (a := a) h5 hn hk hc hp hs hz
      split
      · rename_i e he
        rw [he] at g
        exact g
      · rename_i k2 c2 pl2 s2 he
        rw [he] at g
        obtain ⟨g1, g2, g3, g4, g5, g6⟩ := g
        exact p_lines_g h5 hn f k2 c2 pl2 s2 (by omega) g2 g3 g4 g5 g6
theorem p_plan_g (h5 : a 5 ≤ 8) (hn : n ≤ 300) : o_pok (p_plan T n a) := p_lines_g h5 hn 300 0 0 0 _ (Or.inr ⟨rfl, rfl⟩) (Nat.zero_le _) (by omega) (by omega) (fun _ => by omega) (fun _ _ _ _ _ => rfl)
theorem o_pln_o {s : Nat → Nat} {i : Nat} (h : i < 194 ∨ 680 ≤ i) : o_pln a s i = a i := by unfold o_pln; rw [if_neg (by omega), if_neg (by omega)]
theorem o_pln_s {s : Nat → Nat} {i : Nat} (h : i < 480) : o_pln a s (194 + i) = s i := by unfold o_pln; rw [if_pos (by omega), show 194 + i - 194 = i by omega]
theorem o_pln_w {s : Nat → Nat} (w : o_WF a) (hs : ∀ i, s i < 40) : o_WF (o_pln a s) := by
  have c48 := w.c48
  have out : ∀ i, i < 194 → o_pln a s i = a i := fun i hi => o_pln_o (Or.inl hi)
  generalize hb : o_pln a s = b at out ⊢
  have b0 := out 0 (by omega)
  have b1 := out 1 (by omega)
  have b2 := out 2 (by omega)
  have b3 := out 3 (by omega)
  have b4 := out 4 (by omega)
  have b5 := out 5 (by omega)
  obtain ⟨w1, w2, w3, w4, w5, w6, w7, w8, w9, w10, w11, w12⟩ := w
  refine ⟨?_, ?_, ?_, ?_, ?_, ?_, ?_, ?_, ?_, ?_, ?_, ?_⟩
  · rw [b0, b1, b3, b4, b5]; exact w1
  · rw [b2]; exact w2
  · rw [b3]; exact w3
  · rw [b4]; exact w4
  · rw [b5]; exact w5
  · intro k hk; rw [out _ (by omega)]; exact w6 k hk
  · intro c hc; rw [b0, b1, out _ (by omega)]; exact w7 c hc
  · intro c hc; rw [out _ (by omega)]; exact w8 c hc
  · intro k hk; rw [b4] at hk; rw [b0, b1, out _ (by omega)]; exact w9 k hk
  · intro k hk
    rw [b3] at hk
    have := w10 k hk
    rw [b0, b1, out _ (by omega), out (115 + 10 * k) (by omega)]
    refine ⟨this.1, this.2.1, this.2.2.1, fun j hj => ?_⟩
    rw [out _ (by omega)]; exact this.2.2.2 j hj
  · intro p hp
    rw [b5] at hp
    have := w11 p hp
    rw [b0, b1, out (154 + 5 * p) (by omega), out (155 + 5 * p) (by omega), out (156 + 5 * p) (by omega), out (157 + 5 * p) (by omega), out (158 + 5 * p) (by omega), out (10 + a (154 + 5 * p)) (by omega)]
    exact this
  · intro j hj
    rw [← hb, o_pln_s hj]
    exact hs j
end
