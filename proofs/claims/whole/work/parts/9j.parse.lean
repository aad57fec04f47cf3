/-! A TOWN'S TEXT, what it says: the place behind it and the town; or what is wrong, and where -/
section
variable {L : Nat} {xs : Nat → Int32} {h : iH} {Q : Option Value → iH → Prop} {a : Nat → Nat} {t : Nat} {n k : Nat} {T : Nat → Nat}
set_option maxRecDepth 20000
abbrev o_R : Type := Sum (Nat × Nat) (Nat × (Nat → Nat))
def o_ke (T : Nat → Nat) (n : Nat) : Nat → Nat → Nat
  | 0, k => k
  | j + 1, k => o_tke T n (o_ke T n j k)
theorem o_ke_le (hk : k ≤ n) : ∀ j, k ≤ o_ke T n j k ∧ o_ke T n j k ≤ n
  | 0 => ⟨Nat.le_refl _, hk⟩
  | j + 1 => by
    have ih := o_ke_le hk j
    have := o_tk_le (T := T) ih.2
    rw [o_ke]
    omega
def o_su (a : Nat → Nat) (i x : Nat) : Nat → Nat := fun j => if j = i then x else a j
theorem o_su_t {i x : Nat} : o_su a i x i = x := if_pos rfl
theorem o_su_f {i j x : Nat} (e : j ≠ i) : o_su a i x j = a j := if_neg e
/-- a number is read; a word -/
def o_nu (T : Nat → Nat) (n k lo hi : Nat) (r : o_R) : o_R := if o_nf T n k lo hi = 0 then r else .inl (o_nf T n k lo hi, o_tks T n k)
def o_wo (T : Nat → Nat) (n k w : Nat) (r : o_R) : o_R := if o_wy T n k = w then r else .inl (o_bad T n k, o_tks T n k)
def o_no (T : Nat → Nat) (n k : Nat) : o_R := .inl (o_bad T n k, o_tks T n k)
theorem o_nu_t {lo hi : Nat} {r : o_R} (e : o_nf T n k lo hi = 0) : o_nu T n k lo hi r = r := if_pos e
theorem o_nu_f {lo hi : Nat} {r : o_R} (e : o_nf T n k lo hi ≠ 0) : o_nu T n k lo hi r = .inl (o_nf T n k lo hi, o_tks T n k) := if_neg e
theorem o_wo_t {w : Nat} {r : o_R} (e : o_wy T n k = w) : o_wo T n k w r = r := if_pos e
theorem o_wo_f {w : Nat} {r : o_R} (e : o_wy T n k ≠ w) : o_wo T n k w r = .inl (o_bad T n k, o_tks T n k) := if_neg e
def o_btw (W x0 y0 x1 y1 c : Nat) : Bool := decide (x0 ≤ c % W) && decide (c % W ≤ x1) && decide (y0 ≤ c / W) && decide (c / W ≤ y1)
def o_held (a : Nat → Nat) (c : Nat) : Bool := a (58 + c) != 4294967295 || (List.range (a 4)).any (fun k => a (106 + k) == c) || (List.range (a 5)).any (fun p => a (154 + 5 * p) == c)
def o_hit (a : Nat → Nat) (x0 y0 x1 y1 : Nat) : Bool := (List.range (a 0 * a 1)).any (fun c => o_btw (a 0) x0 y0 x1 y1 c && o_held a c)
def o_wld (a : Nat → Nat) (x0 y0 x1 y1 : Nat) : Nat → Nat := fun i => if 10 ≤ i ∧ i < 10 + a 0 * a 1 ∧ o_btw (a 0) x0 y0 x1 y1 (i - 10) = true then 1 else a i
def p_wall (T : Nat → Nat) (n k0 : Nat) (a : Nat → Nat) : o_R :=
  o_nu T n (o_ke T n 1 k0) 0 (a 0 - 1) (
  o_nu T n (o_ke T n 2 k0) 0 (a 1 - 1) (
  o_wo T n (o_ke T n 3 k0) 10 (
  o_nu T n (o_ke T n 4 k0) (o_tkv T n (o_ke T n 1 k0)) (a 0 - 1) (
  o_nu T n (o_ke T n 5 k0) (o_tkv T n (o_ke T n 2 k0)) (a 1 - 1) (
  if o_hit a (o_tkv T n (o_ke T n 1 k0)) (o_tkv T n (o_ke T n 2 k0)) (o_tkv T n (o_ke T n 4 k0)) (o_tkv T n (o_ke T n 5 k0)) = true then .inl (5, o_tks T n (o_ke T n 5 k0))
  else .inr (o_ke T n 6 k0, o_wld a (o_tkv T n (o_ke T n 1 k0)) (o_tkv T n (o_ke T n 2 k0)) (o_tkv T n (o_ke T n 4 k0)) (o_tkv T n (o_ke T n 5 k0))))))))
/-- the cell that is told behind k0 -/
def o_cel (T : Nat → Nat) (n : Nat) (a : Nat → Nat) (k : Nat) : Nat := a 0 * o_tkv T n (o_tke T n k) + o_tkv T n k
def p_tree (T : Nat → Nat) (n k0 : Nat) (a : Nat → Nat) : o_R :=
  if a 2 = 8 then .inl (6, o_tks T n k0) else
  o_nu T n (o_ke T n 1 k0) 0 (a 0 - 1) (
  o_nu T n (o_ke T n 2 k0) 0 (a 1 - 1) (
  if a (10 + o_cel T n a (o_ke T n 1 k0)) = 1 ∨ a (58 + o_cel T n a (o_ke T n 1 k0)) ≠ 4294967295 then .inl (5, o_tks T n (o_ke T n 2 k0)) else
  o_wo T n (o_ke T n 3 k0) 12 (
  o_nu T n (o_ke T n 4 k0) 0 16 (
  .inr (o_ke T n 5 k0, o_su (o_su a (58 + o_cel T n a (o_ke T n 1 k0)) (o_tkv T n (o_ke T n 4 k0))) 2 (a 2 + 1))))))
def p_ways (T : Nat → Nat) (n : Nat) : Nat → Nat → Nat → (Nat → Nat) → o_R
  | 0, j, k, a => if o_wy T n k < 8 then .inl (6, o_tks T n k) else .inr (k, o_su (o_su a (115 + 10 * a 3) j) 3 (a 3 + 1))
  | f + 1, j, k, a => if o_wy T n k < 8 then p_ways T n f (j + 1) (o_tke T n k) (o_su a (116 + 10 * a 3 + j) (o_wy T n k)) else .inr (k, o_su (o_su a (115 + 10 * a 3) j) 3 (a 3 + 1))
def p_cart (T : Nat → Nat) (n k0 : Nat) (a : Nat → Nat) : o_R :=
  if a 3 = 4 then .inl (6, o_tks T n k0) else
  o_nu T n (o_ke T n 1 k0) 0 (a 0 - 1) (
  o_nu T n (o_ke T n 2 k0) 0 (a 1 - 1) (
  o_wo T n (o_ke T n 3 k0) 14 (
  if o_wy T n (o_ke T n 4 k0) < 8 then p_ways T n 8 0 (o_ke T n 4 k0) (o_su a (114 + 10 * a 3) (o_cel T n a (o_ke T n 1 k0))) else o_no T n (o_ke T n 4 k0))))
def p_lamp (T : Nat → Nat) (n k0 : Nat) (a : Nat → Nat) : o_R :=
  if a 4 = 8 then .inl (6, o_tks T n k0) else
  o_nu T n (o_ke T n 1 k0) 0 (a 0 - 1) (
  o_nu T n (o_ke T n 2 k0) 0 (a 1 - 1) (
  if a (10 + o_cel T n a (o_ke T n 1 k0)) = 1 ∨ (List.range (a 4)).any (fun k => a (106 + k) == o_cel T n a (o_ke T n 1 k0)) = true then .inl (5, o_tks T n (o_ke T n 2 k0)) else
  .inr (o_ke T n 3 k0, o_su (o_su a (106 + a 4) (o_cel T n a (o_ke T n 1 k0))) 4 (a 4 + 1))))
def o_psn (a : Nat → Nat) (v c l f : Nat) : Nat → Nat := o_su (o_su (o_su (o_su (o_su a (800 + a 5) v) (154 + 5 * a 5) c) (155 + 5 * a 5) l) (156 + 5 * a 5) f) 5 (a 5 + 1)
def p_person (T : Nat → Nat) (n k0 : Nat) (a : Nat → Nat) : o_R :=
  if a 5 = 8 then .inl (6, o_tks T n k0) else
  if o_nm T n (o_ke T n 1 k0) then (match o_fnd a (o_tkc T n (o_ke T n 1 k0)) with
  | some _ => .inl (3, o_tks T n (o_ke T n 1 k0))
  | none =>
    o_wo T n (o_ke T n 2 k0) 17 (
    o_nu T n (o_ke T n 3 k0) 0 (a 0 - 1) (
    o_nu T n (o_ke T n 4 k0) 0 (a 1 - 1) (
    if a (10 + o_cel T n a (o_ke T n 3 k0)) = 1 then .inl (5, o_tks T n (o_ke T n 4 k0)) else
    o_wo T n (o_ke T n 5 k0) 18 (
    if o_wy T n (o_ke T n 6 k0) < 8 then
      o_wo T n (o_ke T n 7 k0) 19 (
      o_nu T n (o_ke T n 8 k0) 1 9 (
      .inr (o_ke T n 9 k0, o_psn a (o_tkc T n (o_ke T n 1 k0)) (o_cel T n a (o_ke T n 3 k0)) (o_wy T n (o_ke T n 6 k0)) (o_tkv T n (o_ke T n 8 k0)))))
    else o_no T n (o_ke T n 6 k0))))))
  else o_no T n (o_ke T n 1 k0)
def p_pair (T : Nat → Nat) (n w off k0 : Nat) (a : Nat → Nat) : o_R :=
  if o_nm T n (o_ke T n 1 k0) then (match o_fnd a (o_tkc T n (o_ke T n 1 k0)) with
  | none => .inl (3, o_tks T n (o_ke T n 1 k0))
  | some p => o_wo T n (o_ke T n 2 k0) w (
    if o_nm T n (o_ke T n 3 k0) then (match o_fnd a (o_tkc T n (o_ke T n 3 k0)) with
    | none => .inl (3, o_tks T n (o_ke T n 3 k0))
    | some q => if q = p then .inl (5, o_tks T n (o_ke T n 3 k0)) else .inr (o_ke T n 4 k0, o_su a (off + 5 * p) (a (off + 5 * p) ||| (1 <<< q))))
    else o_no T n (o_ke T n 3 k0)))
  else o_no T n (o_ke T n 1 k0)
def p_sn (T : Nat → Nat) (n : Nat) : Nat → Nat → Nat → (Nat → Nat) → o_R
  | 0, _, k, a => .inr (k, a)
  | f + 1, i, k, a => o_wo T n k (24 + i) (o_nu T n (o_tke T n k) 0 16 (p_sn T n f (i + 1) (o_tke T n (o_tke T n k)) (o_su a (6 + i) (o_tkv T n (o_tke T n k)))))
def p_seen (T : Nat → Nat) (n k0 : Nat) (a : Nat → Nat) : o_R := if a 799 = 1 then .inl (5, o_tks T n k0) else p_sn T n 4 0 (o_ke T n 1 k0) (o_su a 799 1)
def p_part (T : Nat → Nat) (n k0 : Nat) (a : Nat → Nat) : o_R :=
  if o_wy T n k0 = 9 then p_wall T n k0 a else
  if o_wy T n k0 = 11 then p_tree T n k0 a else
  if o_wy T n k0 = 13 then p_cart T n k0 a else
  if o_wy T n k0 = 15 then p_lamp T n k0 a else
  if o_wy T n k0 = 16 then p_person T n k0 a else
  if o_wy T n k0 = 20 then p_pair T n 21 157 k0 a else
  if o_wy T n k0 = 22 then p_pair T n 10 158 k0 a else
  if o_wy T n k0 = 23 then p_seen T n k0 a else o_no T n k0
def p_stop (T : Nat → Nat) (n : Nat) (r : o_R) : o_R := match r with
  | .inl e => .inl e
  | .inr (k, a) => if o_tkk T n k = 3 then .inr (o_tke T n k, a) else o_no T n k
def p_parts (T : Nat → Nat) (n : Nat) : Nat → Nat → (Nat → Nat) → o_R
  | 0, _, _ => .inl (1, 0)
  | f + 1, k, a => if o_tkk T n k = 0 then .inr (k, a) else (match p_stop T n (p_part T n k a) with
    | .inl e => .inl e
    | .inr (k2, a2) => p_parts T n f k2 a2)
/-- a town of which nothing is told -/
def o_new : Nat → Nat := fun i => if 58 ≤ i ∧ i < 106 then 4294967295 else if i = 6 then 4 else if i = 7 then 8 else if i = 8 then 2 else if i = 9 then 16 else 0
def p_town (T : Nat → Nat) (n : Nat) : o_R :=
  o_wo T n (o_ke T n 0 0) 8 (
  o_nu T n (o_ke T n 1 0) 2 8 (
  o_nu T n (o_ke T n 2 0) 2 6 (
  if o_tkk T n (o_ke T n 3 0) = 3 then p_parts T n 900 (o_ke T n 4 0) (o_su (o_su o_new 0 (o_tkv T n (o_ke T n 1 0))) 1 (o_tkv T n (o_ke T n 2 0))) else o_no T n (o_ke T n 3 0))))
/-! what holds of a town in the making -/
def o_PW (a : Nat → Nat) : Prop := o_WF a ∧ (2 ≤ a 0 ∧ a 0 ≤ 8 ∧ 2 ≤ a 1 ∧ a 1 ≤ 6) ∧ o_W2 a ∧ o_NW a ∧ a 799 ≤ 1 ∧ (∀ k, a 3 ≤ k → k < 4 → a (115 + 10 * k) = 0) ∧ (∀ p, a 5 ≤ p → p < 8 → a (157 + 5 * p) = 0 ∧ a (158 + 5 * p) = 0)
def o_good (n k0 : Nat) (r : o_R) : Prop := match r with
  | .inl (f, _) => 1 ≤ f ∧ f ≤ 7
  | .inr (k2, a2) => k0 ≤ k2 ∧ k2 ≤ n ∧ o_PW a2
theorem o_good_no {k0 : Nat} : o_good n k0 (o_no T n k) := by
  have := o_bad_0 (T := T) (n := n) (k := k)
  show 1 ≤ o_bad T n k ∧ o_bad T n k ≤ 7
  omega
theorem o_good_nu {k0 lo hi : Nat} {r : o_R} (H : o_nf T n k lo hi = 0 → o_good n k0 r) : o_good n k0 (o_nu T n k lo hi r) := by
  unfold o_nu
  split
  · rename_i e; exact H e
  · have := o_nf_le (T := T) (n := n) (k := k) (lo := lo) (hi := hi)
    show 1 ≤ o_nf T n k lo hi ∧ o_nf T n k lo hi ≤ 7
    omega
theorem o_good_wo {k0 w : Nat} {r : o_R} (H : o_wy T n k = w → o_good n k0 r) : o_good n k0 (o_wo T n k w r) := by
  unfold o_wo
  split
  · rename_i e; exact H e
  · exact o_good_no
theorem o_good_if {k0 f p : Nat} {c : Prop} [Decidable c] {r : o_R} (hf : 1 ≤ f ∧ f ≤ 7) (H : ¬ c → o_good n k0 r) : o_good n k0 (if c then .inl (f, p) else r) := by
  split
  · exact hf
  · rename_i e; exact H e
theorem o_PW.c48 (w : o_PW a) : a 0 * a 1 ≤ 48 := w.1.c48.1
theorem o_cel_lt (w : o_PW a) (e1 : o_nf T n k 0 (a 0 - 1) = 0) (e2 : o_nf T n (o_tke T n k) 0 (a 1 - 1) = 0) : o_cel T n a k < a 0 * a 1 := by
  have h1 := (o_nf_0 e1).2.2
  have h2 := (o_nf_0 e2).2.2
  have h3 := w.2.1
  unfold o_cel
  have : a 0 * o_tkv T n (o_tke T n k) + a 0 ≤ a 0 * a 1 := by
    rw [← Nat.mul_succ]
    exact Nat.mul_le_mul_left _ (by omega)
  omega
theorem o_held_l {c k : Nat} (e : o_held a c = false) (hk : k < a 4) : a (106 + k) ≠ c := by
  intro z
  unfold o_held at e
  rw [Bool.or_eq_false_iff, Bool.or_eq_false_iff] at e
  have := List.any_eq_false.mp e.1.2 k (List.mem_range.mpr hk)
  exact this (by simp [z])
theorem o_held_p {c p : Nat} (e : o_held a c = false) (hp : p < a 5) : a (154 + 5 * p) ≠ c := by
  intro z
  unfold o_held at e
  rw [Bool.or_eq_false_iff] at e
  have := List.any_eq_false.mp e.2 p (List.mem_range.mpr hp)
  exact this (by simp [z])
theorem o_hit_f {x0 y0 x1 y1 c : Nat} (e : ¬ o_hit a x0 y0 x1 y1 = true) (hc : c < a 0 * a 1) (hb : o_btw (a 0) x0 y0 x1 y1 c = true) : o_held a c = false := by
  have e : o_hit a x0 y0 x1 y1 = false := by simpa using e
  unfold o_hit at e
  have := List.any_eq_false.mp e c (List.mem_range.mpr hc)
  rw [hb] at this
  simpa using this
theorem o_wld_o {x0 y0 x1 y1 i : Nat} (w : o_PW a) (hi : i < 10 ∨ 58 ≤ i) : o_wld a x0 y0 x1 y1 i = a i := by
  have := w.c48
  unfold o_wld
  rw [if_neg (by omega)]
theorem o_wld_i {x0 y0 x1 y1 c : Nat} : o_wld a x0 y0 x1 y1 (10 + c) = if c < a 0 * a 1 ∧ o_btw (a 0) x0 y0 x1 y1 c = true then 1 else a (10 + c) := by
  unfold o_wld
  rw [show 10 + c - 10 = c by omega]
  by_cases q : c < a 0 * a 1 ∧ o_btw (a 0) x0 y0 x1 y1 c = true
  · rw [if_pos q, if_pos ⟨by omega, by omega, q.2⟩]
  · rw [if_neg q, if_neg (fun z => q ⟨by omega, z.2.2⟩)]
theorem o_wld_w {x0 y0 x1 y1 : Nat} (w : o_PW a) (e : ¬ o_hit a x0 y0 x1 y1 = true) : o_PW (o_wld a x0 y0 x1 y1) := by
  have c48 := w.c48
  have out : ∀ i, i < 10 ∨ 58 ≤ i → o_wld a x0 y0 x1 y1 i = a i := fun i hi => o_wld_o w hi
  generalize hb : o_wld a x0 y0 x1 y1 = b at out ⊢
  have inn : ∀ c, b (10 + c) = if c < a 0 * a 1 ∧ o_btw (a 0) x0 y0 x1 y1 c = true then 1 else a (10 + c) := fun c => by rw [← hb]; exact o_wld_i
  have b0 := out 0 (by omega)
  have b1 := out 1 (by omega)
  have b2 := out 2 (by omega)
  have b3 := out 3 (by omega)
  have b4 := out 4 (by omega)
  have b5 := out 5 (by omega)
  obtain ⟨⟨w1, w2, w3, w4, w5, w6, w7, w8, w9, w10, w11, w12⟩, v1, v2, v3, v4, v5, v6⟩ := w
  refine ⟨⟨?_, ?_, ?_, ?_, ?_, ?_, ?_, ?_, ?_, ?_, ?_, ?_⟩, ?_, ?_, ?_, ?_, ?_, ?_⟩
  · rw [b0, b1, b3, b4, b5]; exact w1
  · rw [b2]; exact w2
  · rw [b3]; exact w3
  · rw [b4]; exact w4
  · rw [b5]; exact w5
  · intro k hk; rw [out _ (by omega)]; exact w6 k hk
  · intro c hc
    have := w7 c hc
    rw [b0, b1, inn]
    split
    · rename_i q; exact ⟨Nat.le_refl _, fun z => by omega⟩
    · exact this
  · intro c hc; rw [out _ (by omega)]; exact w8 c hc
  · intro k hk; rw [b4] at hk; rw [b0, b1, out _ (by omega)]; exact w9 k hk
  · intro k hk
    rw [b3] at hk
    have := w10 k hk
    rw [b0, b1, out _ (by omega), out (115 + 10 * k) (by omega)]
    refine ⟨this.1, this.2.1, this.2.2.1, fun j hj => ?_⟩
    rw [out _ (by omega)]; exact this.2.2.2 j hj
  · intro p hp
    rw [b5] at hp
    have := w11 p hp
    rw [b0, b1, out _ (by omega), out (155 + 5 * p) (by omega), out (156 + 5 * p) (by omega), out (157 + 5 * p) (by omega), out (158 + 5 * p) (by omega), inn]
    refine ⟨this.1, ?_, this.2.2⟩
    rw [if_neg]
    · exact this.2.1
    · rintro ⟨z1, z2⟩
      exact o_held_p (o_hit_f e z1 z2) hp rfl
  · intro j hj; rw [out _ (by omega)]; exact w12 j hj
  · rw [b0, b1]; exact v1
  · unfold o_W2 at v2 ⊢
    rw [b2, v2]
    exact o_cn0_ext 48 (fun c hc => by rw [out _ (by omega)])
  · intro p hp; rw [b5] at hp; rw [out _ (by omega)]; exact v3 p hp
  · rw [out _ (by omega)]; exact v4
  · intro k h1 h2; rw [b3] at h1; rw [out _ (by omega)]; exact v5 k h1 h2
  · intro p h1 h2; rw [b5] at h1; rw [out _ (by omega), out _ (by omega)]; exact v6 p h1 h2
theorem p_wall_g {k0 : Nat} (w : o_PW a) (hk : k0 ≤ n) : o_good n k0 (p_wall T n k0 a) := by
  have l6 := o_ke_le (T := T) hk 6
  refine o_good_nu (fun e1 => o_good_nu (fun e2 => o_good_wo (fun e3 => o_good_nu (fun e4 => o_good_nu (fun e5 => o_good_if (by omega) (fun e6 => ?_))))))
  exact ⟨l6.1, l6.2, o_wld_w w e6⟩
theorem o_cn0_one {P R : Nat → Bool} {c : Nat} : ∀ n, c < n → P c = false → R c = true → (∀ d, d < n → d ≠ c → P d = R d) → o_cn0 R n = o_cn0 P n + 1
  | 0, h, _, _, _ => absurd h (by omega)
  | n + 1, h, e1, e2, z => by
    rw [o_cn0, o_cn0]
    by_cases q : c = n
    · subst q
      rw [e1, e2, o_cn0_ext c (fun i hi => z i (by omega) (by omega))]
      rfl
    · rw [o_cn0_one n (by omega) e1 e2 (fun d hd => z d (by omega)), z n (by omega) (fun y => q y.symm)]
      omega
/-! a town with some numbers other -/
theorem o_PW.lamp (w : o_PW a) {c : Nat} (h4 : a 4 ≠ 8) (hc : c < a 0 * a 1) : o_PW (o_su (o_su a (106 + a 4) c) 4 (a 4 + 1)) := by
  have c48 := w.c48
  obtain ⟨⟨w1, w2, w3, w4, w5, w6, w7, w8, w9, w10, w11, w12⟩, v1, v2, v3, v4, v5, v6⟩ := w
  generalize hb : o_su (o_su a (106 + a 4) c) 4 (a 4 + 1) = b
  have out : ∀ u, u ≠ 4 → u ≠ 106 + a 4 → b u = a u := fun u h0 h1 => by rw [← hb, o_su_f h0, o_su_f h1]
  have b4 : b 4 = a 4 + 1 := by rw [← hb, o_su_t]
  have bc : b (106 + a 4) = c := by rw [← hb, o_su_f (by omega), o_su_t]
  have b0 := out 0 (by omega) (by omega)
  have b1 := out 1 (by omega) (by omega)
  have b2 := out 2 (by omega) (by omega)
  have b3 := out 3 (by omega) (by omega)
  have b5 := out 5 (by omega) (by omega)
  refine ⟨⟨?_, ?_, ?_, ?_, ?_, ?_, ?_, ?_, ?_, ?_, ?_, ?_⟩, ?_, ?_, ?_, ?_, ?_, ?_⟩
  · rw [b0, b1]; exact Or.inr v1
  · rw [b2]; exact w2
  · rw [b3]; exact w3
  · rw [b4]; omega
  · rw [b5]; exact w5
  · intro k hk; rw [out _ (by omega) (by omega)]; exact w6 k hk
  · intro c hc; rw [b0, b1, out _ (by omega) (by omega)]; exact w7 c hc
  · intro c hc; rw [out _ (by omega) (by omega)]; exact w8 c hc
  · intro k hk
    rw [b0, b1]
    by_cases q : k = a 4
    · subst q; rw [bc]; exact hc
    · rw [out _ (by omega) (by omega)]; exact w9 k (by omega)
  · intro k hk
    rw [b3] at hk
    have := w10 k hk
    rw [b0, b1, out _ (by omega) (by omega), out (115 + 10 * k) (by omega) (by omega)]
    refine ⟨this.1, this.2.1, this.2.2.1, fun j hj => ?_⟩
    rw [out _ (by omega) (by omega)]; exact this.2.2.2 j hj
  · intro p hp
    rw [b5] at hp
    have := w11 p hp
    rw [b0, b1, out (154 + 5 * p) (by omega) (by omega), out (155 + 5 * p) (by omega) (by omega), out (156 + 5 * p) (by omega) (by omega), out (157 + 5 * p) (by omega) (by omega), out (158 + 5 * p) (by omega) (by omega), out (10 + a (154 + 5 * p)) (by omega) (by omega)]
    exact this
  · intro j hj; rw [out _ (by omega) (by omega)]; exact w12 j hj
  · rw [b0, b1]; exact v1
  · unfold o_W2 at v2 ⊢
    rw [b2, v2]
    exact o_cn0_ext 48 (fun c hc => by rw [out _ (by omega) (by omega)])
  · intro p hp; rw [b5] at hp; rw [out _ (by omega) (by omega)]; exact v3 p hp
  · rw [out _ (by omega) (by omega)]; exact v4
  · intro k h1 h2; rw [b3] at h1; rw [out _ (by omega) (by omega)]; exact v5 k h1 h2
  · intro p h1 h2; rw [b5] at h1; rw [out _ (by omega) (by omega), out _ (by omega) (by omega)]; exact v6 p h1 h2
theorem o_PW.tree (w : o_PW a) {c v : Nat} (h2 : a 2 ≠ 8) (hc : c < a 0 * a 1) (hv : v ≤ 16) (he : a (58 + c) = 4294967295) : o_PW (o_su (o_su a (58 + c) v) 2 (a 2 + 1)) := by
  have c48 := w.c48
  obtain ⟨⟨w1, w2, w3, w4, w5, w6, w7, w8, w9, w10, w11, w12⟩, v1, v2, v3, v4, v5, v6⟩ := w
  generalize hb : o_su (o_su a (58 + c) v) 2 (a 2 + 1) = b
  have out : ∀ u, u ≠ 2 → u ≠ 58 + c → b u = a u := fun u h0 h1 => by rw [← hb, o_su_f h0, o_su_f h1]
  have b2 : b 2 = a 2 + 1 := by rw [← hb, o_su_t]
  have bc : b (58 + c) = v := by rw [← hb, o_su_f (by omega), o_su_t]
  have b0 := out 0 (by omega) (by omega)
  have b1 := out 1 (by omega) (by omega)
  have b3 := out 3 (by omega) (by omega)
  have b4 := out 4 (by omega) (by omega)
  have b5 := out 5 (by omega) (by omega)
  refine ⟨⟨?_, ?_, ?_, ?_, ?_, ?_, ?_, ?_, ?_, ?_, ?_, ?_⟩, ?_, ?_, ?_, ?_, ?_, ?_⟩
  · rw [b0, b1]; exact Or.inr v1
  · rw [b2]; omega
  · rw [b3]; exact w3
  · rw [b4]; exact w4
  · rw [b5]; exact w5
  · intro k hk; rw [out _ (by omega) (by omega)]; exact w6 k hk
  · intro c hc; rw [b0, b1, out _ (by omega) (by omega)]; exact w7 c hc
  · intro d hd
    by_cases q : d = c
    · subst q; rw [bc]; exact Or.inl hv
    · rw [out _ (by omega) (by omega)]; exact w8 d hd
  · intro k hk; rw [b4] at hk; rw [b0, b1, out _ (by omega) (by omega)]; exact w9 k hk
  · intro k hk
    rw [b3] at hk
    have := w10 k hk
    rw [b0, b1, out _ (by omega) (by omega), out (115 + 10 * k) (by omega) (by omega)]
    refine ⟨this.1, this.2.1, this.2.2.1, fun j hj => ?_⟩
    rw [out _ (by omega) (by omega)]; exact this.2.2.2 j hj
  · intro p hp
    rw [b5] at hp
    have := w11 p hp
    rw [b0, b1, out (154 + 5 * p) (by omega) (by omega), out (155 + 5 * p) (by omega) (by omega), out (156 + 5 * p) (by omega) (by omega), out (157 + 5 * p) (by omega) (by omega), out (158 + 5 * p) (by omega) (by omega), out (10 + a (154 + 5 * p)) (by omega) (by omega)]
    exact this
  · intro j hj; rw [out _ (by omega) (by omega)]; exact w12 j hj
  · rw [b0, b1]; exact v1
  · unfold o_W2 at v2 ⊢
    rw [b2, v2]
    refine (o_cn0_one (c := c) 48 (by omega) ?_ ?_ (fun d hd hne => ?_)).symm
    · simp [he]
    · simp only [bc, bne_iff_ne]; omega
    · rw [out _ (by omega) (by omega)]
  · intro p hp; rw [b5] at hp; rw [out _ (by omega) (by omega)]; exact v3 p hp
  · rw [out _ (by omega) (by omega)]; exact v4
  · intro k h1 h2; rw [b3] at h1; rw [out _ (by omega) (by omega)]; exact v5 k h1 h2
  · intro p h1 h2; rw [b5] at h1; rw [out _ (by omega) (by omega), out _ (by omega) (by omega)]; exact v6 p h1 h2
theorem o_PW.seen (w : o_PW a)  : o_PW (o_su a 799 1) := by
  have c48 := w.c48
  obtain ⟨⟨w1, w2, w3, w4, w5, w6, w7, w8, w9, w10, w11, w12⟩, v1, v2, v3, v4, v5, v6⟩ := w
  generalize hb : o_su a 799 1 = b
  have out : ∀ u, u ≠ 799 → b u = a u := fun u h0 => by rw [← hb, o_su_f h0]
  have b7 : b 799 = 1 := by rw [← hb, o_su_t]
  have b0 := out 0 (by omega)
  have b1 := out 1 (by omega)
  have b2 := out 2 (by omega)
  have b3 := out 3 (by omega)
  have b4 := out 4 (by omega)
  have b5 := out 5 (by omega)
  refine ⟨⟨?_, ?_, ?_, ?_, ?_, ?_, ?_, ?_, ?_, ?_, ?_, ?_⟩, ?_, ?_, ?_, ?_, ?_, ?_⟩
  · rw [b0, b1]; exact Or.inr v1
  · rw [b2]; exact w2
  · rw [b3]; exact w3
  · rw [b4]; exact w4
  · rw [b5]; exact w5
  · intro k hk; rw [out _ (by omega)]; exact w6 k hk
  · intro c hc; rw [b0, b1, out _ (by omega)]; exact w7 c hc
  · intro c hc; rw [out _ (by omega)]; exact w8 c hc
  · intro k hk; rw [b4] at hk; rw [b0, b1, out _ (by omega)]; exact w9 k hk
  · intro k hk
    rw [b3] at hk
    have := w10 k hk
    rw [b0, b1, out _ (by omega), out (115 + 10 * k) (by omega)]
    refine ⟨this.1, this.2.1, this.2.2.1, fun j hj => ?_⟩
    rw [out _ (by omega)]; exact this.2.2.2 j hj
  · intro p hp
    rw [b5] at hp
    have := w11 p hp
    rw [b0, b1, out (154 + 5 * p) (by omega), out (155 + 5 * p) (by omega), out (156 + 5 * p) (by omega), out (157 + 5 * p) (by omega), out (158 + 5 * p) (by omega), out (10 + a (154 + 5 * p)) (by omega)]
    exact this
  · intro j hj; rw [out _ (by omega)]; exact w12 j hj
  · rw [b0, b1]; exact v1
  · unfold o_W2 at v2 ⊢
    rw [b2, v2]
    exact o_cn0_ext 48 (fun c hc => by rw [out _ (by omega)])
  · intro p hp; rw [b5] at hp; rw [out _ (by omega)]; exact v3 p hp
  · rw [b7]; omega
  · intro k h1 h2; rw [b3] at h1; rw [out _ (by omega)]; exact v5 k h1 h2
  · intro p h1 h2; rw [b5] at h1; rw [out _ (by omega), out _ (by omega)]; exact v6 p h1 h2
theorem o_PW.how (w : o_PW a) {i v : Nat} (hi : i < 4) (hv : v ≤ 16) : o_PW (o_su a (6 + i) v) := by
  have c48 := w.c48
  obtain ⟨⟨w1, w2, w3, w4, w5, w6, w7, w8, w9, w10, w11, w12⟩, v1, v2, v3, v4, v5, v6⟩ := w
  generalize hb : o_su a (6 + i) v = b
  have out : ∀ u, u ≠ 6 + i → b u = a u := fun u h0 => by rw [← hb, o_su_f h0]
  have bi : b (6 + i) = v := by rw [← hb, o_su_t]
  have b0 := out 0 (by omega)
  have b1 := out 1 (by omega)
  have b2 := out 2 (by omega)
  have b3 := out 3 (by omega)
  have b4 := out 4 (by omega)
  have b5 := out 5 (by omega)
  refine ⟨⟨?_, ?_, ?_, ?_, ?_, ?_, ?_, ?_, ?_, ?_, ?_, ?_⟩, ?_, ?_, ?_, ?_, ?_, ?_⟩
  · rw [b0, b1]; exact Or.inr v1
  · rw [b2]; exact w2
  · rw [b3]; exact w3
  · rw [b4]; exact w4
  · rw [b5]; exact w5
  · intro k hk
    by_cases q : k = i
    · subst q; rw [bi]; exact hv
    · rw [out _ (by omega)]; exact w6 k hk
  · intro c hc; rw [b0, b1, out _ (by omega)]; exact w7 c hc
  · intro c hc; rw [out _ (by omega)]; exact w8 c hc
  · intro k hk; rw [b4] at hk; rw [b0, b1, out _ (by omega)]; exact w9 k hk
  · intro k hk
    rw [b3] at hk
    have := w10 k hk
    rw [b0, b1, out _ (by omega), out (115 + 10 * k) (by omega)]
    refine ⟨this.1, this.2.1, this.2.2.1, fun j hj => ?_⟩
    rw [out _ (by omega)]; exact this.2.2.2 j hj
  · intro p hp
    rw [b5] at hp
    have := w11 p hp
    rw [b0, b1, out (154 + 5 * p) (by omega), out (155 + 5 * p) (by omega), out (156 + 5 * p) (by omega), out (157 + 5 * p) (by omega), out (158 + 5 * p) (by omega), out (10 + a (154 + 5 * p)) (by omega)]
    exact this
  · intro j hj; rw [out _ (by omega)]; exact w12 j hj
  · rw [b0, b1]; exact v1
  · unfold o_W2 at v2 ⊢
    rw [b2, v2]
    exact o_cn0_ext 48 (fun c hc => by rw [out _ (by omega)])
  · intro p hp; rw [b5] at hp; rw [out _ (by omega)]; exact v3 p hp
  · rw [out _ (by omega)]; exact v4
  · intro k h1 h2; rw [b3] at h1; rw [out _ (by omega)]; exact v5 k h1 h2
  · intro p h1 h2; rw [b5] at h1; rw [out _ (by omega), out _ (by omega)]; exact v6 p h1 h2
theorem o_PW.pair (w : o_PW a) {off p v : Nat} (ho : off = 157 ∨ off = 158) (hp : p < a 5) (hv : v < 256) : o_PW (o_su a (off + 5 * p) v) := by
  have c48 := w.c48
  obtain ⟨⟨w1, w2, w3, w4, w5, w6, w7, w8, w9, w10, w11, w12⟩, v1, v2, v3, v4, v5, v6⟩ := w
  generalize hb : o_su a (off + 5 * p) v = b
  have out : ∀ u, u ≠ off + 5 * p → b u = a u := fun u h0 => by rw [← hb, o_su_f h0]
  have bi : b (off + 5 * p) = v := by rw [← hb, o_su_t]
  have b0 := out 0 (by omega)
  have b1 := out 1 (by omega)
  have b2 := out 2 (by omega)
  have b3 := out 3 (by omega)
  have b4 := out 4 (by omega)
  have b5 := out 5 (by omega)
  refine ⟨⟨?_, ?_, ?_, ?_, ?_, ?_, ?_, ?_, ?_, ?_, ?_, ?_⟩, ?_, ?_, ?_, ?_, ?_, ?_⟩
  · rw [b0, b1]; exact Or.inr v1
  · rw [b2]; exact w2
  · rw [b3]; exact w3
  · rw [b4]; exact w4
  · rw [b5]; exact w5
  · intro k hk; rw [out _ (by omega)]; exact w6 k hk
  · intro c hc; rw [b0, b1, out _ (by omega)]; exact w7 c hc
  · intro c hc; rw [out _ (by omega)]; exact w8 c hc
  · intro k hk; rw [b4] at hk; rw [b0, b1, out _ (by omega)]; exact w9 k hk
  · intro k hk
    rw [b3] at hk
    have := w10 k hk
    rw [b0, b1, out _ (by omega), out (115 + 10 * k) (by omega)]
    refine ⟨this.1, this.2.1, this.2.2.1, fun j hj => ?_⟩
    rw [out _ (by omega)]; exact this.2.2.2 j hj
  · intro q hq
    rw [b5] at hq
    have := w11 q hq
    rw [b0, b1, out (154 + 5 * q) (by omega), out (155 + 5 * q) (by omega), out (156 + 5 * q) (by omega), out (10 + a (154 + 5 * q)) (by omega)]
    refine ⟨this.1, this.2.1, this.2.2.1, this.2.2.2.1, this.2.2.2.2.1, ?_, ?_⟩
    · by_cases z : 157 + 5 * q = off + 5 * p
      · rw [z, bi]; exact hv
      · rw [out _ z]; exact this.2.2.2.2.2.1
    · by_cases z : 158 + 5 * q = off + 5 * p
      · rw [z, bi]; exact hv
      · rw [out _ z]; exact this.2.2.2.2.2.2
  · intro j hj; rw [out _ (by omega)]; exact w12 j hj
  · rw [b0, b1]; exact v1
  · unfold o_W2 at v2 ⊢
    rw [b2, v2]
    exact o_cn0_ext 48 (fun c hc => by rw [out _ (by omega)])
  · intro p hp; rw [b5] at hp; rw [out _ (by omega)]; exact v3 p hp
  · rw [out _ (by omega)]; exact v4
  · intro k h1 h2; rw [b3] at h1; rw [out _ (by omega)]; exact v5 k h1 h2
  · intro q h1 h2; rw [b5] at h1; rw [out _ (by omega), out _ (by omega)]; exact v6 q h1 h2
theorem o_PW.psn (w : o_PW a) {v c l f : Nat} (h5 : a 5 ≠ 8) (hv : v < 1099511627776) (hc : c < a 0 * a 1) (hw : a (10 + c) ≠ 1) (hl : l < 8) (hf : 1 ≤ f ∧ f ≤ 9) : o_PW (o_su (o_su (o_su (o_su (o_su a (800 + a 5) v) (154 + 5 * a 5) c) (155 + 5 * a 5) l) (156 + 5 * a 5) f) 5 (a 5 + 1)) := by
  have c48 := w.c48
  obtain ⟨⟨w1, w2, w3, w4, w5, w6, w7, w8, w9, w10, w11, w12⟩, v1, v2, v3, v4, v5, v6⟩ := w
  generalize hb : o_su (o_su (o_su (o_su (o_su a (800 + a 5) v) (154 + 5 * a 5) c) (155 + 5 * a 5) l) (156 + 5 * a 5) f) 5 (a 5 + 1) = b
  have out : ∀ u, u ≠ 5 → u ≠ 156 + 5 * a 5 → u ≠ 155 + 5 * a 5 → u ≠ 154 + 5 * a 5 → u ≠ 800 + a 5 → b u = a u := fun u h0 h1 h2 h3 h4 => by rw [← hb, o_su_f h0, o_su_f h1, o_su_f h2, o_su_f h3, o_su_f h4]
  have b5 : b 5 = a 5 + 1 := by rw [← hb, o_su_t]
  have bf : b (156 + 5 * a 5) = f := by rw [← hb, o_su_f (by omega), o_su_t]
  have bl : b (155 + 5 * a 5) = l := by rw [← hb, o_su_f (by omega), o_su_f (by omega), o_su_t]
  have bc : b (154 + 5 * a 5) = c := by rw [← hb, o_su_f (by omega), o_su_f (by omega), o_su_f (by omega), o_su_t]
  have bv : b (800 + a 5) = v := by rw [← hb, o_su_f (by omega), o_su_f (by omega), o_su_f (by omega), o_su_f (by omega), o_su_t]
  have b0 := out 0 (by omega) (by omega) (by omega) (by omega) (by omega)
  have b1 := out 1 (by omega) (by omega) (by omega) (by omega) (by omega)
  have b2 := out 2 (by omega) (by omega) (by omega) (by omega) (by omega)
  have b3 := out 3 (by omega) (by omega) (by omega) (by omega) (by omega)
  have b4 := out 4 (by omega) (by omega) (by omega) (by omega) (by omega)
  refine ⟨⟨?_, ?_, ?_, ?_, ?_, ?_, ?_, ?_, ?_, ?_, ?_, ?_⟩, ?_, ?_, ?_, ?_, ?_, ?_⟩
  · rw [b0, b1]; exact Or.inr v1
  · rw [b2]; exact w2
  · rw [b3]; exact w3
  · rw [b4]; exact w4
  · rw [b5]; omega
  · intro k hk; rw [out _ (by omega) (by omega) (by omega) (by omega) (by omega)]; exact w6 k hk
  · intro c hc; rw [b0, b1, out _ (by omega) (by omega) (by omega) (by omega) (by omega)]; exact w7 c hc
  · intro c hc; rw [out _ (by omega) (by omega) (by omega) (by omega) (by omega)]; exact w8 c hc
  · intro k hk; rw [b4] at hk; rw [b0, b1, out _ (by omega) (by omega) (by omega) (by omega) (by omega)]; exact w9 k hk
  · intro k hk
    rw [b3] at hk
    have := w10 k hk
    rw [b0, b1, out _ (by omega) (by omega) (by omega) (by omega) (by omega), out (115 + 10 * k) (by omega) (by omega) (by omega) (by omega) (by omega)]
    refine ⟨this.1, this.2.1, this.2.2.1, fun j hj => ?_⟩
    rw [out _ (by omega) (by omega) (by omega) (by omega) (by omega)]; exact this.2.2.2 j hj
  · intro p hp
    by_cases q : p = a 5
    · subst q
      have z := v6 (a 5) (Nat.le_refl _) (by omega)
      have z2 := w7 c (by omega)
      rw [bc, bl, bf, b0, b1, out (157 + 5 * a 5) (by omega) (by omega) (by omega) (by omega) (by omega), out (158 + 5 * a 5) (by omega) (by omega) (by omega) (by omega) (by omega), out (10 + c) (by omega) (by omega) (by omega) (by omega) (by omega)]
      exact ⟨hc, by omega, hl, hf.1, hf.2, by omega, by omega⟩
    · have := w11 p (by omega)
      rw [b0, b1, out (154 + 5 * p) (by omega) (by omega) (by omega) (by omega) (by omega), out (155 + 5 * p) (by omega) (by omega) (by omega) (by omega) (by omega), out (156 + 5 * p) (by omega) (by omega) (by omega) (by omega) (by omega), out (157 + 5 * p) (by omega) (by omega) (by omega) (by omega) (by omega), out (158 + 5 * p) (by omega) (by omega) (by omega) (by omega) (by omega), out (10 + a (154 + 5 * p)) (by omega) (by omega) (by omega) (by omega) (by omega)]
      exact this
  · intro j hj; rw [out _ (by omega) (by omega) (by omega) (by omega) (by omega)]; exact w12 j hj
  · rw [b0, b1]; exact v1
  · unfold o_W2 at v2 ⊢
    rw [b2, v2]
    exact o_cn0_ext 48 (fun c hc => by rw [out _ (by omega) (by omega) (by omega) (by omega) (by omega)])
  · intro p hp
    by_cases q : p = a 5
    · subst q; rw [bv]; exact hv
    · rw [out _ (by omega) (by omega) (by omega) (by omega) (by omega)]; exact v3 p (by omega)
  · rw [out _ (by omega) (by omega) (by omega) (by omega) (by omega)]; exact v4
  · intro k h1 h2; rw [b3] at h1; rw [out _ (by omega) (by omega) (by omega) (by omega) (by omega)]; exact v5 k h1 h2
  · intro p h1 h2; rw [b5] at h1; rw [out _ (by omega) (by omega) (by omega) (by omega) (by omega), out _ (by omega) (by omega) (by omega) (by omega) (by omega)]; exact v6 p (by omega) h2
theorem o_PW.cway (w : o_PW a) {i x : Nat} (h3 : a 3 < 4) (hi : i = 114 + 10 * a 3 ∨ (116 + 10 * a 3 ≤ i ∧ i < 124 + 10 * a 3)) : o_PW (o_su a i x) := by
  have c48 := w.c48
  obtain ⟨⟨w1, w2, w3, w4, w5, w6, w7, w8, w9, w10, w11, w12⟩, v1, v2, v3, v4, v5, v6⟩ := w
  generalize hb : o_su a i x = b
  have out : ∀ u, u ≠ i → b u = a u := fun u h0 => by rw [← hb, o_su_f h0]
  have b0 := out 0 (by omega)
  have b1 := out 1 (by omega)
  have b2 := out 2 (by omega)
  have b3 := out 3 (by omega)
  have b4 := out 4 (by omega)
  have b5 := out 5 (by omega)
  refine ⟨⟨?_, ?_, ?_, ?_, ?_, ?_, ?_, ?_, ?_, ?_, ?_, ?_⟩, ?_, ?_, ?_, ?_, ?_, ?_⟩
  · rw [b0, b1]; exact Or.inr v1
  · rw [b2]; exact w2
  · rw [b3]; exact w3
  · rw [b4]; exact w4
  · rw [b5]; exact w5
  · intro k hk; rw [out _ (by omega)]; exact w6 k hk
  · intro c hc; rw [b0, b1, out _ (by omega)]; exact w7 c hc
  · intro c hc; rw [out _ (by omega)]; exact w8 c hc
  · intro k hk; rw [b4] at hk; rw [b0, b1, out _ (by omega)]; exact w9 k hk
  · intro k hk
    rw [b3] at hk
    have := w10 k hk
    rw [b0, b1, out _ (by omega), out (115 + 10 * k) (by omega)]
    refine ⟨this.1, this.2.1, this.2.2.1, fun j hj => ?_⟩
    rw [out _ (by omega)]; exact this.2.2.2 j hj
  · intro p hp
    rw [b5] at hp
    have := w11 p hp
    rw [b0, b1, out (154 + 5 * p) (by omega), out (155 + 5 * p) (by omega), out (156 + 5 * p) (by omega), out (157 + 5 * p) (by omega), out (158 + 5 * p) (by omega), out (10 + a (154 + 5 * p)) (by omega)]
    exact this
  · intro j hj; rw [out _ (by omega)]; exact w12 j hj
  · rw [b0, b1]; exact v1
  · unfold o_W2 at v2 ⊢
    rw [b2, v2]
    exact o_cn0_ext 48 (fun c hc => by rw [out _ (by omega)])
  · intro p hp; rw [b5] at hp; rw [out _ (by omega)]; exact v3 p hp
  · rw [out _ (by omega)]; exact v4
  · intro k h1 h2; rw [b3] at h1; rw [out _ (by omega)]; exact v5 k h1 h2
  · intro p h1 h2; rw [b5] at h1; rw [out _ (by omega), out _ (by omega)]; exact v6 p h1 h2
theorem o_PW.cend (w : o_PW a) {j : Nat} (h3 : a 3 < 4) (hc : a (114 + 10 * a 3) < a 0 * a 1) (hj : 1 ≤ j ∧ j ≤ 8) (hw : ∀ i, i < j → a (116 + 10 * a 3 + i) < 8) : o_PW (o_su (o_su a (115 + 10 * a 3) j) 3 (a 3 + 1)) := by
  have c48 := w.c48
  obtain ⟨⟨w1, w2, w3, w4, w5, w6, w7, w8, w9, w10, w11, w12⟩, v1, v2, v3, v4, v5, v6⟩ := w
  generalize hb : o_su (o_su a (115 + 10 * a 3) j) 3 (a 3 + 1) = b
  have out : ∀ u, u ≠ 3 → u ≠ 115 + 10 * a 3 → b u = a u := fun u h0 h1 => by rw [← hb, o_su_f h0, o_su_f h1]
  have b3 : b 3 = a 3 + 1 := by rw [← hb, o_su_t]
  have bj : b (115 + 10 * a 3) = j := by rw [← hb, o_su_f (by omega), o_su_t]
  have b0 := out 0 (by omega) (by omega)
  have b1 := out 1 (by omega) (by omega)
  have b2 := out 2 (by omega) (by omega)
  have b4 := out 4 (by omega) (by omega)
  have b5 := out 5 (by omega) (by omega)
  refine ⟨⟨?_, ?_, ?_, ?_, ?_, ?_, ?_, ?_, ?_, ?_, ?_, ?_⟩, ?_, ?_, ?_, ?_, ?_, ?_⟩
  · rw [b0, b1]; exact Or.inr v1
  · rw [b2]; exact w2
  · rw [b3]; omega
  · rw [b4]; exact w4
  · rw [b5]; exact w5
  · intro k hk; rw [out _ (by omega) (by omega)]; exact w6 k hk
  · intro c hc; rw [b0, b1, out _ (by omega) (by omega)]; exact w7 c hc
  · intro c hc; rw [out _ (by omega) (by omega)]; exact w8 c hc
  · intro k hk; rw [b4] at hk; rw [b0, b1, out _ (by omega) (by omega)]; exact w9 k hk
  · intro k hk
    rw [b0, b1]
    by_cases q : k = a 3
    · subst q
      rw [bj, out _ (by omega) (by omega)]
      refine ⟨hc, hj.1, hj.2, fun i hi => ?_⟩
      rw [out _ (by omega) (by omega)]; exact hw i hi
    · have := w10 k (by omega)
      rw [out _ (by omega) (by omega), out (115 + 10 * k) (by omega) (by omega)]
      refine ⟨this.1, this.2.1, this.2.2.1, fun j hj => ?_⟩
      rw [out _ (by omega) (by omega)]; exact this.2.2.2 j hj
  · intro p hp
    rw [b5] at hp
    have := w11 p hp
    rw [b0, b1, out (154 + 5 * p) (by omega) (by omega), out (155 + 5 * p) (by omega) (by omega), out (156 + 5 * p) (by omega) (by omega), out (157 + 5 * p) (by omega) (by omega), out (158 + 5 * p) (by omega) (by omega), out (10 + a (154 + 5 * p)) (by omega) (by omega)]
    exact this
  · intro j hj; rw [out _ (by omega) (by omega)]; exact w12 j hj
  · rw [b0, b1]; exact v1
  · unfold o_W2 at v2 ⊢
    rw [b2, v2]
    exact o_cn0_ext 48 (fun c hc => by rw [out _ (by omega) (by omega)])
  · intro p hp; rw [b5] at hp; rw [out _ (by omega) (by omega)]; exact v3 p hp
  · rw [out _ (by omega) (by omega)]; exact v4
  · intro k h1 h2; rw [b3] at h1; rw [out _ (by omega) (by omega)]; exact v5 k (by omega) h2
  · intro p h1 h2; rw [b5] at h1; rw [out _ (by omega) (by omega), out _ (by omega) (by omega)]; exact v6 p h1 h2

end
