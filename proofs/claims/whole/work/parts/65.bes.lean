/-! THE GRID: beside and stepped -/
section
variable {L : Nat} {xs : Nat → Int32} {h : iH} {Q : Option Value → iH → Prop} {a : Nat → Nat} {t : Nat}
set_option maxRecDepth 20000
theorem o_is.all {s : Int64} {n : Nat} {P : Nat → Bool} (x : o_is s n P) (hn : n ≤ 64) (c : Nat) : i_b s c = (decide (c < n) && P c) := by
  by_cases hc : c < 64
  · exact x c hc
  · rw [j_ge (by omega)]
    simp [show ¬ c < n by omega]
theorem j_andn (x y : Int64) (c : Nat) : i_b (x &&& (y ^^^ (-1 : Int64))) c = (i_b x c && !i_b y c) := by
  by_cases hc : c < 64
  · rw [j_and, j_not _ hc]
  · rw [j_and, j_ge (x := x) (by omega)]
    rfl
theorem o_xy {W x y : Nat} (hx : x < W) : (W * y + x) % W = x ∧ (W * y + x) / W = y := by
  constructor
  · rw [Nat.mul_add_mod]; exact Nat.mod_eq_of_lt hx
  · rw [Nat.mul_add_div (by omega), Nat.div_eq_of_lt hx, Nat.add_zero]
theorem o_far_xy {W x y u v : Nat} (hx : x < W) (hu : u < W) : o_far W (W * y + x) (W * v + u) = max ((x - u) + (u - x)) ((y - v) + (v - y)) := by
  unfold o_far
  rw [(o_xy hx).1, (o_xy hx).2, (o_xy hu).1, (o_xy hu).2]
theorem o_split {W : Nat} (hW : 0 < W) (c : Nat) : ∃ x y, x < W ∧ c = W * y + x := ⟨c % W, c / W, Nat.mod_lt c hW, (Nat.div_add_mod c W).symm⟩
/-- beside, in coordinates -/
theorem o_bes_l {W H c : Nat} {P : Nat → Bool} (hW : 2 ≤ W) (hc : c < W * H) :
    (((1 ≤ c ∧ (c - 1 < W * H ∧ P (c - 1) = true) ∧ ¬ (c - 1 < W * H ∧ (c - 1) % W + 1 = W)) ∨ ((1 + c < W * H ∧ P (1 + c) = true) ∧ ¬ (1 + c < W * H ∧ (1 + c) % W = 0))) ∨
     (W ≤ c ∧ (((c - W < W * H ∧ P (c - W) = true) ∨ (1 ≤ c - W ∧ (c - W - 1 < W * H ∧ P (c - W - 1) = true) ∧ ¬ (c - W - 1 < W * H ∧ (c - W - 1) % W + 1 = W))) ∨ ((1 + (c - W) < W * H ∧ P (1 + (c - W)) = true) ∧ ¬ (1 + (c - W) < W * H ∧ (1 + (c - W)) % W = 0)))) ∨
     (((W + c < W * H ∧ P (W + c) = true) ∨ (1 ≤ W + c ∧ (W + c - 1 < W * H ∧ P (W + c - 1) = true) ∧ ¬ (W + c - 1 < W * H ∧ (W + c - 1) % W + 1 = W))) ∨ ((1 + (W + c) < W * H ∧ P (1 + (W + c)) = true) ∧ ¬ (1 + (W + c) < W * H ∧ (1 + (W + c)) % W = 0))))
    ↔ ∃ b, b < W * H ∧ P b = true ∧ o_far W b c = 1 := by
  obtain ⟨x, y, hx, rfl⟩ := o_split (show 0 < W by omega) c
  have hy : y < H := by
    by_cases q : y < H
    · exact q
    · have := Nat.mul_le_mul_left W (show H ≤ y by omega); omega
  have hH : ∀ v, v < H → W * v + W ≤ W * H := fun v hv => by rw [← Nat.mul_succ]; exact Nat.mul_le_mul_left _ hv
  have hyH := hH y hy
  -- what left and right come to at W * v + x
  have rt : ∀ v k, k = W * v + x → (((1 ≤ k ∧ (k - 1 < W * H ∧ P (k - 1) = true) ∧ ¬ (k - 1 < W * H ∧ (k - 1) % W + 1 = W)) → 1 ≤ x ∧ P (W * v + (x - 1)) = true ∧ W * v + (x - 1) < W * H) ∧ (1 ≤ x → W * v + (x - 1) < W * H → P (W * v + (x - 1)) = true → (1 ≤ k ∧ (k - 1 < W * H ∧ P (k - 1) = true) ∧ ¬ (k - 1 < W * H ∧ (k - 1) % W + 1 = W)))) := by
    intro v k hk
    subst hk
    constructor
    · rintro ⟨z1, z2, z3⟩
      by_cases hx0 : x = 0
      · exfalso
        subst hx0
        refine z3 ⟨z2.1, ?_⟩
        cases v with
        | zero => omega
        | succ v =>
          rw [show W * (v + 1) + 0 - 1 = W * v + (W - 1) by rw [Nat.mul_succ]; omega, (o_xy (show W - 1 < W by omega)).1]
          omega
      · rw [show W * v + x - 1 = W * v + (x - 1) by omega] at z2
        exact ⟨by omega, z2.2, z2.1⟩
    · intro z1 z2 z3
      rw [show W * v + x - 1 = W * v + (x - 1) by omega, (o_xy (show x - 1 < W by omega)).1]
      exact ⟨by omega, ⟨z2, z3⟩, fun q => by omega⟩
  have lf : ∀ v k, k = W * v + x → (((1 + k < W * H ∧ P (1 + k) = true) ∧ ¬ (1 + k < W * H ∧ (1 + k) % W = 0)) → x + 1 < W ∧ P (W * v + (x + 1)) = true ∧ W * v + (x + 1) < W * H) ∧ (x + 1 < W → W * v + (x + 1) < W * H → P (W * v + (x + 1)) = true → ((1 + k < W * H ∧ P (1 + k) = true) ∧ ¬ (1 + k < W * H ∧ (1 + k) % W = 0))) := by
    intro v k hk
    subst hk
    constructor
    · rintro ⟨z1, z2⟩
      by_cases hx0 : x + 1 = W
      · exfalso
        refine z2 ⟨z1.1, ?_⟩
        rw [show 1 + (W * v + x) = W * (v + 1) + 0 by rw [Nat.mul_succ]; omega, (o_xy (show 0 < W by omega)).1]
      · rw [show 1 + (W * v + x) = W * v + (x + 1) by omega] at z1
        exact ⟨by omega, z1.2, z1.1⟩
    · intro z1 z2 z3
      rw [show 1 + (W * v + x) = W * v + (x + 1) by omega, (o_xy z1).1]
      exact ⟨⟨z2, z3⟩, fun q => by omega⟩
  constructor
  · rintro ((z | z) | ⟨z0, (z | z) | z⟩ | ((z | z) | z))
    · obtain ⟨q1, q2, q3⟩ := (rt y _ rfl).1 z
      exact ⟨_, q3, q2, by rw [o_far_xy (by omega) hx]; omega⟩
    · obtain ⟨q1, q2, q3⟩ := (lf y _ rfl).1 z
      exact ⟨_, q3, q2, by rw [o_far_xy q1 hx]; omega⟩
    · have hy1 : 1 ≤ y := by
        cases y with
        | zero => omega
        | succ v => omega
      have e : W * y + x - W = W * (y - 1) + x := by
        obtain ⟨v, rfl⟩ : ∃ v, y = v + 1 := ⟨y - 1, by omega⟩
        rw [Nat.mul_succ, Nat.add_sub_cancel]; omega
      rw [e] at z
      exact ⟨_, z.1, z.2, by rw [o_far_xy hx hx]; omega⟩
    · have hy1 : 1 ≤ y := by
        cases y with
        | zero => omega
        | succ v => omega
      have e : W * y + x - W = W * (y - 1) + x := by
        obtain ⟨v, rfl⟩ : ∃ v, y = v + 1 := ⟨y - 1, by omega⟩
        rw [Nat.mul_succ, Nat.add_sub_cancel]; omega
      obtain ⟨q1, q2, q3⟩ := (rt (y - 1) _ e).1 z
      exact ⟨_, q3, q2, by rw [o_far_xy (by omega) hx]; omega⟩
    · have hy1 : 1 ≤ y := by
        cases y with
        | zero => omega
        | succ v => omega
      have e : W * y + x - W = W * (y - 1) + x := by
        obtain ⟨v, rfl⟩ : ∃ v, y = v + 1 := ⟨y - 1, by omega⟩
        rw [Nat.mul_succ, Nat.add_sub_cancel]; omega
      obtain ⟨q1, q2, q3⟩ := (lf (y - 1) _ e).1 z
      exact ⟨_, q3, q2, by rw [o_far_xy q1 hx]; omega⟩
    · rw [show W + (W * y + x) = W * (y + 1) + x by rw [Nat.mul_succ]; omega] at z
      exact ⟨_, z.1, z.2, by rw [o_far_xy hx hx]; omega⟩
    · obtain ⟨q1, q2, q3⟩ := (rt (y + 1) _ (by rw [Nat.mul_succ]; omega)).1 z
      exact ⟨_, q3, q2, by rw [o_far_xy (by omega) hx]; omega⟩
    · obtain ⟨q1, q2, q3⟩ := (lf (y + 1) _ (by rw [Nat.mul_succ]; omega)).1 z
      exact ⟨_, q3, q2, by rw [o_far_xy q1 hx]; omega⟩
  · rintro ⟨b, hb, hP, hf⟩
    obtain ⟨u, v, hu, rfl⟩ := o_split (show 0 < W by omega) b
    rw [o_far_xy hu hx] at hf
    have hcase : (v = y ∧ (u + 1 = x ∨ u = x + 1)) ∨ (v + 1 = y ∧ (u = x ∨ u + 1 = x ∨ u = x + 1)) ∨ (v = y + 1 ∧ (u = x ∨ u + 1 = x ∨ u = x + 1)) := by omega
    rcases hcase with ⟨rfl, rfl | rfl⟩ | ⟨rfl, hh⟩ | ⟨rfl, hh⟩
    · exact Or.inl (Or.inl ((rt v _ rfl).2 (by omega) (by rw [Nat.add_sub_cancel]; exact hb) (by rw [Nat.add_sub_cancel]; exact hP)))
    · exact Or.inl (Or.inr ((lf v _ rfl).2 hu hb hP))
    · have e : W * (v + 1) + x - W = W * v + x := by rw [Nat.mul_succ]; omega
      refine Or.inr (Or.inl ⟨by rw [Nat.mul_succ]; omega, ?_⟩)
      rcases hh with rfl | rfl | rfl
      · exact Or.inl (Or.inl (by rw [e]; exact ⟨hb, hP⟩))
      · exact Or.inl (Or.inr ((rt v _ e).2 (by omega) (by rw [Nat.add_sub_cancel]; exact hb) (by rw [Nat.add_sub_cancel]; exact hP)))
      · exact Or.inr ((lf v _ e).2 hu hb hP)
    · have e : W + (W * y + x) = W * (y + 1) + x := by rw [Nat.mul_succ]; omega
      refine Or.inr (Or.inr ?_)
      rcases hh with rfl | rfl | rfl
      · exact Or.inl (Or.inl (by rw [e]; exact ⟨hb, hP⟩))
      · exact Or.inl (Or.inr ((rt (y + 1) _ e).2 (by omega) (by rw [Nat.add_sub_cancel]; exact hb) (by rw [Nat.add_sub_cancel]; exact hP)))
      · exact Or.inr ((lf (y + 1) _ e).2 hu hb hP)
/-- the free cells beside some of P -/
def o_bes (a : Nat → Nat) (P : Nat → Bool) (c : Nat) : Bool := !(o_wall a c) && (List.range (a 0 * a 1)).any (fun b => P b && o_far (a 0) b c == 1)
theorem o_bes_t {P : Nat → Bool} {c : Nat} : o_bes a P c = true ↔ o_wall a c = false ∧ ∃ b, b < a 0 * a 1 ∧ P b = true ∧ o_far (a 0) b c = 1 := by
  unfold o_bes
  simp [List.any_eq_true, List.mem_range]
theorem c23 (hL : i_Lay h) (w : o_WF a) (g : i_GR a h) {s : Int64} {P : Nat → Bool} (hs : o_is s (a 0 * a 1) P) (H : ∀ s2, o_is s2 (a 0 * a 1) (o_bes a P) → Q (some (.long s2)) h) : i_C i_MT i_AT L xs 23 [.ref 96, .long s] h Q := by
  have h48 := w.c48
  refine e23 (d23_0 hL ?_)
  rw [g.1.1]
  try simp (disch := omega) only [n_lit, n_m, n_add, n_mul, n_div, n_mod, n_cl, n_lt, n_le, n_eq, n_in, n_eqm, n_meq, n_mlt, n_ltm, n_mle, n_lem, not_true_eq_false, not_false_eq_true, true_implies, false_implies, true_and, and_true, Nat.not_lt_zero, Nat.zero_le]
  refine H _ (fun c hc => ?_)
  have aS := hs.all (by omega)
  have aW := g.2.1.2.2.1.all (by omega)
  have aE := g.2.1.2.2.2.all (by omega)
  have aF := g.2.1.2.1.all (by omega)
  rw [j_and]
  simp (disch := omega) only [j_or, j_shl, j_shr, j_andn, aS, aW, aE, aF]
  by_cases hn : c < a 0 * a 1
  · have hp := w.pos hn
    rw [Bool.eq_iff_iff, Bool.and_eq_true, Bool.and_eq_true, Bool.and_eq_true, o_bes_t]
    rw [← o_bes_l (by omega) hn]
    simp only [Bool.or_eq_true, Bool.and_eq_true, decide_eq_true_eq, Bool.not_eq_true', Bool.and_eq_false_iff, decide_eq_false_iff_not, beq_iff_eq, beq_eq_false_iff_ne, hn, hc, true_and, and_true]
    have c1 : c - 1 < 64 := by omega
    have c2 : c - a 0 < 64 := by omega
    have c3 : a 0 + c < 64 := by omega
    have c4 : c - a 0 < a 0 * a 1 := by omega
    simp only [c2, c3, true_and, and_true]
    constructor
    · rintro ⟨z1, z2⟩
      refine ⟨z2, ?_⟩
      rcases z1 with ((z | z) | z) | z
      · exact Or.inl (Or.inl ⟨z.1, z.2.1, fun q => by rcases z.2.2 with q2 | q2 <;> omega⟩)
      · exact Or.inl (Or.inr ⟨z.1, fun q => by rcases z.2 with q2 | q2 <;> omega⟩)
      · refine Or.inr (Or.inl ⟨z.1, ?_⟩)
        rcases z.2 with (q | q) | q
        · exact Or.inl (Or.inl q)
        · exact Or.inl (Or.inr ⟨q.1, q.2.1, fun q3 => by rcases q.2.2 with q2 | q2 <;> omega⟩)
        · exact Or.inr ⟨q.1, fun q3 => by rcases q.2 with q2 | q2 <;> omega⟩
      · refine Or.inr (Or.inr ?_)
        rcases z with (q | q) | q
        · exact Or.inl (Or.inl q)
        · exact Or.inl (Or.inr ⟨q.1, q.2.1, fun q3 => by rcases q.2.2 with q2 | q2 <;> omega⟩)
        · exact Or.inr ⟨q.1, fun q3 => by rcases q.2 with q2 | q2 <;> omega⟩
    · rintro ⟨z2, z1⟩
      refine ⟨?_, z2⟩
      have nn : ∀ p q : Prop, ¬ (p ∧ q) → ¬ p ∨ ¬ q := fun p q hpq => Classical.not_and_iff_not_or_not.mp hpq
      rcases z1 with (z | z) | z | z
      · exact Or.inl (Or.inl (Or.inl ⟨z.1, z.2.1, nn _ _ z.2.2⟩))
      · exact Or.inl (Or.inl (Or.inr ⟨z.1, nn _ _ z.2⟩))
      · refine Or.inl (Or.inr ⟨z.1, ?_⟩)
        rcases z.2 with (q | q) | q
        · exact Or.inl (Or.inl q)
        · exact Or.inl (Or.inr ⟨q.1, q.2.1, nn _ _ q.2.2⟩)
        · exact Or.inr ⟨q.1, nn _ _ q.2⟩
      · refine Or.inr ?_
        rcases z with (q | q) | q
        · exact Or.inl (Or.inl q)
        · exact Or.inl (Or.inr ⟨q.1, q.2.1, nn _ _ q.2.2⟩)
        · exact Or.inr ⟨q.1, nn _ _ q.2⟩
  · simp [hn]
end
