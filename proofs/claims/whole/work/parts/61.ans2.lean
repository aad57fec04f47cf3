/-! ANSWERS MINUTE BY MINUTE; the class's loops over the minutes -/
section
variable {a : Nat → Nat}
/-- the first from k on, of n, with P -/
def o_lst (P : Nat → Bool) : Nat → Nat → Option Nat
  | 0, _ => none
  | n + 1, k => if P k = true then some k else o_lst P n (k + 1)
theorem o_lst_s {P : Nat → Bool} {j : Nat} (hp : P j = true) : ∀ (n k : Nat), k ≤ j → j < k + n → (∀ i, k ≤ i → i < j → P i = false) → o_lst P n k = some j
  | 0, k, h1, h2, _ => by omega
  | n + 1, k, h1, h2, h3 => by
    rw [o_lst]
    by_cases e : k = j
    · subst e; rw [if_pos hp]
    · rw [if_neg (by rw [h3 k (Nat.le_refl k) (by omega)]; exact fun z => by cases z)]
      exact o_lst_s hp n (k + 1) (by omega) (by omega) (fun i q1 q2 => h3 i (by omega) q2)
theorem o_lst_n {P : Nat → Bool} : ∀ (n k : Nat), (∀ i, k ≤ i → i < k + n → P i = false) → o_lst P n k = none
  | 0, _, _ => rfl
  | n + 1, k, h => by
    rw [o_lst, if_neg (by rw [h k (Nat.le_refl k) (by omega)]; exact fun z => by cases z)]
    exact o_lst_n n (k + 1) (fun i q1 q2 => h i (by omega) (by omega))
theorem o_lst_g {P : Nat → Bool} : ∀ (n k j : Nat), o_lst P n k = some j → k ≤ j ∧ j < k + n ∧ P j = true ∧ ∀ i, k ≤ i → i < j → P i = false
  | 0, _, _, h => by cases h
  | n + 1, k, j, h => by
    rw [o_lst] at h
    by_cases hp : P k = true
    · rw [if_pos hp] at h
      cases h
      exact ⟨Nat.le_refl k, by omega, hp, fun i q1 q2 => by omega⟩
    · rw [if_neg hp] at h
      obtain ⟨z1, z2, z3, z4⟩ := o_lst_g n (k + 1) j h
      refine ⟨by omega, by omega, z3, fun i q1 q2 => ?_⟩
      by_cases e : i = k
      · subst e; simpa using hp
      · exact z4 i (by omega) q2
/-- how many of 1 .. m have P -/
def o_cnt (P : Nat → Bool) : Nat → Nat
  | 0 => 0
  | m + 1 => o_cnt P m + (if P (m + 1) = true then 1 else 0)
theorem o_cnt_le {P : Nat → Bool} : ∀ m, o_cnt P m ≤ m
  | 0 => Nat.le_refl 0
  | m + 1 => by
    have := o_cnt_le (P := P) m
    rw [o_cnt]
    split <;> omega
/-- how many of 0 .. n - 1 have P -/
def o_cn0 (P : Nat → Bool) : Nat → Nat
  | 0 => 0
  | m + 1 => o_cn0 P m + (if P m = true then 1 else 0)
theorem o_cn0_le {P : Nat → Bool} : ∀ m, o_cn0 P m ≤ m
  | 0 => Nat.le_refl 0
  | m + 1 => by
    have := o_cn0_le (P := P) m
    rw [o_cn0]
    split <;> omega
/-- what is left of a million behind m minutes of weights -/
def o_lft (w : Nat → Nat) : Nat → Nat
  | 0 => 1000000
  | m + 1 => o_lft w m * (16 - w (m + 1)) / 16
theorem o_lft_le {w : Nat → Nat} : ∀ m, o_lft w m ≤ 1000000
  | 0 => Nat.le_refl _
  | m + 1 => by
    have ih := o_lft_le (w := w) m
    rw [o_lft]
    have : o_lft w m * (16 - w (m + 1)) ≤ 1000000 * 16 := Nat.mul_le_mul ih (by omega)
    omega
/-- the longest run of P behind m minutes, and the run at its end -/
def o_run (P : Nat → Bool) : Nat → Nat × Nat
  | 0 => (0, 0)
  | m + 1 => (max (o_run P m).1 (if P (m + 1) = true then (o_run P m).2 + 1 else 0), if P (m + 1) = true then (o_run P m).2 + 1 else 0)
theorem o_run_le {P : Nat → Bool} : ∀ m, (o_run P m).1 ≤ m ∧ (o_run P m).2 ≤ m
  | 0 => ⟨Nat.le_refl 0, Nat.le_refl 0⟩
  | m + 1 => by
    have := o_run_le (P := P) m
    rw [o_run]
    dsimp only
    split <;> omega
/-- a set of small numbers -/
def o_st (P : Nat → Bool) : Nat → Nat
  | 0 => 0
  | m + 1 => if P m = true then o_st P m ||| (1 <<< m) else o_st P m
theorem o_st_b {P : Nat → Bool} : ∀ n i, (o_st P n).testBit i = (decide (i < n) && P i)
  | 0, i => by simp [o_st]
  | n + 1, i => by
    have ih := o_st_b (P := P) n i
    rw [o_st]
    by_cases hp : P n = true
    · rw [if_pos hp, Nat.testBit_or, ih, Nat.testBit_shiftLeft]
      by_cases e : i = n
      · subst e; simp [hp]
      · by_cases h2 : i < n
        · simp [h2, show ¬ n ≤ i by omega, show i < n + 1 by omega]
        · obtain ⟨d, hd⟩ : ∃ d, i - n = d + 1 := ⟨i - n - 1, by omega⟩
          simp [h2, show n ≤ i by omega, show ¬ i < n + 1 by omega, hd, Nat.testBit_succ]
    · rw [if_neg hp, ih]
      by_cases e : i = n
      · subst e; simp [hp]
      · by_cases h2 : i < n
        · simp [h2, show i < n + 1 by omega]
        · simp [h2, show ¬ i < n + 1 by omega]
theorem o_st_lt {P : Nat → Bool} : ∀ n, o_st P n < 2 ^ n
  | 0 => by simp [o_st]
  | n + 1 => by
    have ih := o_st_lt (P := P) n
    rw [o_st]
    have e : 1 <<< n = 2 ^ n := by rw [Nat.one_shiftLeft]
    have h2 : 2 ^ n < 2 ^ (n + 1) := by rw [Nat.pow_succ]; have := Nat.pow_pos (n := n) (show 0 < 2 by omega); omega
    split
    · rw [e]
      exact Nat.or_lt_two_pow (by omega) h2
    · omega
theorem o_st_8 {P : Nat → Bool} {n : Nat} (hn : n ≤ 8) : o_st P n < 256 := Nat.lt_of_lt_of_le (o_st_lt n) (show 2 ^ n ≤ 2 ^ 8 from Nat.pow_le_pow_right (by omega) hn)
def o_near (a : Nat → Nat) (p b m : Nat) : Bool := decide (o_far (a 0) (o_cell a p m) (o_cell a b m) ≤ a (156 + 5 * b)) && o_wt a b p m == 0
def o_unsA (a : Nat → Nat) (x y z : Int32) : Int32 × Int32 := o_A (v_2 a x y ∧ v_t z) (i_n (o_lft (fun m => o_wt a y.toNatClampNeg x.toNatClampNeg m) z.toNatClampNeg))
def o_nearA (a : Nat → Nat) (x y z : Int32) : Int32 × Int32 := o_A (v_2 a x y ∧ v_t z) (i_n (o_cnt (fun m => o_near a x.toNatClampNeg y.toNatClampNeg m) z.toNatClampNeg))
def o_fstA (a : Nat → Nat) (x y z : Int32) : Int32 × Int32 := o_A6 (v_2 a x y ∧ 1 ≤ z ∧ z ≤ 16) (o_lst (fun m => decide (z.toNatClampNeg ≤ o_wt a x.toNatClampNeg y.toNatClampNeg m)) 60 1)
def o_fw (a : Nat → Nat) (m p : Nat) : Option Nat := o_lst (fun b => o_wat a b p && decide (0 < o_wt a b p m)) (a 5) 0
def o_jp (a : Nat → Nat) (m : Nat) : Option Nat := o_lst (fun p => (o_fw a m p).isSome) (a 5) 0
def o_jm (a : Nat → Nat) : Option Nat := o_lst (fun m => (o_jp a m).isSome) 60 1
def o_jud (a : Nat → Nat) (x : Nat) : Option Nat := (o_jm a).bind (fun m => (o_jp a m).bind (fun p => (o_fw a m p).map (fun b => if x = 0 then m else if x = 1 then p else b)))
def o_judA (a : Nat → Nat) (x : Int32) : Int32 × Int32 := o_A6 (0 ≤ x ∧ x ≤ 2) (o_jud a x.toNatClampNeg)
def o_movA (a : Nat → Nat) (x : Int32) : Int32 × Int32 := o_A (v_mi x) (i_n (o_cn0 (fun p => o_did a p x.toNatClampNeg != 0) (a 5) + o_cn0 (fun k => o_cart a k x.toNatClampNeg != o_cart a k (x.toNatClampNeg - 1)) (a 3)))
def o_any (a : Nat → Nat) (p m : Nat) : Bool := (List.range (a 5)).any (fun q => q != p && decide (0 < o_wt a p q m)) || (List.range (a 3)).any (fun k => o_cart a k m != o_cart a k (m - 1) && o_sees a p (o_cart a k m) m)
def o_goneA (a : Nat → Nat) (x : Int32) : Int32 × Int32 := o_A (v_p a x) (i_n (o_cnt (fun m => !o_any a x.toNatClampNeg m) 60))
def o_stdsA (a : Nat → Nat) (x y : Int32) : Int32 × Int32 := o_A (v_p a x ∧ v_t y) (i_n (o_st (fun q => o_sees a x.toNatClampNeg (o_cell a q y.toNatClampNeg) y.toNatClampNeg) (a 5)))
def o_stodA (a : Nat → Nat) (x y : Int32) : Int32 × Int32 := o_A (v_2 a x y) (i_n (o_run (fun m => o_near a x.toNatClampNeg y.toNatClampNeg m) 60).1)
def o_sgnA (a : Nat → Nat) (x y z : Int32) : Int32 × Int32 := o_A6 (v_2 a x y ∧ 0 ≤ z ∧ z ≤ 999999) (o_lst (fun m => decide (o_lft (fun m => o_wgh a y.toNatClampNeg (a (154 + 5 * x.toNatClampNeg)) 4 m) m ≤ z.toNatClampNeg)) 60 1)
theorem o_wt_le (w : o_WF a) {p q m : Nat} (hq : q < a 5) (hm : m ≤ 60) : o_wt a p q m ≤ 16 := by
  have h := o_pp w hq hm
  exact o_wgh_le w h.2.2.2 h.2.1
end
