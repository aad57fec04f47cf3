/-! THE CLASS: what it asks of its arguments; how it answers -/
section
variable {L : Nat} {xs : Nat → Int32} {h : iH} {Q : Option Value → iH → Prop} {a : Nat → Nat} {t : Nat}
set_option maxRecDepth 20000
abbrev v_p (a : Nat → Nat) (x : Int32) : Prop := 0 ≤ x ∧ x < i_n (a 5)
abbrev v_t (x : Int32) : Prop := 0 ≤ x ∧ x ≤ 60
abbrev v_mi (x : Int32) : Prop := 1 ≤ x ∧ x ≤ 60
abbrev v_2 (a : Nat → Nat) (x y : Int32) : Prop := v_p a x ∧ v_p a y ∧ x ≠ y
abbrev v_c (a : Nat → Nat) (x : Int32) : Prop := 0 ≤ x ∧ x < i_n (a 0 * a 1)
abbrev v_f (a : Nat → Nat) (x : Int32) : Prop := v_c a x ∧ o_wall a x.toNatClampNeg = false
theorem n_get {x : Int32} {k : Nat} (hx : 0 ≤ x ∧ x < i_n k) (hk : k < 2147483648) : ∃ p, p < k ∧ x = i_n p := by
  rcases n_cases x with ⟨p, hp, rfl⟩ | z
  · exact ⟨p, (n_lt hp hk).mp hx.2, rfl⟩
  · exact absurd hx.1 (Int32.not_le.mpr z)
theorem n_gle {x : Int32} {k : Nat} (hx : 0 ≤ x ∧ x ≤ i_n k) (hk : k < 2147483648) : ∃ p, p ≤ k ∧ x = i_n p := by
  rcases n_cases x with ⟨p, hp, rfl⟩ | z
  · exact ⟨p, (n_le hp hk).mp hx.2, rfl⟩
  · exact absurd hx.1 (Int32.not_le.mpr z)
theorem n_g1 {x : Int32} {j k : Nat} (hx : i_n j ≤ x ∧ x ≤ i_n k) (hj : j < 2147483648) (hk : k < 2147483648) : ∃ p, j ≤ p ∧ p ≤ k ∧ x = i_n p := by
  rcases n_cases x with ⟨p, hp, rfl⟩ | z
  · exact ⟨p, (n_le hj hp).mp hx.1, (n_le hp hk).mp hx.2, rfl⟩
  · refine absurd hx.1 (Int32.not_le.mpr (Int32.lt_of_lt_of_le z ?_))
    rw [n_le (by omega) hj]
    exact Nat.zero_le _
/-- an answer and the status behind it: v where P holds, else refused -/
def o_A (P : Prop) [Decidable P] (v : Int32) : Int32 × Int32 := if P then (v, 0) else (-1, 1)
theorem o_A_t {P : Prop} [Decidable P] {v : Int32} (h : P) : o_A P v = (v, 0) := if_pos h
theorem o_A_f {P : Prop} [Decidable P] {v : Int32} (h : ¬ P) : o_A P v = (-1, 1) := if_neg h
def o_AJ (P : Prop) [Decidable P] (v : Int64) : Int64 × Int32 := if P then (v, 0) else (-1, 1)
theorem o_AJ_t {P : Prop} [Decidable P] {v : Int64} (h : P) : o_AJ P v = (v, 0) := if_pos h
theorem o_AJ_f {P : Prop} [Decidable P] {v : Int64} (h : ¬ P) : o_AJ P v = (-1, 1) := if_neg h
/-- where P holds and there is something: it; else none such, or refused -/
def o_A6 (P : Prop) [Decidable P] (v : Option Nat) : Int32 × Int32 := if P then (match v with
  | some k => (i_n k, 0)
  | none => (-1, 6)) else (-1, 1)
theorem o_A6_t {P : Prop} [Decidable P] {v : Option Nat} {k : Nat} (h : P) (e : v = some k) : o_A6 P v = (i_n k, 0) := by unfold o_A6; rw [if_pos h, e]
theorem o_A6_n {P : Prop} [Decidable P] {v : Option Nat} (h : P) (e : v = none) : o_A6 P v = (-1, 6) := by unfold o_A6; rw [if_pos h, e]
theorem o_A6_f {P : Prop} [Decidable P] {v : Option Nat} (h : ¬ P) : o_A6 P v = (-1, 1) := if_neg h
/-- a set, laid -/
def o_mk (P : Nat → Bool) : Nat → Int64
  | 0 => 0
  | n + 1 => if P n then o_mk P n ||| ((1 : Int64) <<< ((i_n n).toInt64 &&& (63 : Int64))) else o_mk P n
theorem o_mk_is {P : Nat → Bool} : ∀ n, n ≤ 64 → o_is (o_mk P n) n P
  | 0, _ => o_is.zero
  | n + 1, hn => by
    have ih := o_mk_is (P := P) n (by omega)
    rw [o_mk]
    by_cases hp : P n = true
    · rw [if_pos hp]; exact ih.t (by omega) hp
    · rw [if_neg hp]; exact ih.f (by simpa using hp)
theorem o_is.eq {s : Int64} {n : Nat} {P : Nat → Bool} (x : o_is s n P) (hn : n ≤ 64) : s = o_mk P n := x.ext (o_mk_is n hn)
/-- the class as it is asked: its town is the course's -/
def i_ST (a : Nat → Nat) (t : Nat) (h : iH) : Prop := i_CO a t h ∧ fR h 0 5 = t
theorem i_ST.l (g : i_ST a t h) : i_Lay h := g.1.l
theorem i_ST.w (g : i_ST a t h) : o_WF a := g.1.w
theorem i_ST.tw (g : i_ST a t h) : i_fld h 0 11 5 = some (.ref t) := by
  have := g.l.fw (q := 0) (ci := 11) (b := 5) rfl rfl rfl
  rw [g.2] at this
  exact this
theorem i_ST.T (g : i_ST a t h) : i_T t := g.1.T
theorem i_ST.ct (g : i_ST a t h) : i_CT a t h := g.1.ct
theorem i_ST.fr {h2 : iH} {A : List Nat} {F : List (Nat × Nat)} (g : i_ST a t h) (hL : i_Lay h2) (f : i_Fr A F h h2) (hA : ∀ p, p ∈ A → 107 < p) (hF : ∀ q, q ∈ F → (q.1 = 0 ∧ q.2 ≠ 5) ∨ 96 < q.1) : i_ST a t h2 := by
  refine ⟨g.1.fr hL f hA (fun q hq => by have := hF q hq; omega), ?_⟩
  rw [f.vR (fun z => by have := hF _ z; omega)]
  exact g.2
theorem i_ST.co {h2 : iH} (g : i_ST a t h) (c : i_CO a t h2) (f : i_Fr [99, 100, 106, 107] [] h h2) : i_ST a t h2 := ⟨c, by rw [f.vR (by decide)]; exact g.2⟩
abbrev i_F0 (h h2 : iH) : Prop := i_Fr [99, 100, 106, 107] [(0, 0)] h h2
theorem i_Fr.z {h2 : iH} (f : i_Fr [99, 100, 106, 107] [] h h2) : i_F0 h h2 := f.mono (fun _ z => z) (fun _ z => absurd z (by simp))
theorem i_ST.s0 (g : i_ST a t h) (y : Int32) : i_ST a t (i_sf h 0 0 (.int y)) ∧ i_F0 h (i_sf h 0 0 (.int y)) ∧ fI (i_sf h 0 0 (.int y)) 0 0 = y := by
  have f : i_Fr [] [(0, 0)] h (i_sf h 0 0 (.int y)) := i_Fr.refl.sf (by decide)
  refine ⟨g.fr (g.l.sf g.l.q0_0 rfl) f (by decide) (by decide), f.mono (by decide) (by decide), x_fI_sf g.l.q0_0⟩
theorem m179 (g : i_ST a t h) {y : Int32} (H : ∀ h2, i_ST a t h2 → i_F0 h h2 → fI h2 0 0 = y → Q (some (.int (-1))) h2) : i_C i_MT i_AT L xs 179 [.ref 0, .int y] h Q := c179 g.l.q0_0 (H _ (g.s0 y).1 (g.s0 y).2.1 (g.s0 y).2.2)
theorem m180 (g : i_ST a t h) {y : Int32} (H : ∀ h2, i_ST a t h2 → i_F0 h h2 → fI h2 0 0 = y → Q (some (.int 0)) h2) : i_C i_MT i_AT L xs 180 [.ref 0, .int y] h Q := c180 g.l.q0_0 (H _ (g.s0 y).1 (g.s0 y).2.1 (g.s0 y).2.2)
theorem m181 (g : i_ST a t h) {y : Int32} (H : ∀ h2, i_ST a t h2 → i_F0 h h2 → fI h2 0 0 = 0 → Q (some (.int y)) h2) : i_C i_MT i_AT L xs 181 [.ref 0, .int y] h Q := c181 g.l.q0_0 (H _ (g.s0 0).1 (g.s0 0).2.1 (g.s0 0).2.2)
theorem m182 (g : i_ST a t h) {y : Int64} (H : ∀ h2, i_ST a t h2 → i_F0 h h2 → fI h2 0 0 = 0 → Q (some (.long y)) h2) : i_C i_MT i_AT L xs 182 [.ref 0, .long y] h Q := c182 g.l.q0_0 (H _ (g.s0 0).1 (g.s0 0).2.1 (g.s0 0).2.2)
theorem m184 (g : i_ST a t h) (H : ∀ h2, i_ST a t h2 → i_F0 h h2 → fI h2 0 0 = 0 → Q (some (.int 1)) h2) : i_C i_MT i_AT L xs 184 [.ref 0] h Q := c184 g.l.q0_0 (H _ (g.s0 0).1 (g.s0 0).2.1 (g.s0 0).2.2)
/-- an answer of the class that leaves but its status -/
def i_K0 (a : Nat → Nat) (t : Nat) (h : iH) (Q : Option Value → iH → Prop) (z : Int32 × Int32) : Prop := ∀ h2, i_ST a t h2 → i_F0 h h2 → fI h2 0 0 = z.2 → Q (some (.int z.1)) h2
theorem c186 (g : i_ST a t h) {x : Int32} (H : Q (some (.int (i_bo (v_p a x)))) h) : i_C i_MT i_AT L xs 186 [.ref 0, .int x] h Q := by
  have hN := g.ct.2.2.2.2.2.2.2.1.1
  refine e186 (d186_0 g.l ⟨fun z => d186_22 g.l (d186_23 g.l ⟨rfl, ?_⟩), fun z => ⟨t, g.tw, g.T, ?_⟩⟩)
  · rw [i_bo_f (fun q => absurd q.1 (Int32.not_le.mpr z))] at H; exact H
  rw [hN]
  refine ⟨fun z2 => d186_22 g.l (d186_23 g.l ⟨rfl, ?_⟩), fun z2 => d186_23 g.l ⟨rfl, ?_⟩⟩
  · rw [i_bo_f (fun q => absurd q.2 (Int32.not_lt.mpr z2))] at H; exact H
  · rw [i_bo_t ⟨Int32.not_lt.mp z, Int32.not_le.mp z2⟩] at H; exact H
theorem c187 (g : i_ST a t h) {x y : Int32} (H : Q (some (.int (i_bo (v_2 a x y)))) h) : i_C i_MT i_AT L xs 187 [.ref 0, .int x, .int y] h Q := by
  have no : ¬ v_2 a x y → i_P i_MT i_AT L xs 187 25 [some (.ref 0), some (.int x), some (.int y)] [] h 0 0 Q := by
    intro z
    rw [i_bo_f z] at H
    exact d187_25 g.l (d187_26 g.l ⟨rfl, H⟩)
  refine e187 (d187_0 g.l (c186 g ⟨_, rfl, d187_5 g.l ?_⟩))
  rw [i_bo_0, Classical.not_not]
  refine ⟨fun z => no (fun q => z q.1), fun z => c186 g ⟨_, rfl, d187_13 g.l ?_⟩⟩
  rw [i_bo_0, Classical.not_not]
  refine ⟨fun z2 => no (fun q => z2 q.2.1), fun z2 => ⟨fun z3 => no (fun q => q.2.2 z3), fun z3 => d187_26 g.l ⟨rfl, ?_⟩⟩⟩
  rw [i_bo_t ⟨z, z2, z3⟩] at H
  exact H
theorem c188 (g : i_ST a t h) {x : Int32} (H : Q (some (.int (i_bo (v_c a x)))) h) : i_C i_MT i_AT L xs 188 [.ref 0, .int x] h Q := by
  have hN := g.1.2.1.1.2.2
  refine e188 (d188_0 g.l ⟨fun z => d188_22 g.l (d188_23 g.l ⟨rfl, ?_⟩), fun z => ?_⟩)
  · rw [i_bo_f (fun q => absurd q.1 (Int32.not_le.mpr z))] at H; exact H
  rw [hN]
  refine ⟨fun z2 => d188_22 g.l (d188_23 g.l ⟨rfl, ?_⟩), fun z2 => d188_23 g.l ⟨rfl, ?_⟩⟩
  · rw [i_bo_f (fun q => absurd q.2 (Int32.not_lt.mpr z2))] at H; exact H
  · rw [i_bo_t ⟨Int32.not_lt.mp z, Int32.not_le.mp z2⟩] at H; exact H
theorem c189 (g : i_ST a t h) {x : Int32} (H : Q (some (.int (i_bo (v_f a x)))) h) : i_C i_MT i_AT L xs 189 [.ref 0, .int x] h Q := by
  have h48 := g.w.c48
  have no : ¬ v_f a x → i_P i_MT i_AT L xs 189 26 [some (.ref 0), some (.int x)] [] h 0 0 Q := by
    intro z
    rw [i_bo_f z] at H
    exact d189_26 g.l (d189_27 g.l ⟨rfl, H⟩)
  refine e189 (d189_0 g.l (c188 g ⟨_, rfl, d189_5 g.l ?_⟩))
  rw [i_bo_0, Classical.not_not]
  refine ⟨fun z => no (fun q => z q.1), fun z => ⟨t, g.tw, g.T, ?_⟩⟩
  obtain ⟨c, hc, rfl⟩ := n_get z (by omega)
  refine c193 (by omega) ⟨_, rfl, d189_19 g.l ?_⟩
  rw [i_bo_0, Classical.not_not, g.ct.2.1.b hc (by omega)]
  refine ⟨fun z2 => no (fun q => ?_), fun z2 => d189_27 g.l ⟨rfl, ?_⟩⟩
  · have := q.2
    rw [n_cl (by omega)] at this
    rw [this] at z2
    cases z2
  · rw [i_bo_t ⟨z, by rw [n_cl (by omega)]; simpa using z2⟩] at H
    exact H
end
