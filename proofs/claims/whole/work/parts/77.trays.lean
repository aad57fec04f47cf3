/-! TRAYS -/
section
variable {L : Nat} {xs : Nat → Int32} {h : iH} {Q : Option Value → iH → Prop} {a : Nat → Nat} {t : Nat} {z q : Nat → Nat} {v : Nat → Nat → Int64}
set_option maxRecDepth 20000
/-- how many numbers a tray has, none: it is missing -/
def o_zI : Nat → Int32
  | 0 => i_m
  | n + 1 => i_n n
def o_TW (z q : Nat → Nat) : Prop := ∀ j, j < 4 → z j ≤ 61 ∧ q j ≤ 3
def i_TC (z q : Nat → Nat) (v : Nat → Nat → Int64) (h : iH) : Prop := ∀ j, j < 4 → aI h 8 j = o_zI (z j) ∧ aI h 7 j = i_n (q j) ∧ ∀ k, k + 1 < z j → aJ h (3 + j) k = v j k
def i_TR (z q : Nat → Nat) (v : Nat → Nat → Int64) (h : iH) : Prop := ∀ j, j < 4 → aI h 144 j = o_zI (z j) ∧ aI h 143 j = i_n (q j) ∧ ∀ k, k + 1 < z j → aJ h 145 (60 * j + k) = v j k
abbrev i_FTr (h h2 : iH) : Prop := i_Fr [3, 4, 5, 6, 7, 8] [(0, 0)] h h2
abbrev i_GTr (h h2 : iH) : Prop := i_Fr [143, 144, 145] [(138, 4)] h h2
theorem i_TC.fr {h2 : iH} {A : List Nat} {F : List (Nat × Nat)} (g : i_TC z q v h) (f : i_Fr A F h h2) (hA : ∀ p, p ∈ [3, 4, 5, 6, 7, 8] → p ∉ A) : i_TC z q v h2 := by
  intro j hj
  have hp : (3 + j) ∈ [3, 4, 5, 6, 7, 8] := by simp; omega
  rw [f.rI (hA 8 (by decide)), f.rI (hA 7 (by decide)), f.rJ (hA (3 + j) hp)]
  exact g j hj
theorem i_TR.fr {h2 : iH} {A : List Nat} {F : List (Nat × Nat)} (g : i_TR z q v h) (f : i_Fr A F h h2) (hA : ∀ p, p ∈ [143, 144, 145] → p ∉ A) : i_TR z q v h2 := by
  intro j hj
  rw [f.rI (hA 144 (by decide)), f.rI (hA 143 (by decide)), f.rJ (hA 145 (by decide))]
  exact g j hj
theorem o_zI_m {n : Nat} (hn : n ≤ 61) : o_zI n = i_m ↔ n = 0 := by
  cases n with
  | zero => exact ⟨fun _ => rfl, fun _ => rfl⟩
  | succ k =>
    constructor
    · intro e
      unfold o_zI at e
      rw [n_eqm (by omega)] at e
      exact e.elim
    · intro e; cases e
theorem o_zI_s {n : Nat} (hn : n ≠ 0) : o_zI n = i_n (n - 1) := by
  cases n with
  | zero => exact absurd rfl hn
  | succ k => rfl
abbrev v_tr (x : Int32) : Prop := 0 ≤ x ∧ x < i_n 4
/-- what is wrong with a place -/
def o_plc (z : Nat → Nat) (x p : Int32) : Int32 := if v_tr x then (if z x.toNatClampNeg = 0 then 2 else if 0 ≤ p ∧ p < i_n (z x.toNatClampNeg - 1) then 0 else 3) else 1
theorem c117 (hL : i_Lay h) {x : Int32} (H : Q (some (.int (i_bo (v_tr x)))) h) : i_C i_MT i_AT L xs 117 [.int x] h Q := by
  refine e117 (d117_0 hL ⟨fun h1 => d117_13 hL (d117_14 hL ⟨rfl, ?_⟩), fun h1 => ⟨fun h2 => d117_13 hL (d117_14 hL ⟨rfl, ?_⟩), fun h2 => d117_14 hL ⟨rfl, ?_⟩⟩⟩)
  · rw [i_bo_f (fun z => absurd z.1 (Int32.not_le.mpr h1))] at H; exact H
  · rw [i_bo_f (fun z => absurd z.2 (Int32.not_lt.mpr h2))] at H; exact H
  · rw [i_bo_t ⟨Int32.not_lt.mp h1, Int32.not_le.mp h2⟩] at H; exact H
theorem c205 (hL : i_Lay h) {x : Int32} (H : Q (some (.int (i_bo (v_tr x)))) h) : i_C i_MT i_AT L xs 205 [.int x] h Q := by
  refine e205 (d205_0 hL ⟨fun h1 => d205_13 hL (d205_14 hL ⟨rfl, ?_⟩), fun h1 => ⟨fun h2 => d205_13 hL (d205_14 hL ⟨rfl, ?_⟩), fun h2 => d205_14 hL ⟨rfl, ?_⟩⟩⟩)
  · rw [i_bo_f (fun z => absurd z.1 (Int32.not_le.mpr h1))] at H; exact H
  · rw [i_bo_f (fun z => absurd z.2 (Int32.not_lt.mpr h2))] at H; exact H
  · rw [i_bo_t ⟨Int32.not_lt.mp h1, Int32.not_le.mp h2⟩] at H; exact H
theorem c118 (hL : i_Lay h) (w : o_TW z q) (g : i_TC z q v h) {j : Nat} (hj : j < 4) (H : Q (some (.int (i_bo (z j = 0)))) h) : i_C i_MT i_AT L xs 118 [.ref 1, .int (i_n j)] h Q := by
  refine e118 (d118_0 hL ?_)
  rw [n_cl (by omega), (g j hj).1, show (-1 : Int32) = i_m from rfl, o_zI_m (w j hj).1]
  try simp (disch := omega) only [n_lit, n_m, n_add, n_mul, n_div, n_mod, n_cl, n_lt, n_le, n_eq, n_in, n_eqm, n_meq, n_mlt, n_ltm, n_mle, n_lem, not_true_eq_false, not_false_eq_true, true_implies, false_implies, true_and, and_true, Nat.not_lt_zero, Nat.zero_le]
  refine ⟨by omega, fun e => d118_15 hL ⟨rfl, ?_⟩, fun e => d118_15 hL ⟨rfl, ?_⟩⟩
  · rw [i_bo_f e] at H; exact H
  · rw [i_bo_t (Classical.not_not.mp e)] at H; exact H
theorem c120 (hL : i_Lay h) (w : o_TW z q) (g : i_TC z q v h) {x p : Int32} (H : Q (some (.int (o_plc z x p))) h) : i_C i_MT i_AT L xs 120 [.ref 1, .int x, .int p] h Q := by
  unfold o_plc at H
  refine e120 (d120_0 hL (c117 hL ⟨_, rfl, d120_4 hL ?_⟩))
  rw [i_bo_0, Classical.not_not]
  refine ⟨fun e => ?_, fun e => by rw [if_neg e] at H; exact H⟩
  rw [if_pos e] at H
  obtain ⟨j, hj, rfl⟩ := n_get e (by omega)
  rw [n_cl (by omega)] at H
  refine c118 hL w g hj ⟨_, rfl, d120_14 hL ?_⟩
  rw [i_bo_0, Classical.not_not]
  rw [n_cl (by omega), (g j hj).1]
  have h61 := (w j hj).1
  refine ⟨fun e2 => ?_, fun e2 => by rw [if_pos e2] at H; exact H⟩
  rw [if_neg e2] at H
  rw [o_zI_s e2]
  have bad : ¬ (0 ≤ p ∧ p < i_n (z j - 1)) → i_P i_MT i_AT L xs 120 37 [some (.ref 1), some (.int (i_n j)), some (.int p)] [] h 0 0 Q := by
    intro e3
    rw [if_neg e3] at H
    exact d120_37 hL (d120_38 hL H)
  refine ⟨fun e3 => bad (fun q => absurd q.1 (Int32.not_le.mpr e3)), fun e3 => ⟨(n_in (by omega)).mpr hj, fun e4 => bad (fun q => absurd q.2 (Int32.not_lt.mpr e4)), fun e4 => d120_38 hL ?_⟩⟩
  rw [if_pos ⟨Int32.not_lt.mp e3, Int32.not_le.mp e4⟩] at H
  exact H
/-- a number cut to a sort -/
def o_cut (x : Int64) (s : Nat) : Int64 := if s = 0 then x.toInt32.toInt8.toInt32.toInt64 else if s = 1 then x.toInt32.toInt16.toInt32.toInt64 else if s = 2 then x.toInt32.toInt64 else x
def o_upv (v : Nat → Nat → Int64) (j k : Nat) (x : Int64) : Nat → Nat → Int64 := fun j2 k2 => if j2 = j ∧ k2 = k then x else v j2 k2
theorem i_TC.put (hL : i_Lay h) (g : i_TC z q v h) {j k : Nat} {x : Int64} (hj : j < 4) : i_TC z q (o_upv v j k x) (i_siJ h (3 + j) k x) ∧ i_FTr h (i_siJ h (3 + j) k x) := by
  have f : i_Fr [3 + j] [] h (i_siJ h (3 + j) k x) := i_Fr.refl.siJ List.mem_cons_self
  refine ⟨fun j2 hj2 => ?_, f.mono (fun p hp => by simp only [List.mem_cons, List.not_mem_nil, or_false] at hp ⊢; omega) (fun _ e => absurd e (by simp))⟩
  rw [f.rI (by simp; omega), f.rI (by simp; omega)]
  refine ⟨(g j2 hj2).1, (g j2 hj2).2.1, fun k2 hk2 => ?_⟩
  unfold o_upv
  by_cases e : j2 = j
  · subst e
    rw [x_aJ_siJ (hL.row hj), x_updJ]
    by_cases e2 : k2 = k
    · rw [if_pos e2, if_pos ⟨rfl, e2⟩]
    · rw [if_neg e2, if_neg (fun z => e2 z.2)]; exact (g j2 hj2).2.2 k2 hk2
  · rw [f.rJ (by simp; omega), if_neg (fun z => e z.1)]
    exact (g j2 hj2).2.2 k2 hk2
theorem c121 (hL : i_Lay h) (w : o_TW z q) (g : i_TC z q v h) {j k : Nat} {x : Int64} (hj : j < 4) (hk : k < 60) (H : ∀ h2, i_Lay h2 → i_FTr h h2 → i_TC z q (o_upv v j k (o_cut x (q j))) h2 → Q none h2) : i_C i_MT i_AT L xs 121 [.ref 1, .int (i_n j), .int (i_n k), .long x] h Q := by
  have h3 := (w j hj).2
  refine e121 (d121_0 hL ?_)
  rw [n_cl (by omega), n_cl (by omega), (g j hj).2.1]
  have hin : i_in (i_n j) 4 := (n_in (by omega)).mpr hj
  have hik : i_in (i_n k) 60 := (n_in (by omega)).mpr hk
  have fin : ∀ x2, o_cut x (q j) = x2 → i_Lay (i_siJ h (3 + j) k x2) ∧ Q none (i_siJ h (3 + j) k x2) := by
    intro x2 e
    have := g.put hL (k := k) (x := x2) hj
    refine ⟨hL.siJ, H _ hL.siJ this.2 ?_⟩
    rw [e]; exact this.1
  unfold o_cut at fin
  have hq : q j = 0 ∨ q j = 1 ∨ q j = 2 ∨ q j = 3 := by omega
  rw [n_int (by omega)]
  refine ⟨hin, fun e => ⟨hin, hik, ?_⟩, fun e => ⟨hin, hik, ?_⟩, fun e => ⟨hin, hik, ?_⟩, fun e => ⟨hin, hik, ?_⟩⟩
  · have := fin x (by rw [if_neg (by omega), if_neg (by omega), if_neg (by omega)])
    exact d121_85 this.1 this.2
  · have := fin _ (by rw [if_pos (by omega)])
    exact d121_44 this.1 (d121_85 this.1 this.2)
  · have := fin _ (by rw [if_neg (by omega), if_pos (by omega)])
    exact d121_59 this.1 (d121_85 this.1 this.2)
  · have := fin _ (by rw [if_neg (by omega), if_neg (by omega), if_pos (by omega)])
    exact d121_73 this.1 (d121_85 this.1 this.2)
theorem i_ST.tr (g : i_ST a t h) {h2 : iH} (hL : i_Lay h2) (f : i_FTr h h2) : i_ST a t h2 := by
  have c := g.1
  have f7 : i_Fr [3, 4, 5, 6, 7, 8] [(0, 0)] h h2 := f
  refine ⟨⟨⟨hL, c.1.2.1, c.1.2.2.1, ?_, ?_, ?_, ?_, ?_⟩, ?_, ?_, ?_⟩, ?_⟩
  · rw [f.vR (by decide)]; exact c.1.2.2.2.1
  · have hT := c.1.2.2.1
    refine c.1.2.2.2.2.1.fr f (fun k h1 h2 => ?_) (fun b => ⟨?_, ?_⟩)
    · rcases hT with e | e <;> rw [e] <;> simp <;> omega
    · rcases hT with e | e <;> rw [e] <;> simp
    · rcases hT with e | e <;> rw [e] <;> simp
  · rw [f.rJ (by decide)]; exact c.1.2.2.2.2.2.1
  · rw [f.rI (by decide), f.rI (by decide), f.rI (by decide)]; exact c.1.2.2.2.2.2.2.1
  · rw [f.rI (by decide)]; exact c.1.2.2.2.2.2.2.2
  · exact c.2.1.fr f (by decide) (fun b _ => by simp)
  · unfold i_VW; rw [f.rJ (by decide)]; exact c.2.2.1
  · unfold i_WG; rw [f.rI (by decide)]; exact c.2.2.2
  · rw [f.vR (by decide)]; exact g.2
theorem i_F0.tr {h2 : iH} (f : i_F0 h h2) (g : i_TC z q v h) : i_TC z q v h2 := g.fr f (by decide)
theorem o_plc_0 {x p : Int32} (w : o_TW z q) (e : o_plc z x p = 0) : ∃ j k, x = i_n j ∧ p = i_n k ∧ j < 4 ∧ k + 1 < z j := by
  unfold o_plc at e
  split at e
  · rename_i hx
    split at e
    · exact absurd e (by decide)
    · rename_i hz
      split at e
      · rename_i hp
        obtain ⟨j, hj, rfl⟩ := n_get hx (by omega)
        rw [n_cl (by omega)] at hz hp
        have := (w j hj).1
        obtain ⟨k, hk, rfl⟩ := n_get hp (by omega)
        exact ⟨j, k, rfl, rfl, hj, by omega⟩
      · exact absurd e (by decide)
  · exact absurd e (by decide)
/-- truth of an answer -/
def o_tf (s : Int32) : Int32 := if s = 0 then 1 else 0
theorem c133 (g : i_ST a t h) (w : o_TW z q) (k : i_TC z q v h) {x p : Int32} {y : Int64} (H1 : o_plc z x p ≠ 0 → ∀ h2, i_ST a t h2 → i_F0 h h2 → fI h2 0 0 = o_plc z x p → Q (some (.int 0)) h2) (H2 : ∀ j i, x = i_n j → p = i_n i → j < 4 → i + 1 < z j → o_plc z x p = 0 → ∀ h2, i_ST a t h2 → i_Fr (3 :: 4 :: 5 :: 6 :: 7 :: 8 :: [99, 100, 106, 107]) [(0, 0)] h h2 → i_TC z q (o_upv v j i (o_cut y (q j))) h2 → fI h2 0 0 = 0 → Q (some (.int 1)) h2) : i_C i_MT i_AT L xs 133 [.ref 0, .int x, .int p, .long y] h Q := by
  refine e133 (d133_0 g.l (c120 g.l w k ⟨_, rfl, d133_9 g.l ⟨fun e => ?_, fun e => ?_⟩⟩))
  · obtain ⟨j, i, rfl, rfl, hj, hi⟩ := o_plc_0 w e
    have := (w j hj).1
    refine c121 g.l w k hj (by omega) (fun h1 hL1 f1 k1 => ⟨rfl, ?_⟩)
    have G1 := g.tr hL1 f1
    exact d133_33 G1.l (m184 G1 (fun h2 g2 f2 s2 => ⟨_, rfl, d133_37 g2.l ⟨rfl, H2 j i rfl rfl hj hi e h2 g2 ((f1.mono (by decide) (by decide)).trans (f2.mono (by decide) (by decide))) (i_F0.tr f2 k1) s2⟩⟩))
  · exact m180 g (fun h2 g2 f2 s2 => ⟨_, rfl, d133_22 g2.l ⟨rfl, H1 e h2 g2 f2 s2⟩⟩)
theorem c122 (hL : i_Lay h) (k : i_TC z q v h) {j i : Nat} (hj : j < 4) (hi : i + 1 < z j) (h60 : i < 60) (H : Q (some (.long (v j i))) h) : i_C i_MT i_AT L xs 122 [.ref 1, .int (i_n j), .int (i_n i)] h Q := by
  refine e122 (d122_0 hL ?_)
  rw [n_cl (by omega), n_cl (by omega), (k j hj).2.2 i hi]
  exact ⟨(n_in (by omega)).mpr hj, (n_in (by omega)).mpr h60, H⟩
theorem c134 (g : i_ST a t h) (w : o_TW z q) (k : i_TC z q v h) {x p : Int32} (H1 : o_plc z x p ≠ 0 → ∀ h2, i_ST a t h2 → i_F0 h h2 → fI h2 0 0 = o_plc z x p → Q (some (.long (-1))) h2) (H2 : ∀ j i, x = i_n j → p = i_n i → j < 4 → i + 1 < z j → o_plc z x p = 0 → ∀ h2, i_ST a t h2 → i_F0 h h2 → fI h2 0 0 = 0 → Q (some (.long (v j i))) h2) : i_C i_MT i_AT L xs 134 [.ref 0, .int x, .int p] h Q := by
  refine e134 (d134_0 g.l (c120 g.l w k ⟨_, rfl, d134_9 g.l ⟨fun e => ?_, fun e => ?_⟩⟩))
  · obtain ⟨j, i, rfl, rfl, hj, hi⟩ := o_plc_0 w e
    have := (w j hj).1
    exact c122 g.l k hj hi (by omega) ⟨_, rfl, d134_31 g.l (m182 g (fun h2 g2 f2 s2 => ⟨_, rfl, d134_34 g2.l (H2 j i rfl rfl hj hi e h2 g2 f2 s2)⟩))⟩
  · exact m179 g (fun h2 g2 f2 s2 => ⟨_, rfl, d134_19 g2.l (H1 e h2 g2 f2 s2)⟩)
/-- a tray laid -/
abbrev v_ly (x y n : Int32) : Prop := v_tr x ∧ (0 ≤ y ∧ y ≤ 3) ∧ (0 ≤ n ∧ n ≤ 60)
def o_up (f : Nat → Nat) (j x : Nat) : Nat → Nat := fun k => if k = j then x else f k
def o_upz (v : Nat → Nat → Int64) (j : Nat) : Nat → Nat → Int64 := fun j2 k2 => if j2 = j then 0 else v j2 k2
theorem c119 (hL : i_Lay h) (k : i_TC z q v h) {j y n : Nat} (hj : j < 4) (hy : y ≤ 3) (hn : n ≤ 60) (H : ∀ h2, i_Lay h2 → i_FTr h h2 → i_TC (o_up z j (n + 1)) (o_up q j y) (o_upz v j) h2 → Q none h2) : i_C i_MT i_AT L xs 119 [.ref 1, .int (i_n j), .int (i_n y), .int (i_n n)] h Q := by
  refine e119 (d119_0 hL ?_)
  rw [n_cl (by omega)]
  have hin : i_in (i_n j) 4 := (n_in (by omega)).mpr hj
  refine ⟨hin, c348 hL (hL.row hj) (by omega) (fun h1 hL1 f1 e1 => ⟨rfl, d119_10 hL1 ⟨hin, ?_⟩⟩)⟩
  rw [n_cl (by omega)]
  have f2 : i_Fr [7] [] h1 (i_siI h1 7 j (i_n y)) := i_Fr.refl.siI List.mem_cons_self
  refine d119_17 hL1.siI ⟨hin, ?_⟩
  rw [n_cl (by omega)]
  have hL2 : i_Lay (i_siI h1 7 j (i_n y)) := hL1.siI
  have f3 : i_Fr [8] [] (i_siI h1 7 j (i_n y)) (i_siI (i_siI h1 7 j (i_n y)) 8 j (i_n n)) := i_Fr.refl.siI List.mem_cons_self
  refine d119_24 hL2.siI (H _ hL2.siI ?_ ?_)
  · have q1 : i_FTr h h1 := f1.mono (fun p hp => by simp only [List.mem_cons, List.not_mem_nil, or_false] at hp ⊢; omega) (fun _ e => absurd e (by simp))
    exact (q1.trans (f2.mono (by decide) (by decide))).trans (f3.mono (by decide) (by decide))
  · intro j2 hj2
    unfold o_up o_upz
    rw [x_aI_siI hL2.a8, x_upd, f3.rI (by decide), x_aI_siI hL1.a7, x_upd, f3.rJ (by simp; omega), f2.rJ (by simp; omega), f2.rI (by decide), f1.rI (by simp; omega), f1.rI (by simp; omega)]
    by_cases e : j2 = j
    · subst e
      rw [if_pos rfl, if_pos rfl, if_pos rfl, if_pos rfl]
      refine ⟨rfl, rfl, fun i hi => ?_⟩
      rw [if_pos rfl]
      exact e1 i (by omega)
    · rw [if_neg e, if_neg e, if_neg e, if_neg e, f1.rJ (by simp; omega)]
      refine ⟨(k j2 hj2).1, (k j2 hj2).2.1, fun i hi => ?_⟩
      rw [if_neg e]
      exact (k j2 hj2).2.2 i hi
theorem c132 (g : i_ST a t h) (k : i_TC z q v h) {x y n : Int32} (H1 : ¬ v_ly x y n → ∀ h2, i_ST a t h2 → i_F0 h h2 → fI h2 0 0 = 1 → Q (some (.int 0)) h2) (H2 : ∀ j s m, x = i_n j → y = i_n s → n = i_n m → j < 4 → s ≤ 3 → m ≤ 60 → ∀ h2, i_ST a t h2 → i_Fr (3 :: 4 :: 5 :: 6 :: 7 :: 8 :: [99, 100, 106, 107]) [(0, 0)] h h2 → i_TC (o_up z j (m + 1)) (o_up q j s) (o_upz v j) h2 → fI h2 0 0 = 0 → Q (some (.int 1)) h2) : i_C i_MT i_AT L xs 132 [.ref 0, .int x, .int y, .int n] h Q := by
  have bad : ¬ v_ly x y n → i_P i_MT i_AT L xs 132 26 [some (.ref 0), some (.int x), some (.int y), some (.int n)] [] h 0 0 Q := fun e => d132_26 g.l (m180 g (fun h2 g2 f2 s2 => ⟨_, rfl, d132_31 g2.l ⟨rfl, H1 e h2 g2 f2 s2⟩⟩))
  refine e132 (d132_0 g.l (c117 g.l ⟨_, rfl, d132_4 g.l ?_⟩))
  rw [i_bo_0, Classical.not_not]
  refine ⟨fun e => bad (fun q => e q.1), fun e => c192 ⟨_, rfl, d132_13 g.l ?_⟩⟩
  rw [i_bo_0, Classical.not_not]
  refine ⟨fun e2 => bad (fun q => e2 q.2.1), fun e2 => c192 ⟨_, rfl, d132_23 g.l ?_⟩⟩
  rw [i_bo_0, Classical.not_not]
  refine ⟨fun e3 => ?_, fun e3 => bad (fun q => e3 q.2.2)⟩
  obtain ⟨j, hj, rfl⟩ := n_get e (by omega)
  obtain ⟨s, hs, rfl⟩ := n_gle (k := 3) e2 (by omega)
  obtain ⟨m, hm, rfl⟩ := n_gle (k := 60) e3 (by omega)
  refine c119 g.l k hj hs hm (fun h1 hL1 f1 k1 => ⟨rfl, ?_⟩)
  have G1 := g.tr hL1 f1
  exact d132_42 G1.l (m184 G1 (fun h2 g2 f2 s2 => ⟨_, rfl, d132_46 g2.l ⟨rfl, H2 j s m rfl rfl rfl hj hs hm h2 g2 ((f1.mono (by decide) (by decide)).trans (f2.mono (by decide) (by decide))) (i_F0.tr f2 k1) s2⟩⟩))
/-- what is wrong with a pour -/
def o_pou (z q : Nat → Nat) (x p y r n : Int32) : Int32 := if v_tr x ∧ v_tr y ∧ 0 ≤ p ∧ 0 ≤ r ∧ 0 ≤ n then
    (if z x.toNatClampNeg = 0 ∨ z y.toNatClampNeg = 0 then 2 else if q x.toNatClampNeg = q y.toNatClampNeg then
      (if p.toNatClampNeg + n.toNatClampNeg < z x.toNatClampNeg ∧ r.toNatClampNeg + n.toNatClampNeg < z y.toNatClampNeg then 0 else 3) else 8) else 1
def o_pov (v : Nat → Nat → Int64) (x p y r n : Nat) : Nat → Nat → Int64 := fun j k => if j = y ∧ r ≤ k ∧ k < r + n then v x (p + (k - r)) else v j k
theorem n_nn {x : Int32} (hx : 0 ≤ x) : ∃ p, p < 2147483648 ∧ x = i_n p := by
  rcases n_cases x with e | e
  · exact e
  · exact absurd hx (Int32.not_le.mpr e)
theorem n_sub_lt {s n p : Nat} (hs : s ≤ 60) (hn : n < 2147483648) (hp : p < 2147483648) : i_n s - i_n n < i_n p ↔ s < p + n := by
  rw [n_sz, Int32.lt_iff_toInt_lt, n_int hp, Int32.toInt_ofInt_of_le (by omega) (by omega)]
  omega
theorem n_le_sub {s n p : Nat} (hs : s ≤ 60) (hn : n < 2147483648) (hp : p < 2147483648) : i_n p ≤ i_n s - i_n n ↔ p + n ≤ s := by
  rw [n_sz, Int32.le_iff_toInt_le, n_int hp, Int32.toInt_ofInt_of_le (by omega) (by omega)]
  omega
theorem c123 (hL : i_Lay h) (w : o_TW z q) (k : i_TC z q v h) {x p y r n : Int32} (H : Q (some (.int (o_pou z q x p y r n))) h) : i_C i_MT i_AT L xs 123 [.ref 1, .int x, .int p, .int y, .int r, .int n] h Q := by
  unfold o_pou at H
  have bad : ¬ (v_tr x ∧ v_tr y ∧ 0 ≤ p ∧ 0 ≤ r ∧ 0 ≤ n) → i_P i_MT i_AT L xs 123 28 [some (.ref 1), some (.int x), some (.int p), some (.int y), some (.int r), some (.int n)] [] h 0 0 Q := by
    intro e
    rw [if_neg e] at H
    exact d123_28 hL H
  refine e123 (d123_0 hL (c117 hL ⟨_, rfl, d123_4 hL ?_⟩))
  rw [i_bo_0, Classical.not_not]
  refine ⟨fun e => bad (fun q => e q.1), fun e => c117 hL ⟨_, rfl, d123_11 hL ?_⟩⟩
  rw [i_bo_0, Classical.not_not]
  refine ⟨fun e2 => bad (fun q => e2 q.2.1), fun e2 => ⟨fun e3 => bad (fun q => absurd q.2.2.1 (Int32.not_le.mpr e3)), fun e3 => ⟨fun e4 => bad (fun q => absurd q.2.2.2.1 (Int32.not_le.mpr e4)), fun e4 => ⟨fun e5 => ?_, fun e5 => bad (fun q => e5 q.2.2.2.2)⟩⟩⟩⟩
  rw [if_pos ⟨e, e2, Int32.not_lt.mp e3, Int32.not_lt.mp e4, e5⟩] at H
  obtain ⟨j, hj, rfl⟩ := n_get e (by omega)
  obtain ⟨l, hl, rfl⟩ := n_get e2 (by omega)
  obtain ⟨p, hp, rfl⟩ := n_nn (Int32.not_lt.mp e3)
  obtain ⟨r, hr, rfl⟩ := n_nn (Int32.not_lt.mp e4)
  obtain ⟨n, hn, rfl⟩ := n_nn e5
  rw [n_cl (by omega), n_cl (by omega), n_cl hp, n_cl hr, n_cl hn] at H
  have zj := (w j hj).1
  have zl := (w l hl).1
  have qj := (w j hj).2
  have ql := (w l hl).2
  have miss : (z j = 0 ∨ z l = 0) → i_P i_MT i_AT L xs 123 46 [some (.ref 1), some (.int (i_n j)), some (.int (i_n p)), some (.int (i_n l)), some (.int (i_n r)), some (.int (i_n n))] [] h 0 0 Q := by
    intro e
    rw [if_pos e] at H
    exact d123_46 hL H
  refine c118 hL w k hj ⟨_, rfl, d123_35 hL ?_⟩
  rw [i_bo_0, Classical.not_not]
  refine ⟨fun e6 => miss (Or.inl e6), fun e6 => c118 hL w k hl ⟨_, rfl, d123_43 hL ?_⟩⟩
  rw [i_bo_0, Classical.not_not]
  refine ⟨fun e7 => ?_, fun e7 => miss (Or.inr e7)⟩
  rw [if_neg (fun q => q.elim e6 e7)] at H
  rw [n_cl (by omega), n_cl (by omega), (k j hj).1, (k l hl).1, (k j hj).2.1, (k l hl).2.1, o_zI_s e6, o_zI_s e7, n_eq (by omega) (by omega), n_sub_lt (by omega) hn hp, n_sub_lt (by omega) hn hr]
  have hij : i_in (i_n j) 4 := (n_in (by omega)).mpr hj
  have hil : i_in (i_n l) 4 := (n_in (by omega)).mpr hl
  refine ⟨hij, hil, fun e8 => ?_, fun e8 => by rw [if_neg e8] at H; exact H⟩
  rw [if_pos e8] at H
  have far : ¬ (p + n < z j ∧ r + n < z l) → i_P i_MT i_AT L xs 123 97 [some (.ref 1), some (.int (i_n j)), some (.int (i_n p)), some (.int (i_n l)), some (.int (i_n r)), some (.int (i_n n))] [] h 0 0 Q := by
    intro e
    rw [if_neg e] at H
    exact d123_97 hL (d123_98 hL H)
  refine ⟨hij, fun e9 => far (by omega), fun e9 => ⟨hil, fun e10 => far (by omega), fun e10 => d123_98 hL ?_⟩⟩
  rw [if_pos (by omega)] at H
  exact H
theorem o_pou_0 {x p y r n : Int32} (w : o_TW z q) (e : o_pou z q x p y r n = 0) : ∃ j p2 l r2 n2, x = i_n j ∧ p = i_n p2 ∧ y = i_n l ∧ r = i_n r2 ∧ n = i_n n2 ∧ j < 4 ∧ l < 4 ∧ q j = q l ∧ p2 + n2 < z j ∧ r2 + n2 < z l := by
  unfold o_pou at e
  split at e
  · rename_i hx
    obtain ⟨j, hj, rfl⟩ := n_get hx.1 (by omega)
    obtain ⟨l, hl, rfl⟩ := n_get hx.2.1 (by omega)
    obtain ⟨p, hp, rfl⟩ := n_nn hx.2.2.1
    obtain ⟨r, hr, rfl⟩ := n_nn hx.2.2.2.1
    obtain ⟨n, hn, rfl⟩ := n_nn hx.2.2.2.2
    rw [n_cl (by omega), n_cl (by omega), n_cl hp, n_cl hr, n_cl hn] at e
    split at e
    · exact absurd e (by decide)
    · split at e
      · rename_i hq
        split at e
        · rename_i hz
          exact ⟨j, p, l, r, n, rfl, rfl, rfl, rfl, rfl, hj, hl, hq, hz.1, hz.2⟩
        · exact absurd e (by decide)
      · exact absurd e (by decide)
  · exact absurd e (by decide)
theorem c124 (hL : i_Lay h) (w : o_TW z q) (k : i_TC z q v h) {j p l r n : Nat} (hj : j < 4) (hl : l < 4) (hp : p + n < z j) (hr : r + n < z l) (H : ∀ h2, i_Lay h2 → i_FTr h h2 → i_TC z q (o_pov v j p l r n) h2 → Q none h2) : i_C i_MT i_AT L xs 124 [.ref 1, .int (i_n j), .int (i_n p), .int (i_n l), .int (i_n r), .int (i_n n)] h Q := by
  have zj := (w j hj).1
  have zl := (w l hl).1
  refine e124 (d124_0 hL ?_)
  try simp (disch := omega) only [n_lit, n_m, n_add, n_mul, n_div, n_mod, n_cl, n_lt, n_le, n_eq, n_in, n_eqm, n_meq, n_mlt, n_ltm, n_mle, n_lem, not_true_eq_false, not_false_eq_true, true_implies, false_implies, true_and, and_true, Nat.not_lt_zero, Nat.zero_le, Int32.not_lt]
  have hL2 : i_Lay (h.set (3 + l) (.inl (1, 60, .inr (.inl (va_cpy (aJ h (3 + j)) (aJ h (3 + l)) p r n))))) := hL.setJ (hL.row hl)
  refine ⟨by omega, by omega, ⟨by omega, by omega⟩, d124_20 hL2 (H _ hL2 ?_ ?_)⟩
  · exact i_Fr.refl.set (by simp; omega) (i_arJ_s (hL.row hl))
  · intro j2 hj2
    have f : i_Fr [3 + l] [] h (h.set (3 + l) (.inl (1, 60, .inr (.inl (va_cpy (aJ h (3 + j)) (aJ h (3 + l)) p r n))))) := i_Fr.refl.set List.mem_cons_self (i_arJ_s (hL.row hl))
    rw [f.rI (by simp; omega), f.rI (by simp; omega)]
    refine ⟨(k j2 hj2).1, (k j2 hj2).2.1, fun i hi => ?_⟩
    unfold o_pov
    by_cases e : j2 = l
    · subst e
      rw [x_aJ_set (hL.row hl)]
      unfold va_cpy
      by_cases e2 : r ≤ i ∧ i < r + n
      · rw [if_pos e2, if_pos ⟨rfl, e2⟩]
        exact (k j hj).2.2 _ (by omega)
      · rw [if_neg e2, if_neg (fun z => e2 z.2)]
        exact (k j2 hj2).2.2 i hi
    · rw [f.rJ (by simp; omega), if_neg (fun z => e z.1)]
      exact (k j2 hj2).2.2 i hi
theorem c135 (g : i_ST a t h) (w : o_TW z q) (k : i_TC z q v h) {x p y r n : Int32} (H1 : o_pou z q x p y r n ≠ 0 → ∀ h2, i_ST a t h2 → i_F0 h h2 → fI h2 0 0 = o_pou z q x p y r n → Q (some (.int 0)) h2) (H2 : o_pou z q x p y r n = 0 → ∀ h2, i_ST a t h2 → i_Fr (3 :: 4 :: 5 :: 6 :: 7 :: 8 :: [99, 100, 106, 107]) [(0, 0)] h h2 → i_TC z q (o_pov v x.toNatClampNeg p.toNatClampNeg y.toNatClampNeg r.toNatClampNeg n.toNatClampNeg) h2 → fI h2 0 0 = 0 → Q (some (.int 1)) h2) : i_C i_MT i_AT L xs 135 [.ref 0, .int x, .int p, .int y, .int r, .int n] h Q := by
  refine e135 (d135_0 g.l (c123 g.l w k ⟨_, rfl, d135_14 g.l ⟨fun e => ?_, fun e => ?_⟩⟩))
  · have H2 := H2 e
    obtain ⟨j, p, l, r, n, rfl, rfl, rfl, rfl, rfl, hj, hl, hq, hp, hr⟩ := o_pou_0 w e
    have := (w j hj).1
    have := (w l hl).1
    rw [n_cl (by omega), n_cl (by omega), n_cl (by omega), n_cl (by omega), n_cl (by omega)] at H2
    refine c124 g.l w k hj hl hp hr (fun h1 hL1 f1 k1 => ⟨rfl, ?_⟩)
    have G1 := g.tr hL1 f1
    exact d135_42 G1.l (m184 G1 (fun h2 g2 f2 s2 => ⟨_, rfl, d135_46 g2.l ⟨rfl, H2 h2 g2 ((f1.mono (by decide) (by decide)).trans (f2.mono (by decide) (by decide))) (i_F0.tr f2 k1) s2⟩⟩))
  · exact m180 g (fun h2 g2 f2 s2 => ⟨_, rfl, d135_27 g2.l ⟨rfl, H1 e h2 g2 f2 s2⟩⟩)
end
