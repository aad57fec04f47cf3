/-! A TOWN COPIED, the class -/
section
variable {L : Nat} {xs : Nat → Int32} {h : iH} {Q : Option Value → iH → Prop} {a : Nat → Nat} {t s : Nat}
set_option maxRecDepth 20000
theorem w_cpI {R : iH → Prop} {q s n : Nat} {m : Int32} (hL : i_Lay h) (e : i_arI h 0 q = some (n, aI h q)) (hm : m.toNatClampNeg = n) (k : ∀ h1, i_Lay h1 → i_Fr [q] [] h h1 → (∀ j, j < n → aI h1 q j = aI h s j) → R h1) : R (h.set q (.inl (0, n, .inl (va_cpy (aI h s) (aI h q) (0 : Int32).toNatClampNeg (0 : Int32).toNatClampNeg m.toNatClampNeg)))) := by
  refine k _ (hL.setI e) (i_Fr.refl.set (by simp) (i_arI_s e)) (fun j hj => ?_)
  rw [x_aI_set e, hm]
  show (if 0 ≤ j ∧ j < 0 + n then aI h s (0 + (j - 0)) else aI h q j) = _
  rw [if_pos ⟨Nat.zero_le _, by omega⟩, Nat.zero_add, Nat.sub_zero]
theorem w_cpJ {R : iH → Prop} {q s n : Nat} {m : Int32} (hL : i_Lay h) (e : i_arJ h q = some (n, aJ h q)) (hm : m.toNatClampNeg = n) (k : ∀ h1, i_Lay h1 → i_Fr [q] [] h h1 → (∀ j, j < n → aJ h1 q j = aJ h s j) → R h1) : R (h.set q (.inl (1, n, .inr (.inl (va_cpy (aJ h s) (aJ h q) (0 : Int32).toNatClampNeg (0 : Int32).toNatClampNeg m.toNatClampNeg))))) := by
  refine k _ (hL.setJ e) (i_Fr.refl.set (by simp) (i_arJ_s e)) (fun j hj => ?_)
  rw [x_aJ_set e, hm]
  show (if 0 ≤ j ∧ j < 0 + n then aJ h s (0 + (j - 0)) else aJ h q j) = _
  rw [if_pos ⟨Nat.zero_le _, by omega⟩, Nat.zero_add, Nat.sub_zero]
theorem w_sfI {R : iH → Prop} {q b ci : Nat} {x : Int32} {o : Int32} (hL : i_Lay h) (e : i_fld h q ci b = some (.int o)) (k : ∀ h1, i_Lay h1 → i_Fr [] [(q, b)] h h1 → fI h1 q b = x → R h1) : R (i_sf h q b (.int x)) := k _ (hL.sf e rfl) (i_Fr.refl.sf (by simp)) (x_fI_sf e)
theorem w_sfJ {R : iH → Prop} {q b ci : Nat} {x : Int64} {o : Int64} (hL : i_Lay h) (e : i_fld h q ci b = some (.long o)) (k : ∀ h1, i_Lay h1 → i_Fr [] [(q, b)] h h1 → fJ h1 q b = x → R h1) : R (i_sf h q b (.long x)) := k _ (hL.sf e rfl) (i_Fr.refl.sf (by simp)) (x_fJ_sf e)
def pA (t : Nat) : List Nat := [t + 8, t + 9, t + 10, t + 11, t + 12, t + 13]
def tA (t : Nat) : List Nat := [t + 1, t + 2, t + 3, t + 4, t + 5, t + 6, t + 8, t + 9, t + 10, t + 11, t + 12, t + 13, t + 14]
def tF (t : Nat) : List (Nat × Nat) := [(t, 0), (t, 1), (t, 2), (t, 3), (t, 5), (t, 9), (t + 7, 0)]
/-- far enough from one another -/
def o_ap (t s : Nat) : Prop := t + 15 ≤ s ∨ s + 15 ≤ t
theorem o_ap.A (d : o_ap t s) {k : Nat} (hk : k ≤ 14) : s + k ∉ tA t := by
  unfold o_ap at d
  unfold tA
  simp only [List.mem_cons, List.not_mem_nil, or_false]
  omega
theorem o_ap.F (d : o_ap t s) {k b : Nat} (hk : k ≤ 14) : (s + k, b) ∉ tF t := by
  unfold o_ap at d
  unfold tF
  simp only [List.mem_cons, List.not_mem_nil, or_false, Prod.mk.injEq]
  omega
def o_cp7 (t s : Nat) (h h2 : iH) : Prop := fI h2 (t + 7) 0 = fI h (s + 7) 0 ∧ (∀ j, j < 8 → aJ h2 (t + 8) j = aJ h (s + 8) j) ∧ (∀ j, j < 8 → aI h2 (t + 9) j = aI h (s + 9) j) ∧ (∀ j, j < 8 → aI h2 (t + 10) j = aI h (s + 10) j) ∧ (∀ j, j < 8 → aI h2 (t + 11) j = aI h (s + 11) j) ∧ (∀ j, j < 8 → aI h2 (t + 12) j = aI h (s + 12) j) ∧ (∀ j, j < 8 → aI h2 (t + 13) j = aI h (s + 13) j)
set_option maxHeartbeats 1000000 in
theorem c37 (hL : i_Lay h) (ht : i_T t) (hs : i_T s) (d : o_ap t s) (K : ∀ h2, i_Lay h2 → i_Fr (pA t) [(t + 7, 0)] h h2 → o_cp7 t s h h2 → Q none h2) : i_C i_MT i_AT L xs 37 [.ref (t + 7), .ref (s + 7)] h Q := by
  have nA : ∀ k, k ≤ 14 → s + k ∉ pA t := fun k hk => by
    unfold o_ap at d
    unfold pA
    simp only [List.mem_cons, List.not_mem_nil, or_false]
    omega
  have nF : ∀ k b, k ≤ 14 → (s + k, b) ∉ [(t + 7, 0)] := fun k b hk => by
    unfold o_ap at d
    simp only [List.mem_cons, List.not_mem_nil, or_false, Prod.mk.injEq]
    omega
  refine e37 ?_
  have G0 : i_Fr (pA t) [(t + 7, 0)] h h := i_Fr.refl
  have L0 := hL
  refine d37_0 L0 ht hs (w_sfI (R := fun z => i_P i_MT i_AT L xs 37 8 [some (.ref (t + 7)), some (.ref (s + 7))] [] z 0 0 Q) L0 (L0.p_0 ht) (fun h1 L1 F1 E1 => ?_))
  have G1 := G0.trans (F1.mono (B := (pA t)) (G := [(t + 7, 0)]) (fun _ z => absurd z (by simp)) (fun z hz => by simp only [List.mem_cons, List.not_mem_nil, or_false] at hz; subst hz; simp [tA, tF, pA]))
  have e := G0.vI (nF 7 0 (by omega))
  skip
  rw [e] at E1
  refine d37_8 L1 ht hs (w_cpJ (R := fun z => i_P i_MT i_AT L xs 37 23 [some (.ref (t + 7)), some (.ref (s + 7))] [] z 0 0 Q) L1 (L1.ta_8 ht) rfl (fun h2 L2 F2 E2 => ?_))
  have G2 := G1.trans (F2.mono (B := (pA t)) (G := [(t + 7, 0)]) (fun z hz => by simp only [List.mem_cons, List.not_mem_nil, or_false] at hz; subst hz; simp [tA, tF, pA]) (fun _ z => absurd z (by simp)))
  have e := G1.rJ (nA 8 (by omega))
  skip
  rw [e] at E2
  refine d37_23 L2 ht hs (w_cpI (R := fun z => i_P i_MT i_AT L xs 37 38 [some (.ref (t + 7)), some (.ref (s + 7))] [] z 0 0 Q) L2 (L2.ta_9 ht) rfl (fun h3 L3 F3 E3 => ?_))
  have G3 := G2.trans (F3.mono (B := (pA t)) (G := [(t + 7, 0)]) (fun z hz => by simp only [List.mem_cons, List.not_mem_nil, or_false] at hz; subst hz; simp [tA, tF, pA]) (fun _ z => absurd z (by simp)))
  have e := G2.rI (nA 9 (by omega))
  skip
  rw [e] at E3
  refine d37_38 L3 ht hs (w_cpI (R := fun z => i_P i_MT i_AT L xs 37 53 [some (.ref (t + 7)), some (.ref (s + 7))] [] z 0 0 Q) L3 (L3.ta_10 ht) rfl (fun h4 L4 F4 E4 => ?_))
  have G4 := G3.trans (F4.mono (B := (pA t)) (G := [(t + 7, 0)]) (fun z hz => by simp only [List.mem_cons, List.not_mem_nil, or_false] at hz; subst hz; simp [tA, tF, pA]) (fun _ z => absurd z (by simp)))
  have e := G3.rI (nA 10 (by omega))
  skip
  rw [e] at E4
  refine d37_53 L4 ht hs (w_cpI (R := fun z => i_P i_MT i_AT L xs 37 68 [some (.ref (t + 7)), some (.ref (s + 7))] [] z 0 0 Q) L4 (L4.ta_11 ht) rfl (fun h5 L5 F5 E5 => ?_))
  have G5 := G4.trans (F5.mono (B := (pA t)) (G := [(t + 7, 0)]) (fun z hz => by simp only [List.mem_cons, List.not_mem_nil, or_false] at hz; subst hz; simp [tA, tF, pA]) (fun _ z => absurd z (by simp)))
  have e := G4.rI (nA 11 (by omega))
  skip
  rw [e] at E5
  refine d37_68 L5 ht hs (w_cpI (R := fun z => i_P i_MT i_AT L xs 37 83 [some (.ref (t + 7)), some (.ref (s + 7))] [] z 0 0 Q) L5 (L5.ta_12 ht) rfl (fun h6 L6 F6 E6 => ?_))
  have G6 := G5.trans (F6.mono (B := (pA t)) (G := [(t + 7, 0)]) (fun z hz => by simp only [List.mem_cons, List.not_mem_nil, or_false] at hz; subst hz; simp [tA, tF, pA]) (fun _ z => absurd z (by simp)))
  have e := G5.rI (nA 12 (by omega))
  skip
  rw [e] at E6
  refine d37_83 L6 ht hs (w_cpI (R := fun z => i_P i_MT i_AT L xs 37 98 [some (.ref (t + 7)), some (.ref (s + 7))] [] z 0 0 Q) L6 (L6.ta_13 ht) rfl (fun h7 L7 F7 E7 => ?_))
  have G7 := G6.trans (F7.mono (B := (pA t)) (G := [(t + 7, 0)]) (fun z hz => by simp only [List.mem_cons, List.not_mem_nil, or_false] at hz; subst hz; simp [tA, tF, pA]) (fun _ z => absurd z (by simp)))
  have e := G6.rI (nA 13 (by omega))
  skip
  rw [e] at E7
  have X1 : fI h7 (t + 7) 0 = fI h (s + 7) 0 := by
    rw [F7.vI (by simp), F6.vI (by simp), F5.vI (by simp), F4.vI (by simp), F3.vI (by simp), F2.vI (by simp)]
    exact E1
  have X2 : (∀ j, j < 8 → aJ h7 (t + 8) j = aJ h (s + 8) j) := by
    rw [F7.rJ (by simp), F6.rJ (by simp), F5.rJ (by simp), F4.rJ (by simp), F3.rJ (by simp)]
    exact E2
  have X3 : (∀ j, j < 8 → aI h7 (t + 9) j = aI h (s + 9) j) := by
    rw [F7.rI (by simp), F6.rI (by simp), F5.rI (by simp), F4.rI (by simp)]
    exact E3
  have X4 : (∀ j, j < 8 → aI h7 (t + 10) j = aI h (s + 10) j) := by
    rw [F7.rI (by simp), F6.rI (by simp), F5.rI (by simp)]
    exact E4
  have X5 : (∀ j, j < 8 → aI h7 (t + 11) j = aI h (s + 11) j) := by
    rw [F7.rI (by simp), F6.rI (by simp)]
    exact E5
  have X6 : (∀ j, j < 8 → aI h7 (t + 12) j = aI h (s + 12) j) := by
    rw [F7.rI (by simp)]
    exact E6
  have X7 : (∀ j, j < 8 → aI h7 (t + 13) j = aI h (s + 13) j) := by
    exact E7
  exact d37_98 L7 ht hs (K h7 L7 G7 ⟨X1, X2, X3, X4, X5, X6, X7⟩)
theorem c99 (hL : i_Lay h) (ht : i_T t) (hs : i_T s) (K : ∀ h2, i_Lay h2 → i_Fr [t + 14] [] h h2 → (∀ j, j < 480 → aI h2 (t + 14) j = aI h (s + 14) j) → Q none h2) : i_C i_MT i_AT L xs 99 [.ref t, .ref (s + 14)] h Q := by
  refine e99 (d99_0 hL ht ⟨480, aI h (s + 14), 480, aI h (t + 14), hL.ta_14 hs, hL.ta_14 ht, by decide, by decide, by decide, by decide, by decide, ?_⟩)
  exact w_cpI (R := fun z => i_P i_MT i_AT L xs 99 13 [some (.ref t), some (.ref (s + 14))] [] z 0 0 Q) hL (hL.ta_14 ht) rfl (fun h1 L1 F1 E1 => d99_13 L1 ht (K h1 L1 F1 E1))
def o_cpd (t s : Nat) (h h2 : iH) : Prop := (fI h2 t 0 = fI h s 0 ∧ fI h2 t 1 = fI h s 1 ∧ fJ h2 t 2 = fJ h s 2 ∧ fJ h2 t 3 = fJ h s 3 ∧ (∀ j, j < 48 → aI h2 (t + 1) j = aI h (s + 1) j) ∧ fI h2 t 5 = fI h s 5 ∧ (∀ j, j < 4 → aI h2 (t + 2) j = aI h (s + 2) j) ∧ (∀ j, j < 4 → aI h2 (t + 3) j = aI h (s + 3) j) ∧ (∀ j, j < 32 → aI h2 (t + 4) j = aI h (s + 4) j) ∧ fI h2 t 9 = fI h s 9 ∧ (∀ j, j < 8 → aI h2 (t + 5) j = aI h (s + 5) j) ∧ (∀ j, j < 4 → aI h2 (t + 6) j = aI h (s + 6) j)) ∧ o_cp7 t s h h2 ∧ (∀ j, j < 480 → aI h2 (t + 14) j = aI h (s + 14) j)
set_option maxHeartbeats 2000000 in
theorem c98 (hL : i_Lay h) (ht : i_T t) (hs : i_T s) (d : o_ap t s) (K : ∀ h2, i_Lay h2 → i_Fr (tA t) (tF t) h h2 → o_cpd t s h h2 → Q none h2) : i_C i_MT i_AT L xs 98 [.ref t, .ref s] h Q := by
  have nA : ∀ k, k ≤ 14 → s + k ∉ tA t := fun k hk => d.A hk
  have nF : ∀ k b, k ≤ 14 → (s + k, b) ∉ tF t := fun k b hk => d.F hk
  refine e98 ?_
  have G0 : i_Fr (tA t) (tF t) h h := i_Fr.refl
  have L0 := hL
  refine d98_0 L0 ht hs (w_sfI (R := fun z => i_P i_MT i_AT L xs 98 8 [some (.ref t), some (.ref s)] [] z 0 0 Q) L0 (L0.t_0 ht) (fun h1 L1 F1 E1 => ?_))
  have G1 := G0.trans (F1.mono (B := (tA t)) (G := (tF t)) (fun _ z => absurd z (by simp)) (fun z hz => by simp only [List.mem_cons, List.not_mem_nil, or_false] at hz; subst hz; simp [tA, tF, pA]))
  have e := G0.vI (nF 0 0 (by omega))
  rw [Nat.add_zero] at e
  rw [e] at E1
  refine d98_8 L1 ht hs (w_sfI (R := fun z => i_P i_MT i_AT L xs 98 16 [some (.ref t), some (.ref s)] [] z 0 0 Q) L1 (L1.t_1 ht) (fun h2 L2 F2 E2 => ?_))
  have G2 := G1.trans (F2.mono (B := (tA t)) (G := (tF t)) (fun _ z => absurd z (by simp)) (fun z hz => by simp only [List.mem_cons, List.not_mem_nil, or_false] at hz; subst hz; simp [tA, tF, pA]))
  have e := G1.vI (nF 0 1 (by omega))
  rw [Nat.add_zero] at e
  rw [e] at E2
  refine d98_16 L2 ht hs (w_sfJ (R := fun z => i_P i_MT i_AT L xs 98 24 [some (.ref t), some (.ref s)] [] z 0 0 Q) L2 (L2.t_2 ht) (fun h3 L3 F3 E3 => ?_))
  have G3 := G2.trans (F3.mono (B := (tA t)) (G := (tF t)) (fun _ z => absurd z (by simp)) (fun z hz => by simp only [List.mem_cons, List.not_mem_nil, or_false] at hz; subst hz; simp [tA, tF, pA]))
  have e := G2.vJ (nF 0 2 (by omega))
  rw [Nat.add_zero] at e
  rw [e] at E3
  refine d98_24 L3 ht hs (w_sfJ (R := fun z => i_P i_MT i_AT L xs 98 32 [some (.ref t), some (.ref s)] [] z 0 0 Q) L3 (L3.t_3 ht) (fun h4 L4 F4 E4 => ?_))
  have G4 := G3.trans (F4.mono (B := (tA t)) (G := (tF t)) (fun _ z => absurd z (by simp)) (fun z hz => by simp only [List.mem_cons, List.not_mem_nil, or_false] at hz; subst hz; simp [tA, tF, pA]))
  have e := G3.vJ (nF 0 3 (by omega))
  rw [Nat.add_zero] at e
  rw [e] at E4
  refine d98_32 L4 ht hs (w_cpI (R := fun z => i_P i_MT i_AT L xs 98 47 [some (.ref t), some (.ref s)] [] z 0 0 Q) L4 (L4.ta_1 ht) rfl (fun h5 L5 F5 E5 => ?_))
  have G5 := G4.trans (F5.mono (B := (tA t)) (G := (tF t)) (fun z hz => by simp only [List.mem_cons, List.not_mem_nil, or_false] at hz; subst hz; simp [tA, tF, pA]) (fun _ z => absurd z (by simp)))
  have e := G4.rI (nA 1 (by omega))
  skip
  rw [e] at E5
  refine d98_47 L5 ht hs (w_sfI (R := fun z => i_P i_MT i_AT L xs 98 55 [some (.ref t), some (.ref s)] [] z 0 0 Q) L5 (L5.t_5 ht) (fun h6 L6 F6 E6 => ?_))
  have G6 := G5.trans (F6.mono (B := (tA t)) (G := (tF t)) (fun _ z => absurd z (by simp)) (fun z hz => by simp only [List.mem_cons, List.not_mem_nil, or_false] at hz; subst hz; simp [tA, tF, pA]))
  have e := G5.vI (nF 0 5 (by omega))
  rw [Nat.add_zero] at e
  rw [e] at E6
  refine d98_55 L6 ht hs (w_cpI (R := fun z => i_P i_MT i_AT L xs 98 69 [some (.ref t), some (.ref s)] [] z 0 0 Q) L6 (L6.ta_2 ht) rfl (fun h7 L7 F7 E7 => ?_))
  have G7 := G6.trans (F7.mono (B := (tA t)) (G := (tF t)) (fun z hz => by simp only [List.mem_cons, List.not_mem_nil, or_false] at hz; subst hz; simp [tA, tF, pA]) (fun _ z => absurd z (by simp)))
  have e := G6.rI (nA 2 (by omega))
  skip
  rw [e] at E7
  refine d98_69 L7 ht hs (w_cpI (R := fun z => i_P i_MT i_AT L xs 98 83 [some (.ref t), some (.ref s)] [] z 0 0 Q) L7 (L7.ta_3 ht) rfl (fun h8 L8 F8 E8 => ?_))
  have G8 := G7.trans (F8.mono (B := (tA t)) (G := (tF t)) (fun z hz => by simp only [List.mem_cons, List.not_mem_nil, or_false] at hz; subst hz; simp [tA, tF, pA]) (fun _ z => absurd z (by simp)))
  have e := G7.rI (nA 3 (by omega))
  skip
  rw [e] at E8
  refine d98_83 L8 ht hs (w_cpI (R := fun z => i_P i_MT i_AT L xs 98 98 [some (.ref t), some (.ref s)] [] z 0 0 Q) L8 (L8.ta_4 ht) rfl (fun h9 L9 F9 E9 => ?_))
  have G9 := G8.trans (F9.mono (B := (tA t)) (G := (tF t)) (fun z hz => by simp only [List.mem_cons, List.not_mem_nil, or_false] at hz; subst hz; simp [tA, tF, pA]) (fun _ z => absurd z (by simp)))
  have e := G8.rI (nA 4 (by omega))
  skip
  rw [e] at E9
  refine d98_98 L9 ht hs (w_sfI (R := fun z => i_P i_MT i_AT L xs 98 106 [some (.ref t), some (.ref s)] [] z 0 0 Q) L9 (L9.t_9 ht) (fun h10 L10 F10 E10 => ?_))
  have G10 := G9.trans (F10.mono (B := (tA t)) (G := (tF t)) (fun _ z => absurd z (by simp)) (fun z hz => by simp only [List.mem_cons, List.not_mem_nil, or_false] at hz; subst hz; simp [tA, tF, pA]))
  have e := G9.vI (nF 0 9 (by omega))
  rw [Nat.add_zero] at e
  rw [e] at E10
  refine d98_106 L10 ht hs (w_cpI (R := fun z => i_P i_MT i_AT L xs 98 121 [some (.ref t), some (.ref s)] [] z 0 0 Q) L10 (L10.ta_5 ht) rfl (fun h11 L11 F11 E11 => ?_))
  have G11 := G10.trans (F11.mono (B := (tA t)) (G := (tF t)) (fun z hz => by simp only [List.mem_cons, List.not_mem_nil, or_false] at hz; subst hz; simp [tA, tF, pA]) (fun _ z => absurd z (by simp)))
  have e := G10.rI (nA 5 (by omega))
  skip
  rw [e] at E11
  refine d98_121 L11 ht hs (w_cpI (R := fun z => i_P i_MT i_AT L xs 98 135 [some (.ref t), some (.ref s)] [] z 0 0 Q) L11 (L11.ta_6 ht) rfl (fun h12 L12 F12 E12 => ?_))
  have G12 := G11.trans (F12.mono (B := (tA t)) (G := (tF t)) (fun z hz => by simp only [List.mem_cons, List.not_mem_nil, or_false] at hz; subst hz; simp [tA, tF, pA]) (fun _ z => absurd z (by simp)))
  have e := G11.rI (nA 6 (by omega))
  skip
  rw [e] at E12
  have X1 : fI h12 t 0 = fI h s 0 := by
    rw [F12.vI (by simp), F11.vI (by simp), F10.vI (by simp), F9.vI (by simp), F8.vI (by simp), F7.vI (by simp), F6.vI (by simp), F5.vI (by simp), F4.vI (by simp), F3.vI (by simp), F2.vI (by simp)]
    exact E1
  have X2 : fI h12 t 1 = fI h s 1 := by
    rw [F12.vI (by simp), F11.vI (by simp), F10.vI (by simp), F9.vI (by simp), F8.vI (by simp), F7.vI (by simp), F6.vI (by simp), F5.vI (by simp), F4.vI (by simp), F3.vI (by simp)]
    exact E2
  have X3 : fJ h12 t 2 = fJ h s 2 := by
    rw [F12.vJ (by simp), F11.vJ (by simp), F10.vJ (by simp), F9.vJ (by simp), F8.vJ (by simp), F7.vJ (by simp), F6.vJ (by simp), F5.vJ (by simp), F4.vJ (by simp)]
    exact E3
  have X4 : fJ h12 t 3 = fJ h s 3 := by
    rw [F12.vJ (by simp), F11.vJ (by simp), F10.vJ (by simp), F9.vJ (by simp), F8.vJ (by simp), F7.vJ (by simp), F6.vJ (by simp), F5.vJ (by simp)]
    exact E4
  have X5 : (∀ j, j < 48 → aI h12 (t + 1) j = aI h (s + 1) j) := by
    rw [F12.rI (by simp), F11.rI (by simp), F10.rI (by simp), F9.rI (by simp), F8.rI (by simp), F7.rI (by simp), F6.rI (by simp)]
    exact E5
  have X6 : fI h12 t 5 = fI h s 5 := by
    rw [F12.vI (by simp), F11.vI (by simp), F10.vI (by simp), F9.vI (by simp), F8.vI (by simp), F7.vI (by simp)]
    exact E6
  have X7 : (∀ j, j < 4 → aI h12 (t + 2) j = aI h (s + 2) j) := by
    rw [F12.rI (by simp), F11.rI (by simp), F10.rI (by simp), F9.rI (by simp), F8.rI (by simp)]
    exact E7
  have X8 : (∀ j, j < 4 → aI h12 (t + 3) j = aI h (s + 3) j) := by
    rw [F12.rI (by simp), F11.rI (by simp), F10.rI (by simp), F9.rI (by simp)]
    exact E8
  have X9 : (∀ j, j < 32 → aI h12 (t + 4) j = aI h (s + 4) j) := by
    rw [F12.rI (by simp), F11.rI (by simp), F10.rI (by simp)]
    exact E9
  have X10 : fI h12 t 9 = fI h s 9 := by
    rw [F12.vI (by simp), F11.vI (by simp)]
    exact E10
  have X11 : (∀ j, j < 8 → aI h12 (t + 5) j = aI h (s + 5) j) := by
    rw [F12.rI (by simp)]
    exact E11
  have X12 : (∀ j, j < 4 → aI h12 (t + 6) j = aI h (s + 6) j) := by
    exact E12
  refine d98_135 L12 ht hs (c37 L12 ht hs d (fun u1 M1 P1 Y1 => ⟨rfl, d98_146 M1 ht hs (c99 M1 ht hs (fun u2 M2 P2 Y2 => ⟨rfl, d98_154 M2 ht hs ?_⟩))⟩))
  have G7 := G12.trans (P1.mono (B := tA t) (G := tF t) (fun z hz => by simp only [pA, List.mem_cons, List.not_mem_nil, or_false] at hz; simp only [tA, List.mem_cons, List.not_mem_nil, or_false]; omega) (fun z hz => by simp only [List.mem_cons, List.not_mem_nil, or_false] at hz; subst hz; simp [tF]))
  have G8 := G7.trans (P2.mono (B := tA t) (G := tF t) (fun z hz => by simp only [List.mem_cons, List.not_mem_nil, or_false] at hz; subst hz; simp [tA]) (fun _ z => absurd z (by simp)))
  refine K u2 M2 G8 ⟨⟨by rw [P2.vI (by simp), P1.vI (by simp [pA])]; exact X1, by rw [P2.vI (by simp), P1.vI (by simp [pA])]; exact X2, by rw [P2.vJ (by simp), P1.vJ (by simp [pA])]; exact X3, by rw [P2.vJ (by simp), P1.vJ (by simp [pA])]; exact X4, by rw [P2.rI (by simp), P1.rI (by simp [pA])]; exact X5, by rw [P2.vI (by simp), P1.vI (by simp [pA])]; exact X6, by rw [P2.rI (by simp), P1.rI (by simp [pA])]; exact X7, by rw [P2.rI (by simp), P1.rI (by simp [pA])]; exact X8, by rw [P2.rI (by simp), P1.rI (by simp [pA])]; exact X9, by rw [P2.vI (by simp), P1.vI (by simp [pA])]; exact X10, by rw [P2.rI (by simp), P1.rI (by simp [pA])]; exact X11, by rw [P2.rI (by simp), P1.rI (by simp [pA])]; exact X12⟩, ?_, ?_⟩
  · obtain ⟨y0, y1, y2, y3, y4, y5, y6⟩ := Y1
    refine ⟨?_, ?_, ?_, ?_, ?_, ?_, ?_⟩
    · rw [P2.vI (by simp)]; rw [G12.vI (nF 7 0 (by omega))] at y0; exact y0
    · rw [P2.rJ (by simp)]; rw [G12.rJ (nA 8 (by omega))] at y1; exact y1
    · rw [P2.rI (by simp)]; rw [G12.rI (nA 9 (by omega))] at y2; exact y2
    · rw [P2.rI (by simp)]; rw [G12.rI (nA 10 (by omega))] at y3; exact y3
    · rw [P2.rI (by simp)]; rw [G12.rI (nA 11 (by omega))] at y4; exact y4
    · rw [P2.rI (by simp)]; rw [G12.rI (nA 12 (by omega))] at y5; exact y5
    · rw [P2.rI (by simp)]; rw [G12.rI (nA 13 (by omega))] at y6; exact y6
  · rw [G7.rI (nA 14 (by omega))] at Y2; exact Y2
theorem o_cpd.ct {h2 : iH} (c : o_cpd t s h h2) (w : o_WF a) (g : i_CT a s h) : i_CT a t h2 := by
  have h48 := w.c48
  have h3 := w.2.2.1
  have h4 := w.2.2.2.1
  have h5 := w.2.2.2.2.1
  obtain ⟨⟨f0, f1, f2, f3, a1, f5, a2, a3, a4, f9, a5, a6⟩, ⟨p0, _, b9, b10, b11, b12, b13⟩, b14⟩ := c
  obtain ⟨⟨g0, g1⟩, g2, g3, g4, ⟨g5, g6⟩, ⟨g7, g8⟩, g9, ⟨g10, g11⟩, g12⟩ := g
  refine ⟨⟨by rw [f0]; exact g0, by rw [f1]; exact g1⟩, by rw [f2]; exact g2, by rw [f3]; exact g3, fun c hc => by rw [a1 c hc]; exact g4 c hc, ⟨by rw [f5]; exact g5, fun k hk => ?_⟩, ⟨by rw [f9]; exact g7, fun k hk => by rw [a5 k (by omega)]; exact g8 k hk⟩, fun k hk => by rw [a6 k hk]; exact g9 k hk, ⟨by rw [p0]; exact g10, fun p hp => ?_⟩, fun j hj => by rw [b14 j hj]; exact g12 j hj⟩
  · obtain ⟨k1, k2, k3⟩ := g6 k hk
    have ck := w.2.2.2.2.2.2.2.2.2.1 k hk
    refine ⟨by rw [a2 k (by omega)]; exact k1, by rw [a3 k (by omega)]; exact k2, fun j hj => ?_⟩
    have l8 := ck.2.2.1
    rw [a4 _ (by omega)]; exact k3 j hj
  · obtain ⟨k1, k2, k3, k4, k5⟩ := g11 p hp
    exact ⟨by rw [b9 p (by omega)]; exact k1, by rw [b10 p (by omega)]; exact k2, by rw [b11 p (by omega)]; exact k3, by rw [b12 p (by omega)]; exact k4, by rw [b13 p (by omega)]; exact k5⟩
end
