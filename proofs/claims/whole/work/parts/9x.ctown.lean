/-! TOWN, the class -/
section
variable {L : Nat} {xs : Nat → Int32} {h : iH} {Q : Option Value → iH → Prop} {a : Nat → Nat} {t s : Nat} {n m k k0 : Nat} {T : Nat → Nat}
set_option maxRecDepth 20000
/-- the other Town lies apart -/
theorem i_T2.ap (hT : i_T2 t) (hS : i_T2 s) (ne : t ≠ s) : o_ap s t := by
  unfold i_T2 at hT hS
  unfold o_ap
  omega
/-- what is written outside of the town and its course leaves it -/
theorem i_ST.out {h2 : iH} {A : List Nat} {F : List (Nat × Nat)} (g : i_ST a t h) (hL : i_Lay h2) (f : i_Fr A F h h2) (hA : ∀ p, p ∈ A → p < 95 ∧ (p < t ∨ t + 14 < p)) (hF : ∀ q, q ∈ F → q.1 < 95 ∧ (q.1 < t ∨ t + 14 < q.1) ∧ q ≠ (0, 5)) : i_ST a t h2 := by
  obtain ⟨⟨⟨-, g2, g3, g4, g5, g6, g7, g8⟩, gr, vw, wg⟩, gt⟩ := g
  have nA : ∀ p, 95 ≤ p → p ∉ A := fun p hp z => by have := hA p z; omega
  have tA : ∀ k, k ≤ 14 → t + k ∉ A := fun k hk z => by have := hA _ z; omega
  have nF : ∀ q b, 95 ≤ q → (q, b) ∉ F := fun q b hq z => by have := (hF _ z).1; dsimp only at this; omega
  have tF : ∀ k b, k ≤ 14 → (t + k, b) ∉ F := fun k b hk z => by have := (hF _ z).2.1; dsimp only at this; omega
  refine ⟨⟨⟨hL, g2, g3, ?_, g5.fr f (fun k _ h2 => tA k h2) (fun b => ⟨tF 0 b (by omega), tF 7 b (by omega)⟩), ?_, ?_, ?_⟩, gr.fr f (fun p hp => nA p (by simp only [List.mem_cons, List.not_mem_nil, or_false] at hp; omega)) (fun b _ => nF 96 b (by omega)), ?_, ?_⟩, ?_⟩
  · rw [f.vR (nF 95 1 (by omega))]; exact g4
  · rw [f.rJ (nA 101 (by omega))]; exact g6
  · rw [f.rI (nA 102 (by omega)), f.rI (nA 103 (by omega)), f.rI (nA 104 (by omega))]; exact g7
  · rw [f.rI (nA 105 (by omega))]; exact g8
  · unfold i_VW; rw [f.rJ (nA 106 (by omega))]; exact vw
  · unfold i_WG; rw [f.rI (nA 107 (by omega))]; exact wg
  · rw [f.vR (fun z => (hF _ z).2.2 rfl)]; exact gt
theorem i_TT.fr {h2 : iH} {A : List Nat} {F : List (Nat × Nat)} (x : i_TT h) (f : i_Fr A F h h2) (hA : ∀ p, p ∈ [12, 13] → p ∉ A) : i_TT h2 := by
  unfold i_TT
  rw [f.rI (hA 12 (by decide)), f.rJ (hA 13 (by decide))]
  exact x
abbrev ctF (s : Nat) : List (Nat × Nat) := (0, 0) :: (0, 5) :: (0, 6) :: (10, 3) :: (10, 4) :: (pcF s ++ foF)
abbrev ctA (s : Nat) : List Nat := tA s ++ foA
theorem c84 (hL : i_Lay h) {x : Int32} (H : ∀ h2, i_Lay h2 → i_Fr [] [(10, 3), (10, 4), (10, 5)] h h2 → fI h2 10 4 = x → fI h2 10 5 = i_n 0 → fI h2 10 3 = i_n 0 → Q none h2) : i_C i_MT i_AT L xs 84 [.ref 10, .int x] h Q := by
  refine e84 (d84_0 hL ?_)
  refine w_sfI (R := fun z => i_P i_MT i_AT L xs 84 5 [some (.ref 10), some (.int x)] [] z 0 0 Q) hL hL.q10_4 (fun h1 L1 F1 E1 => d84_5 L1 ?_)
  refine w_sfI (R := fun z => i_P i_MT i_AT L xs 84 10 [some (.ref 10), some (.int x)] [] z 0 0 Q) L1 L1.q10_5 (fun h2 L2 F2 E2 => d84_10 L2 ?_)
  refine w_sfI (R := fun z => i_P i_MT i_AT L xs 84 15 [some (.ref 10), some (.int x)] [] z 0 0 Q) L2 L2.q10_3 (fun h3 L3 F3 E3 => d84_15 L3 ?_)
  refine H h3 L3 ((F1.mono (fun _ z => z) (by decide)).trans ((F2.mono (fun _ z => z) (by decide)).trans (F3.mono (fun _ z => z) (by decide)))) ?_ ?_ E3
  · rw [F3.vI (by decide), F2.vI (by decide)]; exact E1
  · rw [F3.vI (by decide)]; exact E2
theorem c85 (hL : i_Lay h) (H : ∀ h2, i_Lay h2 → i_Fr [] blF h h2 → fI h2 10 11 = i_n 0 → fI h2 10 12 = i_m → Q none h2) : i_C i_MT i_AT L xs 85 [.ref 10] h Q := by
  refine e85 (d85_0 hL ?_)
  refine w_sfI (R := fun z => i_P i_MT i_AT L xs 85 5 [some (.ref 10)] [] z 0 0 Q) hL hL.q10_11 (fun h1 L1 F1 E1 => d85_5 L1 ?_)
  refine w_sfI (R := fun z => i_P i_MT i_AT L xs 85 10 [some (.ref 10)] [] z 0 0 Q) L1 L1.q10_12 (fun h2 L2 F2 E2 => d85_10 L2 ?_)
  refine H h2 L2 ((F1.mono (fun _ z => z) (by decide)).trans (F2.mono (fun _ z => z) (by decide))) ?_ E2
  rw [F2.vI (by decide)]; exact E1
set_option maxHeartbeats 2000000 in
theorem c137 (g : i_ST a t h) (hS : i_T2 s) (ne : t ≠ s) (sp : fR h 0 6 = s) (tt : i_TT h) (tp : i_TPc h m T) {x : Int32}
    (HA : ¬ (0 ≤ x ∧ x ≤ i_n m) → ∀ h2, i_ST a t h2 → i_Fr [] [(0, 0)] h h2 → fI h2 0 0 = 1 → Q (some (.int (-1))) h2)
    (HF : ∀ n, n ≤ m → x = i_n n → ∀ f p, p_town T n = .inl (f, p) → ∀ h2, i_ST a t h2 → i_Fr (ctA s) (ctF s) h h2 → fR h2 0 6 = s → i_BL h2 f p → fI h2 10 3 = i_n 0 → fI h2 0 0 = 9 → Q (some (.int (-1))) h2)
    (HT : ∀ n, n ≤ m → x = i_n n → ∀ k2 a2, p_town T n = .inr (k2, a2) → o_PW a2 → ∀ h2, i_ST a2 s h2 → i_Fr (ctA s) (ctF s) h h2 → fR h2 0 6 = t → i_NC a2 s h2 → i_BL h2 0 4294967295 → fI h2 10 3 = i_n 0 → fI h2 0 0 = 0 → Q (some (.int (i_n (a2 0 * a2 1)))) h2) : i_C i_MT i_AT L xs 137 [.ref 0, .int x] h Q := by
  have hT : i_T2 t := g.1.1.2.2.1
  have ht : t = 14 ∨ t = 29 := hT
  have hs : s = 14 ∨ s = 29 := hS
  have ap := hT.ap hS ne
  have m9 := tp.2.1
  have w0 := g.w.wh
  refine e137 (d137_0 g.l ?_)
  rw [tp.1]
  refine c192 ⟨_, rfl, d137_12 g.l ?_⟩
  rw [i_bo_0, Classical.not_not]
  refine ⟨fun q => ?_, fun q => q179 g.l (fun h2 L2 f2 s2 => ⟨_, rfl, d137_20 L2 (HA q h2 (g.out L2 f2 (fun _ z => absurd z (by simp)) (fun q hq => ?_)) f2 s2)⟩)⟩
  rotate_left
  · simp only [List.mem_cons, List.not_mem_nil, or_false] at hq
    subst hq
    exact ⟨by decide, by dsimp only; omega, by decide⟩
  obtain ⟨n, hn, rfl⟩ := n_gle q (by omega)
  refine c84 g.l (fun h1 L1 F1 e4 e5 e3 => ⟨rfl, d137_29 L1 ?_⟩)
  have sp1 : i_fld h1 0 11 6 = some (.ref s) := by
    have := L1.fw (q := 0) (ci := 11) (b := 6) rfl rfl rfl
    rw [F1.vR (by decide), sp] at this
    exact this
  refine ⟨s, sp1, hS.T, ?_⟩
  have x1 : i_TX h1 n T := by
    refine ⟨tt.fr F1 (fun _ _ => by simp), e4, by omega, fun i hi => ?_⟩
    rw [F1.rI (by simp)]
    exact tp.2.2 i (by omega)
  -- the frame so far
  have up1 : i_Fr (ctA s) (ctF s) h h1 := F1.mono (fun _ z => absurd z (by simp)) (fun q hq => by
    simp only [List.mem_cons, List.not_mem_nil, or_false] at hq
    rcases hq with rfl | rfl | rfl <;> simp)
  have up2 : ∀ {h2 : iH}, i_Fr (tA s) (pcF s) h1 h2 → i_Fr (ctA s) (ctF s) h1 h2 := fun f => f.mono (fun _ z => List.mem_append_left _ z) (fun _ z => List.mem_cons_of_mem _ (List.mem_cons_of_mem _ (List.mem_cons_of_mem _ (List.mem_cons_of_mem _ (List.mem_cons_of_mem _ (List.mem_append_left _ z))))))
  have g1 : i_ST a t h1 := g.out L1 F1 (fun _ z => absurd z (by simp)) (fun q hq => by
    simp only [List.mem_cons, List.not_mem_nil, or_false] at hq
    rcases hq with rfl | rfl | rfl <;> exact ⟨by decide, by dsimp only; omega, by decide⟩)
  have g2 : ∀ {h2 : iH}, i_Lay h2 → i_Fr (tA s) (pcF s) h1 h2 → i_ST a t h2 := fun L2 f => g1.out L2 f (fun p hp => by
    have hp : p ∈ tA s := hp
    unfold tA at hp
    simp only [List.mem_cons, List.not_mem_nil, or_false] at hp
    unfold o_ap at ap
    omega) (fun q hq => by
    obtain ⟨q1, q2⟩ := q
    unfold pcF tF at hq
    simp only [List.mem_cons, List.mem_append, List.not_mem_nil, or_false, Prod.mk.injEq] at hq
    unfold o_ap at ap
    refine ⟨by dsimp only; omega, by dsimp only; omega, fun z => ?_⟩
    simp only [Prod.mk.injEq] at z
    omega)
  have keep : ∀ {h2 : iH}, i_Fr (tA s) (pcF s) h1 h2 → (∀ b, fR h2 0 b = fR h1 0 b) ∧ fI h2 10 3 = fI h1 10 3 := fun f => by
    refine ⟨fun b => f.vR (fun z => ?_), f.vI (fun z => ?_)⟩
    · unfold pcF tF at z
      simp only [List.mem_cons, List.mem_append, List.not_mem_nil, or_false, Prod.mk.injEq] at z
      omega
    · unfold pcF tF at z
      simp only [List.mem_cons, List.mem_append, List.not_mem_nil, or_false, Prod.mk.injEq] at z
      omega
  have gd := p_town_g (T := T) (n := n) (by omega)
  refine c103 L1 hS x1 e5 ?_
  cases he : p_town T n with
  | inl r =>
    obtain ⟨f, p⟩ := r
    intro h2 L2 F2 b2
    refine ⟨_, rfl, d137_40 L2 ⟨fun z => absurd rfl z, fun _ => q179 L2 (fun h3 L3 F3 s3 => ⟨_, rfl, d137_49 L3 ?_⟩)⟩⟩
    have gg := (g2 L2 F2).out L3 F3 (fun _ z => absurd z (by simp)) (fun q hq => by
      simp only [List.mem_cons, List.not_mem_nil, or_false] at hq
      subst hq
      exact ⟨by decide, by dsimp only; omega, by decide⟩)
    refine HF n hn rfl f p he h3 gg ((up1.trans (up2 F2)).trans (F3.mono (fun _ z => absurd z (by simp)) (fun q hq => by
      simp only [List.mem_cons, List.not_mem_nil, or_false] at hq
      subst hq
      simp))) ?_ ?_ ?_ s3
    · rw [F3.vR (by decide), (keep F2).1, F1.vR (by decide)]; exact sp
    · unfold i_BL
      rw [F3.vI (by decide), F3.vI (by decide)]; exact b2
    · rw [F3.vI (by decide), (keep F2).2]; exact e3
  | inr r =>
    obtain ⟨k2, a2⟩ := r
    rw [he] at gd
    have w2 : o_PW a2 := gd.2.2
    intro k3 h2 F2 g3
    have L2 := g3.1
    refine ⟨_, rfl, d137_40 L2 ⟨fun _ => c85 L2 (fun h3 L3 F3 b11 b12 => ⟨rfl, d137_57 L3 ?_⟩), fun z => absurd (by decide) z⟩⟩
    have F23 : i_Fr (tA s) (pcF s) h1 h3 := F2.trans (i_Fr.tb (t := s) F3.tl)
    have g3t := g2 L3 F23
    have tw3 : i_fld h3 0 11 5 = some (.ref t) := g3t.tw
    have sp3 : i_fld h3 0 11 6 = some (.ref s) := by
      have := L3.fw (q := 0) (ci := 11) (b := 6) rfl rfl rfl
      rw [(keep F23).1, F1.vR (by decide), sp] at this
      exact this
    refine ⟨t, tw3, hT.T, s, sp3, hS.T, ⟨_, tw3⟩, ?_⟩
    have L4 : i_Lay (i_sf h3 0 5 (.ref s)) := L3.sf tw3 rfl
    have F4 : i_Fr [] [(0, 5)] h3 (i_sf h3 0 5 (.ref s)) := i_Fr.refl.sf (by simp)
    have E4 : fR (i_sf h3 0 5 (.ref s)) 0 5 = s := x_fR_sf tw3
    have sp4 : i_fld (i_sf h3 0 5 (.ref s)) 0 11 6 = some (.ref s) := by
      have := L4.fw (q := 0) (ci := 11) (b := 6) rfl rfl rfl
      rw [F4.vR (by simp), (keep F23).1, F1.vR (by decide), sp] at this
      exact this
    generalize i_sf h3 0 5 (.ref s) = h4 at L4 F4 E4 sp4 ⊢
    refine d137_70 L4 hT.T ⟨⟨_, sp4⟩, ?_⟩
    have L5 : i_Lay (i_sf h4 0 6 (.ref t)) := L4.sf sp4 rfl
    have F5 : i_Fr [] [(0, 6)] h4 (i_sf h4 0 6 (.ref t)) := i_Fr.refl.sf (by simp)
    have E5 : fR (i_sf h4 0 6 (.ref t)) 0 6 = t := x_fR_sf sp4
    have tw5 : i_fld (i_sf h4 0 6 (.ref t)) 0 11 5 = some (.ref s) := by
      have := L5.fw (q := 0) (ci := 11) (b := 5) rfl rfl rfl
      rw [F5.vR (by simp), E4] at this
      exact this
    generalize i_sf h4 0 6 (.ref t) = h5 at L5 F5 E5 tw5 ⊢
    refine d137_75 L5 hT.T ⟨s, tw5, hS.T, ?_⟩
    have F35 : i_Fr [] [(0, 5), (0, 6)] h3 h5 := (F4.mono (fun _ z => z) (by decide)).trans (F5.mono (fun _ z => z) (by decide))
    have ct5 : i_CT a2 s h5 := (g3.2.2.2.2.1.fr F3 (fun _ _ _ => by simp) (fun b => ⟨by simp; omega, by simp; omega⟩)).fr F35 (fun _ _ _ => by simp) (fun b => ⟨by simp; omega, by simp⟩)
    have nc5 : i_NC a2 s h5 := (g3.2.2.2.2.2.1.fr F3 (by simp)).fr F35 (by simp)
    have gq5 : i_GQ (a 0) (a 1) h5 := by
      have := i_GR.q (g3t.1.2.1.fr F35 (fun _ _ => by simp) (fun b _ => by simp))
      exact this
    refine c1 L5 w2.1 hS ct5 w0.1 w0.2 gq5 (fun h6 g6 F6 => ⟨rfl, d137_86 g6.l hT.T ?_⟩)
    rw [g6.2.1.1.2.2]
    refine q181 g6.l (fun h7 L7 F7 s7 => ⟨_, rfl, d137_100 L7 hT.T ?_⟩)
    have E65 : fR h6 0 5 = s := by rw [F6.vR (by decide), F5.vR (by simp)]; exact E4
    have g7 : i_ST a2 s h7 := by
      have := i_ST.out (a := a2) (t := s) ⟨g6, E65⟩ L7 F7 (fun _ z => absurd z (by simp)) (fun q hq => by
        simp only [List.mem_cons, List.not_mem_nil, or_false] at hq
        subst hq
        exact ⟨by decide, by dsimp only; omega, by decide⟩)
      exact this
    refine HT n hn rfl k2 a2 he w2 h7 g7 ?_ ?_ ?_ ?_ ?_ s7
    · refine (up1.trans (up2 F23)).trans ((F35.mono (fun _ z => absurd z (by simp)) (fun q hq => ?_)).trans ((F6.mono (fun _ z => List.mem_append_right _ z) (fun _ z => List.mem_cons_of_mem _ (List.mem_cons_of_mem _ (List.mem_cons_of_mem _ (List.mem_cons_of_mem _ (List.mem_cons_of_mem _ (List.mem_append_right _ z))))))).trans (F7.mono (fun _ z => absurd z (by simp)) (fun q hq => ?_))))
      · simp only [List.mem_cons, List.not_mem_nil, or_false] at hq
        rcases hq with rfl | rfl <;> simp
      · simp only [List.mem_cons, List.not_mem_nil, or_false] at hq
        subst hq
        simp
    · rw [F7.vR (by simp), F6.vR (by decide)]; exact E5
    · exact (nc5.fr F6 (by simp only [List.mem_cons, List.not_mem_nil, or_false]; omega)).fr F7 (by simp)
    · refine ⟨?_, ?_⟩
      · rw [F7.vI (by simp), F6.vI (by decide), F35.vI (by decide)]; exact b11
      · rw [F7.vI (by simp), F6.vI (by decide), F35.vI (by decide), n_big]; exact b12
    · rw [F7.vI (by simp), F6.vI (by decide), F35.vI (by decide), (keep F23).2]; exact e3
end
