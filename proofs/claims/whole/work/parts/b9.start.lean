/-! THE START IS WELL -/
section
variable {L : Nat} {xs : Nat → Int32} {h1 h2 : iH}
set_option maxRecDepth 20000
theorem o_is_0 {n : Nat} {P : Nat → Bool} (e : ∀ c, c < n → P c = false) : o_is 0 n P := by
  intro c hc
  have z : ∀ c : Fin 64, i_b 0 c.val = false := by decide +kernel
  rw [z ⟨c, hc⟩]
  by_cases q : c < n
  · rw [e c q, Bool.and_false]
  · rw [decide_eq_false q, Bool.false_and]
theorem l_new_wf : o_WF o_new := by
  refine ⟨Or.inl ⟨rfl, rfl, rfl, rfl, rfl⟩, by decide, by decide, by decide, by decide, by decide, ?_, ?_, fun k hk => absurd hk (by decide +revert), fun k hk => absurd hk (by decide +revert), fun k hk => absurd hk (by decide +revert), ?_⟩
  · decide
  · decide
  · decide +kernel
theorem l_new_w2 : o_W2 o_new := by
  unfold o_W2
  decide +kernel
set_option maxHeartbeats 2000000 in
theorem l_new_ok (F1 : i_Fr [139] [] i_W172 h1) (r2 : i_RA o_new h2) (F2 : i_Fr frA [] h1 h2) : l_OK h2 := by
  have F : i_Fr (139 :: frA) [] i_W172 h2 := (F1.mono (by simp) (fun _ z => z)).trans (F2.mono (by simp) (fun _ z => z))
  have vI : ∀ p b, fI h2 p b = fI i_W172 p b := fun p b => F.vI (by simp)
  have vJ : ∀ p b, fJ h2 p b = fJ i_W172 p b := fun p b => F.vJ (by simp)
  have vR : ∀ p b, fR h2 p b = fR i_W172 p b := fun p b => F.vR (by simp)
  have rI : ∀ p, p ∉ 139 :: frA → aI h2 p = aI i_W172 p := fun p hp => F.rI hp
  have rJ : ∀ p, p ∉ 139 :: frA → aJ h2 p = aJ i_W172 p := fun p hp => F.rJ hp
  obtain ⟨⟨a1, a2, a3⟩, ⟨b1, b2, b3, b4, b5, b6, b7, b8⟩, ⟨c1, c2, c3, c4, c5, c6, c7⟩, ⟨d1, d2, d3, d4, d5, d6, d7⟩, ⟨e1, e2, e3, e4, e5, e6⟩, ⟨f1, f2, f3, f4, f5, f6⟩, g1, g2, g3, g4, g5, g6, g7, g8⟩ := i_W_1
  obtain ⟨k1, k2, k3, k4, k5, k6, k7⟩ := i_W_2
  obtain ⟨m1, m2⟩ := i_W_3
  have n5 : o_new 5 = 0 := rfl
  have n3 : o_new 3 = 0 := rfl
  have n4 : o_new 4 = 0 := rfl
  have n01 : o_new 0 * o_new 1 = 0 := rfl
  have no : ∀ {P : Prop} (m : Nat), m ≤ 60 → i_n m ≤ i_m → P := fun m hm e => by
    rw [n_lem (by omega)] at e
    exact e.elim
  have ct : i_CT o_new 14 h2 := by
    refine ⟨⟨by rw [vI]; exact c1, by rw [vI]; exact c2⟩, by rw [vJ, c3]; exact o_is_0 (fun c hc => absurd hc (by rw [n01]; omega)), by rw [vJ, c4]; exact o_is_0 (by decide +kernel), fun c hc => ?_, ⟨by rw [vI]; exact c5, fun k hk => absurd hk (by rw [n3]; omega)⟩, ⟨by rw [vI]; exact c6, fun k hk => absurd hk (by rw [n4]; omega)⟩, fun k hk => by rw [rI _ (by decide)]; exact k2 k hk, ⟨by rw [vI]; exact c7, fun k hk => absurd hk (by rw [n5]; omega)⟩, fun j hj => ?_⟩
    · rw [rI _ (by decide), k1 c hc]
      have z : ∀ c : Fin 48, o_sway o_new c.val = 0 := by decide +kernel
      rw [z ⟨c, hc⟩]
      rfl
    · rw [rI _ (by decide), k3 j hj]
      have z : o_new (194 + j) = 0 := by unfold o_new; rw [if_neg (by omega), if_neg (by omega), if_neg (by omega), if_neg (by omega), if_neg (by omega)]
      rw [z]
      rfl
  have co : i_CO o_new 14 h2 := by
    refine ⟨⟨r2.1, l_new_wf, Or.inl rfl, by rw [vR]; exact a3, ct, fun m hm => ?_, fun p m hp => absurd hp (by rw [n5]; omega), fun k m hk => absurd hk (by rw [n3]; omega)⟩, ⟨⟨by rw [vI]; exact d1, by rw [vI]; exact d2, by rw [vI]; exact d3⟩, ⟨?_, ?_, ?_, ?_⟩, fun c hc => absurd hc (by rw [n01]; omega), fun b c hb => absurd hb (by rw [n01]; omega), fun b w hb => absurd hb (by rw [n01]; omega)⟩, fun p m hp => absurd hp (by rw [n5]; omega), fun p q m hp => absurd hp (by rw [n5]; omega)⟩
    · rw [rJ _ (by decide), k4 m (by omega)]
      exact o_is_0 (fun c hc => absurd hc (by rw [n01]; omega))
    · rw [vJ, d4]; exact o_is_0 (fun c hc => absurd hc (by rw [n01]; omega))
    · rw [vJ, d5]; exact o_is_0 (fun c hc => absurd hc (by rw [n01]; omega))
    · rw [vJ, d6]; exact o_is_0 (fun c hc => absurd hc (by rw [n01]; omega))
    · rw [vJ, d7]; exact o_is_0 (fun c hc => absurd hc (by rw [n01]; omega))
  refine ⟨o_new, 14, 29, fun _ => 0, fun _ => 0, fun _ _ => 0, 0, fun _ => 0, (0, 1), (i_m, i_m), (i_m, fun _ => 0), (i_m, 0, fun _ => 0), 0, fun _ _ => 0, ⟨fun j _ => ⟨Nat.zero_le _, Nat.zero_le _⟩, ⟨fun p hp => absurd hp (by rw [n5]; omega), l_new_w2⟩, Or.inl rfl, by omega, fun k hk => absurd hk (by omega)⟩, ⟨⟨⟨co, by rw [vR]; exact a1⟩, ⟨?_, ?_, ?_, ?_⟩, ⟨by rw [vR]; exact a2, Or.inr rfl, by decide⟩, fun p hp => absurd hp (by rw [n5]; omega)⟩, ⟨⟨fun c hc => by rw [rI _ (by decide)]; exact m1 c hc, fun w hw => by rw [rJ _ (by decide)]; exact m2 w hw⟩, fun j hj => ⟨by rw [rI _ (by decide)]; exact (k5 j hj).1, by rw [rI _ (by decide)]; exact (k5 j hj).2.1, fun k hk => absurd hk (by dsimp only; omega)⟩⟩, l_TPc0 (by rw [vI]; exact e1), ⟨by rw [vJ]; exact e3, by rw [vJ]; exact e5⟩, ⟨by rw [vI]; exact f1, by rw [vI]; exact f2⟩, ⟨by rw [vI]; exact f5, fun m hm e => no m hm e⟩, ⟨by rw [vI]; exact g1, by rw [vI]; exact g3, fun p hp => by rw [rI _ (by decide)]; exact (k6 p hp).1⟩, ⟨by rw [vI]; exact g5, fun k hk => absurd hk (by omega)⟩⟩, ⟨⟨r2, fun p hp => absurd hp (by rw [n5]; omega)⟩, fun j hj => ⟨by rw [rI _ (by decide)]; exact (k5 j hj).2.2.1, by rw [rI _ (by decide)]; exact (k5 j hj).2.2.2, fun k hk => absurd hk (by dsimp only; omega)⟩, l_TPr0 (by rw [vI]; exact e2), ⟨by rw [vJ]; exact e4, by rw [vJ]; exact e6⟩, ⟨by rw [vI]; exact f3, by rw [vI]; exact f4⟩, ⟨by rw [vI]; exact f6, fun m hm e => no m hm e⟩, ⟨by rw [vI]; exact g2, by rw [vI]; exact g4, fun p hp => by rw [rI _ (by decide)]; exact (k6 p hp).2⟩, ⟨by rw [vI]; exact g6, fun k hk => absurd hk (by omega)⟩⟩, by rw [vI, vI, g7, g8]⟩
  · left; rw [vR, vR]; exact ⟨b1, b2⟩
  · left; rw [vR, vR]; exact ⟨b3, b4⟩
  · left; rw [vR, vR]; exact ⟨b5, b6⟩
  · left; rw [vR, vR]; exact ⟨b7, b8⟩
end
