/-! MOVES OF THE HALVES -/
section
variable {h h1 : iH} {a b : Nat → Nat} {t s mn tn : Nat} {z q : Nat → Nat} {v : Nat → Nat → Int64} {T : Nat → Nat} {ju : Int64 × Int64} {fa : Int32 × Int32} {pt : Int32 × (Nat → Int32)} {dy : Int32 × Int32 × (Nat → Int32)} {bs : Nat → Nat → Nat} {A : List Nat} {F : List (Nat × Nat)}
set_option maxRecDepth 20000
/-- the class's half, by frames, but for what is told anew -/
theorem l_CH.tp {tn2 : Nat} {T2 : Nat → Nat} (x : l_CH a t s z q v tn T ju fa pt dy mn bs h) (hm : mn ≤ 3) (hL : i_Lay h1) (f : i_Fr [11] [(10, 3)] h h1) (k : i_TPc h1 tn2 T2) : l_CH a t s z q v tn2 T2 ju fa pt dy mn bs h1 := by
  obtain ⟨⟨x0, x1, x2, x3⟩, y1, y2, y3, y4, y5, y6, y7⟩ := x
  have ht : t = 14 ∨ t = 29 := x0.1.1.2.2.1
  refine ⟨⟨x0.out hL f ?_ ?_, x1.fr f (by decide), ⟨by rw [f.vR (by decide)]; exact x2.1, x2.2⟩, x3.fr f ?_⟩, y1.fr f (by decide), k, y3.fr f (by decide), y4.fr f (by decide), y5.fr f (by decide) (by decide), y6.fr f (by decide) (by decide), y7.fr hm f ?_ ?_⟩
  · intro p hp; simp at hp; omega
  · intro q hq; simp at hq; subst hq; refine ⟨by decide, by dsimp only; omega, by decide⟩
  · rcases ht with rfl | rfl <;> decide
  · intro p h1 h2 hp; simp at hp; omega
  · intro q hq; simp at hq; subst hq; decide
theorem l_RH.tp {tn2 : Nat} {T2 : Nat → Nat} (x : l_RH a z q v tn T ju fa pt dy mn bs h) (hL : i_Lay h1) (f : i_Fr [146] [(138, 12)] h h1) (k : i_TPr h1 tn2 T2) : l_RH a z q v tn2 T2 ju fa pt dy mn bs h1 := by
  obtain ⟨x0, y1, y2, y3, y4, y5, y6, y7⟩ := x
  exact ⟨x0.fr hL f (by decide), y1.fr f (by decide), k, y3.fr f (by decide), y4.fr f (by decide), y5.fr f (by decide) (by decide), y6.fr f (by decide) (by decide), y7.fr f (by decide) (by decide)⟩
theorem l_CH.juu {j2 : Int64 × Int64} (x : l_CH a t s z q v tn T ju fa pt dy mn bs h) (hm : mn ≤ 3) (g : i_ST a t h1) (f : i_Fr fsA ((0, 1) :: (0, 2) :: fsF) h h1) (k : l_C3 j2 h1) : l_CH a t s z q v tn T j2 fa pt dy mn bs h1 := by
  obtain ⟨⟨x0, x1, x2, x3⟩, y1, y2, y3, y4, y5, y6, y7⟩ := x
  have ht : t = 14 ∨ t = 29 := x0.1.1.2.2.1
  refine ⟨⟨g, x1.fr f (by decide), ⟨by rw [f.vR (by decide)]; exact x2.1, x2.2⟩, x3.fr f ?_⟩, y1.fr f (by decide), y2.fr f (by decide) (by decide), k, y4.fr f (by decide), y5.fr f (by decide) (by decide), y6.fr f (by decide) (by decide), y7.fr hm f ?_ ?_⟩
  · rcases ht with rfl | rfl <;> decide
  · intro p h1 h2 hp; simp at hp; omega
  · intro q hq; simp at hq; rcases hq with rfl | rfl | rfl | rfl | rfl | rfl | rfl <;> decide
theorem l_RH.juu {j2 : Int64 × Int64} (x : l_RH a z q v tn T ju fa pt dy mn bs h) (r : i_RA a h1) (f : i_Fr gsA ((138, 5) :: (138, 6) :: gsF) h h1) (k : l_R3 j2 h1) : l_RH a z q v tn T j2 fa pt dy mn bs h1 := by
  obtain ⟨⟨x0, x1⟩, y1, y2, y3, y4, y5, y6, y7⟩ := x
  exact ⟨⟨r, x1.fr f (by decide)⟩, y1.fr f (by decide), y2.fr f (by decide) (by decide), k, y4.fr f (by decide), y5.fr f (by decide) (by decide), y6.fr f (by decide) (by decide), y7.fr f (by decide) (by decide)⟩
theorem l_CH.dyy {d2 : Int32 × Int32 × (Nat → Int32)} (x : l_CH a t s z q v tn T ju fa pt dy mn bs h) (hm : mn ≤ 3) (g : i_ST a t h1) (f : i_Fr dyA dyF h h1) (k : l_C6 d2 h1) : l_CH a t s z q v tn T ju fa pt d2 mn bs h1 := by
  obtain ⟨⟨x0, x1, x2, x3⟩, y1, y2, y3, y4, y5, y6, y7⟩ := x
  have ht : t = 14 ∨ t = 29 := x0.1.1.2.2.1
  refine ⟨⟨g, x1.fr f (by decide), ⟨by rw [f.vR (by decide)]; exact x2.1, x2.2⟩, x3.fr f ?_⟩, y1.fr f (by decide), y2.fr f (by decide) (by decide), y3.fr f (by decide), y4.fr f (by decide), y5.fr f (by decide) (by decide), k, y7.fr hm f ?_ ?_⟩
  · rcases ht with rfl | rfl <;> decide
  · intro p h1 h2 hp; simp at hp; omega
  · intro q hq; simp at hq; rcases hq with rfl | rfl | rfl | rfl | rfl | rfl | rfl | rfl | rfl <;> decide
theorem l_RH.dyy {d2 : Int32 × Int32 × (Nat → Int32)} (x : l_RH a z q v tn T ju fa pt dy mn bs h) (r : i_RA a h1) (f : i_Fr (172 :: gsA) ((138, 55) :: (138, 56) :: gsF) h h1) (k : l_R6 d2 h1) : l_RH a z q v tn T ju fa pt d2 mn bs h1 := by
  obtain ⟨⟨x0, x1⟩, y1, y2, y3, y4, y5, y6, y7⟩ := x
  exact ⟨⟨r, x1.fr f (by decide)⟩, y1.fr f (by decide), y2.fr f (by decide) (by decide), y3.fr f (by decide), y4.fr f (by decide), y5.fr f (by decide) (by decide), k, y7.fr f (by decide) (by decide)⟩
theorem l_CH.ptt {p2 : Int32 × (Nat → Int32)} (x : l_CH a t s z q v tn T ju fa pt dy mn bs h) (hm : mn ≤ 3) (g : i_ST a t h1) (f : i_Fr (109 :: fsA) ((108, 1) :: fsF) h h1) (k : l_C5 p2 h1) : l_CH a t s z q v tn T ju fa p2 dy mn bs h1 := by
  obtain ⟨⟨x0, x1, x2, x3⟩, y1, y2, y3, y4, y5, y6, y7⟩ := x
  have ht : t = 14 ∨ t = 29 := x0.1.1.2.2.1
  refine ⟨⟨g, x1.fr f (by decide), ⟨by rw [f.vR (by decide)]; exact x2.1, x2.2⟩, x3.fr f ?_⟩, y1.fr f (by decide), y2.fr f (by decide) (by decide), y3.fr f (by decide), y4.fr f (by decide), k, y6.fr f (by decide) (by decide), y7.fr hm f ?_ ?_⟩
  · rcases ht with rfl | rfl <;> decide
  · intro p h1 h2 hp; simp at hp; omega
  · intro q hq; simp at hq; rcases hq with rfl | rfl | rfl | rfl | rfl | rfl <;> decide
theorem l_RH.ptt {p2 : Int32 × (Nat → Int32)} (x : l_RH a z q v tn T ju fa pt dy mn bs h) (r : i_RA a h1) (f : i_Fr (157 :: gsA) ((138, 36) :: gsF) h h1) (k : l_R5 p2 h1) : l_RH a z q v tn T ju fa p2 dy mn bs h1 := by
  obtain ⟨⟨x0, x1⟩, y1, y2, y3, y4, y5, y6, y7⟩ := x
  exact ⟨⟨r, x1.fr f (by decide)⟩, y1.fr f (by decide), y2.fr f (by decide) (by decide), y3.fr f (by decide), y4.fr f (by decide), k, y6.fr f (by decide) (by decide), y7.fr f (by decide) (by decide)⟩
end
