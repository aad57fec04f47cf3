/-! THE HALVES, where the town changes -/
section
variable {h h1 : iH} {a a2 b : Nat → Nat} {t s t2 s2 mn tn mn2 tn2 : Nat} {z q : Nat → Nat} {v : Nat → Nat → Int64} {T T2 : Nat → Nat} {ju : Int64 × Int64} {fa fa2 : Int32 × Int32} {pt : Int32 × (Nat → Int32)} {dy : Int32 × Int32 × (Nat → Int32)} {bs bs2 : Nat → Nat → Nat} {A : List Nat} {F : List (Nat × Nat)}
set_option maxRecDepth 20000
theorem l_CH.gen (x : l_CH a t s z q v tn T ju fa pt dy mn bs h) (c0 : l_C0 a2 t2 s2 h1) (c2 : l_C2 tn2 T2 h1) (c4 : l_C4 fa2 h1) (c7 : l_C7 mn2 bs2 h1) (f : i_Fr A F h h1) (hA : ∀ p, p ∈ [3, 4, 5, 6, 7, 8, 12, 13, 109, 135] → p ∉ A) (hF : ∀ q, q ∈ [(0, 1), (0, 2), (108, 1), (134, 0), (134, 2)] → q ∉ F) : l_CH a2 t2 s2 z q v tn2 T2 ju fa2 pt dy mn2 bs2 h1 := by
  obtain ⟨x0, y1, y2, y3, y4, y5, y6, y7⟩ := x
  exact ⟨c0, y1.fr f (fun p hp => hA p (by simp at hp ⊢; omega)), c2, y3.fr f ⟨hF _ (by simp), hF _ (by simp)⟩, c4, y5.fr f (hA _ (by simp)) (hF _ (by simp)), y6.fr f (hA _ (by simp)) ⟨hF _ (by simp), hF _ (by simp)⟩, c7⟩
theorem l_RH.gen (x : l_RH a z q v tn T ju fa pt dy mn bs h) (c0 : l_R0 a2 h1) (c2 : l_R2 tn2 T2 h1) (c4 : l_R4 fa2 h1) (c7 : l_R7 mn2 bs2 h1) (f : i_Fr A F h h1) (hA : ∀ p, p ∈ [143, 144, 145, 157, 172] → p ∉ A) (hF : ∀ q, q ∈ [(138, 5), (138, 6), (138, 36), (138, 55), (138, 56)] → q ∉ F) : l_RH a2 z q v tn2 T2 ju fa2 pt dy mn2 bs2 h1 := by
  obtain ⟨x0, y1, y2, y3, y4, y5, y6, y7⟩ := x
  exact ⟨c0, y1.fr f (fun p hp => hA p (by simp at hp ⊢; omega)), c2, y3.fr f ⟨hF _ (by simp), hF _ (by simp)⟩, c4, y5.fr f (hA _ (by simp)) (hF _ (by simp)), y6.fr f (hA _ (by simp)) ⟨hF _ (by simp), hF _ (by simp)⟩, c7⟩
/-- marks and names of the reference, where their places stay -/
theorem l_R7.on (x : l_R7 mn bs h) (hm : mn ≤ 3) (w : ∀ k, k < mn → bs k 5 ≤ 8) (e : fI h1 138 57 = fI h 138 57) (e1 : ∀ i, 680 ≤ i → i < 2720 → aI h1 139 i = aI h 139 i) (e2 : ∀ i, 8 ≤ i → i < 32 → aJ h1 140 i = aJ h 140 i) : l_R7 mn bs h1 := by
  refine ⟨by rw [e]; exact x.1, fun k hk => ⟨fun i hi => ?_, fun p hp => ?_⟩⟩
  · rw [e1 _ (by omega) (by omega)]
    exact (x.2 k hk).1 i hi
  · have := w k hk
    rw [e2 _ (by omega) (by omega)]
    exact (x.2 k hk).2 p hp
theorem l_NR.on (x : i_NR a 0 h) (w : a 5 ≤ 8) (e2 : ∀ i, i < 8 → aJ h1 140 i = aJ h 140 i) : i_NR a 0 h1 := by
  intro p hp
  rw [e2 _ (by omega)]
  exact x p hp
theorem l_TPc0 (e : fI h 10 3 = i_n 0) : l_C2 0 T h := ⟨e, Nat.zero_le _, fun _ h => absurd h (by omega)⟩
theorem l_TPr0 (e : fI h 138 12 = 0) : l_R2 0 T h := ⟨e, Nat.zero_le _, fun _ h => absurd h (by omega)⟩
end
