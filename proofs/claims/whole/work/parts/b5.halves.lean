/-! THE LAW'S INVARIANT, in halves -/
section
variable {h h2 : iH} {a : Nat → Nat} {t s mn tn : Nat} {z q : Nat → Nat} {v : Nat → Nat → Int64} {T : Nat → Nat} {ju : Int64 × Int64} {fa : Int32 × Int32} {pt : Int32 × (Nat → Int32)} {dy : Int32 × Int32 × (Nat → Int32)} {bs : Nat → Nat → Nat} {st st2 : Int32} {A : List Nat} {F : List (Nat × Nat)}
set_option maxRecDepth 20000
def l_C1 (z q : Nat → Nat) (v : Nat → Nat → Int64) (h : iH) : Prop := i_TT h ∧ i_TC z q v h
def l_C2 (tn : Nat) (T : Nat → Nat) (h : iH) : Prop := i_TPc h tn T
def l_C3 (ju : Int64 × Int64) (h : iH) : Prop := fJ h 0 1 = ju.1 ∧ fJ h 0 2 = ju.2
def l_C4 (fa : Int32 × Int32) (h : iH) : Prop := fI h 10 11 = fa.1 ∧ fI h 10 12 = fa.2
def l_C5 (pt : Int32 × (Nat → Int32)) (h : iH) : Prop := fI h 108 1 = pt.1 ∧ ∀ m, m ≤ 60 → i_n m ≤ pt.1 → aI h 109 m = pt.2 m
def l_C6 (dy : Int32 × Int32 × (Nat → Int32)) (h : iH) : Prop := fI h 134 0 = dy.1 ∧ fI h 134 2 = dy.2.1 ∧ ∀ p, p < 8 → aI h 135 p = dy.2.2 p
def l_C7 (mn : Nat) (bs : Nat → Nat → Nat) (h : iH) : Prop := fI h 0 10 = i_n mn ∧ ∀ k, k < mn → i_CT (bs k) (i_mkp k) h ∧ i_NC (bs k) (i_mkp k) h
def l_C0 (a : Nat → Nat) (t s : Nat) (h : iH) : Prop := i_ST a t h ∧ i_SW h ∧ (fR h 0 6 = s ∧ i_T2 s ∧ t ≠ s) ∧ i_NC a t h
/-- the class's half -/
def l_CH (a : Nat → Nat) (t s : Nat) (z q : Nat → Nat) (v : Nat → Nat → Int64) (tn : Nat) (T : Nat → Nat) (ju : Int64 × Int64) (fa : Int32 × Int32) (pt : Int32 × (Nat → Int32)) (dy : Int32 × Int32 × (Nat → Int32)) (mn : Nat) (bs : Nat → Nat → Nat) (h : iH) : Prop := l_C0 a t s h ∧ l_C1 z q v h ∧ l_C2 tn T h ∧ l_C3 ju h ∧ l_C4 fa h ∧ l_C5 pt h ∧ l_C6 dy h ∧ l_C7 mn bs h
theorem l_C1.fr (x : l_C1 z q v h) (f : i_Fr A F h h2) (hA : ∀ p, p ∈ [3, 4, 5, 6, 7, 8, 12, 13] → p ∉ A) : l_C1 z q v h2 := ⟨x.1.fr f (fun p hp => hA p (by simp at hp ⊢; omega)), x.2.fr f (fun p hp => hA p (by simp at hp ⊢; omega))⟩
theorem l_C2.fr (x : l_C2 tn T h) (f : i_Fr A F h h2) (hA : 11 ∉ A) (hF : (10, 3) ∉ F) : l_C2 tn T h2 := by
  unfold l_C2 i_TPc at x ⊢
  rw [f.vI hF, f.rI hA]
  exact x
theorem l_C3.fr (x : l_C3 ju h) (f : i_Fr A F h h2) (hF : (0, 1) ∉ F ∧ (0, 2) ∉ F) : l_C3 ju h2 := by
  unfold l_C3 at x ⊢
  rw [f.vJ hF.1, f.vJ hF.2]
  exact x
theorem l_C4.fr (x : l_C4 fa h) (f : i_Fr A F h h2) (hF : (10, 11) ∉ F ∧ (10, 12) ∉ F) : l_C4 fa h2 := by
  unfold l_C4 at x ⊢
  rw [f.vI hF.1, f.vI hF.2]
  exact x
theorem l_C5.fr (x : l_C5 pt h) (f : i_Fr A F h h2) (hA : 109 ∉ A) (hF : (108, 1) ∉ F) : l_C5 pt h2 := by
  unfold l_C5 at x ⊢
  rw [f.vI hF, f.rI hA]
  exact x
theorem l_C6.fr (x : l_C6 dy h) (f : i_Fr A F h h2) (hA : 135 ∉ A) (hF : (134, 0) ∉ F ∧ (134, 2) ∉ F) : l_C6 dy h2 := by
  unfold l_C6 at x ⊢
  rw [f.vI hF.1, f.vI hF.2, f.rI hA]
  exact x
theorem l_C7.fr (x : l_C7 mn bs h) (hm : mn ≤ 3) (f : i_Fr A F h h2) (hA : ∀ p, 50 ≤ p → p ≤ 94 → p ∉ A) (hF : ∀ q, q ∈ F → q ≠ (0, 10) ∧ (q.1 < 50 ∨ 94 < q.1)) : l_C7 mn bs h2 := by
  have nF : ∀ p b, 50 ≤ p → p ≤ 94 → (p, b) ∉ F := fun p b h1 h2 y => by have := (hF _ y).2; dsimp only at this; omega
  refine ⟨by rw [f.vI (fun y => (hF _ y).1 rfl)]; exact x.1, fun k hk => ?_⟩
  obtain ⟨y1, y2⟩ := x.2 k hk
  unfold i_mkp at y1 y2 ⊢
  exact ⟨y1.fr f (fun j h1 h2 => hA _ (by omega) (by omega)) (fun b => ⟨nF _ _ (by omega) (by omega), nF _ _ (by omega) (by omega)⟩), y2.fr f (hA _ (by omega) (by omega))⟩
/-- the reference's half -/
def l_R1 (z q : Nat → Nat) (v : Nat → Nat → Int64) (h : iH) : Prop := i_TR z q v h
def l_R2 (tn : Nat) (T : Nat → Nat) (h : iH) : Prop := i_TPr h tn T
def l_R3 (ju : Int64 × Int64) (h : iH) : Prop := fJ h 138 5 = ju.1 ∧ fJ h 138 6 = ju.2
def l_R4 (fa : Int32 × Int32) (h : iH) : Prop := fI h 138 18 = fa.1 ∧ fI h 138 19 = fa.2
def l_R5 (pt : Int32 × (Nat → Int32)) (h : iH) : Prop := fI h 138 36 = pt.1 ∧ ∀ m, m ≤ 60 → i_n m ≤ pt.1 → aI h 157 m = pt.2 m
def l_R6 (dy : Int32 × Int32 × (Nat → Int32)) (h : iH) : Prop := fI h 138 55 = dy.1 ∧ fI h 138 56 = dy.2.1 ∧ ∀ p, p < 8 → aI h 172 p = dy.2.2 p
def l_R7 (mn : Nat) (bs : Nat → Nat → Nat) (h : iH) : Prop := fI h 138 57 = i_n mn ∧ ∀ k, k < mn → (∀ i, i < 680 → aI h 139 (680 * (k + 1) + i) = i_n (bs k i)) ∧ i_NR (bs k) (8 * (k + 1)) h
def l_R0 (a : Nat → Nat) (h : iH) : Prop := i_RA a h ∧ i_NR a 0 h
def l_RH (a : Nat → Nat) (z q : Nat → Nat) (v : Nat → Nat → Int64) (tn : Nat) (T : Nat → Nat) (ju : Int64 × Int64) (fa : Int32 × Int32) (pt : Int32 × (Nat → Int32)) (dy : Int32 × Int32 × (Nat → Int32)) (mn : Nat) (bs : Nat → Nat → Nat) (h : iH) : Prop := l_R0 a h ∧ l_R1 z q v h ∧ l_R2 tn T h ∧ l_R3 ju h ∧ l_R4 fa h ∧ l_R5 pt h ∧ l_R6 dy h ∧ l_R7 mn bs h
theorem l_R0.fr (x : l_R0 a h) (hL : i_Lay h2) (f : i_Fr A F h h2) (hA : ∀ p, p ∈ [139, 140, 141, 142, 151, 152, 153, 154] → p ∉ A) : l_R0 a h2 := ⟨x.1.fr hL f (fun p hp => hA p (by simp at hp ⊢; omega)), x.2.fr f (hA 140 (by decide))⟩
theorem l_R1.fr (x : l_R1 z q v h) (f : i_Fr A F h h2) (hA : ∀ p, p ∈ [143, 144, 145] → p ∉ A) : l_R1 z q v h2 := i_TR.fr x f hA
theorem l_R2.fr (x : l_R2 tn T h) (f : i_Fr A F h h2) (hA : 146 ∉ A) (hF : (138, 12) ∉ F) : l_R2 tn T h2 := by
  unfold l_R2 i_TPr at x ⊢
  rw [f.vI hF, f.rI hA]
  exact x
theorem l_R3.fr (x : l_R3 ju h) (f : i_Fr A F h h2) (hF : (138, 5) ∉ F ∧ (138, 6) ∉ F) : l_R3 ju h2 := by
  unfold l_R3 at x ⊢
  rw [f.vJ hF.1, f.vJ hF.2]
  exact x
theorem l_R4.fr (x : l_R4 fa h) (f : i_Fr A F h h2) (hF : (138, 18) ∉ F ∧ (138, 19) ∉ F) : l_R4 fa h2 := by
  unfold l_R4 at x ⊢
  rw [f.vI hF.1, f.vI hF.2]
  exact x
theorem l_R5.fr (x : l_R5 pt h) (f : i_Fr A F h h2) (hA : 157 ∉ A) (hF : (138, 36) ∉ F) : l_R5 pt h2 := by
  unfold l_R5 at x ⊢
  rw [f.vI hF, f.rI hA]
  exact x
theorem l_R6.fr (x : l_R6 dy h) (f : i_Fr A F h h2) (hA : 172 ∉ A) (hF : (138, 55) ∉ F ∧ (138, 56) ∉ F) : l_R6 dy h2 := by
  unfold l_R6 at x ⊢
  rw [f.vI hF.1, f.vI hF.2, f.rI hA]
  exact x
theorem l_R7.fr (x : l_R7 mn bs h) (f : i_Fr A F h h2) (hA : 139 ∉ A ∧ 140 ∉ A) (hF : (138, 57) ∉ F) : l_R7 mn bs h2 := by
  unfold l_R7 i_NR at x ⊢
  rw [f.vI hF, f.rI hA.1, f.rJ hA.2]
  exact x
/-- the class's half, where the reference works -/
theorem l_CH.out (x : l_CH a t s z q v tn T ju fa pt dy mn bs h) (hm : mn ≤ 3) (hL : i_Lay h2) (f : i_Fr A F h h2) (hA : ∀ p, p ∈ A → 138 ≤ p) (hF : ∀ q, q ∈ F → q.1 = 138) : l_CH a t s z q v tn T ju fa pt dy mn bs h2 := by
  obtain ⟨⟨x0, x1, x2, x3⟩, y1, y2, y3, y4, y5, y6, y7⟩ := x
  have nA : ∀ p, p < 138 → p ∉ A := fun p hp y => by have := hA p y; omega
  have nF : ∀ p b, p < 138 → (p, b) ∉ F := fun p b hp y => by have := hF _ y; dsimp only at this; omega
  have ht : t = 14 ∨ t = 29 := x0.1.1.2.2.1
  refine ⟨⟨x0.fr hL f (fun p hp => by have := hA p hp; omega) (fun q hq => by have := hF q hq; omega), x1.fr f (fun q hq => nF q.1 q.2 (by simp at hq; rcases hq with rfl | rfl | rfl | rfl | rfl | rfl | rfl | rfl <;> decide)), ⟨by rw [f.vR (nF 0 6 (by omega))]; exact x2.1, x2.2⟩, x3.fr f (nA _ (by omega))⟩, y1.fr f (fun p hp => nA p (by simp at hp; omega)), y2.fr f (nA _ (by omega)) (nF _ _ (by omega)), y3.fr f ⟨nF _ _ (by omega), nF _ _ (by omega)⟩, y4.fr f ⟨nF _ _ (by omega), nF _ _ (by omega)⟩, y5.fr f (nA _ (by omega)) (nF _ _ (by omega)), y6.fr f (nA _ (by omega)) ⟨nF _ _ (by omega), nF _ _ (by omega)⟩, y7.fr hm f (fun p _ hp => nA p (by omega)) (fun q hq => ?_)⟩
  have := hF q hq
  refine ⟨fun y => ?_, by omega⟩
  subst y
  dsimp only at this
  omega
/-- the reference's half, where the class works -/
theorem l_RH.out (x : l_RH a z q v tn T ju fa pt dy mn bs h) (hL : i_Lay h2) (f : i_Fr A F h h2) (hA : ∀ p, p ∈ A → p < 138) (hF : ∀ q, q ∈ F → q.1 < 138) : l_RH a z q v tn T ju fa pt dy mn bs h2 := by
  obtain ⟨x0, y1, y2, y3, y4, y5, y6, y7⟩ := x
  have nA : ∀ p, 138 ≤ p → p ∉ A := fun p hp y => by have := hA p y; omega
  have nF : ∀ p b, 138 ≤ p → (p, b) ∉ F := fun p b hp y => by have := hF _ y; dsimp only at this; omega
  exact ⟨x0.fr hL f (fun p hp => nA p (by simp at hp; omega)), y1.fr f (fun p hp => nA p (by simp at hp; omega)), y2.fr f (nA _ (by omega)) (nF _ _ (by omega)), y3.fr f ⟨nF _ _ (by omega), nF _ _ (by omega)⟩, y4.fr f ⟨nF _ _ (by omega), nF _ _ (by omega)⟩, y5.fr f (nA _ (by omega)) (nF _ _ (by omega)), y6.fr f (nA _ (by omega)) ⟨nF _ _ (by omega), nF _ _ (by omega)⟩, y7.fr f ⟨nA _ (by omega), nA _ (by omega)⟩ (nF _ _ (by omega))⟩
/-- a question of the class -/
theorem l_CH.qu (x : l_CH a t s z q v tn T ju fa pt dy mn bs h) (hm : mn ≤ 3) (g : i_ST a t h2) (f : i_FW h h2) (sw : i_SW h2) : l_CH a t s z q v tn T ju fa pt dy mn bs h2 := by
  obtain ⟨⟨x0, x1, x2, x3⟩, y1, y2, y3, y4, y5, y6, y7⟩ := x
  have ht : t = 14 ∨ t = 29 := x0.1.1.2.2.1
  refine ⟨⟨g, sw, ⟨by rw [f.vR (by decide)]; exact x2.1, x2.2⟩, x3.fr f ?_⟩, y1.fr f (by decide), y2.fr f (by decide) (by decide), y3.fr f (by decide), y4.fr f (by decide), y5.fr f (by decide) (by decide), y6.fr f (by decide) (by decide), y7.fr hm f ?_ ?_⟩
  · rcases ht with rfl | rfl <;> decide
  · intro p h1 h2 hp
    simp at hp
    omega
  · intro q hq
    simp at hq
    rcases hq with rfl | rfl | rfl | rfl | rfl | rfl | rfl | rfl | rfl | rfl | rfl | rfl | rfl <;> decide
theorem l_CH.sw (x : l_CH a t s z q v tn T ju fa pt dy mn bs h) (f : i_FS h h2) : i_SW h2 := x.1.2.1.fr f (by decide)
theorem l_RH.qu (x : l_RH a z q v tn T ju fa pt dy mn bs h) (r : i_RA a h2) (f : i_GS h h2) : l_RH a z q v tn T ju fa pt dy mn bs h2 := by
  obtain ⟨⟨x0, x1⟩, y1, y2, y3, y4, y5, y6, y7⟩ := x
  exact ⟨⟨r, x1.fr f (by decide)⟩, y1.fr f (by decide), y2.fr f (by decide) (by decide), y3.fr f (by decide), y4.fr f (by decide), y5.fr f (by decide) (by decide), y6.fr f (by decide) (by decide), y7.fr f (by decide) (by decide)⟩
end
