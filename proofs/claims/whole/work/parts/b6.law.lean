/-! THE LAW'S STEP -/
section
variable {L : Nat} {xs : Nat → Int32} {h h1 h2 : iH} {Q : Option Value → iH → Prop} {a : Nat → Nat} {t s mn tn k : Nat} {z q : Nat → Nat} {v : Nat → Nat → Int64} {T : Nat → Nat} {ju : Int64 × Int64} {fa : Int32 × Int32} {pt : Int32 × (Nat → Int32)} {dy : Int32 × Int32 × (Nat → Int32)} {bs : Nat → Nat → Nat} {A : List Nat} {F : List (Nat × Nat)}
set_option maxRecDepth 20000
def l_PU (a z q : Nat → Nat) (pt : Int32 × (Nat → Int32)) (mn : Nat) (bs : Nat → Nat → Nat) : Prop := o_TW z q ∧ (o_NW a ∧ o_W2 a) ∧ o_wl pt.1 ∧ mn ≤ 3 ∧ ∀ k, k < mn → o_WF (bs k) ∧ o_W2 (bs k) ∧ o_NW (bs k)
def l_OK (h : iH) : Prop := ∃ a t s z q v tn T ju fa pt dy mn bs, l_PU a z q pt mn bs ∧ l_CH a t s z q v tn T ju fa pt dy mn bs h ∧ l_RH a z q v tn T ju fa pt dy mn bs h ∧ fI h 0 0 = fI h 138 4
theorem l_cmp0 {x y : Int64} (e : x = y) : lg_cmp x y = 0 := by
  subst e
  unfold lg_cmp
  rw [if_neg (Int64.lt_irrefl), if_pos rfl]
theorem l_r1 (y : l_RH a z q v tn T ju fa pt dy mn bs h) (hL : i_Lay h1) (f : i_FW h h1) : l_RH a z q v tn T ju fa pt dy mn bs h1 := y.out hL f (by decide) (by decide)
theorem l_mk (pu : l_PU a z q pt mn bs) (x : l_CH a t s z q v tn T ju fa pt dy mn bs h1) (y : l_RH a z q v tn T ju fa pt dy mn bs h2) (f : i_Fr A F h1 h2) (hA : ∀ p, p ∈ A → 138 ≤ p) (hF : ∀ q, q ∈ F → q.1 = 138) {e : Int32} (e1 : fI h1 0 0 = e) (e2 : fI h2 138 4 = e) : l_OK h2 := by
  refine ⟨a, t, s, z, q, v, tn, T, ju, fa, pt, dy, mn, bs, pu, x.out pu.2.2.2.1 y.1.1.1 f hA hF, y, ?_⟩
  rw [f.vI (fun z => by have := hF _ z; dsimp only at this; omega), e1, e2]
theorem l_fin (pu : l_PU a z q pt mn bs) (x : l_CH a t s z q v tn T ju fa pt dy mn bs h) (y : l_RH a z q v tn T ju fa pt dy mn bs h) (g1 : i_ST a t h1) (f1 : i_FW h h1) (sw : i_SW h1) {e : Int32} (e1 : fI h1 0 0 = e) (r2 : i_RA a h2) (f2 : i_GS h1 h2) (e2 : fI h2 138 4 = e) : l_OK h2 := l_mk pu (x.qu pu.2.2.2.1 g1 f1 sw) ((l_r1 y g1.l f1).qu r2 f2) f2 (by decide) (by decide) e1 e2
theorem l_in {j : Nat} (hk : k + 6 ≤ L) (hL : L ≤ 3072) (hj : j ≤ 5) : ¬ (i_n k + i_n j < 0 ∨ L ≤ (i_n k + i_n j).toNatClampNeg) := by
  rw [n_add, n_cl (by omega), show (0 : Int32) = i_n 0 from rfl, n_lt (by omega) (by omega)]
  omega
theorem l_lt (hL : L ≤ 3072) (hk : k ≤ 100000) : Int32.ofNat L - (6 : Int32) < i_n k ↔ L < k + 6 := by
  show i_n L - i_n 6 < i_n k ↔ _
  by_cases q : 6 ≤ L
  · rw [n_sub q, n_lt (by omega) (by omega)]
    omega
  · refine ⟨fun _ => by omega, fun _ => ?_⟩
    rw [Int32.lt_iff_toInt_lt, n_int (by omega)]
    have : (i_n L - i_n 6).toInt < 0 := by
      rcases (show L = 0 ∨ L = 1 ∨ L = 2 ∨ L = 3 ∨ L = 4 ∨ L = 5 by omega) with rfl | rfl | rfl | rfl | rfl | rfl <;> decide
    omega
theorem l_wc (w : o_wl pt.1) {u : Int32} {f : Nat → Int32} (e : u = pt.1) (ef : ∀ m, m ≤ 60 → i_n m ≤ pt.1 → f m = pt.2 m) (x : Int32) : o_wcA u f x = o_wcA pt.1 pt.2 x := by
  subst e
  unfold o_wcA
  by_cases hx : 0 ≤ x ∧ x ≤ pt.1
  · rw [if_pos hx, if_pos hx]
    obtain ⟨k, hk, rfl⟩ := w.g hx
    rw [n_cl (by omega), ef k hk hx.2]
  · rw [if_neg hx, if_neg hx]
theorem l_saw {u : Int32} {f g : Nat → Int32} (ef : ∀ p, p < 8 → f p = g p) (x : Int32) : o_sawA u f x = o_sawA u g x := by
  unfold o_sawA
  by_cases hx : 0 ≤ x ∧ x ≤ 7
  · rw [if_pos hx, if_pos hx]
    obtain ⟨k, hk, rfl⟩ : ∃ k, k ≤ 7 ∧ x = i_n k := n_gle (k := 7) hx (by omega)
    rw [n_cl (by omega), ef k (by omega)]
  · rw [if_neg hx, if_neg hx]
abbrev l_P (L : Nat) (xs : Nat → Int32) (Q : Option Value → iH → Prop) (pc k : Nat) (h : iH) : Prop := i_P i_MT i_AT L xs 351 pc [some (.retAddr 3), some (.ref 0), some (.ref 138), some (.int (i_n k))] [] h 173 127414 Q

def l_PR (L : Nat) (xs : Nat → Int32) (k1 k2 : Nat) (as : List Value) (h : iH) : Prop := i_C i_MT i_AT L xs k1 (.ref 0 :: as) h (fun v h1 => ∃ r : Int32, v = some (.int r) ∧ i_Lay h1 ∧ i_C i_MT i_AT L xs k2 (.ref 138 :: as) h1 (fun w h2 => w = some (.int r) ∧ l_OK h2))
def l_PJ (L : Nat) (xs : Nat → Int32) (k1 k2 : Nat) (as : List Value) (h : iH) : Prop := i_C i_MT i_AT L xs k1 (.ref 0 :: as) h (fun v h1 => ∃ r : Int64, v = some (.long r) ∧ i_Lay h1 ∧ i_C i_MT i_AT L xs k2 (.ref 138 :: as) h1 (fun w h2 => w = some (.long r) ∧ l_OK h2))
theorem l_CH.tr {z2 q2 : Nat → Nat} {v2 : Nat → Nat → Int64} (x : l_CH a t s z q v tn T ju fa pt dy mn bs h) (hm : mn ≤ 3) (g : i_ST a t h1) (f : i_Fr (3 :: 4 :: 5 :: 6 :: 7 :: 8 :: [99, 100, 106, 107]) [(0, 0)] h h1) (k : i_TC z2 q2 v2 h1) : l_CH a t s z2 q2 v2 tn T ju fa pt dy mn bs h1 := by
  obtain ⟨⟨x0, x1, x2, x3⟩, y1, y2, y3, y4, y5, y6, y7⟩ := x
  have ht : t = 14 ∨ t = 29 := x0.1.1.2.2.1
  refine ⟨⟨g, x1.fr f (by decide), ⟨by rw [f.vR (by decide)]; exact x2.1, x2.2⟩, x3.fr f ?_⟩, ⟨y1.1.fr f (by decide), k⟩, y2.fr f (by decide) (by decide), y3.fr f (by decide), y4.fr f (by decide), y5.fr f (by decide) (by decide), y6.fr f (by decide) (by decide), y7.fr hm f ?_ ?_⟩
  · rcases ht with rfl | rfl <;> decide
  · intro p h1 h2 hp
    simp at hp
    omega
  · intro q hq
    simp at hq
    subst hq
    decide
theorem l_RH.tr {z2 q2 : Nat → Nat} {v2 : Nat → Nat → Int64} (x : l_RH a z q v tn T ju fa pt dy mn bs h) (r : i_RA a h1) (f : i_GTr h h1) (k : i_TR z2 q2 v2 h1) : l_RH a z2 q2 v2 tn T ju fa pt dy mn bs h1 := by
  obtain ⟨⟨x0, x1⟩, y1, y2, y3, y4, y5, y6, y7⟩ := x
  exact ⟨⟨r, x1.fr f (by decide)⟩, k, y2.fr f (by decide) (by decide), y3.fr f (by decide), y4.fr f (by decide), y5.fr f (by decide) (by decide), y6.fr f (by decide) (by decide), y7.fr f (by decide) (by decide)⟩
theorem l_op3 (pu : l_PU a z q pt mn bs) (x : l_CH a t s z q v tn T ju fa pt dy mn bs h) (y : l_RH a z q v tn T ju fa pt dy mn bs h) (_ : fI h 0 0 = fI h 138 4) {X Y N : Int32} : l_PR L xs 132 207 [.int X, .int Y, .int N] h := by
  by_cases hv : v_ly X Y N
  · refine c132 x.1.1 x.2.1.2 (fun nv => absurd hv nv) (fun j s1 m e1 e2 e3 hj hs hm h1 g1 f1 k1 st1 => ⟨_, rfl, g1.l, ?_⟩)
    have y1 : l_RH a z q v tn T ju fa pt dy mn bs h1 := y.out g1.l f1 (by decide) (by decide)
    refine c207 y1.1.1 pu.1 y1.2.1 (fun nv => absurd hv nv) (fun j2 s2 m2 e4 e5 e6 hj2 hs2 hm2 h2 r2 f2 k2 st2 => ⟨rfl, ?_⟩)
    rw [e4] at e1
    rw [e5] at e2
    rw [e6] at e3
    rw [n_eq (by omega) (by omega)] at e1 e2 e3
    subst e1 e2 e3
    refine l_mk ⟨fun i hi => ?_, pu.2⟩ (x.tr pu.2.2.2.1 g1 f1 k1) (y1.tr r2 f2 k2) f2 (by decide) (by decide) st1 st2
    have := pu.1 i hi
    unfold o_up
    constructor <;> split <;> omega
  · refine c132 x.1.1 x.2.1.2 (fun _ h1 g1 f1 e1 => ⟨_, rfl, g1.l, ?_⟩) (fun j s1 m e1 e2 e3 hj hs hm => ?_)
    · refine c207 (l_r1 y g1.l f1.s.w).1.1 pu.1 (l_r1 y g1.l f1.s.w).2.1 (fun _ h2 r2 f2 e2 => ⟨rfl, l_fin pu x y g1 f1.s.w (x.sw f1.s) e1 r2 f2.s e2⟩) (fun j s1 m e1 e2 e3 hj hs hm => ?_)
      refine absurd ?_ hv
      subst e1 e2 e3
      unfold v_ly v_tr
      try simp (disch := omega) only [n_lit, n_m, n_add, n_mul, n_div, n_mod, n_cl, n_lt, n_le, n_eq, n_in, n_eqm, n_meq, n_mlt, n_ltm, n_mle, n_lem, not_true_eq_false, not_false_eq_true, true_implies, false_implies, true_and, and_true, Nat.not_lt_zero, Nat.zero_le]
      omega
    · refine absurd ?_ hv
      subst e1 e2 e3
      unfold v_ly v_tr
      try simp (disch := omega) only [n_lit, n_m, n_add, n_mul, n_div, n_mod, n_cl, n_lt, n_le, n_eq, n_in, n_eqm, n_meq, n_mlt, n_ltm, n_mle, n_lem, not_true_eq_false, not_false_eq_true, true_implies, false_implies, true_and, and_true, Nat.not_lt_zero, Nat.zero_le]
      omega
theorem l_op4 (pu : l_PU a z q pt mn bs) (x : l_CH a t s z q v tn T ju fa pt dy mn bs h) (y : l_RH a z q v tn T ju fa pt dy mn bs h) (_ : fI h 0 0 = fI h 138 4) {X P : Int32} {Y : Int64} : l_PR L xs 133 209 [.int X, .int P, .long Y] h := by
  by_cases hv : o_plc z X P = 0
  · refine c133 x.1.1 pu.1 x.2.1.2 (fun nv => absurd hv nv) (fun j i e1 e2 hj hi _ h1 g1 f1 k1 st1 => ⟨_, rfl, g1.l, ?_⟩)
    have y1 : l_RH a z q v tn T ju fa pt dy mn bs h1 := y.out g1.l f1 (by decide) (by decide)
    refine c209 y1.1.1 pu.1 y1.2.1 (fun nv => absurd hv nv) (fun j2 i2 e4 e5 hj2 hi2 _ h2 r2 f2 k2 st2 => ⟨rfl, ?_⟩)
    have b1 := (pu.1 j hj).1
    have b2 := (pu.1 j2 hj2).1
    rw [e4] at e1
    rw [e5] at e2
    rw [n_eq (by omega) (by omega)] at e1 e2
    subst e1 e2
    exact l_mk pu (x.tr pu.2.2.2.1 g1 f1 k1) (y1.tr r2 f2 k2) f2 (by decide) (by decide) st1 st2
  · refine c133 x.1.1 pu.1 x.2.1.2 (fun _ h1 g1 f1 e1 => ⟨_, rfl, g1.l, ?_⟩) (fun j i e1 e2 hj hi e3 => absurd e3 hv)
    exact c209 (l_r1 y g1.l f1.s.w).1.1 pu.1 (l_r1 y g1.l f1.s.w).2.1 (fun _ h2 r2 f2 e2 => ⟨rfl, l_fin pu x y g1 f1.s.w (x.sw f1.s) e1 r2 f2.s e2⟩) (fun j i e1 e2 hj hi e3 => absurd e3 hv)
theorem l_op5 (pu : l_PU a z q pt mn bs) (x : l_CH a t s z q v tn T ju fa pt dy mn bs h) (y : l_RH a z q v tn T ju fa pt dy mn bs h) (_ : fI h 0 0 = fI h 138 4) {X P : Int32} : l_PJ L xs 134 210 [.int X, .int P] h := by
  by_cases hv : o_plc z X P = 0
  · refine c134 x.1.1 pu.1 x.2.1.2 (fun nv => absurd hv nv) (fun j i e1 e2 hj hi _ h1 g1 f1 st1 => ⟨_, rfl, g1.l, ?_⟩)
    refine c210 (l_r1 y g1.l f1.s.w).1.1 pu.1 (l_r1 y g1.l f1.s.w).2.1 (fun nv => absurd hv nv) (fun j2 i2 e4 e5 hj2 hi2 _ h2 r2 f2 st2 => ⟨?_, l_fin pu x y g1 f1.s.w (x.sw f1.s) st1 r2 f2.s st2⟩)
    have b1 := (pu.1 j hj).1
    have b2 := (pu.1 j2 hj2).1
    rw [e4] at e1
    rw [e5] at e2
    rw [n_eq (by omega) (by omega)] at e1 e2
    subst e1 e2
    rfl
  · refine c134 x.1.1 pu.1 x.2.1.2 (fun _ h1 g1 f1 e1 => ⟨_, rfl, g1.l, ?_⟩) (fun j i e1 e2 hj hi e3 => absurd e3 hv)
    exact c210 (l_r1 y g1.l f1.s.w).1.1 pu.1 (l_r1 y g1.l f1.s.w).2.1 (fun _ h2 r2 f2 e2 => ⟨rfl, l_fin pu x y g1 f1.s.w (x.sw f1.s) e1 r2 f2.s e2⟩) (fun j i e1 e2 hj hi e3 => absurd e3 hv)
theorem l_op6 (pu : l_PU a z q pt mn bs) (x : l_CH a t s z q v tn T ju fa pt dy mn bs h) (y : l_RH a z q v tn T ju fa pt dy mn bs h) (_ : fI h 0 0 = fI h 138 4) {X P Y R N : Int32} : l_PR L xs 135 211 [.int X, .int P, .int Y, .int R, .int N] h := by
  by_cases hv : o_pou z q X P Y R N = 0
  · refine c135 x.1.1 pu.1 x.2.1.2 (fun nv => absurd hv nv) (fun _ h1 g1 f1 k1 st1 => ⟨_, rfl, g1.l, ?_⟩)
    have y1 : l_RH a z q v tn T ju fa pt dy mn bs h1 := y.out g1.l f1 (by decide) (by decide)
    exact c211 y1.1.1 pu.1 y1.2.1 (fun nv => absurd hv nv) (fun _ h2 r2 f2 k2 st2 => ⟨rfl, l_mk pu (x.tr pu.2.2.2.1 g1 f1 k1) (y1.tr r2 f2 k2) f2 (by decide) (by decide) st1 st2⟩)
  · refine c135 x.1.1 pu.1 x.2.1.2 (fun _ h1 g1 f1 e1 => ⟨_, rfl, g1.l, ?_⟩) (fun e3 => absurd e3 hv)
    exact c211 (l_r1 y g1.l f1.s.w).1.1 pu.1 (l_r1 y g1.l f1.s.w).2.1 (fun _ h2 r2 f2 e2 => ⟨rfl, l_fin pu x y g1 f1.s.w (x.sw f1.s) e1 r2 f2.s e2⟩) (fun e3 => absurd e3 hv)
theorem l_op7 (pu : l_PU a z q pt mn bs) (x : l_CH a t s z q v tn T ju fa pt dy mn bs h) (y : l_RH a z q v tn T ju fa pt dy mn bs h) (est : fI h 0 0 = fI h 138 4) {X1 X2 X3 X4 X5 : Int32} : l_PR L xs 136 213 [.int X1, .int X2, .int X3, .int X4, .int X5] h := by
  have hL := x.1.1.l
  by_cases hv : tn + 20 ≤ 900
  · refine c136 hL x.2.2.1 (fun nv => absurd hv nv) (fun _ h1 L1 f1 k1 => ⟨_, rfl, L1, ?_⟩)
    have y1 : l_RH a z q v tn T ju fa pt dy mn bs h1 := y.out L1 f1 (by decide) (by decide)
    refine c213 L1 y1.2.2.1 (fun nv => absurd hv nv) (fun _ h2 L2 f2 k2 => ⟨rfl, ?_⟩)
    refine l_mk (e := fI h 0 0) pu (x.tp pu.2.2.2.1 L1 f1 k1) (y1.tp L2 f2 k2) f2 (by decide) (by decide) ?_ ?_
    · rw [f1.vI (by decide)]
    · rw [f2.vI (by decide), f1.vI (by decide), est]
  · exact c136 hL x.2.2.1 (fun _ => ⟨_, rfl, hL, c213 hL y.2.2.1 (fun _ => ⟨rfl, ⟨a, t, s, z, q, v, tn, T, ju, fa, pt, dy, mn, bs, pu, x, y, est⟩⟩) (fun e => absurd e hv)⟩) (fun e => absurd e hv)
theorem l_op44 (pu : l_PU a z q pt mn bs) (x : l_CH a t s z q v tn T ju fa pt dy mn bs h) (y : l_RH a z q v tn T ju fa pt dy mn bs h) (_ : fI h 0 0 = fI h 138 4) {X : Int32} : l_PR L xs 173 326 [.int X] h := by
  by_cases hv : v_s X
  · refine c173 x.1.1 (fun nv => absurd hv nv) (fun s1 e1 hs h1 g1 f1 st1 k1 k2 k3 => ⟨_, rfl, g1.l, ?_⟩)
    have y1 : l_RH a z q v tn T ju fa pt dy mn bs h1 := y.out g1.l f1 (by decide) (by decide)
    refine c326 y1.1.1 (fun nv => absurd hv nv) (fun s2 e2 hs2 h2 r2 f2 st2 m1 m2 m3 => ?_)
    rw [e2, n_eq (by omega) (by omega)] at e1
    subst e1
    exact ⟨rfl, l_mk pu (x.dyy (d2 := (i_n (a 5), i_n (o_hid a (o_day a s2)), fun p => i_n ((o_day a s2).2.2 p))) pu.2.2.2.1 g1 f1 ⟨k1, k2, k3⟩) (y1.dyy r2 f2 ⟨m1, m2, m3⟩) f2 (by decide) (by decide) st1 st2⟩
  · refine c173 x.1.1 (fun _ h1 g1 f1 e1 => ⟨_, rfl, g1.l, ?_⟩) (fun s1 e1 hs => ?_)
    · refine c326 (l_r1 y g1.l f1.s.w).1.1 (fun _ h2 r2 f2 e2 => ⟨rfl, l_fin pu x y g1 f1.s.w (x.sw f1.s) e1 r2 f2.s e2⟩) (fun s1 e1 hs => ?_)
      refine absurd ?_ hv
      subst e1
      unfold v_s
      try simp (disch := omega) only [n_lit, n_m, n_add, n_mul, n_div, n_mod, n_cl, n_lt, n_le, n_eq, n_in, n_eqm, n_meq, n_mlt, n_ltm, n_mle, n_lem, not_true_eq_false, not_false_eq_true, true_implies, false_implies, true_and, and_true, Nat.not_lt_zero, Nat.zero_le]
      exact hs
    · refine absurd ?_ hv
      subst e1
      unfold v_s
      try simp (disch := omega) only [n_lit, n_m, n_add, n_mul, n_div, n_mod, n_cl, n_lt, n_le, n_eq, n_in, n_eqm, n_meq, n_mlt, n_ltm, n_mle, n_lem, not_true_eq_false, not_false_eq_true, true_implies, false_implies, true_and, and_true, Nat.not_lt_zero, Nat.zero_le]
      exact hs
theorem l_op47 (pu : l_PU a z q pt mn bs) (x : l_CH a t s z q v tn T ju fa pt dy mn bs h) (y : l_RH a z q v tn T ju fa pt dy mn bs h) (_ : fI h 0 0 = fI h 138 4) {X Y : Int32} : l_PR L xs 176 329 [.int X, .int Y] h := by
  by_cases hv : v_sf X Y
  · refine c176b x.1.1 (fun nv => absurd hv nv) (fun s1 m1 e1 e2 hs hm _ h1 g1 f1 st1 k1 k2 => ⟨_, rfl, g1.l, ?_⟩)
    have y1 : l_RH a z q v tn T ju fa pt dy mn bs h1 := y.out g1.l f1 (by decide) (by decide)
    refine c329b y1.1.1 (fun nv => absurd hv nv) (fun s2 m2 e3 e4 hs2 hm2 _ h2 r2 f2 st2 k3 k4 => ?_)
    rw [e3, n_eq (by omega) (by omega)] at e1
    rw [e4, n_eq (by omega) (by omega)] at e2
    subst e1 e2
    exact ⟨rfl, l_mk pu (x.juu (j2 := (o_top (o_saf a s2 m2) m2, o_bot (o_saf a s2 m2) m2)) pu.2.2.2.1 g1 f1 ⟨k1, k2⟩) (y1.juu r2 f2 ⟨k3, k4⟩) f2 (by decide) (by decide) st1 st2⟩
  · refine c176b x.1.1 (fun _ h1 g1 f1 e1 => ⟨_, rfl, g1.l, ?_⟩) (fun s1 m1 e1 e2 hs hm hv2 => absurd hv2 hv)
    exact c329b (l_r1 y g1.l f1.s.w).1.1 (fun _ h2 r2 f2 e2 => ⟨rfl, l_fin pu x y g1 f1.s.w (x.sw f1.s) e1 r2 f2.s e2⟩) (fun s1 m1 e1 e2 hs hm hv2 => absurd hv2 hv)
theorem l_op26 (pu : l_PU a z q pt mn bs) (x : l_CH a t s z q v tn T ju fa pt dy mn bs h) (y : l_RH a z q v tn T ju fa pt dy mn bs h) (_ : fI h 0 0 = fI h 138 4) {X Y : Int32} : l_PR L xs 155 287 [.int X, .int Y] h := by
  have c48 := x.1.1.w.c48
  have h5 := x.1.1.w.2.2.2.2.1
  have vf : ∀ p c, p < a 5 → c < a 0 * a 1 → o_wall a c = false → X = i_n p → Y = i_n c → v_p a X ∧ v_f a Y := fun p c hp hc hw e1 e2 => by
    subst e1 e2
    unfold v_p v_f v_c
    rw [n_cl (by omega)]
    try simp (disch := omega) only [n_lit, n_m, n_add, n_mul, n_div, n_mod, n_cl, n_lt, n_le, n_eq, n_in, n_eqm, n_meq, n_mlt, n_ltm, n_mle, n_lem, not_true_eq_false, not_false_eq_true, true_implies, false_implies, true_and, and_true, Nat.not_lt_zero, Nat.zero_le]
    exact ⟨hp, hc, hw⟩
  have eqs : ∀ {p c p2 c2 : Nat}, p < a 5 → c < a 0 * a 1 → p2 < a 5 → c2 < a 0 * a 1 → X = i_n p → Y = i_n c → X = i_n p2 → Y = i_n c2 → p = p2 ∧ c = c2 := fun h1 h2 h3 h4 e1 e2 e3 e4 => by
    rw [e1, n_eq (by omega) (by omega)] at e3
    rw [e2, n_eq (by omega) (by omega)] at e4
    exact ⟨e3, e4⟩
  by_cases hv : v_p a X ∧ v_f a Y
  · refine c155 x.1.1 (fun nv => absurd hv nv) (fun p c e1 e2 hp hc hw ew h1 g1 f1 st1 => ⟨_, rfl, g1.l, ?_⟩) (fun p c U e1 e2 hp hc hw ew hU h1 g1 f1 st1 k1 k2 => ⟨_, rfl, g1.l, ?_⟩)
    · refine c287w (l_r1 y g1.l f1.w).1.1 (fun nv => absurd hv nv) (fun p2 c2 e3 e4 hp2 hc2 hw2 ew2 h2 r2 f2 st2 => ⟨rfl, l_fin pu x y g1 f1.w (x.sw f1) st1 r2 f2 st2⟩) (fun p2 c2 U e3 e4 hp2 hc2 hw2 ew2 => ?_)
      obtain ⟨rfl, rfl⟩ := eqs hp hc hp2 hc2 e1 e2 e3 e4
      rw [ew] at ew2
      cases ew2
    · have y1 : l_RH a z q v tn T ju fa pt dy mn bs h1 := y.out g1.l f1 (by decide) (by decide)
      refine c287w y1.1.1 (fun nv => absurd hv nv) (fun p2 c2 e3 e4 hp2 hc2 hw2 ew2 => ?_) (fun p2 c2 U2 e3 e4 hp2 hc2 hw2 ew2 hU2 h2 r2 f2 st2 m1 m2 => ?_)
      · obtain ⟨rfl, rfl⟩ := eqs hp hc hp2 hc2 e1 e2 e3 e4
        rw [ew] at ew2
        cases ew2
      · obtain ⟨rfl, rfl⟩ := eqs hp hc hp2 hc2 e1 e2 e3 e4
        rw [ew] at ew2
        cases ew2
        refine ⟨rfl, l_mk ⟨pu.1, pu.2.1, Or.inr ⟨U, hU, rfl⟩, pu.2.2.2⟩ (x.ptt (p2 := (i_n U, fun m => i_n (o_pth a p c U m))) pu.2.2.2.1 g1 f1 ⟨k1, fun m hm e => k2 m ?_⟩) (y1.ptt r2 f2 ⟨m1, fun m hm e => m2 m ?_⟩) f2 (by decide) (by decide) st1 st2⟩
        · rwa [n_le (by omega) (by omega)] at e
        · rwa [n_le (by omega) (by omega)] at e
  · refine c155 x.1.1 (fun _ h1 g1 f1 e1 => ⟨_, rfl, g1.l, ?_⟩) (fun p c e1 e2 hp hc hw => absurd (vf p c hp hc hw e1 e2) hv) (fun p c U e1 e2 hp hc hw => absurd (vf p c hp hc hw e1 e2) hv)
    exact c287w (l_r1 y g1.l f1.s.w).1.1 (fun _ h2 r2 f2 e2 => ⟨rfl, l_fin pu x y g1 f1.s.w (x.sw f1.s) e1 r2 f2.s e2⟩) (fun p c e1 e2 hp hc hw => absurd (vf p c hp hc hw e1 e2) hv) (fun p c U e1 e2 hp hc hw => absurd (vf p c hp hc hw e1 e2) hv)
theorem l_two {t s : Nat} (h1 : i_T2 t) (h2 : i_T2 s) (ne : t ≠ s) : (t = 14 ∧ s = 29) ∨ (t = 29 ∧ s = 14) := by
  unfold i_T2 at h1 h2
  omega
set_option maxHeartbeats 2000000 in
theorem l_op8 (pu : l_PU a z q pt mn bs) (x : l_CH a t s z q v tn T ju fa pt dy mn bs h) (y : l_RH a z q v tn T ju fa pt dy mn bs h) (_ : fI h 0 0 = fI h 138 4) {X : Int32} : l_PR L xs 137 243 [.int X] h := by
  have hm := pu.2.2.2.1
  have t9 := x.2.2.1.2.1
  have h5 := x.1.1.w.2.2.2.2.1
  have w5 : ∀ k, k < mn → bs k 5 ≤ 8 := fun k hk => (pu.2.2.2.2 k hk).1.2.2.2.2.1
  obtain ⟨sp, hS, ne⟩ := x.1.2.2.1
  have hT : i_T2 t := x.1.1.1.1.2.2.1
  by_cases hv : 0 ≤ X ∧ X ≤ i_n tn
  · refine c137 x.1.1 hS ne sp x.2.1.1 x.2.2.1 (fun nv => absurd hv nv) (fun n hn hX f p he h1 g1 f1 sp1 bl1 tz1 st1 => ⟨_, rfl, g1.l, ?_⟩) (fun n hn hX k2 a2 he w h1 g1 f1 sp1 nc1 bl1 tz1 st1 => ⟨_, rfl, g1.l, ?_⟩)
    · have y1 : l_RH a z q v tn T ju fa pt dy mn bs h1 := by
        rcases l_two hT hS ne with ⟨rfl, rfl⟩ | ⟨rfl, rfl⟩
        · exact y.out g1.l f1 (by decide) (by decide)
        · exact y.out g1.l f1 (by decide) (by decide)
      refine c243 y1.1.1 y1.2.2.1 (fun nv => absurd hv nv) (fun n2 hn2 hX2 f2 p2 he2 h2 r2 g2 a2' nm2 e18 e19 e12 st2 => ?_) (fun n2 hn2 hX2 k3 a3 he2 => ?_)
      · rw [hX2, n_eq (by omega) (by omega)] at hX
        subst hX
        rw [he2] at he
        cases he
        refine ⟨rfl, l_mk pu (x.gen (fa2 := (_, _)) (s2 := s) (t2 := t) (T2 := T) ⟨g1, ?_, ⟨sp1, hS, ne⟩, ?_⟩ (l_TPc0 tz1) ⟨bl1.1, bl1.2⟩ (x.2.2.2.2.2.2.2.fr hm f1 ?_ ?_) f1 ?_ ?_) (y1.gen (fa2 := (_, _)) (T2 := T) ⟨r2, l_NR.on y1.1.2 h5 (fun i hi => nm2 i (by omega))⟩ (l_TPr0 e12) ⟨e18, e19⟩ (l_R7.on y1.2.2.2.2.2.2.2 hm w5 (g2.vI (by decide)) (fun i _ h2 => a2' i h2) (fun i _ h2 => nm2 i h2)) g2 (by decide) (by decide)) g2 (by decide) (by decide) st1 st2⟩
        all_goals (clear he2; rcases l_two hT hS ne with ⟨rfl, rfl⟩ | ⟨rfl, rfl⟩)
        · exact x.1.2.1.fr f1 (by decide)
        · exact x.1.2.1.fr f1 (by decide)
        · exact x.1.2.2.2.fr f1 (by decide)
        · exact x.1.2.2.2.fr f1 (by decide)
        · intro p h1 h2 hp; simp [tA] at hp; omega
        · intro p h1 h2 hp; simp [tA] at hp; omega
        · decide
        · decide
        · decide
        · decide
        · decide
        · decide
      · rw [hX2, n_eq (by omega) (by omega)] at hX
        subst hX
        rw [he2] at he
        cases he
    · have y1 : l_RH a z q v tn T ju fa pt dy mn bs h1 := by
        rcases l_two hT hS ne with ⟨rfl, rfl⟩ | ⟨rfl, rfl⟩
        · exact y.out g1.l f1 (by decide) (by decide)
        · exact y.out g1.l f1 (by decide) (by decide)
      refine c243 y1.1.1 y1.2.2.1 (fun nv => absurd hv nv) (fun n2 hn2 hX2 f2 p2 he2 => ?_) (fun n2 hn2 hX2 k3 a3 he2 w3 h2 r2 g2 a2' nm2 nr2 e18 e19 e12 st2 => ?_)
      · rw [hX2, n_eq (by omega) (by omega)] at hX
        subst hX
        rw [he2] at he
        cases he
      · rw [hX2, n_eq (by omega) (by omega)] at hX
        subst hX
        rw [he2] at he
        cases he
        refine ⟨rfl, l_mk ⟨pu.1, ⟨w3.2.2.2.1, w3.2.2.1⟩, pu.2.2⟩ (x.gen (fa2 := (_, _)) (s2 := t) (t2 := s) (T2 := T) ⟨g1, ?_, ⟨sp1, hT, fun z => ne z.symm⟩, nc1⟩ (l_TPc0 tz1) ⟨bl1.1, bl1.2⟩ (x.2.2.2.2.2.2.2.fr hm f1 ?_ ?_) f1 ?_ ?_) (y1.gen (fa2 := (_, _)) (T2 := T) ⟨r2, nr2⟩ (l_TPr0 e12) ⟨e18, e19.trans n_big.symm⟩ (l_R7.on y1.2.2.2.2.2.2.2 hm w5 (g2.vI (by decide)) a2' nm2) g2 (by decide) (by decide)) g2 (by decide) (by decide) st1 st2⟩
        all_goals (clear he2; rcases l_two hT hS ne with ⟨rfl, rfl⟩ | ⟨rfl, rfl⟩)
        · exact x.1.2.1.fr f1 (by decide)
        · exact x.1.2.1.fr f1 (by decide)
        · intro p h1 h2 hp; simp [tA] at hp; omega
        · intro p h1 h2 hp; simp [tA] at hp; omega
        · decide
        · decide
        · decide
        · decide
        · decide
        · decide
  · refine c137 x.1.1 hS ne sp x.2.1.1 x.2.2.1 (fun _ h1 g1 f1 e1 => ⟨_, rfl, g1.l, ?_⟩) (fun n hn hX => ?_) (fun n hn hX => ?_)
    · have f1 : i_F0 h h1 := f1.mono (fun _ z => absurd z (by simp)) (fun _ z => z)
      refine c243 (l_r1 y g1.l f1.s.w).1.1 (l_r1 y g1.l f1.s.w).2.2.1 (fun _ h2 r2 f2 e2 => ⟨rfl, l_fin pu x y g1 f1.s.w (x.sw f1.s) e1 r2 f2.s e2⟩) (fun n hn hX => ?_) (fun n hn hX => ?_)
      · refine absurd ?_ hv
        subst hX
        try simp (disch := omega) only [n_lit, n_m, n_add, n_mul, n_div, n_mod, n_cl, n_lt, n_le, n_eq, n_in, n_eqm, n_meq, n_mlt, n_ltm, n_mle, n_lem, not_true_eq_false, not_false_eq_true, true_implies, false_implies, true_and, and_true, Nat.not_lt_zero, Nat.zero_le]
        exact hn
      · refine absurd ?_ hv
        subst hX
        try simp (disch := omega) only [n_lit, n_m, n_add, n_mul, n_div, n_mod, n_cl, n_lt, n_le, n_eq, n_in, n_eqm, n_meq, n_mlt, n_ltm, n_mle, n_lem, not_true_eq_false, not_false_eq_true, true_implies, false_implies, true_and, and_true, Nat.not_lt_zero, Nat.zero_le]
        exact hn
    · refine absurd ?_ hv
      subst hX
      try simp (disch := omega) only [n_lit, n_m, n_add, n_mul, n_div, n_mod, n_cl, n_lt, n_le, n_eq, n_in, n_eqm, n_meq, n_mlt, n_ltm, n_mle, n_lem, not_true_eq_false, not_false_eq_true, true_implies, false_implies, true_and, and_true, Nat.not_lt_zero, Nat.zero_le]
      exact hn
    · refine absurd ?_ hv
      subst hX
      try simp (disch := omega) only [n_lit, n_m, n_add, n_mul, n_div, n_mod, n_cl, n_lt, n_le, n_eq, n_in, n_eqm, n_meq, n_mlt, n_ltm, n_mle, n_lem, not_true_eq_false, not_false_eq_true, true_implies, false_implies, true_and, and_true, Nat.not_lt_zero, Nat.zero_le]
      exact hn
theorem l_pln_nw {s2 : Nat → Nat} (w : o_NW a) : o_NW (o_pln a s2) := by
  intro p hp
  rw [o_pln_o (by omega)] at hp
  rw [o_pln_o (by omega)]
  exact w p hp
theorem l_pln_w2 {s2 : Nat → Nat} (w : o_W2 a) : o_W2 (o_pln a s2) := by
  unfold o_W2 at w ⊢
  rw [o_pln_o (by omega), w]
  refine o_cn0_ext _ (fun c hc => ?_)
  rw [o_pln_o (by omega)]
theorem l_pln_nc {s2 : Nat → Nat} (w : i_NC a t h) : i_NC (o_pln a s2) t h := by
  intro p hp
  rw [o_pln_o (by omega)] at hp
  rw [o_pln_o (by omega)]
  exact w p hp
theorem l_pln_nr {s2 : Nat → Nat} (w : i_NR a 0 h) : i_NR (o_pln a s2) 0 h := by
  intro p hp
  rw [o_pln_o (by omega)] at hp
  rw [o_pln_o (by omega)]
  exact w p hp
set_option maxHeartbeats 2000000 in
theorem l_op9 (pu : l_PU a z q pt mn bs) (x : l_CH a t s z q v tn T ju fa pt dy mn bs h) (y : l_RH a z q v tn T ju fa pt dy mn bs h) (_ : fI h 0 0 = fI h 138 4) {X : Int32} : l_PR L xs 138 247 [.int X] h := by
  have hm := pu.2.2.2.1
  have t9 := x.2.2.1.2.1
  have w5 : ∀ k, k < mn → bs k 5 ≤ 8 := fun k hk => (pu.2.2.2.2 k hk).1.2.2.2.2.1
  obtain ⟨sp, hS, ne⟩ := x.1.2.2.1
  have hT : i_T2 t := x.1.1.1.1.2.2.1
  by_cases hv : 0 ≤ X ∧ X ≤ i_n (min tn 300)
  · refine c138 x.1.1 x.1.2.2.2 pu.2.1.1 x.2.1.1 x.2.2.1 (fun nv => absurd hv nv) (fun n hn hX f p he h1 g1 f1 bl1 tz1 st1 => ⟨_, rfl, g1.l, ?_⟩) (fun n hn hX c1 s1 he h1 g1 f1 bl1 tz1 st1 => ⟨_, rfl, g1.l, ?_⟩)
    · have y1 : l_RH a z q v tn T ju fa pt dy mn bs h1 := by
        rcases l_two hT hS ne with ⟨rfl, rfl⟩ | ⟨rfl, rfl⟩
        · exact y.out g1.l f1 (by decide) (by decide)
        · exact y.out g1.l f1 (by decide) (by decide)
      refine c247 y1.1.1 y1.1.2 pu.2.1.1 y1.2.2.1 (fun nv => absurd hv nv) (fun n2 hn2 hX2 f2 p2 he2 h2 r2 g2 a2' e18 e19 e12 st2 => ?_) (fun n2 hn2 hX2 k3 a3 he2 => ?_)
      · rw [hX2, n_eq (by omega) (by omega)] at hX
        subst hX
        rw [he2] at he
        cases he
        refine ⟨rfl, l_mk pu (x.gen (fa2 := (_, _)) (s2 := s) (t2 := t) (T2 := T) ⟨g1, ?_, ⟨?_, hS, ne⟩, ?_⟩ (l_TPc0 tz1) ⟨bl1.1, bl1.2⟩ (x.2.2.2.2.2.2.2.fr hm f1 ?_ ?_) f1 ?_ ?_) (y1.gen (fa2 := (_, _)) (T2 := T) ⟨r2, y1.1.2.fr g2 (by decide)⟩ (l_TPr0 e12) ⟨e18, e19⟩ (l_R7.on y1.2.2.2.2.2.2.2 hm w5 (g2.vI (by decide)) (fun i _ h2 => a2' i h2) (fun i _ h2 => by rw [g2.rJ (by decide)])) g2 (by decide) (by decide)) g2 (by decide) (by decide) st1 st2⟩
        all_goals (clear he2; rcases l_two hT hS ne with ⟨rfl, rfl⟩ | ⟨rfl, rfl⟩)
        · exact x.1.2.1.fr f1 (by decide)
        · exact x.1.2.1.fr f1 (by decide)
        · rw [f1.vR (by decide)]; exact sp
        · rw [f1.vR (by decide)]; exact sp
        · exact x.1.2.2.2.fr f1 (by decide)
        · exact x.1.2.2.2.fr f1 (by decide)
        · intro p h1 h2 hp; simp at hp; omega
        · intro p h1 h2 hp; simp at hp; omega
        · decide
        · decide
        · decide
        · decide
        · decide
        · decide
      · rw [hX2, n_eq (by omega) (by omega)] at hX
        subst hX
        rw [he2] at he
        cases he
    · have y1 : l_RH a z q v tn T ju fa pt dy mn bs h1 := by
        rcases l_two hT hS ne with ⟨rfl, rfl⟩ | ⟨rfl, rfl⟩
        · exact y.out g1.l f1 (by decide) (by decide)
        · exact y.out g1.l f1 (by decide) (by decide)
      refine c247 y1.1.1 y1.1.2 pu.2.1.1 y1.2.2.1 (fun nv => absurd hv nv) (fun n2 hn2 hX2 f2 p2 he2 => ?_) (fun n2 hn2 hX2 k3 a3 he2 h2 r2 g2 a2' e18 e19 e12 st2 => ?_)
      · rw [hX2, n_eq (by omega) (by omega)] at hX
        subst hX
        rw [he2] at he
        cases he
      · rw [hX2, n_eq (by omega) (by omega)] at hX
        subst hX
        rw [he2] at he
        cases he
        refine ⟨rfl, l_mk ⟨pu.1, ⟨l_pln_nw pu.2.1.1, l_pln_w2 pu.2.1.2⟩, pu.2.2⟩ (x.gen (fa2 := (_, _)) (s2 := s) (t2 := t) (T2 := T) ⟨g1, ?_, ⟨?_, hS, ne⟩, l_pln_nc ?_⟩ (l_TPc0 tz1) ⟨bl1.1, bl1.2⟩ (x.2.2.2.2.2.2.2.fr hm f1 ?_ ?_) f1 ?_ ?_) (y1.gen (fa2 := (_, _)) (T2 := T) ⟨r2, l_pln_nr (y1.1.2.fr g2 (by decide))⟩ (l_TPr0 e12) ⟨e18, e19.trans n_big.symm⟩ (l_R7.on y1.2.2.2.2.2.2.2 hm w5 (g2.vI (by decide)) a2' (fun i _ h2 => by rw [g2.rJ (by decide)])) g2 (by decide) (by decide)) g2 (by decide) (by decide) st1 st2⟩
        all_goals (clear he2; rcases l_two hT hS ne with ⟨rfl, rfl⟩ | ⟨rfl, rfl⟩)
        · exact x.1.2.1.fr f1 (by decide)
        · exact x.1.2.1.fr f1 (by decide)
        · rw [f1.vR (by decide)]; exact sp
        · rw [f1.vR (by decide)]; exact sp
        · exact x.1.2.2.2.fr f1 (by decide)
        · exact x.1.2.2.2.fr f1 (by decide)
        · intro p h1 h2 hp; simp at hp; omega
        · intro p h1 h2 hp; simp at hp; omega
        · decide
        · decide
        · decide
        · decide
        · decide
        · decide
  · have no : ∀ n, n ≤ min tn 300 → X = i_n n → 0 ≤ X ∧ X ≤ i_n (min tn 300) := fun n hn hX => by
      subst hX
      rw [show (0 : Int32) = i_n 0 from rfl, n_le (by omega) (by omega), n_le (by omega) (by omega)]
      exact ⟨Nat.zero_le _, hn⟩
    refine c138 x.1.1 x.1.2.2.2 pu.2.1.1 x.2.1.1 x.2.2.1 (fun _ h1 g1 f1 e1 => ⟨_, rfl, g1.l, ?_⟩) (fun n hn hX => absurd (no n hn hX) hv) (fun n hn hX => absurd (no n hn hX) hv)
    have f1 : i_F0 h h1 := f1.mono (fun _ z => absurd z (by simp)) (fun _ z => z)
    exact c247 (l_r1 y g1.l f1.s.w).1.1 (l_r1 y g1.l f1.s.w).1.2 pu.2.1.1 (l_r1 y g1.l f1.s.w).2.2.1 (fun _ h2 r2 f2 e2 => ⟨rfl, l_fin pu x y g1 f1.s.w (x.sw f1.s) e1 r2 f2.s e2⟩) (fun n hn hX => absurd (no n hn hX) hv) (fun n hn hX => absurd (no n hn hX) hv)
set_option maxHeartbeats 2000000 in
theorem l_op48 (pu : l_PU a z q pt mn bs) (x : l_CH a t s z q v tn T ju fa pt dy mn bs h) (y : l_RH a z q v tn T ju fa pt dy mn bs h) (_ : fI h 0 0 = fI h 138 4) : l_PR L xs 177 331 [] h := by
  have hm := pu.2.2.2.1
  have hL := x.1.1.l
  have h5 := x.1.1.w.2.2.2.2.1
  have hT : i_T2 t := x.1.1.1.1.2.2.1
  have ht : t = 14 ∨ t = 29 := hT
  have x7 := x.2.2.2.2.2.2.2
  by_cases hv : mn = 3
  · refine c177 hL hT x.1.1.tw hm x7.1 (fun _ h1 L1 f1 st1 => ⟨_, rfl, L1, ?_⟩) (fun z => absurd z (by omega))
    have g1 : i_ST a t h1 := x.1.1.fr L1 f1 (by simp) (by simp)
    have f1 : i_F0 h h1 := f1.mono (fun _ z => absurd z (by simp)) (fun _ z => z)
    have y1 := l_r1 y g1.l f1.s.w
    exact c331 L1 hm y1.2.2.2.2.2.2.2.1 (fun _ h2 L2 f2 st2 => ⟨rfl, l_fin pu x y g1 f1.s.w (x.sw f1.s) st1 (y1.1.1.fr L2 f2 (fun _ _ => by simp)) f2.s st2⟩) (fun z => absurd z (by omega))
  · refine c177 hL hT x.1.1.tw hm x7.1 (fun z => absurd z hv) (fun _ h1 L1 f1 cp e10 st1 => ⟨_, rfl, L1, ?_⟩)
    have hm3 : mn = 0 ∨ mn = 1 ∨ mn = 2 := by omega
    have y1 : l_RH a z q v tn T ju fa pt dy mn bs h1 := by
      rcases hm3 with rfl | rfl | rfl
      · exact y.out L1 f1 (by decide) (by decide)
      · exact y.out L1 f1 (by decide) (by decide)
      · exact y.out L1 f1 (by decide) (by decide)
    have g1 : i_ST a t h1 := by
      rcases hm3 with rfl | rfl | rfl <;> rcases ht with rfl | rfl <;> exact x.1.1.out L1 f1 (by decide) (by decide)
    have y7 := y1.2.2.2.2.2.2.2
    refine c331 L1 hm y7.1 (fun z => absurd z hv) (fun _ h2 L2 f2 sl e57 st2 => ⟨rfl, ?_⟩)
    refine l_mk (bs := fun k => if k = mn then a else bs k) (mn := mn + 1) ⟨pu.1, pu.2.1, pu.2.2.1, by omega, fun k hk => ?_⟩ (x.gen (fa2 := fa) (s2 := s) (t2 := t) (T2 := T) ⟨g1, ?_, ⟨?_, x.1.2.2.1.2⟩, ?_⟩ (x.2.2.1.fr f1 ?_ ?_) (x.2.2.2.2.1.fr f1 ?_) ⟨e10, fun k hk => ?_⟩ f1 ?_ ?_) (y1.gen (fa2 := fa) (T2 := T) ⟨y1.1.1.gn L2 f2 (by decide) (fun i hi => by rw [sl.1, if_neg (by omega)]), l_NR.on y1.1.2 h5 (fun i hi => by rw [sl.2, if_neg (by omega)])⟩ (y1.2.2.1.fr f2 (by decide) (by decide)) (y1.2.2.2.2.1.fr f2 (by decide)) ⟨e57, fun k hk => ?_⟩ f2 (by decide) (by decide)) f2 (by decide) (by decide) st1 st2
    · dsimp only
      by_cases q2 : k = mn
      · rw [if_pos q2]; exact ⟨x.1.1.w, pu.2.1.2, pu.2.1.1⟩
      · rw [if_neg q2]; exact pu.2.2.2.2 k (by omega)
    · rcases hm3 with rfl | rfl | rfl <;> exact x.1.2.1.fr f1 (by decide)
    · rw [f1.vR (by rcases hm3 with rfl | rfl | rfl <;> decide)]; exact x.1.2.2.1.1
    · refine x.1.2.2.2.fr f1 ?_
      rcases hm3 with rfl | rfl | rfl <;> rcases ht with rfl | rfl <;> decide
    · rcases hm3 with rfl | rfl | rfl <;> decide
    · rcases hm3 with rfl | rfl | rfl <;> decide
    · rcases hm3 with rfl | rfl | rfl <;> decide
    · dsimp only
      by_cases q2 : k = mn
      · rw [if_pos q2]
        subst q2
        refine ⟨cp.ct x.1.1.w x.1.1.ct, fun p hp => ?_⟩
        rw [cp.2.1.2.1 p (by omega)]
        exact x.1.2.2.2 p hp
      · rw [if_neg q2]
        obtain ⟨z1, z2⟩ := x7.2 k (by omega)
        refine ⟨z1.fr f1 (fun j h1 h2 => ?_) (fun b => ?_), z2.fr f1 ?_⟩
        · unfold tA i_mkp; simp; omega
        · unfold tF i_mkp; simp; omega
        · unfold tA i_mkp; simp; omega
    · rcases hm3 with rfl | rfl | rfl <;> decide
    · rcases hm3 with rfl | rfl | rfl <;> decide
    · dsimp only
      by_cases q2 : k = mn
      · rw [if_pos q2]
        subst q2
        refine ⟨fun i hi => ?_, fun p hp => ?_⟩
        · rw [sl.1, if_pos ⟨by omega, by omega⟩, show 680 * 0 + (680 * (k + 1) + i - 680 * (k + 1)) = i by omega]
          exact y1.1.1.2.2.1 i hi
        · rw [sl.2, if_pos ⟨by omega, by omega⟩, show 8 * 0 + (8 * (k + 1) + p - 8 * (k + 1)) = 0 + p by omega]
          exact y1.1.2 p hp
      · rw [if_neg q2]
        have w5 := (pu.2.2.2.2 k (by omega)).1.2.2.2.2.1
        refine ⟨fun i hi => ?_, fun p hp => ?_⟩
        · rw [sl.1, if_neg (by omega)]
          exact (y7.2 k (by omega)).1 i hi
        · rw [sl.2, if_neg (by omega)]
          exact (y7.2 k (by omega)).2 p hp
set_option maxHeartbeats 2000000 in
theorem l_op49 (pu : l_PU a z q pt mn bs) (x : l_CH a t s z q v tn T ju fa pt dy mn bs h) (y : l_RH a z q v tn T ju fa pt dy mn bs h) (_ : fI h 0 0 = fI h 138 4) : l_PR L xs 178 332 [] h := by
  have hm := pu.2.2.2.1
  have hL := x.1.1.l
  have hT : i_T2 t := x.1.1.1.1.2.2.1
  have ht : t = 14 ∨ t = 29 := hT
  have x7 := x.2.2.2.2.2.2.2
  by_cases hv : mn = 0
  · refine c178 (b := a) x.1.1 hm x7.1 (fun z => absurd z (by omega)) (fun z => absurd z (by omega)) (fun _ h1 L1 f1 st1 => ⟨_, rfl, L1, ?_⟩) (fun z => absurd z (by omega))
    have g1 : i_ST a t h1 := x.1.1.fr L1 f1 (by simp) (by simp)
    have f1 : i_F0 h h1 := f1.mono (fun _ z => absurd z (by simp)) (fun _ z => z)
    have y1 := l_r1 y g1.l f1.s.w
    exact c332 (b := a) L1 hm y1.2.2.2.2.2.2.2.1 y1.1.1.2.2.2.1 (fun z => absurd z (by omega)) (fun z => absurd z (by omega)) (fun _ h2 L2 f2 st2 => ⟨rfl, l_fin pu x y g1 f1.s.w (x.sw f1.s) st1 (y1.1.1.fr L2 f2 (fun _ _ => by simp)) f2.s st2⟩) (fun z => absurd z (by omega))
  · have w := pu.2.2.2.2 (mn - 1) (by omega)
    have w5 := w.1.2.2.2.2.1
    have xb := x7.2 (mn - 1) (by omega)
    refine c178 (b := bs (mn - 1)) x.1.1 hm x7.1 (fun _ => w.1) (fun _ => xb.1) (fun z => absurd z hv) (fun _ h1 g1 f1 nm e10 st1 => ⟨_, rfl, g1.l, ?_⟩)
    have y1 : l_RH a z q v tn T ju fa pt dy mn bs h1 := by
      rcases ht with rfl | rfl
      · exact y.out g1.l f1 (by decide) (by decide)
      · exact y.out g1.l f1 (by decide) (by decide)
    have y7 := y1.2.2.2.2.2.2.2
    have yb := y7.2 (mn - 1) (by omega)
    refine c332 (b := bs (mn - 1)) g1.l hm y7.1 y1.1.1.2.2.2.1 (fun _ => w.1) (fun _ i hi => ?_) (fun z => absurd z hv) (fun _ h2 r2 f2 sl e57 st2 => ⟨rfl, ?_⟩)
    · have := yb.1 i hi
      rwa [show 680 * (mn - 1 + 1) = 680 * mn by omega] at this
    refine l_mk (bs := bs) (mn := mn - 1) ⟨pu.1, ⟨w.2.2, w.2.1⟩, pu.2.2.1, by omega, fun k hk => pu.2.2.2.2 k (by omega)⟩ (x.gen (fa2 := fa) (s2 := s) (t2 := t) (T2 := T) ⟨g1, ?_, ⟨?_, x.1.2.2.1.2⟩, fun p hp => ?_⟩ (x.2.2.1.fr f1 ?_ ?_) (x.2.2.2.2.1.fr f1 ?_) ⟨e10, fun k hk => ?_⟩ f1 ?_ ?_) (y1.gen (fa2 := fa) (T2 := T) ⟨r2, fun p hp => ?_⟩ (y1.2.2.1.fr f2 (by decide) (by decide)) (y1.2.2.2.2.1.fr f2 (by decide)) ⟨e57, fun k hk => ?_⟩ f2 (by decide) (by decide)) f2 (by decide) (by decide) st1 st2
    · rcases ht with rfl | rfl <;> exact x.1.2.1.fr f1 (by decide)
    · rw [f1.vR (by rcases ht with rfl | rfl <;> decide)]; exact x.1.2.2.1.1
    · rw [nm p (by omega)]
      exact xb.2 p hp
    · rcases ht with rfl | rfl <;> decide
    · rcases ht with rfl | rfl <;> decide
    · rcases ht with rfl | rfl <;> decide
    · obtain ⟨z1, z2⟩ := x7.2 k (by omega)
      refine ⟨z1.fr f1 (fun j h1 h2 => ?_) (fun b => ?_), z2.fr f1 ?_⟩
      · unfold i_mkp; rcases ht with rfl | rfl <;> (simp [tA]; omega)
      · unfold i_mkp; rcases ht with rfl | rfl <;> (simp [tF]; omega)
      · unfold i_mkp; rcases ht with rfl | rfl <;> (simp [tA]; omega)
    · rcases ht with rfl | rfl <;> decide
    · rcases ht with rfl | rfl <;> decide
    · rw [sl.2, if_pos ⟨by omega, by omega⟩, show 8 * mn + (0 + p - 8 * 0) = 8 * (mn - 1 + 1) + p by omega]
      exact yb.2 p hp
    · have w5 := (pu.2.2.2.2 k (by omega)).1.2.2.2.2.1
      refine ⟨fun i hi => ?_, fun p hp => ?_⟩
      · rw [sl.1, if_neg (by omega)]
        exact (y7.2 k (by omega)).1 i hi
      · rw [sl.2, if_neg (by omega)]
        exact (y7.2 k (by omega)).2 p hp

set_option maxHeartbeats 8000000 in
theorem l_step (hL : L ≤ 3072) (hk : k ≤ 100000) (ok : l_OK h) (HQ : Q (some (.int 1)) h) (nx : k + 6 ≤ L → ∀ h2, l_OK h2 → l_P L xs Q 1853 k h2) : l_P L xs Q 18 k h := by
  refine b351_18 ⟨fun _ => HQ, fun hlt => ?_⟩
  rw [l_lt hL hk] at hlt
  have hk6 : k + 6 ≤ L := by omega
  have nx := nx hk6
  have ok' := ok
  obtain ⟨a, t, s, z, q, v, tn, T, ju, fa, pt, dy, mn, bs, pu, x, y, est⟩ := ok
  have g : i_ST a t h := x.1.1
  have w2 : o_W2 a := pu.2.1.2
  have n1 : ¬ (i_n k + (1 : Int32) < 0 ∨ L ≤ (i_n k + (1 : Int32)).toNatClampNeg) := l_in (j := 1) hk6 hL (by omega)
  have n2 : ¬ (i_n k + (2 : Int32) < 0 ∨ L ≤ (i_n k + (2 : Int32)).toNatClampNeg) := l_in (j := 2) hk6 hL (by omega)
  have n3 : ¬ (i_n k + (3 : Int32) < 0 ∨ L ≤ (i_n k + (3 : Int32)).toNatClampNeg) := l_in (j := 3) hk6 hL (by omega)
  have n4 : ¬ (i_n k + (4 : Int32) < 0 ∨ L ≤ (i_n k + (4 : Int32)).toNatClampNeg) := l_in (j := 4) hk6 hL (by omega)
  have n5 : ¬ (i_n k + (5 : Int32) < 0 ∨ L ≤ (i_n k + (5 : Int32)).toNatClampNeg) := l_in (j := 5) hk6 hL (by omega)
  refine ⟨?_, fun _ => nx h ok', fun _ => ?_, fun _ => ?_, fun _ => ?_, fun _ => ?_, fun _ => ?_, fun _ => ?_, fun _ => ?_, fun _ => ?_, fun _ => ?_, fun _ => ?_, fun _ => ?_, fun _ => ?_, fun _ => ?_, fun _ => ?_, fun _ => ?_, fun _ => ?_, fun _ => ?_, fun _ => ?_, fun _ => ?_, fun _ => ?_, fun _ => ?_, fun _ => ?_, fun _ => ?_, fun _ => ?_, fun _ => ?_, fun _ => ?_, fun _ => ?_, fun _ => ?_, fun _ => ?_, fun _ => ?_, fun _ => ?_, fun _ => ?_, fun _ => ?_, fun _ => ?_, fun _ => ?_, fun _ => ?_, fun _ => ?_, fun _ => ?_, fun _ => ?_, fun _ => ?_, fun _ => ?_, fun _ => ?_, fun _ => ?_, fun _ => ?_, fun _ => ?_, fun _ => ?_, fun _ => ?_, fun _ => ?_, fun _ => ?_, fun _ => ?_⟩
  · rw [n_cl (by omega), show (0 : Int32) = i_n 0 from rfl, n_lt (by omega) (by omega)]
    omega
  · exact ⟨g.l.o0, c129 g.l ⟨_, rfl, b351_252 ⟨g.l.o138, c197 g.l ⟨_, rfl, b351_256 ⟨fun _ => nx h ok', fun ne => absurd est ne⟩⟩⟩⟩⟩
  · exact ⟨g.l.o0, c130 g.l ⟨_, rfl, b351_265 ⟨g.l.o138, c198 g.l ⟨_, rfl, b351_269 ⟨fun _ => nx h ok', fun ne => absurd (l_cmp0 (x.2.2.2.1.1.trans y.2.2.2.1.1.symm)) ne⟩⟩⟩⟩⟩
  · exact ⟨g.l.o0, c131 g.l ⟨_, rfl, b351_279 ⟨g.l.o138, c199 g.l ⟨_, rfl, b351_283 ⟨fun _ => nx h ok', fun ne => absurd (l_cmp0 (x.2.2.2.1.2.trans y.2.2.2.1.2.symm)) ne⟩⟩⟩⟩⟩
  · exact ⟨n1, n2, n3, g.l.o0, (l_op3 pu x y est).mono (fun v h1 ⟨r, e, L1, C⟩ => ⟨r, e, b351_308 ⟨n1, n2, n3, L1.o138, C.mono (fun w h2 ⟨e2, o⟩ => ⟨r, e2, b351_327 ⟨fun _ => nx h2 o, fun ne => absurd rfl ne⟩⟩)⟩⟩)⟩
  · exact ⟨n1, n2, n3, n4, g.l.o0, (l_op4 pu x y est).mono (fun v h1 ⟨r, e, L1, C⟩ => ⟨r, e, b351_366 ⟨n1, n2, n3, n4, L1.o138, C.mono (fun w h2 ⟨e2, o⟩ => ⟨r, e2, b351_400 ⟨fun _ => nx h2 o, fun ne => absurd rfl ne⟩⟩)⟩⟩)⟩
  · exact ⟨n1, n2, g.l.o0, (l_op5 pu x y est).mono (fun v h1 ⟨r, e, L1, C⟩ => ⟨r, e, b351_419 ⟨n1, n2, L1.o138, C.mono (fun w h2 ⟨e2, o⟩ => ⟨r, e2, b351_433 ⟨fun _ => nx h2 o, fun ne => absurd (l_cmp0 rfl) ne⟩⟩)⟩⟩)⟩
  · exact ⟨n1, n2, n3, n4, n5, g.l.o0, (l_op6 pu x y est).mono (fun v h1 ⟨r, e, L1, C⟩ => ⟨r, e, b351_468 ⟨n1, n2, n3, n4, n5, L1.o138, C.mono (fun w h2 ⟨e2, o⟩ => ⟨r, e2, b351_497 ⟨fun _ => nx h2 o, fun ne => absurd rfl ne⟩⟩)⟩⟩)⟩
  · exact ⟨n1, n2, n3, n4, n5, g.l.o0, (l_op7 pu x y est).mono (fun v h1 ⟨r, e, L1, C⟩ => ⟨r, e, b351_531 ⟨n1, n2, n3, n4, n5, L1.o138, C.mono (fun w h2 ⟨e2, o⟩ => ⟨r, e2, b351_560 ⟨fun _ => nx h2 o, fun ne => absurd rfl ne⟩⟩)⟩⟩)⟩
  · exact ⟨n1, g.l.o0, (l_op8 pu x y est).mono (fun v h1 ⟨r, e, L1, C⟩ => ⟨r, e, b351_574 ⟨n1, L1.o138, C.mono (fun w h2 ⟨e2, o⟩ => ⟨r, e2, b351_583 ⟨fun _ => nx h2 o, fun ne => absurd rfl ne⟩⟩)⟩⟩)⟩
  · exact ⟨n1, g.l.o0, (l_op9 pu x y est).mono (fun v h1 ⟨r, e, L1, C⟩ => ⟨r, e, b351_597 ⟨n1, L1.o138, C.mono (fun w h2 ⟨e2, o⟩ => ⟨r, e2, b351_606 ⟨fun _ => nx h2 o, fun ne => absurd rfl ne⟩⟩)⟩⟩)⟩
  · exact ⟨n1, g.l.o0, c139 g.l ⟨_, rfl, b351_620 ⟨n1, g.l.o138, c229 g.l ⟨_, rfl, b351_629 ⟨fun _ => nx h ok', fun ne => absurd (by rw [x.2.2.2.2.1.1, x.2.2.2.2.1.2, y.2.2.2.2.1.1, y.2.2.2.2.1.2]) ne⟩⟩⟩⟩⟩
  · exact ⟨n1, g.l.o0, c140 g w2 (fun h1 g1 f1 e1 => ⟨_, rfl, b351_643 ⟨n1, g1.l.o138, c257 (l_r1 y g1.l f1.s.w).1.1 (fun h2 r2 f2 e2 => ⟨_, rfl, b351_652 ⟨fun _ => nx h2 (l_fin pu x y g1 f1.s.w (x.sw f1.s) e1 r2 f2.s e2), fun ne => absurd rfl ne⟩⟩)⟩⟩)⟩
  · exact ⟨n1, g.l.o0, c141 g (fun h1 g1 f1 e1 => ⟨_, rfl, b351_666 ⟨n1, g1.l.o138, c258 (l_r1 y g1.l f1.s.w).1.1 (fun h2 r2 f2 e2 => ⟨_, rfl, b351_675 ⟨fun _ => nx h2 (l_fin pu x y g1 f1.s.w (x.sw f1.s) e1 r2 f2.s e2), fun ne => absurd rfl ne⟩⟩)⟩⟩)⟩
  · exact ⟨n1, g.l.o0, c142 g (fun h1 g1 f1 e1 => ⟨_, rfl, b351_689 ⟨n1, g1.l.o138, c260 (l_r1 y g1.l f1.s.w).1.1 (fun h2 r2 f2 e2 => ⟨_, rfl, b351_698 ⟨fun _ => nx h2 (l_fin pu x y g1 f1.s.w (x.sw f1.s) e1 r2 f2.s e2), fun ne => absurd rfl ne⟩⟩)⟩⟩)⟩
  · exact ⟨n1, n2, g.l.o0, c143 g (fun h1 g1 f1 e1 => ⟨_, rfl, b351_717 ⟨n1, n2, g1.l.o138, c261 (l_r1 y g1.l f1.s.w).1.1 (fun h2 r2 f2 e2 => ⟨_, rfl, b351_731 ⟨fun _ => nx h2 (l_fin pu x y g1 f1.s.w (x.sw f1.s) e1 r2 f2.s e2), fun ne => absurd rfl ne⟩⟩)⟩⟩)⟩
  · exact ⟨n1, g.l.o0, c144 g (fun h1 g1 f1 e1 => ⟨_, rfl, b351_745 ⟨n1, g1.l.o138, c262 (l_r1 y g1.l f1.s.w).1.1 (fun h2 r2 f2 e2 => ⟨_, rfl, b351_754 ⟨fun _ => nx h2 (l_fin pu x y g1 f1.s.w (x.sw f1.s) e1 r2 f2.s e2), fun ne => absurd rfl ne⟩⟩)⟩⟩)⟩
  · exact ⟨n1, n2, g.l.o0, c145 g (fun h1 g1 f1 e1 => ⟨_, rfl, b351_773 ⟨n1, n2, g1.l.o138, c263 (l_r1 y g1.l f1.s.w).1.1 (fun h2 r2 f2 e2 => ⟨_, rfl, b351_787 ⟨fun _ => nx h2 (l_fin pu x y g1 f1.s.w (x.sw f1.s) e1 r2 f2.s e2), fun ne => absurd rfl ne⟩⟩)⟩⟩)⟩
  · exact ⟨n1, n2, g.l.o0, c146 g (fun h1 g1 f1 e1 => ⟨_, rfl, b351_806 ⟨n1, n2, g1.l.o138, c264 (l_r1 y g1.l f1.s.w).1.1 (fun h2 r2 f2 e2 => ⟨_, rfl, b351_820 ⟨fun _ => nx h2 (l_fin pu x y g1 f1.s.w (x.sw f1.s) e1 r2 f2.s e2), fun ne => absurd rfl ne⟩⟩)⟩⟩)⟩
  · exact ⟨n1, n2, g.l.o0, c147 g (fun h1 g1 f1 e1 => ⟨_, rfl, b351_839 ⟨n1, n2, g1.l.o138, c265 (l_r1 y g1.l f1.s.w).1.1 (fun h2 r2 f2 e2 => ⟨_, rfl, b351_853 ⟨fun _ => nx h2 (l_fin pu x y g1 f1.s.w (x.sw f1.s) e1 r2 f2.s e2), fun ne => absurd rfl ne⟩⟩)⟩⟩)⟩
  · exact ⟨n1, n2, g.l.o0, c148 g (fun h1 g1 f1 e1 => ⟨_, rfl, b351_872 ⟨n1, n2, g1.l.o138, c266 (l_r1 y g1.l f1.s.w).1.1 (fun h2 r2 f2 e2 => ⟨_, rfl, b351_886 ⟨fun _ => nx h2 (l_fin pu x y g1 f1.s.w (x.sw f1.s) e1 r2 f2.s e2), fun ne => absurd rfl ne⟩⟩)⟩⟩)⟩
  · exact ⟨n1, n2, g.l.o0, c149 g (fun h1 g1 f1 e1 => ⟨_, rfl, b351_905 ⟨n1, n2, g1.l.o138, c273 (l_r1 y g1.l f1.s.w).1.1 (fun h2 r2 f2 e2 => ⟨_, rfl, b351_919 ⟨fun _ => nx h2 (l_fin pu x y g1 f1.s.w (x.sw f1.s) e1 r2 f2.s e2), fun ne => absurd (l_cmp0 rfl) ne⟩⟩)⟩⟩)⟩
  · exact ⟨n1, n2, n3, g.l.o0, c150 g (fun h1 g1 f1 e1 => ⟨_, rfl, b351_944 ⟨n1, n2, n3, g1.l.o138, c278 (l_r1 y g1.l f1.s.w).1.1 (fun h2 r2 f2 e2 => ⟨_, rfl, b351_963 ⟨fun _ => nx h2 (l_fin pu x y g1 f1.s.w (x.sw f1.s) e1 r2 f2.s e2), fun ne => absurd rfl ne⟩⟩)⟩⟩)⟩
  · exact ⟨n1, n2, n3, g.l.o0, c151 g (fun h1 g1 f1 e1 => ⟨_, rfl, b351_987 ⟨n1, n2, n3, g1.l.o138, c279 (l_r1 y g1.l f1.s.w).1.1 (fun h2 r2 f2 e2 => ⟨_, rfl, b351_1006 ⟨fun _ => nx h2 (l_fin pu x y g1 f1.s.w (x.sw f1.s) e1 r2 f2.s e2), fun ne => absurd rfl ne⟩⟩)⟩⟩)⟩
  · exact ⟨n1, n2, n3, g.l.o0, c152 g (fun h1 g1 f1 e1 => ⟨_, rfl, b351_1030 ⟨n1, n2, n3, g1.l.o138, c280 (l_r1 y g1.l f1.s.w).1.1 (fun h2 r2 f2 e2 => ⟨_, rfl, b351_1049 ⟨fun _ => nx h2 (l_fin pu x y g1 f1.s.w (x.sw f1.s) e1 r2 f2.s e2), fun ne => absurd rfl ne⟩⟩)⟩⟩)⟩
  · exact ⟨n1, n2, n3, g.l.o0, c153 g (fun h1 g1 f1 e1 => ⟨_, rfl, b351_1073 ⟨n1, n2, n3, g1.l.o138, c281 (l_r1 y g1.l f1.s.w).1.1 (fun h2 r2 f2 e2 => ⟨_, rfl, b351_1092 ⟨fun _ => nx h2 (l_fin pu x y g1 f1.s.w (x.sw f1.s) e1 r2 f2.s e2), fun ne => absurd rfl ne⟩⟩)⟩⟩)⟩
  · exact ⟨n1, g.l.o0, c154 g (fun h1 g1 f1 e1 => ⟨_, rfl, b351_1106 ⟨n1, g1.l.o138, c283 (l_r1 y g1.l f1.s.w).1.1 (fun h2 r2 f2 e2 => ⟨_, rfl, b351_1115 ⟨fun _ => nx h2 (l_fin pu x y g1 f1.s.w (x.sw f1.s) e1 r2 f2.s e2), fun ne => absurd rfl ne⟩⟩)⟩⟩)⟩
  · exact ⟨n1, n2, g.l.o0, (l_op26 pu x y est).mono (fun v h1 ⟨r, e, L1, C⟩ => ⟨r, e, b351_1134 ⟨n1, n2, L1.o138, C.mono (fun w h2 ⟨e2, o⟩ => ⟨r, e2, b351_1148 ⟨fun _ => nx h2 o, fun ne => absurd rfl ne⟩⟩)⟩⟩)⟩
  · refine ⟨n1, g.l.o0, c156 g (by rw [x.2.2.2.2.2.1.1]; exact pu.2.2.1) (fun h1 g1 f1 e1 => ⟨_, rfl, b351_1162 ⟨n1, g1.l.o138, ?_⟩⟩)⟩
    have y1 := l_r1 y g1.l f1.s.w
    refine c288 y1.1.1 (by rw [y1.2.2.2.2.2.1.1]; exact pu.2.2.1) (fun h2 r2 f2 e2 => ⟨_, rfl, b351_1171 ⟨fun _ => nx h2 (l_fin pu x y g1 f1.s.w (x.sw f1.s) e1 r2 f2.s ?_), fun ne => absurd ?_ ne⟩⟩)
    · rw [e2, l_wc pu.2.2.1 y1.2.2.2.2.2.1.1 y1.2.2.2.2.2.1.2, l_wc pu.2.2.1 x.2.2.2.2.2.1.1 x.2.2.2.2.2.1.2]
    · rw [l_wc pu.2.2.1 y1.2.2.2.2.2.1.1 y1.2.2.2.2.2.1.2, l_wc pu.2.2.1 x.2.2.2.2.2.1.1 x.2.2.2.2.2.1.2]
  · exact ⟨n1, n2, n3, g.l.o0, c157 g x.1.2.1 (fun h1 g1 f1 sw e1 => ⟨_, rfl, b351_1195 ⟨n1, n2, n3, g1.l.o138, c290 (l_r1 y g1.l f1).1.1 (fun h2 r2 f2 e2 => ⟨_, rfl, b351_1214 ⟨fun _ => nx h2 (l_fin pu x y g1 f1 sw e1 r2 f2 e2), fun ne => absurd rfl ne⟩⟩)⟩⟩)⟩
  · exact ⟨n1, g.l.o0, c158 g x.1.2.1 (fun h1 g1 f1 sw e1 => ⟨_, rfl, b351_1228 ⟨n1, g1.l.o138, c294 (l_r1 y g1.l f1).1.1 (fun h2 r2 f2 e2 => ⟨_, rfl, b351_1237 ⟨fun _ => nx h2 (l_fin pu x y g1 f1 sw e1 r2 f2 e2), fun ne => absurd rfl ne⟩⟩)⟩⟩)⟩
  · exact ⟨n1, n2, n3, g.l.o0, c159 g x.1.2.1 (fun h1 g1 f1 sw e1 => ⟨_, rfl, b351_1271 ⟨n1, n2, n3, g1.l.o138, c298 (l_r1 y g1.l f1).1.1 (fun h2 r2 f2 e2 => ⟨_, rfl, b351_1300 ⟨fun _ => nx h2 (l_fin pu x y g1 f1 sw e1 r2 f2 e2), fun ne => absurd rfl ne⟩⟩)⟩⟩)⟩
  · exact ⟨n1, n2, n3, g.l.o0, c160 g (fun h1 g1 f1 e1 => ⟨_, rfl, b351_1324 ⟨n1, n2, n3, g1.l.o138, c299 (l_r1 y g1.l f1.w).1.1 (fun h2 r2 f2 e2 => ⟨_, rfl, b351_1343 ⟨fun _ => nx h2 (l_fin pu x y g1 f1.w (x.sw f1) e1 r2 f2 e2), fun ne => absurd (l_cmp0 rfl) ne⟩⟩)⟩⟩)⟩
  · exact ⟨n1, n2, g.l.o0, c161 g x.1.2.1 (fun h1 g1 f1 sw e1 => ⟨_, rfl, b351_1363 ⟨n1, n2, g1.l.o138, c303 (l_r1 y g1.l f1).1.1 (fun h2 r2 f2 e2 => ⟨_, rfl, b351_1377 ⟨fun _ => nx h2 (l_fin pu x y g1 f1 sw e1 r2 f2 e2), fun ne => absurd rfl ne⟩⟩)⟩⟩)⟩
  · exact ⟨n1, n2, g.l.o0, c162 g (fun h1 g1 f1 e1 => ⟨_, rfl, b351_1396 ⟨n1, n2, g1.l.o138, c306 (l_r1 y g1.l f1.w).1.1 (fun h2 r2 f2 e2 => ⟨_, rfl, b351_1410 ⟨fun _ => nx h2 (l_fin pu x y g1 f1.w (x.sw f1) e1 r2 f2 e2), fun ne => absurd rfl ne⟩⟩)⟩⟩)⟩
  · exact ⟨n1, g.l.o0, c163 g (fun h1 g1 f1 e1 => ⟨_, rfl, b351_1424 ⟨n1, g1.l.o138, c309 (l_r1 y g1.l f1.w).1.1 (fun h2 r2 f2 e2 => ⟨_, rfl, b351_1433 ⟨fun _ => nx h2 (l_fin pu x y g1 f1.w (x.sw f1) e1 r2 f2 e2), fun ne => absurd rfl ne⟩⟩)⟩⟩)⟩
  · exact ⟨n1, n2, n3, g.l.o0, c164 g pu.1 x.2.1.2 (fun h1 g1 f1 e1 => ⟨_, rfl, b351_1457 ⟨n1, n2, n3, g1.l.o138, c310 (l_r1 y g1.l f1.w).1.1 pu.1 (l_r1 y g1.l f1.w).2.1 (fun h2 r2 f2 e2 => ⟨_, rfl, b351_1476 ⟨fun _ => nx h2 (l_fin pu x y g1 f1.w (x.sw f1) e1 r2 f2 e2), fun ne => absurd rfl ne⟩⟩)⟩⟩)⟩
  · exact ⟨n1, g.l.o0, c165 g (fun h1 g1 f1 e1 => ⟨_, rfl, b351_1490 ⟨n1, g1.l.o138, c311 (l_r1 y g1.l f1.s.w).1.1 (fun h2 r2 f2 e2 => ⟨_, rfl, b351_1499 ⟨fun _ => nx h2 (l_fin pu x y g1 f1.s.w (x.sw f1.s) e1 r2 f2.s e2), fun ne => absurd rfl ne⟩⟩)⟩⟩)⟩
  · exact ⟨n1, g.l.o0, c166 g (fun h1 g1 f1 e1 => ⟨_, rfl, b351_1513 ⟨n1, g1.l.o138, c313 (l_r1 y g1.l f1.s.w).1.1 (fun h2 r2 f2 e2 => ⟨_, rfl, b351_1522 ⟨fun _ => nx h2 (l_fin pu x y g1 f1.s.w (x.sw f1.s) e1 r2 f2.s e2), fun ne => absurd rfl ne⟩⟩)⟩⟩)⟩
  · exact ⟨n1, n2, g.l.o0, c167 g (fun h1 g1 f1 e1 => ⟨_, rfl, b351_1541 ⟨n1, n2, g1.l.o138, c314 (l_r1 y g1.l f1.s.w).1.1 (fun h2 r2 f2 e2 => ⟨_, rfl, b351_1555 ⟨fun _ => nx h2 (l_fin pu x y g1 f1.s.w (x.sw f1.s) e1 r2 f2.s e2), fun ne => absurd rfl ne⟩⟩)⟩⟩)⟩
  · exact ⟨n1, n2, g.l.o0, c168 g (fun h1 g1 f1 e1 => ⟨_, rfl, b351_1574 ⟨n1, n2, g1.l.o138, c315 (l_r1 y g1.l f1.s.w).1.1 (fun h2 r2 f2 e2 => ⟨_, rfl, b351_1588 ⟨fun _ => nx h2 (l_fin pu x y g1 f1.s.w (x.sw f1.s) e1 r2 f2.s e2), fun ne => absurd rfl ne⟩⟩)⟩⟩)⟩
  · exact ⟨n1, n2, n3, g.l.o0, c169 g (fun h1 g1 f1 e1 => ⟨_, rfl, b351_1612 ⟨n1, n2, n3, g1.l.o138, c317 (l_r1 y g1.l f1.w).1.1 (fun h2 r2 f2 e2 => ⟨_, rfl, b351_1631 ⟨fun _ => nx h2 (l_fin pu x y g1 f1.w (x.sw f1) e1 r2 f2 e2), fun ne => absurd rfl ne⟩⟩)⟩⟩)⟩
  · exact ⟨n1, n2, n3, g.l.o0, c170 g (fun h1 g1 f1 e1 => ⟨_, rfl, b351_1655 ⟨n1, n2, n3, g1.l.o138, c318 (l_r1 y g1.l f1.s.w).1.1 (fun h2 r2 f2 e2 => ⟨_, rfl, b351_1674 ⟨fun _ => nx h2 (l_fin pu x y g1 f1.s.w (x.sw f1.s) e1 r2 f2.s e2), fun ne => absurd rfl ne⟩⟩)⟩⟩)⟩
  · exact ⟨n1, n2, g.l.o0, c171 g (fun h1 g1 f1 e1 => ⟨_, rfl, b351_1693 ⟨n1, n2, g1.l.o138, c321 (l_r1 y g1.l f1.w).1.1 (fun h2 r2 f2 e2 => ⟨_, rfl, b351_1707 ⟨fun _ => nx h2 (l_fin pu x y g1 f1.w (x.sw f1) e1 r2 f2 e2), fun ne => absurd rfl ne⟩⟩)⟩⟩)⟩
  · exact ⟨n1, g.l.o0, c172 g (fun h1 g1 f1 e1 => ⟨_, rfl, b351_1721 ⟨n1, g1.l.o138, c323 (l_r1 y g1.l f1.w).1.1 (fun h2 r2 f2 e2 => ⟨_, rfl, b351_1730 ⟨fun _ => nx h2 (l_fin pu x y g1 f1.w (x.sw f1) e1 r2 f2 e2), fun ne => absurd rfl ne⟩⟩)⟩⟩)⟩
  · exact ⟨n1, g.l.o0, (l_op44 pu x y est).mono (fun v h1 ⟨r, e, L1, C⟩ => ⟨r, e, b351_1744 ⟨n1, L1.o138, C.mono (fun w h2 ⟨e2, o⟩ => ⟨r, e2, b351_1753 ⟨fun _ => nx h2 o, fun ne => absurd rfl ne⟩⟩)⟩⟩)⟩
  · refine ⟨n1, g.l.o0, c174 g (fun h1 g1 f1 e1 => ⟨_, rfl, b351_1767 ⟨n1, g1.l.o138, ?_⟩⟩)⟩
    have y1 := l_r1 y g1.l f1.s.w
    have x6 := x.2.2.2.2.2.2.1
    have y6 := y1.2.2.2.2.2.2.1
    refine c327 y1.1.1 (fun h2 r2 f2 e2 => ⟨_, rfl, b351_1776 ⟨fun _ => nx h2 (l_fin pu x y g1 f1.s.w (x.sw f1.s) e1 r2 f2.s ?_), fun ne => absurd ?_ ne⟩⟩)
    · rw [e2, x6.1, y6.1, l_saw y6.2.2, l_saw x6.2.2]
    · rw [x6.1, y6.1, l_saw y6.2.2, l_saw x6.2.2]
  · refine ⟨g.l.o0, c175 g (fun h1 g1 f1 e1 => ⟨_, rfl, b351_1785 ⟨g1.l.o138, ?_⟩⟩)⟩
    have y1 := l_r1 y g1.l f1.s.w
    have x6 := x.2.2.2.2.2.2.1
    have y6 := y1.2.2.2.2.2.2.1
    refine c328 y1.1.1 (fun h2 r2 f2 e2 => ⟨_, rfl, b351_1789 ⟨fun _ => nx h2 (l_fin pu x y g1 f1.s.w (x.sw f1.s) e1 r2 f2.s ?_), fun ne => absurd ?_ ne⟩⟩)
    · rw [e2, x6.1, y6.1, x6.2.1, y6.2.1]
    · rw [x6.1, y6.1, x6.2.1, y6.2.1]
  · exact ⟨n1, n2, g.l.o0, (l_op47 pu x y est).mono (fun v h1 ⟨r, e, L1, C⟩ => ⟨r, e, b351_1808 ⟨n1, n2, L1.o138, C.mono (fun w h2 ⟨e2, o⟩ => ⟨r, e2, b351_1822 ⟨fun _ => nx h2 o, fun ne => absurd rfl ne⟩⟩)⟩⟩)⟩
  · exact ⟨g.l.o0, (l_op48 pu x y est).mono (fun v h1 ⟨r, e, L1, C⟩ => ⟨r, e, b351_1831 ⟨L1.o138, C.mono (fun w h2 ⟨e2, o⟩ => ⟨r, e2, b351_1835 ⟨fun _ => nx h2 o, fun ne => absurd rfl ne⟩⟩)⟩⟩)⟩
  · exact ⟨g.l.o0, (l_op49 pu x y est).mono (fun v h1 ⟨r, e, L1, C⟩ => ⟨r, e, b351_1844 ⟨L1.o138, C.mono (fun w h2 ⟨e2, o⟩ => ⟨r, e2, b351_1848 ⟨fun _ => nx h2 o, fun ne => absurd rfl ne⟩⟩)⟩⟩)⟩
end
