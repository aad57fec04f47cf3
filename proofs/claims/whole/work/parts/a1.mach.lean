/-! MOVES RUN: the reference's way through them, and what it comes to -/
section
variable {V : Nat → Nat × Nat × Nat} {N : Nat}
set_option maxRecDepth 20000
theorem gd_l {l1 l2 : List Nat} {i : Nat} (h : i < l1.length) : (l1 ++ l2).getD i 0 = l1.getD i 0 := by rw [List.getD_eq_getElem?_getD, List.getD_eq_getElem?_getD, List.getElem?_append_left h]
theorem gd_r {l1 l2 : List Nat} {i : Nat} (h : l1.length ≤ i) : (l1 ++ l2).getD i 0 = l2.getD (i - l1.length) 0 := by rw [List.getD_eq_getElem?_getD, List.getD_eq_getElem?_getD, List.getElem?_append_right h]
theorem gd_rep {m i : Nat} : (List.replicate m 0).getD i 0 = 0 := by
  rw [List.getD_eq_getElem?_getD, List.getElem?_replicate]
  split <;> rfl
abbrev o_MS : Type := Nat × Nat × (Nat → Int32) × (Nat → Nat)
def o_kx (w : Nat) : Nat := if w = 29 then 1 else if w = 24 then 2 else if w = 25 then 3 else 4
def o_ste (V : Nat → Nat × Nat × Nat) (s : o_MS) : o_MS :=
  if (V s.1).1 = 32 then (if 0 < s.2.2.1 (V s.1).2.2 then ((V s.1).2.2 + 1, s.2.1, upd s.2.2.1 (V s.1).2.2 (s.2.2.1 (V s.1).2.2 - 1), s.2.2.2) else (s.1 + 1, s.2.1, s.2.2.1, s.2.2.2)) else
  if (V s.1).1 = 31 then (s.1 + 1, s.2.1, upd s.2.2.1 s.1 (i_n (V s.1).2.1 - 1), s.2.2.2) else
  if (V s.1).1 = 30 then (s.1 + 1, min 60 (s.2.1 + (V s.1).2.1), s.2.2.1, s.2.2.2) else
  (s.1 + 1, s.2.1 + 1, s.2.2.1, o_su s.2.2.2 s.2.1 (8 * o_kx (V s.1).1 + (V s.1).2.1))
def o_rin (V : Nat → Nat × Nat × Nat) (N : Nat) : Nat → o_MS → o_MS
  | 0, s => s
  | n + 1, s => if N ≤ s.1 ∨ 60 ≤ s.2.1 then s else o_rin V N n (o_ste V s)
theorem o_rin_stop {s : o_MS} (h : N ≤ s.1 ∨ 60 ≤ s.2.1) : ∀ n, o_rin V N n s = s
  | 0 => rfl
  | n + 1 => by rw [o_rin, if_pos h]
theorem o_rin_s {s : o_MS} (h : ¬ (N ≤ s.1 ∨ 60 ≤ s.2.1)) (n : Nat) : o_rin V N (n + 1) s = o_rin V N n (o_ste V s) := by rw [o_rin, if_neg h]
theorem o_rin_add {b : Nat} : ∀ (n : Nat) (s : o_MS), o_rin V N (n + b) s = o_rin V N b (o_rin V N n s)
  | 0, s => by rw [Nat.zero_add]; rfl
  | n + 1, s => by
    by_cases h : N ≤ s.1 ∨ 60 ≤ s.2.1
    · rw [o_rin_stop h, o_rin_stop h, o_rin_stop h]
    · rw [show n + 1 + b = (n + b) + 1 by omega, o_rin_s h, o_rin_s h, o_rin_add n]
def o_ppt (o : Nat → Nat) (m : Nat) (l : List Nat) : Nat → Nat := fun x => if m ≤ x ∧ x < 60 ∧ x < m + l.length then l.getD (x - m) 0 else o x
theorem o_ppt_nil {o : Nat → Nat} {m : Nat} : o_ppt o m [] = o := by
  funext x
  unfold o_ppt
  rw [if_neg (by rw [List.length_nil]; omega)]
theorem o_ppt_app {o : Nat → Nat} {m : Nat} {l1 l2 : List Nat} : o_ppt (o_ppt o m l1) (m + l1.length) l2 = o_ppt o m (l1 ++ l2) := by
  funext x
  unfold o_ppt
  rw [List.length_append]
  by_cases h1 : m + l1.length ≤ x ∧ x < 60 ∧ x < m + l1.length + l2.length
  · rw [if_pos h1, if_pos ⟨by omega, by omega, by omega⟩, gd_r (by omega), show x - m - l1.length = x - (m + l1.length) by omega]
  · rw [if_neg h1]
    by_cases h2 : m ≤ x ∧ x < 60 ∧ x < m + l1.length
    · rw [if_pos h2, if_pos ⟨by omega, by omega, by omega⟩, gd_l (by omega)]
    · rw [if_neg h2, if_neg (by omega)]
theorem o_ppt_cut {o : Nat → Nat} {m : Nat} {l1 l2 : List Nat} (h : 60 ≤ m + l1.length) : o_ppt o m l1 = o_ppt o m (l1 ++ l2) := by
  funext x
  unfold o_ppt
  rw [List.length_append]
  by_cases h2 : m ≤ x ∧ x < 60
  · rw [if_pos ⟨h2.1, h2.2, by omega⟩, if_pos ⟨by omega, by omega, by omega⟩, gd_l (by omega)]
  · rw [if_neg (by omega), if_neg (by omega)]
/-- the moves i .. j - 1, run, come to l -/
def o_seg (V : Nat → Nat × Nat × Nat) (N i j : Nat) (l : List Nat) : Prop := i ≤ j ∧ ∀ (m : Nat) (r : Nat → Int32) (o : Nat → Nat), m ≤ 60 → (∀ x, m ≤ x → x < 60 → o x = 0) → ∃ n k r2, o_rin V N n (i, m, r, o) = (k, min 60 (m + l.length), r2, o_ppt o m l) ∧ (m + l.length < 60 → k = j ∧ ∀ x, (x < i ∨ j ≤ x) → r2 x = r x)
theorem o_seg_60 {i : Nat} {l : List Nat} {m : Nat} {r : Nat → Int32} {o : Nat → Nat} (hm : m = 60) : o_rin V N 0 (i, m, r, o) = (i, min 60 (m + l.length), r, o_ppt o m l) := by
  subst hm
  have : o_ppt o 60 l = o := by
    funext x
    unfold o_ppt
    rw [if_neg (by omega)]
  rw [this, Nat.min_eq_left (by omega)]
  rfl
theorem o_seg.nil {i : Nat} : o_seg V N i i [] := ⟨Nat.le_refl _, fun m r o hm _ => ⟨0, i, r, by rw [o_ppt_nil, List.length_nil, Nat.add_zero, Nat.min_eq_right hm]; rfl, fun _ => ⟨rfl, fun _ _ => rfl⟩⟩⟩
theorem o_seg.move {i : Nat} (hi : i < N) (h1 : (V i).1 ≠ 32) (h2 : (V i).1 ≠ 31) (h3 : (V i).1 ≠ 30) : o_seg V N i (i + 1) [8 * o_kx (V i).1 + (V i).2.1] := by
  refine ⟨by omega, fun m r o hm hz => ?_⟩
  by_cases h : m = 60
  · exact ⟨0, i, r, o_seg_60 h, fun y => by rw [List.length_singleton] at y; omega⟩
  · refine ⟨1, i + 1, r, ?_, fun _ => ⟨rfl, fun _ _ => rfl⟩⟩
    rw [o_rin_s (by dsimp only; omega)]
    show o_ste V (i, m, r, o) = _
    unfold o_ste
    rw [if_neg h1, if_neg h2, if_neg h3, List.length_singleton, Nat.min_eq_right (by omega)]
    congr 3
    funext x
    unfold o_su o_ppt
    rw [List.length_singleton]
    by_cases y : x = m
    · subst y; rw [if_pos rfl, if_pos ⟨by omega, by omega, by omega⟩, Nat.sub_self]; rfl
    · rw [if_neg y, if_neg (by omega)]
theorem o_seg.still {i : Nat} (hi : i < N) (h3 : (V i).1 = 30) : o_seg V N i (i + 1) (List.replicate (V i).2.1 0) := by
  refine ⟨by omega, fun m r o hm hz => ?_⟩
  by_cases h : m = 60
  · exact ⟨0, i, r, o_seg_60 h, fun y => by omega⟩
  · refine ⟨1, i + 1, r, ?_, fun _ => ⟨rfl, fun _ _ => rfl⟩⟩
    rw [o_rin_s (by dsimp only; omega)]
    show o_ste V (i, m, r, o) = _
    unfold o_ste
    rw [if_neg (by dsimp only; omega), if_neg (by dsimp only; omega), if_pos h3, List.length_replicate]
    congr 3
    funext x
    unfold o_ppt
    rw [List.length_replicate]
    by_cases y : m ≤ x ∧ x < 60 ∧ x < m + (V i).2.1
    · rw [if_pos y, gd_rep]
      exact hz x y.1 y.2.1
    · rw [if_neg y]
theorem o_seg.app {i j k : Nat} {l1 l2 : List Nat} (s1 : o_seg V N i j l1) (s2 : o_seg V N j k l2) : o_seg V N i k (l1 ++ l2) := by
  refine ⟨Nat.le_trans s1.1 s2.1, fun m r o hm hz => ?_⟩
  obtain ⟨n1, k1, r1, e1, f1⟩ := s1.2 m r o hm hz
  rw [List.length_append]
  by_cases h : m + l1.length < 60
  · obtain ⟨rfl, g1⟩ := f1 h
    obtain ⟨n2, k2, r2, e2, f2⟩ := s2.2 (m + l1.length) r1 (o_ppt o m l1) (by omega) (fun x h1 h2 => by
      unfold o_ppt
      rw [if_neg (by omega)]
      exact hz x (by omega) h2)
    refine ⟨n1 + n2, k2, r2, ?_, fun y => ?_⟩
    · rw [o_rin_add, e1, Nat.min_eq_right (by omega), e2, o_ppt_app, Nat.add_assoc]
    · obtain ⟨y1, y2⟩ := f2 (by omega)
      refine ⟨y1, fun x hx => ?_⟩
      have := s1.1
      have := s2.1
      rw [y2 x (by omega), g1 x (by omega)]
  · refine ⟨n1, k1, r1, ?_, fun y => by omega⟩
    rw [e1, Nat.min_eq_left (by omega), Nat.min_eq_left (by omega), o_ppt_cut (l2 := l2) (by omega)]
theorem o_seg.loop {b j q : Nat} {l : List Nat} (hb : b < N) (hj : j < N) (h1 : (V b).1 = 31) (h2 : (V b).2.1 = q) (hq : 1 ≤ q ∧ q ≤ 60) (s : o_seg V N (b + 1) j l) (h3 : (V j).1 = 32) (h4 : (V j).2.2 = b) : o_seg V N b (j + 1) (o_rep l q) := by
  have bj := s.1
  have body : ∀ (t : Nat), t < 60 → ∀ (m : Nat) (r : Nat → Int32) (o : Nat → Nat), m ≤ 60 → r b = i_n t → (∀ x, m ≤ x → x < 60 → o x = 0) → ∃ n k r2, o_rin V N n (b + 1, m, r, o) = (k, min 60 (m + (o_rep l (t + 1)).length), r2, o_ppt o m (o_rep l (t + 1))) ∧ (m + (o_rep l (t + 1)).length < 60 → k = j + 1 ∧ ∀ x, (x < b ∨ j + 1 ≤ x) → r2 x = r x) := by
    intro t
    induction t with
    | zero =>
      intro ht m r o hm hr hz
      obtain ⟨n1, k1, r1, e1, f1⟩ := s.2 m r o hm hz
      rw [show o_rep l (0 + 1) = l by rw [o_rep, o_rep, List.append_nil]]
      by_cases h : m + l.length < 60
      · obtain ⟨rfl, g1⟩ := f1 h
        refine ⟨n1 + 1, k1 + 1, r1, ?_, fun _ => ⟨rfl, fun x hx => g1 x (by omega)⟩⟩
        rw [o_rin_add, e1, Nat.min_eq_right (by omega), o_rin_s (by dsimp only; omega)]
        show o_ste V (k1, m + l.length, r1, o_ppt o m l) = _
        unfold o_ste
        dsimp only
        rw [if_pos h3, h4, if_neg (by rw [g1 b (by omega), hr]; decide)]
      · exact ⟨n1, k1, r1, e1, fun y => absurd y h⟩
    | succ t ih =>
      intro ht m r o hm hr hz
      obtain ⟨n1, k1, r1, e1, f1⟩ := s.2 m r o hm hz
      rw [show o_rep l (t + 1 + 1) = l ++ o_rep l (t + 1) from rfl]
      by_cases h : m + l.length < 60
      · obtain ⟨rfl, g1⟩ := f1 h
        have es : o_ste V (k1, m + l.length, r1, o_ppt o m l) = (b + 1, m + l.length, upd r1 b (i_n t), o_ppt o m l) := by
          unfold o_ste
          dsimp only
          rw [if_pos h3, h4, if_pos (by rw [g1 b (by omega), hr, show (0 : Int32) = i_n 0 from rfl, n_lt (by omega) (by omega)]; omega), g1 b (by omega), hr, show i_n (t + 1) - 1 = i_n t from n_sub (a := t + 1) (b := 1) (by omega)]
        obtain ⟨n2, k2, r2, e2, f2⟩ := ih (by omega) (m + l.length) (upd r1 b (i_n t)) (o_ppt o m l) (by omega) (by rw [x_upd, if_pos rfl]) (fun x h1 h2 => by
          unfold o_ppt
          rw [if_neg (by omega)]
          exact hz x (by omega) h2)
        refine ⟨n1 + (n2 + 1), k2, r2, ?_, fun y => ?_⟩
        · rw [o_rin_add, e1, Nat.min_eq_right (by omega), o_rin_s (by dsimp only; omega), es, e2, o_ppt_app, List.length_append, Nat.add_assoc]
        · rw [List.length_append] at y
          obtain ⟨y1, y2⟩ := f2 (by omega)
          refine ⟨y1, fun x hx => ?_⟩
          rw [y2 x hx, x_upd, if_neg (by omega), g1 x (by omega)]
      · refine ⟨n1, k1, r1, ?_, fun y => by rw [List.length_append] at y; omega⟩
        rw [e1, List.length_append, Nat.min_eq_left (by omega), Nat.min_eq_left (by omega), o_ppt_cut (l2 := o_rep l (t + 1)) (by omega)]
  refine ⟨by omega, fun m r o hm hz => ?_⟩
  by_cases h : m = 60
  · exact ⟨0, b, r, o_seg_60 h, fun y => by omega⟩
  · obtain ⟨t, rfl⟩ : ∃ t, q = t + 1 := ⟨q - 1, by omega⟩
    have es : o_ste V (b, m, r, o) = (b + 1, m, upd r b (i_n t), o) := by
      unfold o_ste
      dsimp only
      rw [if_neg (by omega), if_pos h1, h2, show i_n (t + 1) - 1 = i_n t from n_sub (a := t + 1) (b := 1) (by omega)]
    obtain ⟨n2, k2, r2, e2, f2⟩ := body t (by omega) m (upd r b (i_n t)) o hm (by rw [x_upd, if_pos rfl]) hz
    refine ⟨n2 + 1, k2, r2, ?_, fun y => ?_⟩
    · rw [o_rin_s (by dsimp only; omega), es, e2]
    · obtain ⟨y1, y2⟩ := f2 y
      refine ⟨y1, fun x hx => ?_⟩
      rw [y2 x hx, x_upd, if_neg (by omega)]
/-- the same, whatever comes behind them -/
def o_sg (V : Nat → Nat × Nat × Nat) (i j : Nat) (l : List Nat) : Prop := i ≤ j ∧ ∀ (W : Nat → Nat × Nat × Nat) (N : Nat), j ≤ N → (∀ x, i ≤ x → x < j → W x = V x) → o_seg W N i j l
theorem o_sg.ext {W : Nat → Nat × Nat × Nat} {i j : Nat} {l : List Nat} (s : o_sg V i j l) (e : ∀ x, i ≤ x → x < j → W x = V x) : o_sg W i j l := ⟨s.1, fun W2 N2 hN e2 => s.2 W2 N2 hN (fun x h1 h2 => (e2 x h1 h2).trans (e x h1 h2))⟩
theorem o_sg.nil {i : Nat} : o_sg V i i [] := ⟨Nat.le_refl _, fun _ _ _ _ => o_seg.nil⟩
theorem o_sg.move {i : Nat} (h1 : (V i).1 ≠ 32) (h2 : (V i).1 ≠ 31) (h3 : (V i).1 ≠ 30) : o_sg V i (i + 1) [8 * o_kx (V i).1 + (V i).2.1] := ⟨by omega, fun W N hN e => by
  have ei := e i (Nat.le_refl _) (by omega)
  have := o_seg.move (V := W) (N := N) (i := i) (by omega) (by rw [ei]; exact h1) (by rw [ei]; exact h2) (by rw [ei]; exact h3)
  rw [ei] at this
  exact this⟩
theorem o_sg.still {i : Nat} (h3 : (V i).1 = 30) : o_sg V i (i + 1) (List.replicate (V i).2.1 0) := ⟨by omega, fun W N hN e => by
  have ei := e i (Nat.le_refl _) (by omega)
  have := o_seg.still (V := W) (N := N) (i := i) (by omega) (by rw [ei]; exact h3)
  rw [ei] at this
  exact this⟩
theorem o_sg.app {i j k : Nat} {l1 l2 : List Nat} (s1 : o_sg V i j l1) (s2 : o_sg V j k l2) : o_sg V i k (l1 ++ l2) := ⟨Nat.le_trans s1.1 s2.1, fun W N hN e => by
  have := s1.1
  have := s2.1
  exact (s1.2 W N (by omega) (fun x h1 h2 => e x h1 (by omega))).app (s2.2 W N hN (fun x h1 h2 => e x (by omega) h2))⟩
theorem o_sg.loop {b j q : Nat} {l : List Nat} (h1 : (V b).1 = 31) (h2 : (V b).2.1 = q) (hq : 1 ≤ q ∧ q ≤ 60) (s : o_sg V (b + 1) j l) (h3 : (V j).1 = 32) (h4 : (V j).2.2 = b) : o_sg V b (j + 1) (o_rep l q) := ⟨by have := s.1; omega, fun W N hN e => by
  have := s.1
  have eb := e b (Nat.le_refl _) (by omega)
  have ej := e j (by omega) (by omega)
  exact (s.2 W N (by omega) (fun x h1 h2 => e x (by omega) (by omega))).loop (by omega) (by omega) (by rw [eb]; exact h1) (by rw [eb]; exact h2) hq (by rw [ej]; exact h3) (by rw [ej]; exact h4)⟩
/-- all moves, run -/
theorem o_sg.fin {l : List Nat} (s : o_sg V 0 N l) (r : Nat → Int32) : ∃ n k m r2, o_rin V N n (0, 0, r, fun _ => 0) = (k, m, r2, o_ppt (fun _ => 0) 0 l) ∧ (N ≤ k ∨ 60 ≤ m) := by
  obtain ⟨n, k, r2, e, f⟩ := (s.2 V N (Nat.le_refl _) (fun _ _ _ => rfl)).2 0 r (fun _ => 0) (by omega) (fun _ _ _ => rfl)
  refine ⟨n, k, _, r2, e, ?_⟩
  by_cases h : 0 + l.length < 60
  · exact Or.inl (by rw [(f h).1]; exact Nat.le_refl _)
  · exact Or.inr (by omega)
end
