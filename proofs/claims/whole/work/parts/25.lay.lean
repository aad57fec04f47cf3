/-! THE WORLD BEHIND THE CONSTRUCTORS: its shape; reads at known places; by program -/
def i_wild : Nat → Nat → Bool
  | 0, 1 => true
  | 5, 2 => true
  | 5, 3 => true
  | 5, 6 => true
  | 5, 7 => true
  | 6, 8 => true
  | 6, 9 => true
  | 6, 10 => true
  | 6, 11 => true
  | 9, 1 => true
  | 11, 5 => true
  | 11, 6 => true
  | _, _ => false
def i_vk (ci b : Nat) : Value → Nat
  | .int _ => 0
  | .long _ => 1
  | .ref k => if i_wild ci b = true then 2 else k + 4
  | _ => 3
def i_shp : va_E → List Nat
  | .inl (t, n, .inl _) => [0, t, n]
  | .inl (t, n, .inr (.inl _)) => [1, t, n]
  | .inl (t, n, .inr (.inr (.inr (.inr f)))) => 2 :: t :: n :: (List.range n).map (fun j => match f j with
    | some k => k + 1
    | none => 0)
  | .inl (t, n, _) => [9, t, n]
  | .inr (ci, fs) => 3 :: ci :: fs.mapIdx (fun b v => i_vk ci b v)
def i_SHP : List (List Nat) := [[3, 11, 0, 1, 1, 5, 14, 2, 2, 48, 49, 53, 0, 99, 112, 125, 138, 140], [3, 10, 6, 11, 12, 13], [2, 4, 4, 4, 5, 6, 7], [1, 1, 60], [1, 1, 60], [1, 1, 60], [1, 1, 60], [0, 0, 4], [0, 0, 4], [0, 0, 28], [3, 7, 15, 16, 17, 0, 0, 0, 0, 0, 0, 1, 0, 0, 0], [0, 0, 900], [0, 0, 256], [1, 1, 33], [3, 8, 0, 0, 1, 1, 19, 0, 20, 21, 22, 0, 23, 24, 25, 32], [0, 0, 48], [0, 0, 4], [0, 0, 4], [0, 0, 32], [0, 0, 8], [0, 0, 4], [3, 3, 0, 26, 27, 28, 29, 30, 31], [1, 1, 8], [0, 0, 8], [0, 0, 8], [0, 0, 8], [0, 0, 8], [0, 0, 8], [0, 0, 480], [3, 8, 0, 0, 1, 1, 34, 0, 35, 36, 37, 0, 38, 39, 40, 47], [0, 0, 48], [0, 0, 4], [0, 0, 4], [0, 0, 32], [0, 0, 8], [0, 0, 4], [3, 3, 0, 41, 42, 43, 44, 45, 46], [1, 1, 8], [0, 0, 8], [0, 0, 8], [0, 0, 8], [0, 0, 8], [0, 0, 8], [0, 0, 480], [3, 9, 14, 2, 0, 0, 0], [3, 4, 14, 50, 0, 51, 52, 0, 0, 0, 0], [0, 0, 480], [0, 0, 2], [0, 0, 2], [2, 5, 3, 51, 66, 81], [3, 8, 0, 0, 1, 1, 55, 0, 56, 57, 58, 0, 59, 60, 61, 68], [0, 0, 48], [0, 0, 4], [0, 0, 4], [0, 0, 32], [0, 0, 8], [0, 0, 4], [3, 3, 0, 62, 63, 64, 65, 66, 67], [1, 1, 8], [0, 0, 8], [0, 0, 8], [0, 0, 8], [0, 0, 8], [0, 0, 8], [0, 0, 480], [3, 8, 0, 0, 1, 1, 70, 0, 71, 72, 73, 0, 74, 75, 76, 83], [0, 0, 48], [0, 0, 4], [0, 0, 4], [0, 0, 32], [0, 0, 8], [0, 0, 4], [3, 3, 0, 77, 78, 79, 80, 81, 82], [1, 1, 8], [0, 0, 8], [0, 0, 8], [0, 0, 8], [0, 0, 8], [0, 0, 8], [0, 0, 480], [3, 8, 0, 0, 1, 1, 85, 0, 86, 87, 88, 0, 89, 90, 91, 98], [0, 0, 48], [0, 0, 4], [0, 0, 4], [0, 0, 32], [0, 0, 8], [0, 0, 4], [3, 3, 0, 92, 93, 94, 95, 96, 97], [1, 1, 8], [0, 0, 8], [0, 0, 8], [0, 0, 8], [0, 0, 8], [0, 0, 8], [0, 0, 480], [3, 0, 100, 2, 105, 106, 107, 108, 109, 110, 111], [3, 2, 0, 0, 0, 1, 1, 1, 1, 101, 102, 103, 104], [0, 0, 48], [0, 0, 48], [1, 1, 2304], [1, 1, 384], [1, 1, 61], [0, 0, 488], [0, 0, 488], [0, 0, 488], [0, 0, 244], [1, 1, 488], [0, 0, 3904], [3, 6, 99, 0, 113, 114, 115, 116, 117, 118, 2, 2, 2, 2, 123, 124], [0, 0, 61], [1, 1, 5], [1, 1, 5], [1, 1, 61], [1, 1, 61], [1, 1, 61], [0, 0, 48], [0, 0, 48], [1, 1, 256], [1, 1, 256], [0, 0, 240], [1, 1, 5], [3, 5, 99, 126, 2, 2, 129, 130, 2, 2, 133, 134, 135, 136, 137], [0, 0, 6], [1, 1, 64], [1, 1, 64], [0, 0, 384], [1, 1, 8], [1, 1, 192], [1, 1, 192], [1, 1, 48], [1, 1, 48], [1, 1, 48], [1, 1, 48], [0, 0, 48], [3, 1, 0, 0, 0, 139, 0], [0, 0, 8], [3, 1, 0, 0, 0, 141, 0], [0, 0, 8], [3, 12, 143, 144, 145, 146, 0, 1, 1, 147, 148, 149, 150, 151, 0, 0, 0, 0, 0, 0, 0, 0, 0, 0, 0, 152, 153, 154, 0, 0, 0, 155, 156, 157, 158, 159, 160, 161, 0, 162, 163, 164, 165, 166, 167, 168, 169, 170, 171, 172, 173, 174, 0, 0, 0, 175, 176, 0, 0, 0], [0, 0, 3400], [1, 1, 40], [0, 0, 8], [0, 0, 8], [0, 0, 4], [0, 0, 4], [1, 1, 240], [0, 3, 900], [0, 3, 900], [0, 0, 300], [0, 0, 2], [0, 0, 100], [0, 0, 488], [0, 0, 488], [0, 0, 488], [0, 0, 244], [0, 2, 2928], [0, 2, 2928], [0, 0, 61], [0, 0, 48], [0, 0, 48], [0, 2, 12288], [0, 2, 12288], [0, 2, 24576], [0, 2, 24576], [0, 0, 6], [0, 0, 384], [0, 2, 9216], [0, 2, 9216], [0, 2, 2304], [0, 0, 2304], [0, 0, 32], [0, 0, 8], [0, 0, 8]]
def i_Lay (h : iH) : Prop := h.map i_shp = i_SHP
def aI (h : iH) (q : Nat) : Nat → Int32 := match h[q]? with
  | some (.inl (_, _, .inl f)) => f
  | _ => fun _ => 0
def aJ (h : iH) (q : Nat) : Nat → Int64 := match h[q]? with
  | some (.inl (_, _, .inr (.inl f))) => f
  | _ => fun _ => 0
def fI (h : iH) (q b : Nat) : Int32 := match h[q]? with
  | some (.inr (_, fs)) => match fs[b]? with
    | some (.int v) => v
    | _ => 0
  | _ => 0
def fJ (h : iH) (q b : Nat) : Int64 := match h[q]? with
  | some (.inr (_, fs)) => match fs[b]? with
    | some (.long v) => v
    | _ => 0
  | _ => 0
def fR (h : iH) (q b : Nat) : Nat := match h[q]? with
  | some (.inr (_, fs)) => match fs[b]? with
    | some (.ref v) => v
    | _ => 0
  | _ => 0
def i_in (e : Int32) (N : Nat) : Prop := ¬ (e < 0 ∨ N ≤ e.toNatClampNeg)
def i_T (t : Nat) : Prop := t = 14 ∨ t = 29 ∨ t = 50 ∨ t = 65 ∨ t = 80
def i_Y (t : Nat) : Prop := t = 134 ∨ t = 136
def i_mkp (j : Nat) : Nat := 50 + 15 * j
section
variable {h : iH}
theorem i_Lay.at_ (hL : i_Lay h) {q : Nat} {s : List Nat} (hs : i_SHP[q]? = some s) : ∃ e, h[q]? = some e ∧ i_shp e = s := by
  have h1 : (h.map i_shp)[q]? = some s := by rw [hL]; exact hs
  rw [List.getElem?_map, Option.map_eq_some_iff] at h1
  exact h1
theorem i_shp_o {e : va_E} {s : List Nat} (h : i_shp e = 3 :: s) : ∃ ci fs, e = .inr (ci, fs) ∧ s = ci :: fs.mapIdx (fun b v => i_vk ci b v) := by
  rcases e with ⟨t, n, f | f | f | f | f⟩ | ⟨ci, fs⟩ <;> simp only [i_shp, List.cons.injEq] at h
  · exact absurd h.1 (by decide)
  · exact absurd h.1 (by decide)
  · exact absurd h.1 (by decide)
  · exact absurd h.1 (by decide)
  · exact absurd h.1 (by decide)
  · exact ⟨ci, fs, rfl, h.2.symm⟩
theorem i_shp_I {e : va_E} {s : List Nat} (h : i_shp e = 0 :: s) : ∃ t n f, e = .inl (t, n, .inl f) ∧ s = [t, n] := by
  rcases e with ⟨t, n, f | f | f | f | f⟩ | ⟨ci, fs⟩ <;> simp only [i_shp, List.cons.injEq] at h
  · exact ⟨t, n, f, rfl, h.2.symm⟩
  · exact absurd h.1 (by decide)
  · exact absurd h.1 (by decide)
  · exact absurd h.1 (by decide)
  · exact absurd h.1 (by decide)
  · exact absurd h.1 (by decide)
theorem i_shp_J {e : va_E} {s : List Nat} (h : i_shp e = 1 :: s) : ∃ t n f, e = .inl (t, n, .inr (.inl f)) ∧ s = [t, n] := by
  rcases e with ⟨t, n, f | f | f | f | f⟩ | ⟨ci, fs⟩ <;> simp only [i_shp, List.cons.injEq] at h
  · exact absurd h.1 (by decide)
  · exact ⟨t, n, f, rfl, h.2.symm⟩
  · exact absurd h.1 (by decide)
  · exact absurd h.1 (by decide)
  · exact absurd h.1 (by decide)
  · exact absurd h.1 (by decide)
theorem i_shp_R {e : va_E} {s : List Nat} (h : i_shp e = 2 :: s) : ∃ t n f, e = .inl (t, n, .inr (.inr (.inr (.inr f)))) ∧ s = t :: n :: (List.range n).map (fun j => match f j with
    | some k => k + 1
    | none => 0) := by
  rcases e with ⟨t, n, f | f | f | f | f⟩ | ⟨ci, fs⟩ <;> simp only [i_shp, List.cons.injEq] at h
  · exact absurd h.1 (by decide)
  · exact absurd h.1 (by decide)
  · exact absurd h.1 (by decide)
  · exact absurd h.1 (by decide)
  · exact ⟨t, n, f, rfl, h.2.symm⟩
  · exact absurd h.1 (by decide)
theorem i_Lay.ob (hL : i_Lay h) {q ci : Nat} {s : List Nat} (hs : i_SHP[q]? = some s) (h2 : s.take 2 = [3, ci]) : i_obj? h q ci := by
  obtain ⟨e, he, h3⟩ := hL.at_ hs
  match s, h2 with
  | 3 :: c :: r, h2 =>
    obtain ⟨ci2, fs, rfl, h5⟩ := i_shp_o h3
    simp only [List.cons.injEq] at h5
    simp only [List.take, List.cons.injEq] at h2
    obtain ⟨-, rfl, -⟩ := h2
    rw [← h5.1] at he
    exact ⟨fs, he⟩
theorem i_Lay.fv (hL : i_Lay h) {q ci b k : Nat} {s : List Nat} (hs : i_SHP[q]? = some s) (h2 : s.take 2 = [3, ci]) (h3 : (s.drop 2)[b]? = some k) : ∃ fs v, h[q]? = some (.inr (ci, fs)) ∧ fs[b]? = some v ∧ i_vk ci b v = k := by
  obtain ⟨e, he, h4⟩ := hL.at_ hs
  match s, h2 with
  | 3 :: c :: r, h2 =>
    obtain ⟨ci2, fs, rfl, h5⟩ := i_shp_o h4
    simp only [List.cons.injEq] at h5
    simp only [List.take, List.cons.injEq] at h2
    obtain ⟨-, rfl, -⟩ := h2
    obtain ⟨rfl, h5⟩ := h5
    simp only [List.drop] at h3
    rw [h5, List.getElem?_mapIdx, Option.map_eq_some_iff] at h3
    obtain ⟨v, h6, h7⟩ := h3
    exact ⟨fs, v, he, h6, h7⟩
theorem i_fld_of {q ci b : Nat} {fs : List Value} {v : Value} (e : h[q]? = some (.inr (ci, fs))) (e2 : fs[b]? = some v) : i_fld h q ci b = some v := by
  unfold i_fld
  rw [e]
  simp only [if_true]
  exact e2
theorem i_Lay.fi (hL : i_Lay h) {q ci b : Nat} {s : List Nat} (hs : i_SHP[q]? = some s) (h2 : s.take 2 = [3, ci]) (h3 : (s.drop 2)[b]? = some 0) : i_fld h q ci b = some (.int (fI h q b)) := by
  obtain ⟨fs, v, e1, e2, e3⟩ := hL.fv hs h2 h3
  rw [i_fld_of e1 e2]
  unfold fI
  rw [e1]
  dsimp only
  rw [e2]
  cases v <;> simp [i_vk] at e3
  · rfl
  · split at e3 <;> simp at e3
theorem i_Lay.fj (hL : i_Lay h) {q ci b : Nat} {s : List Nat} (hs : i_SHP[q]? = some s) (h2 : s.take 2 = [3, ci]) (h3 : (s.drop 2)[b]? = some 1) : i_fld h q ci b = some (.long (fJ h q b)) := by
  obtain ⟨fs, v, e1, e2, e3⟩ := hL.fv hs h2 h3
  rw [i_fld_of e1 e2]
  unfold fJ
  rw [e1]
  dsimp only
  rw [e2]
  cases v <;> simp [i_vk] at e3
  · rfl
  · split at e3 <;> simp at e3
theorem i_Lay.fr (hL : i_Lay h) {q ci b p : Nat} {s : List Nat} (hs : i_SHP[q]? = some s) (h2 : s.take 2 = [3, ci]) (h3 : (s.drop 2)[b]? = some (p + 4)) (hw : i_wild ci b = false) : i_fld h q ci b = some (.ref p) := by
  obtain ⟨fs, v, e1, e2, e3⟩ := hL.fv hs h2 h3
  rw [i_fld_of e1 e2]
  cases v <;> simp [i_vk, hw] at e3
  · subst e3; rfl
theorem i_Lay.fw (hL : i_Lay h) {q ci b : Nat} {s : List Nat} (hs : i_SHP[q]? = some s) (h2 : s.take 2 = [3, ci]) (h3 : (s.drop 2)[b]? = some 2) : i_fld h q ci b = some (.ref (fR h q b)) := by
  obtain ⟨fs, v, e1, e2, e3⟩ := hL.fv hs h2 h3
  rw [i_fld_of e1 e2]
  unfold fR
  rw [e1]
  dsimp only
  rw [e2]
  cases v <;> simp [i_vk] at e3
  · rfl
theorem i_Lay.ai (hL : i_Lay h) {q t n : Nat} (hs : i_SHP[q]? = some [0, t, n]) : i_arI h t q = some (n, aI h q) := by
  obtain ⟨e, he, h3⟩ := hL.at_ hs
  obtain ⟨t2, n2, f, rfl, h4⟩ := i_shp_I h3
  simp only [List.cons.injEq, and_true] at h4
  obtain ⟨rfl, rfl⟩ := h4
  unfold i_arI aI
  rw [he]
  simp only [if_true]
theorem i_Lay.aj (hL : i_Lay h) {q n : Nat} (hs : i_SHP[q]? = some [1, 1, n]) : i_arJ h q = some (n, aJ h q) := by
  obtain ⟨e, he, h3⟩ := hL.at_ hs
  obtain ⟨t2, n2, f, rfl, h4⟩ := i_shp_J h3
  simp only [List.cons.injEq, and_true] at h4
  obtain ⟨rfl, rfl⟩ := h4
  unfold i_arJ aJ
  rw [he]
  simp only [if_true]
theorem i_Lay.set (hL : i_Lay h) {q : Nat} {e e2 : va_E} (he : h[q]? = some e) (h2 : i_shp e2 = i_shp e) : i_Lay (h.set q e2) := by
  unfold i_Lay at hL ⊢
  rw [← hL, List.map_set, h2]
  apply List.ext_getElem?
  intro k
  by_cases hk : k = q
  · subst hk
    have hl := (List.getElem?_eq_some_iff.mp he).1
    rw [List.getElem?_set_self (by simpa using hl), List.getElem?_map, he]
    rfl
  · rw [List.getElem?_set_ne (fun z => hk z.symm)]
theorem i_Lay.siI (hL : i_Lay h) {q i : Nat} {x : Int32} : i_Lay (i_siI h q i x) := by
  unfold i_siI
  split
  · rename_i e
    exact hL.set e rfl
  · exact hL
theorem i_Lay.siJ (hL : i_Lay h) {q i : Nat} {x : Int64} : i_Lay (i_siJ h q i x) := by
  unfold i_siJ
  split
  · rename_i e
    exact hL.set e rfl
  · exact hL
theorem i_Lay.sf (hL : i_Lay h) {q b : Nat} {x o : Value} {ci : Nat} (h1 : i_fld h q ci b = some o) (h2 : i_vk ci b x = i_vk ci b o) : i_Lay (i_sf h q b x) := by
  obtain ⟨fs, e1, e2⟩ := i_fld_s h1
  unfold i_sf
  rw [e1]
  refine hL.set e1 ?_
  simp only [i_shp]
  congr 2
  apply List.ext_getElem?
  intro k
  rw [List.getElem?_mapIdx, List.getElem?_mapIdx]
  by_cases hk : k = b
  · subst hk
    rw [List.getElem?_set_self (List.getElem?_eq_some_iff.mp e2).1, e2]
    simp only [Option.map_some, h2]
  · rw [List.getElem?_set_ne (fun z => hk z.symm)]
theorem i_Lay.setI (hL : i_Lay h) {t q n : Nat} {f g : Nat → Int32} (h1 : i_arI h t q = some (n, f)) : i_Lay (h.set q (.inl (t, n, .inl g))) := hL.set (i_arI_s h1) rfl
theorem i_Lay.setJ (hL : i_Lay h) {q n : Nat} {f g : Nat → Int64} (h1 : i_arJ h q = some (n, f)) : i_Lay (h.set q (.inl (1, n, .inr (.inl g)))) := hL.set (i_arJ_s h1) rfl
theorem i_Lay.len (hL : i_Lay h) : h.length = i_SHP.length := by rw [← hL, List.length_map]
theorem i_Lay.rr (hL : i_Lay h) {q t n : Nat} {l : List Nat} (hs : i_SHP[q]? = some (2 :: t :: n :: l)) : ∃ f, i_arR h t q = some (n, f) ∧ ∀ j k, j < n → l[j]? = some (k + 1) → f j = some k := by
  obtain ⟨e, he, h3⟩ := hL.at_ hs
  obtain ⟨t2, n2, f, rfl, h4⟩ := i_shp_R h3
  simp only [List.cons.injEq] at h4
  obtain ⟨rfl, rfl, rfl⟩ := h4
  refine ⟨f, ?_, fun j k hj hl => ?_⟩
  · unfold i_arR
    rw [he]
    simp only [if_true]
  · rw [List.getElem?_map, List.getElem?_range hj] at hl
    simp only [Option.map_some, Option.some.injEq] at hl
    cases hf : f j with
    | none => rw [hf] at hl; simp at hl
    | some z => rw [hf] at hl; simp only [Nat.add_right_cancel_iff] at hl; rw [hl]
theorem i_Lay.rows (hL : i_Lay h) : ∃ f, i_arR h 4 2 = some (4, f) ∧ ∀ j, j < 4 → f j = some (3 + j) := by
  obtain ⟨f, h1, h2⟩ := hL.rr (q := 2) rfl
  refine ⟨f, h1, fun j hj => h2 j (3 + j) hj ?_⟩
  match j, hj with
  | 0, _ => rfl
  | 1, _ => rfl
  | 2, _ => rfl
  | 3, _ => rfl
theorem i_Lay.marks (hL : i_Lay h) : ∃ f, i_arR h 5 49 = some (3, f) ∧ ∀ j, j < 3 → f j = some (i_mkp j) := by
  obtain ⟨f, h1, h2⟩ := hL.rr (q := 49) rfl
  refine ⟨f, h1, fun j hj => h2 j (i_mkp j) hj ?_⟩
  match j, hj with
  | 0, _ => rfl
  | 1, _ => rfl
  | 2, _ => rfl
theorem i_Lay.row (hL : i_Lay h) {j : Nat} (hj : j < 4) : i_arJ h (3 + j) = some (60, aJ h (3 + j)) := by
  match j, hj with
  | 0, _ => exact hL.aj rfl
  | 1, _ => exact hL.aj rfl
  | 2, _ => exact hL.aj rfl
  | 3, _ => exact hL.aj rfl
theorem i_in_nat {e : Int32} {N : Nat} (h : i_in e N) : e.toNatClampNeg < N := by
  unfold i_in at h
  omega
theorem i_mkT {j : Nat} (hj : j < 3) : i_T (i_mkp j) := by
  unfold i_T i_mkp
  omega

theorem i_Lay.o0 (hL : i_Lay h) : i_obj? h 0 11 := hL.ob rfl rfl
theorem i_Lay.q0_0 (hL : i_Lay h) : i_fld h 0 11 0 = some (.int (fI h 0 0)) := hL.fi rfl rfl rfl
theorem i_Lay.q0_1 (hL : i_Lay h) : i_fld h 0 11 1 = some (.long (fJ h 0 1)) := hL.fj rfl rfl rfl
theorem i_Lay.q0_2 (hL : i_Lay h) : i_fld h 0 11 2 = some (.long (fJ h 0 2)) := hL.fj rfl rfl rfl
theorem i_Lay.q0_3 (hL : i_Lay h) : i_fld h 0 11 3 = some (.ref 1) := hL.fr (p := 1) rfl rfl rfl rfl
theorem i_Lay.q0_4 (hL : i_Lay h) : i_fld h 0 11 4 = some (.ref 10) := hL.fr (p := 10) rfl rfl rfl rfl
theorem i_Lay.q0_7 (hL : i_Lay h) : i_fld h 0 11 7 = some (.ref 44) := hL.fr (p := 44) rfl rfl rfl rfl
theorem i_Lay.q0_8 (hL : i_Lay h) : i_fld h 0 11 8 = some (.ref 45) := hL.fr (p := 45) rfl rfl rfl rfl
theorem i_Lay.q0_9 (hL : i_Lay h) : i_fld h 0 11 9 = some (.ref 49) := hL.fr (p := 49) rfl rfl rfl rfl
theorem i_Lay.q0_10 (hL : i_Lay h) : i_fld h 0 11 10 = some (.int (fI h 0 10)) := hL.fi rfl rfl rfl
theorem i_Lay.q0_11 (hL : i_Lay h) : i_fld h 0 11 11 = some (.ref 95) := hL.fr (p := 95) rfl rfl rfl rfl
theorem i_Lay.q0_12 (hL : i_Lay h) : i_fld h 0 11 12 = some (.ref 108) := hL.fr (p := 108) rfl rfl rfl rfl
theorem i_Lay.q0_13 (hL : i_Lay h) : i_fld h 0 11 13 = some (.ref 121) := hL.fr (p := 121) rfl rfl rfl rfl
theorem i_Lay.q0_14 (hL : i_Lay h) : i_fld h 0 11 14 = some (.ref 134) := hL.fr (p := 134) rfl rfl rfl rfl
theorem i_Lay.q0_15 (hL : i_Lay h) : i_fld h 0 11 15 = some (.ref 136) := hL.fr (p := 136) rfl rfl rfl rfl
theorem i_Lay.o1 (hL : i_Lay h) : i_obj? h 1 10 := hL.ob rfl rfl
theorem i_Lay.q1_0 (hL : i_Lay h) : i_fld h 1 10 0 = some (.ref 2) := hL.fr (p := 2) rfl rfl rfl rfl
theorem i_Lay.q1_1 (hL : i_Lay h) : i_fld h 1 10 1 = some (.ref 7) := hL.fr (p := 7) rfl rfl rfl rfl
theorem i_Lay.q1_2 (hL : i_Lay h) : i_fld h 1 10 2 = some (.ref 8) := hL.fr (p := 8) rfl rfl rfl rfl
theorem i_Lay.q1_3 (hL : i_Lay h) : i_fld h 1 10 3 = some (.ref 9) := hL.fr (p := 9) rfl rfl rfl rfl
theorem i_Lay.a3 (hL : i_Lay h) : i_arJ h 3 = some (60, aJ h 3) := hL.aj rfl
theorem i_Lay.a4 (hL : i_Lay h) : i_arJ h 4 = some (60, aJ h 4) := hL.aj rfl
theorem i_Lay.a5 (hL : i_Lay h) : i_arJ h 5 = some (60, aJ h 5) := hL.aj rfl
theorem i_Lay.a6 (hL : i_Lay h) : i_arJ h 6 = some (60, aJ h 6) := hL.aj rfl
theorem i_Lay.a7 (hL : i_Lay h) : i_arI h 0 7 = some (4, aI h 7) := hL.ai rfl
theorem i_Lay.a8 (hL : i_Lay h) : i_arI h 0 8 = some (4, aI h 8) := hL.ai rfl
theorem i_Lay.a9 (hL : i_Lay h) : i_arI h 0 9 = some (28, aI h 9) := hL.ai rfl
theorem i_Lay.o10 (hL : i_Lay h) : i_obj? h 10 7 := hL.ob rfl rfl
theorem i_Lay.q10_0 (hL : i_Lay h) : i_fld h 10 7 0 = some (.ref 11) := hL.fr (p := 11) rfl rfl rfl rfl
theorem i_Lay.q10_1 (hL : i_Lay h) : i_fld h 10 7 1 = some (.ref 12) := hL.fr (p := 12) rfl rfl rfl rfl
theorem i_Lay.q10_2 (hL : i_Lay h) : i_fld h 10 7 2 = some (.ref 13) := hL.fr (p := 13) rfl rfl rfl rfl
theorem i_Lay.q10_3 (hL : i_Lay h) : i_fld h 10 7 3 = some (.int (fI h 10 3)) := hL.fi rfl rfl rfl
theorem i_Lay.q10_4 (hL : i_Lay h) : i_fld h 10 7 4 = some (.int (fI h 10 4)) := hL.fi rfl rfl rfl
theorem i_Lay.q10_5 (hL : i_Lay h) : i_fld h 10 7 5 = some (.int (fI h 10 5)) := hL.fi rfl rfl rfl
theorem i_Lay.q10_6 (hL : i_Lay h) : i_fld h 10 7 6 = some (.int (fI h 10 6)) := hL.fi rfl rfl rfl
theorem i_Lay.q10_7 (hL : i_Lay h) : i_fld h 10 7 7 = some (.int (fI h 10 7)) := hL.fi rfl rfl rfl
theorem i_Lay.q10_8 (hL : i_Lay h) : i_fld h 10 7 8 = some (.int (fI h 10 8)) := hL.fi rfl rfl rfl
theorem i_Lay.q10_9 (hL : i_Lay h) : i_fld h 10 7 9 = some (.long (fJ h 10 9)) := hL.fj rfl rfl rfl
theorem i_Lay.q10_10 (hL : i_Lay h) : i_fld h 10 7 10 = some (.int (fI h 10 10)) := hL.fi rfl rfl rfl
theorem i_Lay.q10_11 (hL : i_Lay h) : i_fld h 10 7 11 = some (.int (fI h 10 11)) := hL.fi rfl rfl rfl
theorem i_Lay.q10_12 (hL : i_Lay h) : i_fld h 10 7 12 = some (.int (fI h 10 12)) := hL.fi rfl rfl rfl
theorem i_Lay.a11 (hL : i_Lay h) : i_arI h 0 11 = some (900, aI h 11) := hL.ai rfl
theorem i_Lay.a12 (hL : i_Lay h) : i_arI h 0 12 = some (256, aI h 12) := hL.ai rfl
theorem i_Lay.a13 (hL : i_Lay h) : i_arJ h 13 = some (33, aJ h 13) := hL.aj rfl
theorem i_Lay.o14 (hL : i_Lay h) : i_obj? h 14 8 := hL.ob rfl rfl
theorem i_Lay.q14_0 (hL : i_Lay h) : i_fld h 14 8 0 = some (.int (fI h 14 0)) := hL.fi rfl rfl rfl
theorem i_Lay.q14_1 (hL : i_Lay h) : i_fld h 14 8 1 = some (.int (fI h 14 1)) := hL.fi rfl rfl rfl
theorem i_Lay.q14_2 (hL : i_Lay h) : i_fld h 14 8 2 = some (.long (fJ h 14 2)) := hL.fj rfl rfl rfl
theorem i_Lay.q14_3 (hL : i_Lay h) : i_fld h 14 8 3 = some (.long (fJ h 14 3)) := hL.fj rfl rfl rfl
theorem i_Lay.q14_4 (hL : i_Lay h) : i_fld h 14 8 4 = some (.ref 15) := hL.fr (p := 15) rfl rfl rfl rfl
theorem i_Lay.q14_5 (hL : i_Lay h) : i_fld h 14 8 5 = some (.int (fI h 14 5)) := hL.fi rfl rfl rfl
theorem i_Lay.q14_6 (hL : i_Lay h) : i_fld h 14 8 6 = some (.ref 16) := hL.fr (p := 16) rfl rfl rfl rfl
theorem i_Lay.q14_7 (hL : i_Lay h) : i_fld h 14 8 7 = some (.ref 17) := hL.fr (p := 17) rfl rfl rfl rfl
theorem i_Lay.q14_8 (hL : i_Lay h) : i_fld h 14 8 8 = some (.ref 18) := hL.fr (p := 18) rfl rfl rfl rfl
theorem i_Lay.q14_9 (hL : i_Lay h) : i_fld h 14 8 9 = some (.int (fI h 14 9)) := hL.fi rfl rfl rfl
theorem i_Lay.q14_10 (hL : i_Lay h) : i_fld h 14 8 10 = some (.ref 19) := hL.fr (p := 19) rfl rfl rfl rfl
theorem i_Lay.q14_11 (hL : i_Lay h) : i_fld h 14 8 11 = some (.ref 20) := hL.fr (p := 20) rfl rfl rfl rfl
theorem i_Lay.q14_12 (hL : i_Lay h) : i_fld h 14 8 12 = some (.ref 21) := hL.fr (p := 21) rfl rfl rfl rfl
theorem i_Lay.q14_13 (hL : i_Lay h) : i_fld h 14 8 13 = some (.ref 28) := hL.fr (p := 28) rfl rfl rfl rfl
theorem i_Lay.a15 (hL : i_Lay h) : i_arI h 0 15 = some (48, aI h 15) := hL.ai rfl
theorem i_Lay.a16 (hL : i_Lay h) : i_arI h 0 16 = some (4, aI h 16) := hL.ai rfl
theorem i_Lay.a17 (hL : i_Lay h) : i_arI h 0 17 = some (4, aI h 17) := hL.ai rfl
theorem i_Lay.a18 (hL : i_Lay h) : i_arI h 0 18 = some (32, aI h 18) := hL.ai rfl
theorem i_Lay.a19 (hL : i_Lay h) : i_arI h 0 19 = some (8, aI h 19) := hL.ai rfl
theorem i_Lay.a20 (hL : i_Lay h) : i_arI h 0 20 = some (4, aI h 20) := hL.ai rfl
theorem i_Lay.o21 (hL : i_Lay h) : i_obj? h 21 3 := hL.ob rfl rfl
theorem i_Lay.q21_0 (hL : i_Lay h) : i_fld h 21 3 0 = some (.int (fI h 21 0)) := hL.fi rfl rfl rfl
theorem i_Lay.q21_1 (hL : i_Lay h) : i_fld h 21 3 1 = some (.ref 22) := hL.fr (p := 22) rfl rfl rfl rfl
theorem i_Lay.q21_2 (hL : i_Lay h) : i_fld h 21 3 2 = some (.ref 23) := hL.fr (p := 23) rfl rfl rfl rfl
theorem i_Lay.q21_3 (hL : i_Lay h) : i_fld h 21 3 3 = some (.ref 24) := hL.fr (p := 24) rfl rfl rfl rfl
theorem i_Lay.q21_4 (hL : i_Lay h) : i_fld h 21 3 4 = some (.ref 25) := hL.fr (p := 25) rfl rfl rfl rfl
theorem i_Lay.q21_5 (hL : i_Lay h) : i_fld h 21 3 5 = some (.ref 26) := hL.fr (p := 26) rfl rfl rfl rfl
theorem i_Lay.q21_6 (hL : i_Lay h) : i_fld h 21 3 6 = some (.ref 27) := hL.fr (p := 27) rfl rfl rfl rfl
theorem i_Lay.a22 (hL : i_Lay h) : i_arJ h 22 = some (8, aJ h 22) := hL.aj rfl
theorem i_Lay.a23 (hL : i_Lay h) : i_arI h 0 23 = some (8, aI h 23) := hL.ai rfl
theorem i_Lay.a24 (hL : i_Lay h) : i_arI h 0 24 = some (8, aI h 24) := hL.ai rfl
theorem i_Lay.a25 (hL : i_Lay h) : i_arI h 0 25 = some (8, aI h 25) := hL.ai rfl
theorem i_Lay.a26 (hL : i_Lay h) : i_arI h 0 26 = some (8, aI h 26) := hL.ai rfl
theorem i_Lay.a27 (hL : i_Lay h) : i_arI h 0 27 = some (8, aI h 27) := hL.ai rfl
theorem i_Lay.a28 (hL : i_Lay h) : i_arI h 0 28 = some (480, aI h 28) := hL.ai rfl
theorem i_Lay.o29 (hL : i_Lay h) : i_obj? h 29 8 := hL.ob rfl rfl
theorem i_Lay.q29_0 (hL : i_Lay h) : i_fld h 29 8 0 = some (.int (fI h 29 0)) := hL.fi rfl rfl rfl
theorem i_Lay.q29_1 (hL : i_Lay h) : i_fld h 29 8 1 = some (.int (fI h 29 1)) := hL.fi rfl rfl rfl
theorem i_Lay.q29_2 (hL : i_Lay h) : i_fld h 29 8 2 = some (.long (fJ h 29 2)) := hL.fj rfl rfl rfl
theorem i_Lay.q29_3 (hL : i_Lay h) : i_fld h 29 8 3 = some (.long (fJ h 29 3)) := hL.fj rfl rfl rfl
theorem i_Lay.q29_4 (hL : i_Lay h) : i_fld h 29 8 4 = some (.ref 30) := hL.fr (p := 30) rfl rfl rfl rfl
theorem i_Lay.q29_5 (hL : i_Lay h) : i_fld h 29 8 5 = some (.int (fI h 29 5)) := hL.fi rfl rfl rfl
theorem i_Lay.q29_6 (hL : i_Lay h) : i_fld h 29 8 6 = some (.ref 31) := hL.fr (p := 31) rfl rfl rfl rfl
theorem i_Lay.q29_7 (hL : i_Lay h) : i_fld h 29 8 7 = some (.ref 32) := hL.fr (p := 32) rfl rfl rfl rfl
theorem i_Lay.q29_8 (hL : i_Lay h) : i_fld h 29 8 8 = some (.ref 33) := hL.fr (p := 33) rfl rfl rfl rfl
theorem i_Lay.q29_9 (hL : i_Lay h) : i_fld h 29 8 9 = some (.int (fI h 29 9)) := hL.fi rfl rfl rfl
theorem i_Lay.q29_10 (hL : i_Lay h) : i_fld h 29 8 10 = some (.ref 34) := hL.fr (p := 34) rfl rfl rfl rfl
theorem i_Lay.q29_11 (hL : i_Lay h) : i_fld h 29 8 11 = some (.ref 35) := hL.fr (p := 35) rfl rfl rfl rfl
theorem i_Lay.q29_12 (hL : i_Lay h) : i_fld h 29 8 12 = some (.ref 36) := hL.fr (p := 36) rfl rfl rfl rfl
theorem i_Lay.q29_13 (hL : i_Lay h) : i_fld h 29 8 13 = some (.ref 43) := hL.fr (p := 43) rfl rfl rfl rfl
theorem i_Lay.a30 (hL : i_Lay h) : i_arI h 0 30 = some (48, aI h 30) := hL.ai rfl
theorem i_Lay.a31 (hL : i_Lay h) : i_arI h 0 31 = some (4, aI h 31) := hL.ai rfl
theorem i_Lay.a32 (hL : i_Lay h) : i_arI h 0 32 = some (4, aI h 32) := hL.ai rfl
theorem i_Lay.a33 (hL : i_Lay h) : i_arI h 0 33 = some (32, aI h 33) := hL.ai rfl
theorem i_Lay.a34 (hL : i_Lay h) : i_arI h 0 34 = some (8, aI h 34) := hL.ai rfl
theorem i_Lay.a35 (hL : i_Lay h) : i_arI h 0 35 = some (4, aI h 35) := hL.ai rfl
theorem i_Lay.o36 (hL : i_Lay h) : i_obj? h 36 3 := hL.ob rfl rfl
theorem i_Lay.q36_0 (hL : i_Lay h) : i_fld h 36 3 0 = some (.int (fI h 36 0)) := hL.fi rfl rfl rfl
theorem i_Lay.q36_1 (hL : i_Lay h) : i_fld h 36 3 1 = some (.ref 37) := hL.fr (p := 37) rfl rfl rfl rfl
theorem i_Lay.q36_2 (hL : i_Lay h) : i_fld h 36 3 2 = some (.ref 38) := hL.fr (p := 38) rfl rfl rfl rfl
theorem i_Lay.q36_3 (hL : i_Lay h) : i_fld h 36 3 3 = some (.ref 39) := hL.fr (p := 39) rfl rfl rfl rfl
theorem i_Lay.q36_4 (hL : i_Lay h) : i_fld h 36 3 4 = some (.ref 40) := hL.fr (p := 40) rfl rfl rfl rfl
theorem i_Lay.q36_5 (hL : i_Lay h) : i_fld h 36 3 5 = some (.ref 41) := hL.fr (p := 41) rfl rfl rfl rfl
theorem i_Lay.q36_6 (hL : i_Lay h) : i_fld h 36 3 6 = some (.ref 42) := hL.fr (p := 42) rfl rfl rfl rfl
theorem i_Lay.a37 (hL : i_Lay h) : i_arJ h 37 = some (8, aJ h 37) := hL.aj rfl
theorem i_Lay.a38 (hL : i_Lay h) : i_arI h 0 38 = some (8, aI h 38) := hL.ai rfl
theorem i_Lay.a39 (hL : i_Lay h) : i_arI h 0 39 = some (8, aI h 39) := hL.ai rfl
theorem i_Lay.a40 (hL : i_Lay h) : i_arI h 0 40 = some (8, aI h 40) := hL.ai rfl
theorem i_Lay.a41 (hL : i_Lay h) : i_arI h 0 41 = some (8, aI h 41) := hL.ai rfl
theorem i_Lay.a42 (hL : i_Lay h) : i_arI h 0 42 = some (8, aI h 42) := hL.ai rfl
theorem i_Lay.a43 (hL : i_Lay h) : i_arI h 0 43 = some (480, aI h 43) := hL.ai rfl
theorem i_Lay.o44 (hL : i_Lay h) : i_obj? h 44 9 := hL.ob rfl rfl
theorem i_Lay.q44_0 (hL : i_Lay h) : i_fld h 44 9 0 = some (.ref 10) := hL.fr (p := 10) rfl rfl rfl rfl
theorem i_Lay.q44_2 (hL : i_Lay h) : i_fld h 44 9 2 = some (.int (fI h 44 2)) := hL.fi rfl rfl rfl
theorem i_Lay.q44_3 (hL : i_Lay h) : i_fld h 44 9 3 = some (.int (fI h 44 3)) := hL.fi rfl rfl rfl
theorem i_Lay.q44_4 (hL : i_Lay h) : i_fld h 44 9 4 = some (.int (fI h 44 4)) := hL.fi rfl rfl rfl
theorem i_Lay.o45 (hL : i_Lay h) : i_obj? h 45 4 := hL.ob rfl rfl
theorem i_Lay.q45_0 (hL : i_Lay h) : i_fld h 45 4 0 = some (.ref 10) := hL.fr (p := 10) rfl rfl rfl rfl
theorem i_Lay.q45_1 (hL : i_Lay h) : i_fld h 45 4 1 = some (.ref 46) := hL.fr (p := 46) rfl rfl rfl rfl
theorem i_Lay.q45_2 (hL : i_Lay h) : i_fld h 45 4 2 = some (.int (fI h 45 2)) := hL.fi rfl rfl rfl
theorem i_Lay.q45_3 (hL : i_Lay h) : i_fld h 45 4 3 = some (.ref 47) := hL.fr (p := 47) rfl rfl rfl rfl
theorem i_Lay.q45_4 (hL : i_Lay h) : i_fld h 45 4 4 = some (.ref 48) := hL.fr (p := 48) rfl rfl rfl rfl
theorem i_Lay.q45_5 (hL : i_Lay h) : i_fld h 45 4 5 = some (.int (fI h 45 5)) := hL.fi rfl rfl rfl
theorem i_Lay.q45_6 (hL : i_Lay h) : i_fld h 45 4 6 = some (.int (fI h 45 6)) := hL.fi rfl rfl rfl
theorem i_Lay.q45_7 (hL : i_Lay h) : i_fld h 45 4 7 = some (.int (fI h 45 7)) := hL.fi rfl rfl rfl
theorem i_Lay.q45_8 (hL : i_Lay h) : i_fld h 45 4 8 = some (.int (fI h 45 8)) := hL.fi rfl rfl rfl
theorem i_Lay.a46 (hL : i_Lay h) : i_arI h 0 46 = some (480, aI h 46) := hL.ai rfl
theorem i_Lay.a47 (hL : i_Lay h) : i_arI h 0 47 = some (2, aI h 47) := hL.ai rfl
theorem i_Lay.a48 (hL : i_Lay h) : i_arI h 0 48 = some (2, aI h 48) := hL.ai rfl
theorem i_Lay.o50 (hL : i_Lay h) : i_obj? h 50 8 := hL.ob rfl rfl
theorem i_Lay.q50_0 (hL : i_Lay h) : i_fld h 50 8 0 = some (.int (fI h 50 0)) := hL.fi rfl rfl rfl
theorem i_Lay.q50_1 (hL : i_Lay h) : i_fld h 50 8 1 = some (.int (fI h 50 1)) := hL.fi rfl rfl rfl
theorem i_Lay.q50_2 (hL : i_Lay h) : i_fld h 50 8 2 = some (.long (fJ h 50 2)) := hL.fj rfl rfl rfl
theorem i_Lay.q50_3 (hL : i_Lay h) : i_fld h 50 8 3 = some (.long (fJ h 50 3)) := hL.fj rfl rfl rfl
theorem i_Lay.q50_4 (hL : i_Lay h) : i_fld h 50 8 4 = some (.ref 51) := hL.fr (p := 51) rfl rfl rfl rfl
theorem i_Lay.q50_5 (hL : i_Lay h) : i_fld h 50 8 5 = some (.int (fI h 50 5)) := hL.fi rfl rfl rfl
theorem i_Lay.q50_6 (hL : i_Lay h) : i_fld h 50 8 6 = some (.ref 52) := hL.fr (p := 52) rfl rfl rfl rfl
theorem i_Lay.q50_7 (hL : i_Lay h) : i_fld h 50 8 7 = some (.ref 53) := hL.fr (p := 53) rfl rfl rfl rfl
theorem i_Lay.q50_8 (hL : i_Lay h) : i_fld h 50 8 8 = some (.ref 54) := hL.fr (p := 54) rfl rfl rfl rfl
theorem i_Lay.q50_9 (hL : i_Lay h) : i_fld h 50 8 9 = some (.int (fI h 50 9)) := hL.fi rfl rfl rfl
theorem i_Lay.q50_10 (hL : i_Lay h) : i_fld h 50 8 10 = some (.ref 55) := hL.fr (p := 55) rfl rfl rfl rfl
theorem i_Lay.q50_11 (hL : i_Lay h) : i_fld h 50 8 11 = some (.ref 56) := hL.fr (p := 56) rfl rfl rfl rfl
theorem i_Lay.q50_12 (hL : i_Lay h) : i_fld h 50 8 12 = some (.ref 57) := hL.fr (p := 57) rfl rfl rfl rfl
theorem i_Lay.q50_13 (hL : i_Lay h) : i_fld h 50 8 13 = some (.ref 64) := hL.fr (p := 64) rfl rfl rfl rfl
theorem i_Lay.a51 (hL : i_Lay h) : i_arI h 0 51 = some (48, aI h 51) := hL.ai rfl
theorem i_Lay.a52 (hL : i_Lay h) : i_arI h 0 52 = some (4, aI h 52) := hL.ai rfl
theorem i_Lay.a53 (hL : i_Lay h) : i_arI h 0 53 = some (4, aI h 53) := hL.ai rfl
theorem i_Lay.a54 (hL : i_Lay h) : i_arI h 0 54 = some (32, aI h 54) := hL.ai rfl
theorem i_Lay.a55 (hL : i_Lay h) : i_arI h 0 55 = some (8, aI h 55) := hL.ai rfl
theorem i_Lay.a56 (hL : i_Lay h) : i_arI h 0 56 = some (4, aI h 56) := hL.ai rfl
theorem i_Lay.o57 (hL : i_Lay h) : i_obj? h 57 3 := hL.ob rfl rfl
theorem i_Lay.q57_0 (hL : i_Lay h) : i_fld h 57 3 0 = some (.int (fI h 57 0)) := hL.fi rfl rfl rfl
theorem i_Lay.q57_1 (hL : i_Lay h) : i_fld h 57 3 1 = some (.ref 58) := hL.fr (p := 58) rfl rfl rfl rfl
theorem i_Lay.q57_2 (hL : i_Lay h) : i_fld h 57 3 2 = some (.ref 59) := hL.fr (p := 59) rfl rfl rfl rfl
theorem i_Lay.q57_3 (hL : i_Lay h) : i_fld h 57 3 3 = some (.ref 60) := hL.fr (p := 60) rfl rfl rfl rfl
theorem i_Lay.q57_4 (hL : i_Lay h) : i_fld h 57 3 4 = some (.ref 61) := hL.fr (p := 61) rfl rfl rfl rfl
theorem i_Lay.q57_5 (hL : i_Lay h) : i_fld h 57 3 5 = some (.ref 62) := hL.fr (p := 62) rfl rfl rfl rfl
theorem i_Lay.q57_6 (hL : i_Lay h) : i_fld h 57 3 6 = some (.ref 63) := hL.fr (p := 63) rfl rfl rfl rfl
theorem i_Lay.a58 (hL : i_Lay h) : i_arJ h 58 = some (8, aJ h 58) := hL.aj rfl
theorem i_Lay.a59 (hL : i_Lay h) : i_arI h 0 59 = some (8, aI h 59) := hL.ai rfl
theorem i_Lay.a60 (hL : i_Lay h) : i_arI h 0 60 = some (8, aI h 60) := hL.ai rfl
theorem i_Lay.a61 (hL : i_Lay h) : i_arI h 0 61 = some (8, aI h 61) := hL.ai rfl
theorem i_Lay.a62 (hL : i_Lay h) : i_arI h 0 62 = some (8, aI h 62) := hL.ai rfl
theorem i_Lay.a63 (hL : i_Lay h) : i_arI h 0 63 = some (8, aI h 63) := hL.ai rfl
theorem i_Lay.a64 (hL : i_Lay h) : i_arI h 0 64 = some (480, aI h 64) := hL.ai rfl
theorem i_Lay.o65 (hL : i_Lay h) : i_obj? h 65 8 := hL.ob rfl rfl
theorem i_Lay.q65_0 (hL : i_Lay h) : i_fld h 65 8 0 = some (.int (fI h 65 0)) := hL.fi rfl rfl rfl
theorem i_Lay.q65_1 (hL : i_Lay h) : i_fld h 65 8 1 = some (.int (fI h 65 1)) := hL.fi rfl rfl rfl
theorem i_Lay.q65_2 (hL : i_Lay h) : i_fld h 65 8 2 = some (.long (fJ h 65 2)) := hL.fj rfl rfl rfl
theorem i_Lay.q65_3 (hL : i_Lay h) : i_fld h 65 8 3 = some (.long (fJ h 65 3)) := hL.fj rfl rfl rfl
theorem i_Lay.q65_4 (hL : i_Lay h) : i_fld h 65 8 4 = some (.ref 66) := hL.fr (p := 66) rfl rfl rfl rfl
theorem i_Lay.q65_5 (hL : i_Lay h) : i_fld h 65 8 5 = some (.int (fI h 65 5)) := hL.fi rfl rfl rfl
theorem i_Lay.q65_6 (hL : i_Lay h) : i_fld h 65 8 6 = some (.ref 67) := hL.fr (p := 67) rfl rfl rfl rfl
theorem i_Lay.q65_7 (hL : i_Lay h) : i_fld h 65 8 7 = some (.ref 68) := hL.fr (p := 68) rfl rfl rfl rfl
theorem i_Lay.q65_8 (hL : i_Lay h) : i_fld h 65 8 8 = some (.ref 69) := hL.fr (p := 69) rfl rfl rfl rfl
theorem i_Lay.q65_9 (hL : i_Lay h) : i_fld h 65 8 9 = some (.int (fI h 65 9)) := hL.fi rfl rfl rfl
theorem i_Lay.q65_10 (hL : i_Lay h) : i_fld h 65 8 10 = some (.ref 70) := hL.fr (p := 70) rfl rfl rfl rfl
theorem i_Lay.q65_11 (hL : i_Lay h) : i_fld h 65 8 11 = some (.ref 71) := hL.fr (p := 71) rfl rfl rfl rfl
theorem i_Lay.q65_12 (hL : i_Lay h) : i_fld h 65 8 12 = some (.ref 72) := hL.fr (p := 72) rfl rfl rfl rfl
theorem i_Lay.q65_13 (hL : i_Lay h) : i_fld h 65 8 13 = some (.ref 79) := hL.fr (p := 79) rfl rfl rfl rfl
theorem i_Lay.a66 (hL : i_Lay h) : i_arI h 0 66 = some (48, aI h 66) := hL.ai rfl
theorem i_Lay.a67 (hL : i_Lay h) : i_arI h 0 67 = some (4, aI h 67) := hL.ai rfl
theorem i_Lay.a68 (hL : i_Lay h) : i_arI h 0 68 = some (4, aI h 68) := hL.ai rfl
theorem i_Lay.a69 (hL : i_Lay h) : i_arI h 0 69 = some (32, aI h 69) := hL.ai rfl
theorem i_Lay.a70 (hL : i_Lay h) : i_arI h 0 70 = some (8, aI h 70) := hL.ai rfl
theorem i_Lay.a71 (hL : i_Lay h) : i_arI h 0 71 = some (4, aI h 71) := hL.ai rfl
theorem i_Lay.o72 (hL : i_Lay h) : i_obj? h 72 3 := hL.ob rfl rfl
theorem i_Lay.q72_0 (hL : i_Lay h) : i_fld h 72 3 0 = some (.int (fI h 72 0)) := hL.fi rfl rfl rfl
theorem i_Lay.q72_1 (hL : i_Lay h) : i_fld h 72 3 1 = some (.ref 73) := hL.fr (p := 73) rfl rfl rfl rfl
theorem i_Lay.q72_2 (hL : i_Lay h) : i_fld h 72 3 2 = some (.ref 74) := hL.fr (p := 74) rfl rfl rfl rfl
theorem i_Lay.q72_3 (hL : i_Lay h) : i_fld h 72 3 3 = some (.ref 75) := hL.fr (p := 75) rfl rfl rfl rfl
theorem i_Lay.q72_4 (hL : i_Lay h) : i_fld h 72 3 4 = some (.ref 76) := hL.fr (p := 76) rfl rfl rfl rfl
theorem i_Lay.q72_5 (hL : i_Lay h) : i_fld h 72 3 5 = some (.ref 77) := hL.fr (p := 77) rfl rfl rfl rfl
theorem i_Lay.q72_6 (hL : i_Lay h) : i_fld h 72 3 6 = some (.ref 78) := hL.fr (p := 78) rfl rfl rfl rfl
theorem i_Lay.a73 (hL : i_Lay h) : i_arJ h 73 = some (8, aJ h 73) := hL.aj rfl
theorem i_Lay.a74 (hL : i_Lay h) : i_arI h 0 74 = some (8, aI h 74) := hL.ai rfl
theorem i_Lay.a75 (hL : i_Lay h) : i_arI h 0 75 = some (8, aI h 75) := hL.ai rfl
theorem i_Lay.a76 (hL : i_Lay h) : i_arI h 0 76 = some (8, aI h 76) := hL.ai rfl
theorem i_Lay.a77 (hL : i_Lay h) : i_arI h 0 77 = some (8, aI h 77) := hL.ai rfl
theorem i_Lay.a78 (hL : i_Lay h) : i_arI h 0 78 = some (8, aI h 78) := hL.ai rfl
theorem i_Lay.a79 (hL : i_Lay h) : i_arI h 0 79 = some (480, aI h 79) := hL.ai rfl
theorem i_Lay.o80 (hL : i_Lay h) : i_obj? h 80 8 := hL.ob rfl rfl
theorem i_Lay.q80_0 (hL : i_Lay h) : i_fld h 80 8 0 = some (.int (fI h 80 0)) := hL.fi rfl rfl rfl
theorem i_Lay.q80_1 (hL : i_Lay h) : i_fld h 80 8 1 = some (.int (fI h 80 1)) := hL.fi rfl rfl rfl
theorem i_Lay.q80_2 (hL : i_Lay h) : i_fld h 80 8 2 = some (.long (fJ h 80 2)) := hL.fj rfl rfl rfl
theorem i_Lay.q80_3 (hL : i_Lay h) : i_fld h 80 8 3 = some (.long (fJ h 80 3)) := hL.fj rfl rfl rfl
theorem i_Lay.q80_4 (hL : i_Lay h) : i_fld h 80 8 4 = some (.ref 81) := hL.fr (p := 81) rfl rfl rfl rfl
theorem i_Lay.q80_5 (hL : i_Lay h) : i_fld h 80 8 5 = some (.int (fI h 80 5)) := hL.fi rfl rfl rfl
theorem i_Lay.q80_6 (hL : i_Lay h) : i_fld h 80 8 6 = some (.ref 82) := hL.fr (p := 82) rfl rfl rfl rfl
theorem i_Lay.q80_7 (hL : i_Lay h) : i_fld h 80 8 7 = some (.ref 83) := hL.fr (p := 83) rfl rfl rfl rfl
theorem i_Lay.q80_8 (hL : i_Lay h) : i_fld h 80 8 8 = some (.ref 84) := hL.fr (p := 84) rfl rfl rfl rfl
theorem i_Lay.q80_9 (hL : i_Lay h) : i_fld h 80 8 9 = some (.int (fI h 80 9)) := hL.fi rfl rfl rfl
theorem i_Lay.q80_10 (hL : i_Lay h) : i_fld h 80 8 10 = some (.ref 85) := hL.fr (p := 85) rfl rfl rfl rfl
theorem i_Lay.q80_11 (hL : i_Lay h) : i_fld h 80 8 11 = some (.ref 86) := hL.fr (p := 86) rfl rfl rfl rfl
theorem i_Lay.q80_12 (hL : i_Lay h) : i_fld h 80 8 12 = some (.ref 87) := hL.fr (p := 87) rfl rfl rfl rfl
theorem i_Lay.q80_13 (hL : i_Lay h) : i_fld h 80 8 13 = some (.ref 94) := hL.fr (p := 94) rfl rfl rfl rfl
theorem i_Lay.a81 (hL : i_Lay h) : i_arI h 0 81 = some (48, aI h 81) := hL.ai rfl
theorem i_Lay.a82 (hL : i_Lay h) : i_arI h 0 82 = some (4, aI h 82) := hL.ai rfl
theorem i_Lay.a83 (hL : i_Lay h) : i_arI h 0 83 = some (4, aI h 83) := hL.ai rfl
theorem i_Lay.a84 (hL : i_Lay h) : i_arI h 0 84 = some (32, aI h 84) := hL.ai rfl
theorem i_Lay.a85 (hL : i_Lay h) : i_arI h 0 85 = some (8, aI h 85) := hL.ai rfl
theorem i_Lay.a86 (hL : i_Lay h) : i_arI h 0 86 = some (4, aI h 86) := hL.ai rfl
theorem i_Lay.o87 (hL : i_Lay h) : i_obj? h 87 3 := hL.ob rfl rfl
theorem i_Lay.q87_0 (hL : i_Lay h) : i_fld h 87 3 0 = some (.int (fI h 87 0)) := hL.fi rfl rfl rfl
theorem i_Lay.q87_1 (hL : i_Lay h) : i_fld h 87 3 1 = some (.ref 88) := hL.fr (p := 88) rfl rfl rfl rfl
theorem i_Lay.q87_2 (hL : i_Lay h) : i_fld h 87 3 2 = some (.ref 89) := hL.fr (p := 89) rfl rfl rfl rfl
theorem i_Lay.q87_3 (hL : i_Lay h) : i_fld h 87 3 3 = some (.ref 90) := hL.fr (p := 90) rfl rfl rfl rfl
theorem i_Lay.q87_4 (hL : i_Lay h) : i_fld h 87 3 4 = some (.ref 91) := hL.fr (p := 91) rfl rfl rfl rfl
theorem i_Lay.q87_5 (hL : i_Lay h) : i_fld h 87 3 5 = some (.ref 92) := hL.fr (p := 92) rfl rfl rfl rfl
theorem i_Lay.q87_6 (hL : i_Lay h) : i_fld h 87 3 6 = some (.ref 93) := hL.fr (p := 93) rfl rfl rfl rfl
theorem i_Lay.a88 (hL : i_Lay h) : i_arJ h 88 = some (8, aJ h 88) := hL.aj rfl
theorem i_Lay.a89 (hL : i_Lay h) : i_arI h 0 89 = some (8, aI h 89) := hL.ai rfl
theorem i_Lay.a90 (hL : i_Lay h) : i_arI h 0 90 = some (8, aI h 90) := hL.ai rfl
theorem i_Lay.a91 (hL : i_Lay h) : i_arI h 0 91 = some (8, aI h 91) := hL.ai rfl
theorem i_Lay.a92 (hL : i_Lay h) : i_arI h 0 92 = some (8, aI h 92) := hL.ai rfl
theorem i_Lay.a93 (hL : i_Lay h) : i_arI h 0 93 = some (8, aI h 93) := hL.ai rfl
theorem i_Lay.a94 (hL : i_Lay h) : i_arI h 0 94 = some (480, aI h 94) := hL.ai rfl
theorem i_Lay.o95 (hL : i_Lay h) : i_obj? h 95 0 := hL.ob rfl rfl
theorem i_Lay.q95_0 (hL : i_Lay h) : i_fld h 95 0 0 = some (.ref 96) := hL.fr (p := 96) rfl rfl rfl rfl
theorem i_Lay.q95_2 (hL : i_Lay h) : i_fld h 95 0 2 = some (.ref 101) := hL.fr (p := 101) rfl rfl rfl rfl
theorem i_Lay.q95_3 (hL : i_Lay h) : i_fld h 95 0 3 = some (.ref 102) := hL.fr (p := 102) rfl rfl rfl rfl
theorem i_Lay.q95_4 (hL : i_Lay h) : i_fld h 95 0 4 = some (.ref 103) := hL.fr (p := 103) rfl rfl rfl rfl
theorem i_Lay.q95_5 (hL : i_Lay h) : i_fld h 95 0 5 = some (.ref 104) := hL.fr (p := 104) rfl rfl rfl rfl
theorem i_Lay.q95_6 (hL : i_Lay h) : i_fld h 95 0 6 = some (.ref 105) := hL.fr (p := 105) rfl rfl rfl rfl
theorem i_Lay.q95_7 (hL : i_Lay h) : i_fld h 95 0 7 = some (.ref 106) := hL.fr (p := 106) rfl rfl rfl rfl
theorem i_Lay.q95_8 (hL : i_Lay h) : i_fld h 95 0 8 = some (.ref 107) := hL.fr (p := 107) rfl rfl rfl rfl
theorem i_Lay.o96 (hL : i_Lay h) : i_obj? h 96 2 := hL.ob rfl rfl
theorem i_Lay.q96_0 (hL : i_Lay h) : i_fld h 96 2 0 = some (.int (fI h 96 0)) := hL.fi rfl rfl rfl
theorem i_Lay.q96_1 (hL : i_Lay h) : i_fld h 96 2 1 = some (.int (fI h 96 1)) := hL.fi rfl rfl rfl
theorem i_Lay.q96_2 (hL : i_Lay h) : i_fld h 96 2 2 = some (.int (fI h 96 2)) := hL.fi rfl rfl rfl
theorem i_Lay.q96_3 (hL : i_Lay h) : i_fld h 96 2 3 = some (.long (fJ h 96 3)) := hL.fj rfl rfl rfl
theorem i_Lay.q96_4 (hL : i_Lay h) : i_fld h 96 2 4 = some (.long (fJ h 96 4)) := hL.fj rfl rfl rfl
theorem i_Lay.q96_5 (hL : i_Lay h) : i_fld h 96 2 5 = some (.long (fJ h 96 5)) := hL.fj rfl rfl rfl
theorem i_Lay.q96_6 (hL : i_Lay h) : i_fld h 96 2 6 = some (.long (fJ h 96 6)) := hL.fj rfl rfl rfl
theorem i_Lay.q96_7 (hL : i_Lay h) : i_fld h 96 2 7 = some (.ref 97) := hL.fr (p := 97) rfl rfl rfl rfl
theorem i_Lay.q96_8 (hL : i_Lay h) : i_fld h 96 2 8 = some (.ref 98) := hL.fr (p := 98) rfl rfl rfl rfl
theorem i_Lay.q96_9 (hL : i_Lay h) : i_fld h 96 2 9 = some (.ref 99) := hL.fr (p := 99) rfl rfl rfl rfl
theorem i_Lay.q96_10 (hL : i_Lay h) : i_fld h 96 2 10 = some (.ref 100) := hL.fr (p := 100) rfl rfl rfl rfl
theorem i_Lay.a97 (hL : i_Lay h) : i_arI h 0 97 = some (48, aI h 97) := hL.ai rfl
theorem i_Lay.a98 (hL : i_Lay h) : i_arI h 0 98 = some (48, aI h 98) := hL.ai rfl
theorem i_Lay.a99 (hL : i_Lay h) : i_arJ h 99 = some (2304, aJ h 99) := hL.aj rfl
theorem i_Lay.a100 (hL : i_Lay h) : i_arJ h 100 = some (384, aJ h 100) := hL.aj rfl
theorem i_Lay.a101 (hL : i_Lay h) : i_arJ h 101 = some (61, aJ h 101) := hL.aj rfl
theorem i_Lay.a102 (hL : i_Lay h) : i_arI h 0 102 = some (488, aI h 102) := hL.ai rfl
theorem i_Lay.a103 (hL : i_Lay h) : i_arI h 0 103 = some (488, aI h 103) := hL.ai rfl
theorem i_Lay.a104 (hL : i_Lay h) : i_arI h 0 104 = some (488, aI h 104) := hL.ai rfl
theorem i_Lay.a105 (hL : i_Lay h) : i_arI h 0 105 = some (244, aI h 105) := hL.ai rfl
theorem i_Lay.a106 (hL : i_Lay h) : i_arJ h 106 = some (488, aJ h 106) := hL.aj rfl
theorem i_Lay.a107 (hL : i_Lay h) : i_arI h 0 107 = some (3904, aI h 107) := hL.ai rfl
theorem i_Lay.o108 (hL : i_Lay h) : i_obj? h 108 6 := hL.ob rfl rfl
theorem i_Lay.q108_0 (hL : i_Lay h) : i_fld h 108 6 0 = some (.ref 95) := hL.fr (p := 95) rfl rfl rfl rfl
theorem i_Lay.q108_1 (hL : i_Lay h) : i_fld h 108 6 1 = some (.int (fI h 108 1)) := hL.fi rfl rfl rfl
theorem i_Lay.q108_2 (hL : i_Lay h) : i_fld h 108 6 2 = some (.ref 109) := hL.fr (p := 109) rfl rfl rfl rfl
theorem i_Lay.q108_3 (hL : i_Lay h) : i_fld h 108 6 3 = some (.ref 110) := hL.fr (p := 110) rfl rfl rfl rfl
theorem i_Lay.q108_4 (hL : i_Lay h) : i_fld h 108 6 4 = some (.ref 111) := hL.fr (p := 111) rfl rfl rfl rfl
theorem i_Lay.q108_5 (hL : i_Lay h) : i_fld h 108 6 5 = some (.ref 112) := hL.fr (p := 112) rfl rfl rfl rfl
theorem i_Lay.q108_6 (hL : i_Lay h) : i_fld h 108 6 6 = some (.ref 113) := hL.fr (p := 113) rfl rfl rfl rfl
theorem i_Lay.q108_7 (hL : i_Lay h) : i_fld h 108 6 7 = some (.ref 114) := hL.fr (p := 114) rfl rfl rfl rfl
theorem i_Lay.q108_12 (hL : i_Lay h) : i_fld h 108 6 12 = some (.ref 119) := hL.fr (p := 119) rfl rfl rfl rfl
theorem i_Lay.q108_13 (hL : i_Lay h) : i_fld h 108 6 13 = some (.ref 120) := hL.fr (p := 120) rfl rfl rfl rfl
theorem i_Lay.a109 (hL : i_Lay h) : i_arI h 0 109 = some (61, aI h 109) := hL.ai rfl
theorem i_Lay.a110 (hL : i_Lay h) : i_arJ h 110 = some (5, aJ h 110) := hL.aj rfl
theorem i_Lay.a111 (hL : i_Lay h) : i_arJ h 111 = some (5, aJ h 111) := hL.aj rfl
theorem i_Lay.a112 (hL : i_Lay h) : i_arJ h 112 = some (61, aJ h 112) := hL.aj rfl
theorem i_Lay.a113 (hL : i_Lay h) : i_arJ h 113 = some (61, aJ h 113) := hL.aj rfl
theorem i_Lay.a114 (hL : i_Lay h) : i_arJ h 114 = some (61, aJ h 114) := hL.aj rfl
theorem i_Lay.a115 (hL : i_Lay h) : i_arI h 0 115 = some (48, aI h 115) := hL.ai rfl
theorem i_Lay.a116 (hL : i_Lay h) : i_arI h 0 116 = some (48, aI h 116) := hL.ai rfl
theorem i_Lay.a117 (hL : i_Lay h) : i_arJ h 117 = some (256, aJ h 117) := hL.aj rfl
theorem i_Lay.a118 (hL : i_Lay h) : i_arJ h 118 = some (256, aJ h 118) := hL.aj rfl
theorem i_Lay.a119 (hL : i_Lay h) : i_arI h 0 119 = some (240, aI h 119) := hL.ai rfl
theorem i_Lay.a120 (hL : i_Lay h) : i_arJ h 120 = some (5, aJ h 120) := hL.aj rfl
theorem i_Lay.o121 (hL : i_Lay h) : i_obj? h 121 5 := hL.ob rfl rfl
theorem i_Lay.q121_0 (hL : i_Lay h) : i_fld h 121 5 0 = some (.ref 95) := hL.fr (p := 95) rfl rfl rfl rfl
theorem i_Lay.q121_1 (hL : i_Lay h) : i_fld h 121 5 1 = some (.ref 122) := hL.fr (p := 122) rfl rfl rfl rfl
theorem i_Lay.q121_4 (hL : i_Lay h) : i_fld h 121 5 4 = some (.ref 125) := hL.fr (p := 125) rfl rfl rfl rfl
theorem i_Lay.q121_5 (hL : i_Lay h) : i_fld h 121 5 5 = some (.ref 126) := hL.fr (p := 126) rfl rfl rfl rfl
theorem i_Lay.q121_8 (hL : i_Lay h) : i_fld h 121 5 8 = some (.ref 129) := hL.fr (p := 129) rfl rfl rfl rfl
theorem i_Lay.q121_9 (hL : i_Lay h) : i_fld h 121 5 9 = some (.ref 130) := hL.fr (p := 130) rfl rfl rfl rfl
theorem i_Lay.q121_10 (hL : i_Lay h) : i_fld h 121 5 10 = some (.ref 131) := hL.fr (p := 131) rfl rfl rfl rfl
theorem i_Lay.q121_11 (hL : i_Lay h) : i_fld h 121 5 11 = some (.ref 132) := hL.fr (p := 132) rfl rfl rfl rfl
theorem i_Lay.q121_12 (hL : i_Lay h) : i_fld h 121 5 12 = some (.ref 133) := hL.fr (p := 133) rfl rfl rfl rfl
theorem i_Lay.a122 (hL : i_Lay h) : i_arI h 0 122 = some (6, aI h 122) := hL.ai rfl
theorem i_Lay.a123 (hL : i_Lay h) : i_arJ h 123 = some (64, aJ h 123) := hL.aj rfl
theorem i_Lay.a124 (hL : i_Lay h) : i_arJ h 124 = some (64, aJ h 124) := hL.aj rfl
theorem i_Lay.a125 (hL : i_Lay h) : i_arI h 0 125 = some (384, aI h 125) := hL.ai rfl
theorem i_Lay.a126 (hL : i_Lay h) : i_arJ h 126 = some (8, aJ h 126) := hL.aj rfl
theorem i_Lay.a127 (hL : i_Lay h) : i_arJ h 127 = some (192, aJ h 127) := hL.aj rfl
theorem i_Lay.a128 (hL : i_Lay h) : i_arJ h 128 = some (192, aJ h 128) := hL.aj rfl
theorem i_Lay.a129 (hL : i_Lay h) : i_arJ h 129 = some (48, aJ h 129) := hL.aj rfl
theorem i_Lay.a130 (hL : i_Lay h) : i_arJ h 130 = some (48, aJ h 130) := hL.aj rfl
theorem i_Lay.a131 (hL : i_Lay h) : i_arJ h 131 = some (48, aJ h 131) := hL.aj rfl
theorem i_Lay.a132 (hL : i_Lay h) : i_arJ h 132 = some (48, aJ h 132) := hL.aj rfl
theorem i_Lay.a133 (hL : i_Lay h) : i_arI h 0 133 = some (48, aI h 133) := hL.ai rfl
theorem i_Lay.o134 (hL : i_Lay h) : i_obj? h 134 1 := hL.ob rfl rfl
theorem i_Lay.q134_0 (hL : i_Lay h) : i_fld h 134 1 0 = some (.int (fI h 134 0)) := hL.fi rfl rfl rfl
theorem i_Lay.q134_1 (hL : i_Lay h) : i_fld h 134 1 1 = some (.int (fI h 134 1)) := hL.fi rfl rfl rfl
theorem i_Lay.q134_2 (hL : i_Lay h) : i_fld h 134 1 2 = some (.int (fI h 134 2)) := hL.fi rfl rfl rfl
theorem i_Lay.q134_3 (hL : i_Lay h) : i_fld h 134 1 3 = some (.ref 135) := hL.fr (p := 135) rfl rfl rfl rfl
theorem i_Lay.q134_4 (hL : i_Lay h) : i_fld h 134 1 4 = some (.int (fI h 134 4)) := hL.fi rfl rfl rfl
theorem i_Lay.a135 (hL : i_Lay h) : i_arI h 0 135 = some (8, aI h 135) := hL.ai rfl
theorem i_Lay.o136 (hL : i_Lay h) : i_obj? h 136 1 := hL.ob rfl rfl
theorem i_Lay.q136_0 (hL : i_Lay h) : i_fld h 136 1 0 = some (.int (fI h 136 0)) := hL.fi rfl rfl rfl
theorem i_Lay.q136_1 (hL : i_Lay h) : i_fld h 136 1 1 = some (.int (fI h 136 1)) := hL.fi rfl rfl rfl
theorem i_Lay.q136_2 (hL : i_Lay h) : i_fld h 136 1 2 = some (.int (fI h 136 2)) := hL.fi rfl rfl rfl
theorem i_Lay.q136_3 (hL : i_Lay h) : i_fld h 136 1 3 = some (.ref 137) := hL.fr (p := 137) rfl rfl rfl rfl
theorem i_Lay.q136_4 (hL : i_Lay h) : i_fld h 136 1 4 = some (.int (fI h 136 4)) := hL.fi rfl rfl rfl
theorem i_Lay.a137 (hL : i_Lay h) : i_arI h 0 137 = some (8, aI h 137) := hL.ai rfl
theorem i_Lay.o138 (hL : i_Lay h) : i_obj? h 138 12 := hL.ob rfl rfl
theorem i_Lay.q138_0 (hL : i_Lay h) : i_fld h 138 12 0 = some (.ref 139) := hL.fr (p := 139) rfl rfl rfl rfl
theorem i_Lay.q138_1 (hL : i_Lay h) : i_fld h 138 12 1 = some (.ref 140) := hL.fr (p := 140) rfl rfl rfl rfl
theorem i_Lay.q138_2 (hL : i_Lay h) : i_fld h 138 12 2 = some (.ref 141) := hL.fr (p := 141) rfl rfl rfl rfl
theorem i_Lay.q138_3 (hL : i_Lay h) : i_fld h 138 12 3 = some (.ref 142) := hL.fr (p := 142) rfl rfl rfl rfl
theorem i_Lay.q138_4 (hL : i_Lay h) : i_fld h 138 12 4 = some (.int (fI h 138 4)) := hL.fi rfl rfl rfl
theorem i_Lay.q138_5 (hL : i_Lay h) : i_fld h 138 12 5 = some (.long (fJ h 138 5)) := hL.fj rfl rfl rfl
theorem i_Lay.q138_6 (hL : i_Lay h) : i_fld h 138 12 6 = some (.long (fJ h 138 6)) := hL.fj rfl rfl rfl
theorem i_Lay.q138_7 (hL : i_Lay h) : i_fld h 138 12 7 = some (.ref 143) := hL.fr (p := 143) rfl rfl rfl rfl
theorem i_Lay.q138_8 (hL : i_Lay h) : i_fld h 138 12 8 = some (.ref 144) := hL.fr (p := 144) rfl rfl rfl rfl
theorem i_Lay.q138_9 (hL : i_Lay h) : i_fld h 138 12 9 = some (.ref 145) := hL.fr (p := 145) rfl rfl rfl rfl
theorem i_Lay.q138_10 (hL : i_Lay h) : i_fld h 138 12 10 = some (.ref 146) := hL.fr (p := 146) rfl rfl rfl rfl
theorem i_Lay.q138_11 (hL : i_Lay h) : i_fld h 138 12 11 = some (.ref 147) := hL.fr (p := 147) rfl rfl rfl rfl
theorem i_Lay.q138_12 (hL : i_Lay h) : i_fld h 138 12 12 = some (.int (fI h 138 12)) := hL.fi rfl rfl rfl
theorem i_Lay.q138_13 (hL : i_Lay h) : i_fld h 138 12 13 = some (.int (fI h 138 13)) := hL.fi rfl rfl rfl
theorem i_Lay.q138_14 (hL : i_Lay h) : i_fld h 138 12 14 = some (.int (fI h 138 14)) := hL.fi rfl rfl rfl
theorem i_Lay.q138_15 (hL : i_Lay h) : i_fld h 138 12 15 = some (.int (fI h 138 15)) := hL.fi rfl rfl rfl
theorem i_Lay.q138_16 (hL : i_Lay h) : i_fld h 138 12 16 = some (.int (fI h 138 16)) := hL.fi rfl rfl rfl
theorem i_Lay.q138_17 (hL : i_Lay h) : i_fld h 138 12 17 = some (.int (fI h 138 17)) := hL.fi rfl rfl rfl
theorem i_Lay.q138_18 (hL : i_Lay h) : i_fld h 138 12 18 = some (.int (fI h 138 18)) := hL.fi rfl rfl rfl
theorem i_Lay.q138_19 (hL : i_Lay h) : i_fld h 138 12 19 = some (.int (fI h 138 19)) := hL.fi rfl rfl rfl
theorem i_Lay.q138_20 (hL : i_Lay h) : i_fld h 138 12 20 = some (.int (fI h 138 20)) := hL.fi rfl rfl rfl
theorem i_Lay.q138_21 (hL : i_Lay h) : i_fld h 138 12 21 = some (.int (fI h 138 21)) := hL.fi rfl rfl rfl
theorem i_Lay.q138_22 (hL : i_Lay h) : i_fld h 138 12 22 = some (.int (fI h 138 22)) := hL.fi rfl rfl rfl
theorem i_Lay.q138_23 (hL : i_Lay h) : i_fld h 138 12 23 = some (.ref 148) := hL.fr (p := 148) rfl rfl rfl rfl
theorem i_Lay.q138_24 (hL : i_Lay h) : i_fld h 138 12 24 = some (.ref 149) := hL.fr (p := 149) rfl rfl rfl rfl
theorem i_Lay.q138_25 (hL : i_Lay h) : i_fld h 138 12 25 = some (.ref 150) := hL.fr (p := 150) rfl rfl rfl rfl
theorem i_Lay.q138_26 (hL : i_Lay h) : i_fld h 138 12 26 = some (.int (fI h 138 26)) := hL.fi rfl rfl rfl
theorem i_Lay.q138_27 (hL : i_Lay h) : i_fld h 138 12 27 = some (.int (fI h 138 27)) := hL.fi rfl rfl rfl
theorem i_Lay.q138_28 (hL : i_Lay h) : i_fld h 138 12 28 = some (.int (fI h 138 28)) := hL.fi rfl rfl rfl
theorem i_Lay.q138_29 (hL : i_Lay h) : i_fld h 138 12 29 = some (.ref 151) := hL.fr (p := 151) rfl rfl rfl rfl
theorem i_Lay.q138_30 (hL : i_Lay h) : i_fld h 138 12 30 = some (.ref 152) := hL.fr (p := 152) rfl rfl rfl rfl
theorem i_Lay.q138_31 (hL : i_Lay h) : i_fld h 138 12 31 = some (.ref 153) := hL.fr (p := 153) rfl rfl rfl rfl
theorem i_Lay.q138_32 (hL : i_Lay h) : i_fld h 138 12 32 = some (.ref 154) := hL.fr (p := 154) rfl rfl rfl rfl
theorem i_Lay.q138_33 (hL : i_Lay h) : i_fld h 138 12 33 = some (.ref 155) := hL.fr (p := 155) rfl rfl rfl rfl
theorem i_Lay.q138_34 (hL : i_Lay h) : i_fld h 138 12 34 = some (.ref 156) := hL.fr (p := 156) rfl rfl rfl rfl
theorem i_Lay.q138_35 (hL : i_Lay h) : i_fld h 138 12 35 = some (.ref 157) := hL.fr (p := 157) rfl rfl rfl rfl
theorem i_Lay.q138_36 (hL : i_Lay h) : i_fld h 138 12 36 = some (.int (fI h 138 36)) := hL.fi rfl rfl rfl
theorem i_Lay.q138_37 (hL : i_Lay h) : i_fld h 138 12 37 = some (.ref 158) := hL.fr (p := 158) rfl rfl rfl rfl
theorem i_Lay.q138_38 (hL : i_Lay h) : i_fld h 138 12 38 = some (.ref 159) := hL.fr (p := 159) rfl rfl rfl rfl
theorem i_Lay.q138_39 (hL : i_Lay h) : i_fld h 138 12 39 = some (.ref 160) := hL.fr (p := 160) rfl rfl rfl rfl
theorem i_Lay.q138_40 (hL : i_Lay h) : i_fld h 138 12 40 = some (.ref 161) := hL.fr (p := 161) rfl rfl rfl rfl
theorem i_Lay.q138_41 (hL : i_Lay h) : i_fld h 138 12 41 = some (.ref 162) := hL.fr (p := 162) rfl rfl rfl rfl
theorem i_Lay.q138_42 (hL : i_Lay h) : i_fld h 138 12 42 = some (.ref 163) := hL.fr (p := 163) rfl rfl rfl rfl
theorem i_Lay.q138_43 (hL : i_Lay h) : i_fld h 138 12 43 = some (.ref 164) := hL.fr (p := 164) rfl rfl rfl rfl
theorem i_Lay.q138_44 (hL : i_Lay h) : i_fld h 138 12 44 = some (.ref 165) := hL.fr (p := 165) rfl rfl rfl rfl
theorem i_Lay.q138_45 (hL : i_Lay h) : i_fld h 138 12 45 = some (.ref 166) := hL.fr (p := 166) rfl rfl rfl rfl
theorem i_Lay.q138_46 (hL : i_Lay h) : i_fld h 138 12 46 = some (.ref 167) := hL.fr (p := 167) rfl rfl rfl rfl
theorem i_Lay.q138_47 (hL : i_Lay h) : i_fld h 138 12 47 = some (.ref 168) := hL.fr (p := 168) rfl rfl rfl rfl
theorem i_Lay.q138_48 (hL : i_Lay h) : i_fld h 138 12 48 = some (.ref 169) := hL.fr (p := 169) rfl rfl rfl rfl
theorem i_Lay.q138_49 (hL : i_Lay h) : i_fld h 138 12 49 = some (.ref 170) := hL.fr (p := 170) rfl rfl rfl rfl
theorem i_Lay.q138_50 (hL : i_Lay h) : i_fld h 138 12 50 = some (.int (fI h 138 50)) := hL.fi rfl rfl rfl
theorem i_Lay.q138_51 (hL : i_Lay h) : i_fld h 138 12 51 = some (.int (fI h 138 51)) := hL.fi rfl rfl rfl
theorem i_Lay.q138_52 (hL : i_Lay h) : i_fld h 138 12 52 = some (.int (fI h 138 52)) := hL.fi rfl rfl rfl
theorem i_Lay.q138_53 (hL : i_Lay h) : i_fld h 138 12 53 = some (.ref 171) := hL.fr (p := 171) rfl rfl rfl rfl
theorem i_Lay.q138_54 (hL : i_Lay h) : i_fld h 138 12 54 = some (.ref 172) := hL.fr (p := 172) rfl rfl rfl rfl
theorem i_Lay.q138_55 (hL : i_Lay h) : i_fld h 138 12 55 = some (.int (fI h 138 55)) := hL.fi rfl rfl rfl
theorem i_Lay.q138_56 (hL : i_Lay h) : i_fld h 138 12 56 = some (.int (fI h 138 56)) := hL.fi rfl rfl rfl
theorem i_Lay.q138_57 (hL : i_Lay h) : i_fld h 138 12 57 = some (.int (fI h 138 57)) := hL.fi rfl rfl rfl
theorem i_Lay.a139 (hL : i_Lay h) : i_arI h 0 139 = some (3400, aI h 139) := hL.ai rfl
theorem i_Lay.a140 (hL : i_Lay h) : i_arJ h 140 = some (40, aJ h 140) := hL.aj rfl
theorem i_Lay.a141 (hL : i_Lay h) : i_arI h 0 141 = some (8, aI h 141) := hL.ai rfl
theorem i_Lay.a142 (hL : i_Lay h) : i_arI h 0 142 = some (8, aI h 142) := hL.ai rfl
theorem i_Lay.a143 (hL : i_Lay h) : i_arI h 0 143 = some (4, aI h 143) := hL.ai rfl
theorem i_Lay.a144 (hL : i_Lay h) : i_arI h 0 144 = some (4, aI h 144) := hL.ai rfl
theorem i_Lay.a145 (hL : i_Lay h) : i_arJ h 145 = some (240, aJ h 145) := hL.aj rfl
theorem i_Lay.a146 (hL : i_Lay h) : i_arI h 3 146 = some (900, aI h 146) := hL.ai rfl
theorem i_Lay.a147 (hL : i_Lay h) : i_arI h 3 147 = some (900, aI h 147) := hL.ai rfl
theorem i_Lay.a148 (hL : i_Lay h) : i_arI h 0 148 = some (300, aI h 148) := hL.ai rfl
theorem i_Lay.a149 (hL : i_Lay h) : i_arI h 0 149 = some (2, aI h 149) := hL.ai rfl
theorem i_Lay.a150 (hL : i_Lay h) : i_arI h 0 150 = some (100, aI h 150) := hL.ai rfl
theorem i_Lay.a151 (hL : i_Lay h) : i_arI h 0 151 = some (488, aI h 151) := hL.ai rfl
theorem i_Lay.a152 (hL : i_Lay h) : i_arI h 0 152 = some (488, aI h 152) := hL.ai rfl
theorem i_Lay.a153 (hL : i_Lay h) : i_arI h 0 153 = some (488, aI h 153) := hL.ai rfl
theorem i_Lay.a154 (hL : i_Lay h) : i_arI h 0 154 = some (244, aI h 154) := hL.ai rfl
theorem i_Lay.a155 (hL : i_Lay h) : i_arI h 2 155 = some (2928, aI h 155) := hL.ai rfl
theorem i_Lay.a156 (hL : i_Lay h) : i_arI h 2 156 = some (2928, aI h 156) := hL.ai rfl
theorem i_Lay.a157 (hL : i_Lay h) : i_arI h 0 157 = some (61, aI h 157) := hL.ai rfl
theorem i_Lay.a158 (hL : i_Lay h) : i_arI h 0 158 = some (48, aI h 158) := hL.ai rfl
theorem i_Lay.a159 (hL : i_Lay h) : i_arI h 0 159 = some (48, aI h 159) := hL.ai rfl
theorem i_Lay.a160 (hL : i_Lay h) : i_arI h 2 160 = some (12288, aI h 160) := hL.ai rfl
theorem i_Lay.a161 (hL : i_Lay h) : i_arI h 2 161 = some (12288, aI h 161) := hL.ai rfl
theorem i_Lay.a162 (hL : i_Lay h) : i_arI h 2 162 = some (24576, aI h 162) := hL.ai rfl
theorem i_Lay.a163 (hL : i_Lay h) : i_arI h 2 163 = some (24576, aI h 163) := hL.ai rfl
theorem i_Lay.a164 (hL : i_Lay h) : i_arI h 0 164 = some (6, aI h 164) := hL.ai rfl
theorem i_Lay.a165 (hL : i_Lay h) : i_arI h 0 165 = some (384, aI h 165) := hL.ai rfl
theorem i_Lay.a166 (hL : i_Lay h) : i_arI h 2 166 = some (9216, aI h 166) := hL.ai rfl
theorem i_Lay.a167 (hL : i_Lay h) : i_arI h 2 167 = some (9216, aI h 167) := hL.ai rfl
theorem i_Lay.a168 (hL : i_Lay h) : i_arI h 2 168 = some (2304, aI h 168) := hL.ai rfl
theorem i_Lay.a169 (hL : i_Lay h) : i_arI h 0 169 = some (2304, aI h 169) := hL.ai rfl
theorem i_Lay.a170 (hL : i_Lay h) : i_arI h 0 170 = some (32, aI h 170) := hL.ai rfl
theorem i_Lay.a171 (hL : i_Lay h) : i_arI h 0 171 = some (8, aI h 171) := hL.ai rfl
theorem i_Lay.a172 (hL : i_Lay h) : i_arI h 0 172 = some (8, aI h 172) := hL.ai rfl
theorem i_Lay.ot (hL : i_Lay h) {t : Nat} (ht : i_T t) : i_obj? h t 8 := by
  rcases ht with rfl | rfl | rfl | rfl | rfl
  · exact hL.o14
  · exact hL.o29
  · exact hL.o50
  · exact hL.o65
  · exact hL.o80
theorem i_Lay.op (hL : i_Lay h) {t : Nat} (ht : i_T t) : i_obj? h (t + 7) 3 := by
  rcases ht with rfl | rfl | rfl | rfl | rfl
  · exact hL.o21
  · exact hL.o36
  · exact hL.o57
  · exact hL.o72
  · exact hL.o87
theorem i_Lay.t_0 (hL : i_Lay h) {t : Nat} (ht : i_T t) : i_fld h t 8 0 = some (.int (fI h t 0)) := by
  rcases ht with rfl | rfl | rfl | rfl | rfl
  · exact hL.q14_0
  · exact hL.q29_0
  · exact hL.q50_0
  · exact hL.q65_0
  · exact hL.q80_0
theorem i_Lay.t_1 (hL : i_Lay h) {t : Nat} (ht : i_T t) : i_fld h t 8 1 = some (.int (fI h t 1)) := by
  rcases ht with rfl | rfl | rfl | rfl | rfl
  · exact hL.q14_1
  · exact hL.q29_1
  · exact hL.q50_1
  · exact hL.q65_1
  · exact hL.q80_1
theorem i_Lay.t_2 (hL : i_Lay h) {t : Nat} (ht : i_T t) : i_fld h t 8 2 = some (.long (fJ h t 2)) := by
  rcases ht with rfl | rfl | rfl | rfl | rfl
  · exact hL.q14_2
  · exact hL.q29_2
  · exact hL.q50_2
  · exact hL.q65_2
  · exact hL.q80_2
theorem i_Lay.t_3 (hL : i_Lay h) {t : Nat} (ht : i_T t) : i_fld h t 8 3 = some (.long (fJ h t 3)) := by
  rcases ht with rfl | rfl | rfl | rfl | rfl
  · exact hL.q14_3
  · exact hL.q29_3
  · exact hL.q50_3
  · exact hL.q65_3
  · exact hL.q80_3
theorem i_Lay.t_4 (hL : i_Lay h) {t : Nat} (ht : i_T t) : i_fld h t 8 4 = some (.ref (t + 1)) := by
  rcases ht with rfl | rfl | rfl | rfl | rfl
  · exact hL.q14_4
  · exact hL.q29_4
  · exact hL.q50_4
  · exact hL.q65_4
  · exact hL.q80_4
theorem i_Lay.t_5 (hL : i_Lay h) {t : Nat} (ht : i_T t) : i_fld h t 8 5 = some (.int (fI h t 5)) := by
  rcases ht with rfl | rfl | rfl | rfl | rfl
  · exact hL.q14_5
  · exact hL.q29_5
  · exact hL.q50_5
  · exact hL.q65_5
  · exact hL.q80_5
theorem i_Lay.t_6 (hL : i_Lay h) {t : Nat} (ht : i_T t) : i_fld h t 8 6 = some (.ref (t + 2)) := by
  rcases ht with rfl | rfl | rfl | rfl | rfl
  · exact hL.q14_6
  · exact hL.q29_6
  · exact hL.q50_6
  · exact hL.q65_6
  · exact hL.q80_6
theorem i_Lay.t_7 (hL : i_Lay h) {t : Nat} (ht : i_T t) : i_fld h t 8 7 = some (.ref (t + 3)) := by
  rcases ht with rfl | rfl | rfl | rfl | rfl
  · exact hL.q14_7
  · exact hL.q29_7
  · exact hL.q50_7
  · exact hL.q65_7
  · exact hL.q80_7
theorem i_Lay.t_8 (hL : i_Lay h) {t : Nat} (ht : i_T t) : i_fld h t 8 8 = some (.ref (t + 4)) := by
  rcases ht with rfl | rfl | rfl | rfl | rfl
  · exact hL.q14_8
  · exact hL.q29_8
  · exact hL.q50_8
  · exact hL.q65_8
  · exact hL.q80_8
theorem i_Lay.t_9 (hL : i_Lay h) {t : Nat} (ht : i_T t) : i_fld h t 8 9 = some (.int (fI h t 9)) := by
  rcases ht with rfl | rfl | rfl | rfl | rfl
  · exact hL.q14_9
  · exact hL.q29_9
  · exact hL.q50_9
  · exact hL.q65_9
  · exact hL.q80_9
theorem i_Lay.t_10 (hL : i_Lay h) {t : Nat} (ht : i_T t) : i_fld h t 8 10 = some (.ref (t + 5)) := by
  rcases ht with rfl | rfl | rfl | rfl | rfl
  · exact hL.q14_10
  · exact hL.q29_10
  · exact hL.q50_10
  · exact hL.q65_10
  · exact hL.q80_10
theorem i_Lay.t_11 (hL : i_Lay h) {t : Nat} (ht : i_T t) : i_fld h t 8 11 = some (.ref (t + 6)) := by
  rcases ht with rfl | rfl | rfl | rfl | rfl
  · exact hL.q14_11
  · exact hL.q29_11
  · exact hL.q50_11
  · exact hL.q65_11
  · exact hL.q80_11
theorem i_Lay.t_12 (hL : i_Lay h) {t : Nat} (ht : i_T t) : i_fld h t 8 12 = some (.ref (t + 7)) := by
  rcases ht with rfl | rfl | rfl | rfl | rfl
  · exact hL.q14_12
  · exact hL.q29_12
  · exact hL.q50_12
  · exact hL.q65_12
  · exact hL.q80_12
theorem i_Lay.t_13 (hL : i_Lay h) {t : Nat} (ht : i_T t) : i_fld h t 8 13 = some (.ref (t + 14)) := by
  rcases ht with rfl | rfl | rfl | rfl | rfl
  · exact hL.q14_13
  · exact hL.q29_13
  · exact hL.q50_13
  · exact hL.q65_13
  · exact hL.q80_13
theorem i_Lay.p_0 (hL : i_Lay h) {t : Nat} (ht : i_T t) : i_fld h (t + 7) 3 0 = some (.int (fI h (t + 7) 0)) := by
  rcases ht with rfl | rfl | rfl | rfl | rfl
  · exact hL.q21_0
  · exact hL.q36_0
  · exact hL.q57_0
  · exact hL.q72_0
  · exact hL.q87_0
theorem i_Lay.p_1 (hL : i_Lay h) {t : Nat} (ht : i_T t) : i_fld h (t + 7) 3 1 = some (.ref (t + 8)) := by
  rcases ht with rfl | rfl | rfl | rfl | rfl
  · exact hL.q21_1
  · exact hL.q36_1
  · exact hL.q57_1
  · exact hL.q72_1
  · exact hL.q87_1
theorem i_Lay.p_2 (hL : i_Lay h) {t : Nat} (ht : i_T t) : i_fld h (t + 7) 3 2 = some (.ref (t + 9)) := by
  rcases ht with rfl | rfl | rfl | rfl | rfl
  · exact hL.q21_2
  · exact hL.q36_2
  · exact hL.q57_2
  · exact hL.q72_2
  · exact hL.q87_2
theorem i_Lay.p_3 (hL : i_Lay h) {t : Nat} (ht : i_T t) : i_fld h (t + 7) 3 3 = some (.ref (t + 10)) := by
  rcases ht with rfl | rfl | rfl | rfl | rfl
  · exact hL.q21_3
  · exact hL.q36_3
  · exact hL.q57_3
  · exact hL.q72_3
  · exact hL.q87_3
theorem i_Lay.p_4 (hL : i_Lay h) {t : Nat} (ht : i_T t) : i_fld h (t + 7) 3 4 = some (.ref (t + 11)) := by
  rcases ht with rfl | rfl | rfl | rfl | rfl
  · exact hL.q21_4
  · exact hL.q36_4
  · exact hL.q57_4
  · exact hL.q72_4
  · exact hL.q87_4
theorem i_Lay.p_5 (hL : i_Lay h) {t : Nat} (ht : i_T t) : i_fld h (t + 7) 3 5 = some (.ref (t + 12)) := by
  rcases ht with rfl | rfl | rfl | rfl | rfl
  · exact hL.q21_5
  · exact hL.q36_5
  · exact hL.q57_5
  · exact hL.q72_5
  · exact hL.q87_5
theorem i_Lay.p_6 (hL : i_Lay h) {t : Nat} (ht : i_T t) : i_fld h (t + 7) 3 6 = some (.ref (t + 13)) := by
  rcases ht with rfl | rfl | rfl | rfl | rfl
  · exact hL.q21_6
  · exact hL.q36_6
  · exact hL.q57_6
  · exact hL.q72_6
  · exact hL.q87_6
theorem i_Lay.ta_1 (hL : i_Lay h) {t : Nat} (ht : i_T t) : i_arI h 0 (t + 1) = some (48, aI h (t + 1)) := by
  rcases ht with rfl | rfl | rfl | rfl | rfl
  · exact hL.a15
  · exact hL.a30
  · exact hL.a51
  · exact hL.a66
  · exact hL.a81
theorem i_Lay.ta_2 (hL : i_Lay h) {t : Nat} (ht : i_T t) : i_arI h 0 (t + 2) = some (4, aI h (t + 2)) := by
  rcases ht with rfl | rfl | rfl | rfl | rfl
  · exact hL.a16
  · exact hL.a31
  · exact hL.a52
  · exact hL.a67
  · exact hL.a82
theorem i_Lay.ta_3 (hL : i_Lay h) {t : Nat} (ht : i_T t) : i_arI h 0 (t + 3) = some (4, aI h (t + 3)) := by
  rcases ht with rfl | rfl | rfl | rfl | rfl
  · exact hL.a17
  · exact hL.a32
  · exact hL.a53
  · exact hL.a68
  · exact hL.a83
theorem i_Lay.ta_4 (hL : i_Lay h) {t : Nat} (ht : i_T t) : i_arI h 0 (t + 4) = some (32, aI h (t + 4)) := by
  rcases ht with rfl | rfl | rfl | rfl | rfl
  · exact hL.a18
  · exact hL.a33
  · exact hL.a54
  · exact hL.a69
  · exact hL.a84
theorem i_Lay.ta_5 (hL : i_Lay h) {t : Nat} (ht : i_T t) : i_arI h 0 (t + 5) = some (8, aI h (t + 5)) := by
  rcases ht with rfl | rfl | rfl | rfl | rfl
  · exact hL.a19
  · exact hL.a34
  · exact hL.a55
  · exact hL.a70
  · exact hL.a85
theorem i_Lay.ta_6 (hL : i_Lay h) {t : Nat} (ht : i_T t) : i_arI h 0 (t + 6) = some (4, aI h (t + 6)) := by
  rcases ht with rfl | rfl | rfl | rfl | rfl
  · exact hL.a20
  · exact hL.a35
  · exact hL.a56
  · exact hL.a71
  · exact hL.a86
theorem i_Lay.ta_8 (hL : i_Lay h) {t : Nat} (ht : i_T t) : i_arJ h (t + 8) = some (8, aJ h (t + 8)) := by
  rcases ht with rfl | rfl | rfl | rfl | rfl
  · exact hL.a22
  · exact hL.a37
  · exact hL.a58
  · exact hL.a73
  · exact hL.a88
theorem i_Lay.ta_9 (hL : i_Lay h) {t : Nat} (ht : i_T t) : i_arI h 0 (t + 9) = some (8, aI h (t + 9)) := by
  rcases ht with rfl | rfl | rfl | rfl | rfl
  · exact hL.a23
  · exact hL.a38
  · exact hL.a59
  · exact hL.a74
  · exact hL.a89
theorem i_Lay.ta_10 (hL : i_Lay h) {t : Nat} (ht : i_T t) : i_arI h 0 (t + 10) = some (8, aI h (t + 10)) := by
  rcases ht with rfl | rfl | rfl | rfl | rfl
  · exact hL.a24
  · exact hL.a39
  · exact hL.a60
  · exact hL.a75
  · exact hL.a90
theorem i_Lay.ta_11 (hL : i_Lay h) {t : Nat} (ht : i_T t) : i_arI h 0 (t + 11) = some (8, aI h (t + 11)) := by
  rcases ht with rfl | rfl | rfl | rfl | rfl
  · exact hL.a25
  · exact hL.a40
  · exact hL.a61
  · exact hL.a76
  · exact hL.a91
theorem i_Lay.ta_12 (hL : i_Lay h) {t : Nat} (ht : i_T t) : i_arI h 0 (t + 12) = some (8, aI h (t + 12)) := by
  rcases ht with rfl | rfl | rfl | rfl | rfl
  · exact hL.a26
  · exact hL.a41
  · exact hL.a62
  · exact hL.a77
  · exact hL.a92
theorem i_Lay.ta_13 (hL : i_Lay h) {t : Nat} (ht : i_T t) : i_arI h 0 (t + 13) = some (8, aI h (t + 13)) := by
  rcases ht with rfl | rfl | rfl | rfl | rfl
  · exact hL.a27
  · exact hL.a42
  · exact hL.a63
  · exact hL.a78
  · exact hL.a93
theorem i_Lay.ta_14 (hL : i_Lay h) {t : Nat} (ht : i_T t) : i_arI h 0 (t + 14) = some (480, aI h (t + 14)) := by
  rcases ht with rfl | rfl | rfl | rfl | rfl
  · exact hL.a28
  · exact hL.a43
  · exact hL.a64
  · exact hL.a79
  · exact hL.a94
theorem i_Lay.od (hL : i_Lay h) {t : Nat} (ht : i_Y t) : i_obj? h t 1 := by
  rcases ht with rfl | rfl
  · exact hL.o134
  · exact hL.o136
theorem i_Lay.d_0 (hL : i_Lay h) {t : Nat} (ht : i_Y t) : i_fld h t 1 0 = some (.int (fI h t 0)) := by
  rcases ht with rfl | rfl
  · exact hL.q134_0
  · exact hL.q136_0
theorem i_Lay.d_1 (hL : i_Lay h) {t : Nat} (ht : i_Y t) : i_fld h t 1 1 = some (.int (fI h t 1)) := by
  rcases ht with rfl | rfl
  · exact hL.q134_1
  · exact hL.q136_1
theorem i_Lay.d_2 (hL : i_Lay h) {t : Nat} (ht : i_Y t) : i_fld h t 1 2 = some (.int (fI h t 2)) := by
  rcases ht with rfl | rfl
  · exact hL.q134_2
  · exact hL.q136_2
theorem i_Lay.d_3 (hL : i_Lay h) {t : Nat} (ht : i_Y t) : i_fld h t 1 3 = some (.ref (t + 1)) := by
  rcases ht with rfl | rfl
  · exact hL.q134_3
  · exact hL.q136_3
theorem i_Lay.d_4 (hL : i_Lay h) {t : Nat} (ht : i_Y t) : i_fld h t 1 4 = some (.int (fI h t 4)) := by
  rcases ht with rfl | rfl
  · exact hL.q134_4
  · exact hL.q136_4
theorem i_Lay.da (hL : i_Lay h) {t : Nat} (ht : i_Y t) : i_arI h 0 (t + 1) = some (8, aI h (t + 1)) := by
  rcases ht with rfl | rfl
  · exact hL.a135
  · exact hL.a137
end
