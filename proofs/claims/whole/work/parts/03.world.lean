/-! THE INTERPRETER'S WORLD: a list of cells, each at its place; ad gives a place's address, ox an outside thing's, cT a kind of array's class -/
def i_ta (ad : Nat → Nat) : vp_A → vp_A
  | (n, .inr (.inr (.inr (.inr f)))) => (n, .inr (.inr (.inr (.inr (fun j => if j < n then (f j).map ad else none)))))
  | x => x
def i_te (ad ox cT : Nat → Nat) : va_E → va_E
  | .inl a => .inl (cT a.1, i_ta ad a.2)
  | .inr o => .inr (o.1, o.2.map (i_tr ad ox))
def i_ws (ad ox cT : Nat → Nat) (h : iH) : va_W := h.mapIdx (fun i e => (ad i, i_te ad ox cT e))
theorem i_ws_get {ad ox cT : Nat → Nat} {h : iH} {q : Nat} {e : va_E} (hq : h[q]? = some e) : (i_ws ad ox cT h)[q]? = some (ad q, i_te ad ox cT e) := by
  unfold i_ws
  rw [List.getElem?_mapIdx, hq]
  rfl
theorem i_ws_of {ad ox cT : Nat → Nat} {h : iH} {q : Nat} {z : Nat × va_E} (hq : (i_ws ad ox cT h)[q]? = some z) : ∃ e, h[q]? = some e ∧ z = (ad q, i_te ad ox cT e) := by
  unfold i_ws at hq
  rw [List.getElem?_mapIdx] at hq
  cases he : h[q]? with
  | none => rw [he] at hq; cases hq
  | some e => rw [he] at hq; cases hq; exact ⟨e, rfl, rfl⟩
theorem i_ws_len (ad ox cT : Nat → Nat) (h : iH) : (i_ws ad ox cT h).length = h.length := by simp [i_ws]
theorem i_ws_set (ad ox cT : Nat → Nat) (h : iH) (q : Nat) (e : va_E) : (i_ws ad ox cT h).set q (ad q, i_te ad ox cT e) = i_ws ad ox cT (h.set q e) := by
  apply List.ext_getElem?
  intro k
  by_cases e1 : k = q
  · subst e1
    by_cases hl : k < h.length
    · rw [List.getElem?_set_self (by rw [i_ws_len]; exact hl)]
      exact (i_ws_get (List.getElem?_set_self hl)).symm
    · rw [List.getElem?_eq_none (by rw [List.length_set, i_ws_len]; omega), List.getElem?_eq_none (by rw [i_ws_len, List.length_set]; omega)]
  · rw [List.getElem?_set_ne (fun z => e1 z.symm)]
    unfold i_ws
    rw [List.getElem?_mapIdx, List.getElem?_mapIdx, List.getElem?_set_ne (fun z => e1 z.symm)]
/-! no place beyond n is named -/
def i_frV (n : Nat) (v : Value) : Bool := match v with
  | .ref k => decide (k < n)
  | _ => true
def i_frA (n : Nat) (x : vp_A) : Bool := match x.2 with
  | .inr (.inr (.inr (.inr f))) => (List.range x.1).all (fun j => match f j with
    | some k => decide (k < n)
    | none => true)
  | _ => true
def i_frE (n : Nat) (e : va_E) : Bool := match e with
  | .inl a => i_frA n a.2
  | .inr o => o.2.all (i_frV n)
def i_frL (n : Nat) (lo : iL) : Bool := lo.all (fun o => match o with
  | some v => i_frV n v
  | none => true)
def i_fr (n : Nat) (lo : iL) (st : List Value) : Bool := i_frL n lo && st.all (i_frV n)
theorem i_tr_fr {n : Nat} {ad ad2 ox : Nat → Nat} (hk : ∀ k, k < n → ad2 k = ad k) {v : Value} (h : i_frV n v = true) : i_tr ad2 ox v = i_tr ad ox v := by
  cases v <;> first | rfl | (simp only [i_frV, decide_eq_true_eq] at h; simp only [i_tr]; rw [hk _ h])
theorem i_map_fr {n : Nat} {ad ad2 ox : Nat → Nat} (hk : ∀ k, k < n → ad2 k = ad k) {l : List Value} (h : l.all (i_frV n) = true) : l.map (i_tr ad2 ox) = l.map (i_tr ad ox) :=
  List.map_congr_left (fun v hv => i_tr_fr hk (List.all_eq_true.mp h v hv))
theorem i_ta_fr {n : Nat} {ad ad2 : Nat → Nat} (hk : ∀ k, k < n → ad2 k = ad k) {x : vp_A} (h : i_frA n x = true) : i_ta ad2 x = i_ta ad x := by
  obtain ⟨m, f⟩ := x
  rcases f with f | f | f | f | f
  · rfl
  · rfl
  · rfl
  · rfl
  · simp only [i_frA, List.all_eq_true] at h
    simp only [i_ta]
    congr 5
    funext j
    by_cases hj : j < m
    · rw [if_pos hj, if_pos hj]
      have h2 := h j (List.mem_range.mpr hj)
      cases hf : f j with
      | none => rfl
      | some k =>
        rw [hf] at h2
        simp only [decide_eq_true_eq] at h2
        simp only [Option.map_some, hk k h2]
    · rw [if_neg hj, if_neg hj]
theorem i_te_fr {n : Nat} {ad ad2 ox cT : Nat → Nat} (hk : ∀ k, k < n → ad2 k = ad k) {e : va_E} (h : i_frE n e = true) : i_te ad2 ox cT e = i_te ad ox cT e := by
  cases e with
  | inl a => simp only [i_te]; rw [i_ta_fr hk h]
  | inr o => simp only [i_te]; rw [i_map_fr hk h]
theorem i_ws_fr {ad ad2 ox cT : Nat → Nat} {h : iH} {n : Nat} (hn : h.length ≤ n) (hk : ∀ k, k < n → ad2 k = ad k) (hf : h.all (i_frE n) = true) : i_ws ad2 ox cT h = i_ws ad ox cT h := by
  apply List.ext_getElem?
  intro k
  unfold i_ws
  rw [List.getElem?_mapIdx, List.getElem?_mapIdx]
  cases he : h[k]? with
  | none => rfl
  | some e =>
    have hl := (List.getElem?_eq_some_iff.mp he).1
    simp only [Option.map_some]
    rw [hk k (by omega), i_te_fr hk (List.all_eq_true.mp hf e (List.mem_of_getElem? he))]
theorem i_ws_app (ad ox cT : Nat → Nat) (h : iH) (e : va_E) : i_ws ad ox cT (h ++ [e]) = i_ws ad ox cT h ++ [(ad h.length, i_te ad ox cT e)] := by
  unfold i_ws
  rw [List.mapIdx_append]
  simp
theorem i_LR_fr {ad ad2 ox : Nat → Nat} {lo : iL} {ls : Array Slot} {nL n : Nat} (hk : ∀ k, k < n → ad2 k = ad k) (hf : i_frL n lo = true) (h : i_LR ad ox lo ls nL) : i_LR ad2 ox lo ls nL := by
  refine ⟨h.1, h.2.1, h.2.2.1, fun i v hv => ?_⟩
  have h1 := List.all_eq_true.mp hf _ (List.mem_of_getElem? hv)
  rw [i_tr_fr hk h1]
  exact h.2.2.2 i v hv
/-! kinds of arrays -/
def i_ty (t : Nat) : FieldType := match t with
  | 0 => .int
  | 1 => .long
  | 2 => .boolean
  | 3 => .byte
  | 4 => .array .long
  | _ => .object "StillTown$Town"
def i_tys (cT : Nat → Nat) : List (ClassId × FieldType) := [(cT 0, i_ty 0), (cT 1, i_ty 1), (cT 2, i_ty 2), (cT 3, i_ty 3), (cT 4, i_ty 4), (cT 5, i_ty 5)]
/-! the tables' words that stay -/
def i_GT : List Jvm.Cond := lw_tbl.filter goodWord
theorem i_inG {c : Nat} {w : Jvm.Cond} (h : lw_tbl[c]? = some w) (hg : goodWord w = true) : w ∈ i_GT := List.mem_filter.mpr ⟨List.mem_of_getElem? h, hg⟩
theorem i_GT_good : ∀ w ∈ i_GT, goodWord w = true := fun w h => (List.mem_filter.mp h).2
/-! what lies outside: int tables EAST, SOUTH, SEEN_WITHOUT, the script; the formatter; two texts and their bytes -/
def i_EAST : Nat → Int32 := fun j => ([0, 1, 1, 1, 0, -1, -1, -1] : List Int32).getD j 0
def i_SOUTH : Nat → Int32 := fun j => ([-1, -1, 0, 1, 1, 1, 0, -1] : List Int32).getD j 0
def i_SEEN : Nat → Int32 := fun j => ([4, 8, 2, 16] : List Int32).getD j 0
def i_oA (L : Nat) (xs : Nat → Int32) (j : Nat) : Option (Nat × (Nat → Int32)) := match j with
  | 0 => some (8, i_EAST)
  | 1 => some (8, i_SOUTH)
  | 2 => some (4, i_SEEN)
  | 3 => some (L, xs)
  | _ => none
def i_TX1 : List Int32 := [110, 32, 110, 101, 32, 101, 32, 115, 101, 32, 115, 32, 115, 119, 32, 119, 32, 110, 119, 32, 115, 105, 122, 101, 32, 119, 97, 108, 108, 32, 116, 111, 32, 116, 114, 101, 101, 32, 115, 119, 97, 121, 115, 32, 99, 97, 114, 116, 32, 103, 111, 101, 115, 32, 108, 97, 109, 112, 32, 112, 101, 114, 115, 111, 110, 32, 97, 116, 32, 108, 111, 111, 107, 115, 32, 102, 97, 114, 32, 104, 105, 100, 101, 115, 32, 102, 114, 111, 109, 32, 115, 104, 111, 119, 115, 32, 115, 101, 101, 110, 32, 115, 108, 111, 119, 32, 116, 117, 114, 110, 32, 115, 105, 103, 110, 32, 115, 101, 108, 102, 32, 100, 111, 101, 115, 32, 115, 116, 101, 112, 32, 115, 116, 105, 108, 108, 32, 108, 111, 111, 112, 32, 101, 110, 100]
def i_TX2 : List Int32 := [32, 110, 32, 110, 101, 32, 101, 32, 115, 101, 32, 115, 32, 115, 119, 32, 119, 32, 110, 119, 32, 115, 105, 122, 101, 32, 119, 97, 108, 108, 32, 116, 114, 101, 101, 32, 99, 97, 114, 116, 32, 108, 97, 109, 112, 32, 112, 101, 114, 115, 111, 110, 32, 104, 105, 100, 101, 115, 32, 115, 104, 111, 119, 115, 32, 115, 101, 101, 110, 32, 116, 111, 32, 115, 119, 97, 121, 115, 32, 103, 111, 101, 115, 32, 97, 116, 32, 108, 111, 111, 107, 115, 32, 102, 97, 114, 32, 102, 114, 111, 109, 32, 115, 108, 111, 119, 32, 116, 117, 114, 110, 32, 115, 105, 103, 110, 32, 115, 101, 108, 102, 32, 100, 111, 101, 115, 32, 115, 116, 101, 112, 32, 115, 116, 105, 108, 108, 32, 108, 111, 111, 112, 32, 101, 110, 100, 32]
def i_oB (j : Nat) : Option (List Int32) := match j with
  | 6 => some i_TX1
  | 8 => some i_TX2
  | _ => none
/-- a text's fields: 0 the coder, 1 its bytes -/
def i_oF (j b : Nat) : Option Value := match j, b with
  | 5, 0 => some (.int 0)
  | 5, 1 => some (.retAddr 6)
  | 7, 0 => some (.int 0)
  | 7, 1 => some (.retAddr 8)
  | _, _ => none
def i_fd (b : Nat) : String × String := match b with
  | 0 => ("coder", "B")
  | _ => ("value", "[B")
/-- statics: class, name, descriptor, value -/
def i_oS (a : Nat) : Option (String × String × String × Value) := match a with
  | 0 => some ("StillTown", "EAST", "[I", .retAddr 0)
  | 1 => some ("StillTown", "SOUTH", "[I", .retAddr 1)
  | 2 => some ("StillTown", "SEEN_WITHOUT", "[I", .retAddr 2)
  | 3 => some ("java/lang/String", "COMPACT_STRINGS", "Z", .int 1)
  | 4 => some ("jdk/internal/util/Preconditions", "SIOOBE_FORMATTER", "Ljava/util/function/BiFunction;", .float 1)
  | _ => none
/-- string constants: class, place in its pool, outside place -/
def i_oR (j : Nat) : Option (String × Nat) := match j with
  | 5 => some ("StillTown$Tape", 60)
  | 7 => some ("StillTownModel", 245)
  | _ => none
