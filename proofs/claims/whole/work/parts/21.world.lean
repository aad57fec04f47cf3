/-! READING AND WRITING THE WORLD, as functions; a run makes no more than its method may -/
def i_fld (h : iH) (q ci b : Nat) : Option Value := match h[q]? with
  | some (.inr (c, fs)) => if c = ci then fs[b]? else none
  | _ => none
def i_sf (h : iH) (q b : Nat) (v : Value) : iH := match h[q]? with
  | some (.inr (c, fs)) => h.set q (.inr (c, fs.set b v))
  | _ => h
def i_arI (h : iH) (t q : Nat) : Option (Nat × (Nat → Int32)) := match h[q]? with
  | some (.inl (t2, n, .inl f)) => if t2 = t then some (n, f) else none
  | _ => none
def i_arJ (h : iH) (q : Nat) : Option (Nat × (Nat → Int64)) := match h[q]? with
  | some (.inl (t2, n, .inr (.inl f))) => if t2 = 1 then some (n, f) else none
  | _ => none
def i_arR (h : iH) (t q : Nat) : Option (Nat × (Nat → Option Nat)) := match h[q]? with
  | some (.inl (t2, n, .inr (.inr (.inr (.inr f))))) => if t2 = t then some (n, f) else none
  | _ => none
def i_siI (h : iH) (q i : Nat) (x : Int32) : iH := match h[q]? with
  | some (.inl (t2, n, .inl f)) => h.set q (.inl (t2, n, .inl (upd f i x)))
  | _ => h
def i_siJ (h : iH) (q i : Nat) (x : Int64) : iH := match h[q]? with
  | some (.inl (t2, n, .inr (.inl f))) => h.set q (.inl (t2, n, .inr (.inl (vp_updL f i x))))
  | _ => h
/-- an object of class ci lies at q -/
def i_obj? (h : iH) (q ci : Nat) : Prop := ∃ fs, h[q]? = some (.inr (ci, fs))
theorem i_fld_s {h : iH} {q ci b : Nat} {v : Value} (e : i_fld h q ci b = some v) : ∃ fs, h[q]? = some (.inr (ci, fs)) ∧ fs[b]? = some v := by
  unfold i_fld at e
  split at e
  · rename_i c fs hq
    split at e
    · rename_i hc
      subst hc
      exact ⟨fs, hq, e⟩
    · cases e
  · cases e
theorem i_arI_s {h : iH} {t q n : Nat} {f : Nat → Int32} (e : i_arI h t q = some (n, f)) : h[q]? = some (.inl (t, n, .inl f)) := by
  unfold i_arI at e
  split at e
  · split at e
    · rename_i h1 h2
      cases e
      subst h2
      exact h1
    · cases e
  · cases e
theorem i_arJ_s {h : iH} {q n : Nat} {f : Nat → Int64} (e : i_arJ h q = some (n, f)) : h[q]? = some (.inl (1, n, .inr (.inl f))) := by
  unfold i_arJ at e
  split at e
  · split at e
    · rename_i h1 h2
      cases e
      subst h2
      exact h1
    · cases e
  · cases e
theorem i_arR_s {h : iH} {t q n : Nat} {f : Nat → Option Nat} (e : i_arR h t q = some (n, f)) : h[q]? = some (.inl (t, n, .inr (.inr (.inr (.inr f))))) := by
  unfold i_arR at e
  split at e
  · split at e
    · rename_i h1 h2
      cases e
      subst h2
      exact h1
    · cases e
  · cases e
section ISW
variable {a b pc : Nat} {lo : iL} {h : iH} {u w q : Nat} {r : List Value} {L : Nat} {xs : Nat → Int32}
theorem s_get {v : Value} (e : i_fld h q a b = some v) : i_get a b pc lo (.ref q :: r) h u w = some (pc + 3, lo, v :: r, h, u, w) := by
  obtain ⟨fs, h1, h2⟩ := i_fld_s e
  simp [i_get, h1, h2]
theorem s_put {v o : Value} (e : i_fld h q a b = some o) (hf : i_fit (i_cty a b) v = true) : i_put a b pc lo (v :: .ref q :: r) h u w = some (pc + 3, lo, r, i_sf h q b v, u, w) := by
  obtain ⟨fs, h1, h2⟩ := i_fld_s e
  have hb := (List.getElem?_eq_some_iff.mp h2).1
  unfold i_sf
  simp [i_put, h1, hf, hb]
theorem s_aget {i : Int32} {n : Nat} {f : Nat → Int32} (e : i_arI h 0 q = some (n, f)) (hi : ¬ (i < 0 ∨ n ≤ i.toNatClampNeg)) : i_aget L xs pc lo (.int i :: .ref q :: r) h u w = some (pc + 1, lo, .int (f i.toNatClampNeg) :: r, h, u, w) := by
  have h1 := i_arI_s e
  unfold i_aget
  simp only [h1]
  rw [if_pos ⟨trivial, hi⟩]
theorem s_agetX {i : Int32} {j n : Nat} {f : Nat → Int32} (e : i_oA L xs j = some (n, f)) (hi : ¬ (i < 0 ∨ n ≤ i.toNatClampNeg)) : i_aget L xs pc lo (.int i :: .retAddr j :: r) h u w = some (pc + 1, lo, .int (f i.toNatClampNeg) :: r, h, u, w) := by
  unfold i_aget
  simp only [e]
  rw [if_pos hi]
theorem s_lget {i : Int32} {n : Nat} {f : Nat → Int64} (e : i_arJ h q = some (n, f)) (hi : ¬ (i < 0 ∨ n ≤ i.toNatClampNeg)) : i_lget pc lo (.int i :: .ref q :: r) h u w = some (pc + 1, lo, .long (f i.toNatClampNeg) :: r, h, u, w) := by
  have h1 := i_arJ_s e
  unfold i_lget
  simp only [h1]
  rw [if_pos ⟨trivial, hi⟩]
theorem s_bget {i : Int32} {t n : Nat} {f : Nat → Int32} (ht : t = 2 ∨ t = 3) (e : i_arI h t q = some (n, f)) (hi : ¬ (i < 0 ∨ n ≤ i.toNatClampNeg)) : i_bget pc lo (.int i :: .ref q :: r) h u w = some (pc + 1, lo, .int (f i.toNatClampNeg) :: r, h, u, w) := by
  have h1 := i_arI_s e
  unfold i_bget
  simp only [h1]
  rw [if_pos ⟨ht, hi⟩]
theorem s_bgetX {i : Int32} {j : Nat} {bs : List Int32} (e : i_oB j = some bs) (hi : ¬ (i < 0 ∨ bs.length ≤ i.toNatClampNeg)) : i_bget pc lo (.int i :: .retAddr j :: r) h u w = some (pc + 1, lo, .int (bs.getD i.toNatClampNeg 0) :: r, h, u, w) := by
  unfold i_bget
  simp only [e]
  rw [if_pos hi]
theorem s_rget {i : Int32} {t n v : Nat} {f : Nat → Option Nat} (ht : t = 4 ∨ t = 5) (e : i_arR h t q = some (n, f)) (hi : ¬ (i < 0 ∨ n ≤ i.toNatClampNeg)) (hv : f i.toNatClampNeg = some v) : i_rget pc lo (.int i :: .ref q :: r) h u w = some (pc + 1, lo, .ref v :: r, h, u, w) := by
  have h1 := i_arR_s e
  unfold i_rget
  simp only [h1]
  rw [if_pos ⟨ht, hi⟩, hv]
  rfl
theorem s_aput {i x : Int32} {n : Nat} {f : Nat → Int32} (e : i_arI h 0 q = some (n, f)) (hi : ¬ (i < 0 ∨ n ≤ i.toNatClampNeg)) : i_aput pc lo (.int x :: .int i :: .ref q :: r) h u w = some (pc + 1, lo, r, i_siI h q i.toNatClampNeg x, u, w) := by
  have h1 := i_arI_s e
  unfold i_aput i_siI
  simp only [h1]
  rw [if_pos ⟨trivial, hi⟩]
theorem s_lput {i : Int32} {x : Int64} {n : Nat} {f : Nat → Int64} (e : i_arJ h q = some (n, f)) (hi : ¬ (i < 0 ∨ n ≤ i.toNatClampNeg)) : i_lput pc lo (.long x :: .int i :: .ref q :: r) h u w = some (pc + 1, lo, r, i_siJ h q i.toNatClampNeg x, u, w) := by
  have h1 := i_arJ_s e
  unfold i_lput i_siJ
  simp only [h1]
  rw [if_pos ⟨trivial, hi⟩]
theorem s_zput {i x : Int32} {n : Nat} {f : Nat → Int32} (e : i_arI h 2 q = some (n, f)) (hi : ¬ (i < 0 ∨ n ≤ i.toNatClampNeg)) : i_bput pc lo (.int x :: .int i :: .ref q :: r) h u w = some (pc + 1, lo, r, i_siI h q i.toNatClampNeg (vp_nar .boolean x), u, w) := by
  have h1 := i_arI_s e
  unfold i_bput i_siI
  simp only [h1]
  rw [if_pos ⟨Or.inl trivial, hi⟩, if_pos trivial]
theorem s_bput {i x : Int32} {n : Nat} {f : Nat → Int32} (e : i_arI h 3 q = some (n, f)) (hi : ¬ (i < 0 ∨ n ≤ i.toNatClampNeg)) : i_bput pc lo (.int x :: .int i :: .ref q :: r) h u w = some (pc + 1, lo, r, i_siI h q i.toNatClampNeg (vp_nar .byte x), u, w) := by
  have h1 := i_arI_s e
  unfold i_bput i_siI
  simp only [h1]
  rw [if_pos ⟨Or.inr trivial, hi⟩, if_neg (by decide)]
theorem s_alenI {t n : Nat} {f : Nat → Int32} (ht : t < 6) (e : i_arI h t q = some (n, f)) : i_alen L xs pc lo (.ref q :: r) h u w = some (pc + 1, lo, .int (Int32.ofNat n) :: r, h, u, w) := by
  have h1 := i_arI_s e
  unfold i_alen
  simp only [h1]
  rw [if_pos ht]
theorem s_alenJ {n : Nat} {f : Nat → Int64} (e : i_arJ h q = some (n, f)) : i_alen L xs pc lo (.ref q :: r) h u w = some (pc + 1, lo, .int (Int32.ofNat n) :: r, h, u, w) := by
  have h1 := i_arJ_s e
  unfold i_alen
  simp only [h1]
  rw [if_pos (by decide)]
theorem s_alenX {j n : Nat} {f : Nat → Int32} (e : i_oA L xs j = some (n, f)) : i_alen L xs pc lo (.retAddr j :: r) h u w = some (pc + 1, lo, .int (Int32.ofNat n) :: r, h, u, w) := by
  unfold i_alen
  simp only [e]
theorem s_alenB {j : Nat} {bs : List Int32} (e0 : i_oA L xs j = none) (e : i_oB j = some bs) : i_alen L xs pc lo (.retAddr j :: r) h u w = some (pc + 1, lo, .int (Int32.ofNat bs.length) :: r, h, u, w) := by
  unfold i_alen
  simp only [e0, e]
end ISW
theorem i_st1_x {lo : iL} {j : Nat} {o : Option Value} {v : Value} (h : lo[j]? = some o) : ∃ o2, i_st1 lo (j + 1) v = (lo.set j o2).set (j + 1) (some v) := by
  unfold i_st1 i_kill
  simp only [h]
  have hs : lo.set j o = lo := by
    apply List.ext_getElem?
    intro n
    by_cases e : n = j
    · subst e
      rw [List.getElem?_set_self (List.getElem?_eq_some_iff.mp h).1, h]
    · rw [List.getElem?_set_ne (fun q => e q.symm)]
  cases o with
  | none => exact ⟨none, by rw [hs]⟩
  | some w =>
    by_cases hc : w.category = 2
    · exact ⟨none, by simp only [hc, if_true]⟩
    · exact ⟨some w, by simp only [hc, if_false]; rw [hs]⟩
theorem s_lo {lo lo2 : iL} {i pc : Nat} {v : Value} {ins : Instr} {L : Nat} {xs : Nat → Int32} {M : i_M} {a b : Nat} {st st2 : List Value} {h : iH} {u w pc2 : Nat} (e : i_st1 lo i v = lo2) (hs : i_step L xs M ins a b pc lo st h u w = some (pc2, i_st1 lo i v, st2, h, u, w)) : i_step L xs M ins a b pc lo st h u w = some (pc2, lo2, st2, h, u, w) := by rw [← e]; exact hs
