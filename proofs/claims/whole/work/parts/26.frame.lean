/-! FRAMES: what a write leaves; truth values; numbers below 2^31 as naturals -/
theorem w_sf_len (h : iH) (q b : Nat) (v : Value) : (i_sf h q b v).length = h.length := by
  unfold i_sf
  split <;> simp
theorem w_siI_len (h : iH) (q i : Nat) (x : Int32) : (i_siI h q i x).length = h.length := by
  unfold i_siI
  split <;> simp
theorem w_siJ_len (h : iH) (q i : Nat) (x : Int64) : (i_siJ h q i x).length = h.length := by
  unfold i_siJ
  split <;> simp
theorem w_sf_ne {h : iH} {q b p : Nat} {v : Value} (hp : p ≠ q) : (i_sf h q b v)[p]? = h[p]? := by
  unfold i_sf
  split
  · rw [List.getElem?_set_ne (fun z => hp z.symm)]
  · rfl
theorem w_siI_ne {h : iH} {q i p : Nat} {x : Int32} (hp : p ≠ q) : (i_siI h q i x)[p]? = h[p]? := by
  unfold i_siI
  split
  · rw [List.getElem?_set_ne (fun z => hp z.symm)]
  · rfl
theorem w_siJ_ne {h : iH} {q i p : Nat} {x : Int64} (hp : p ≠ q) : (i_siJ h q i x)[p]? = h[p]? := by
  unfold i_siJ
  split
  · rw [List.getElem?_set_ne (fun z => hp z.symm)]
  · rfl
theorem w_set_ne {h : iH} {q p : Nat} {e : va_E} (hp : p ≠ q) : (h.set q e)[p]? = h[p]? := List.getElem?_set_ne (fun z => hp z.symm)
/-! reads depend on the cell alone -/
theorem w_fld {h h2 : iH} {q ci b : Nat} (e : h2[q]? = h[q]?) : i_fld h2 q ci b = i_fld h q ci b := by unfold i_fld; rw [e]
theorem w_arI {h h2 : iH} {t q : Nat} (e : h2[q]? = h[q]?) : i_arI h2 t q = i_arI h t q := by unfold i_arI; rw [e]
theorem w_arJ {h h2 : iH} {q : Nat} (e : h2[q]? = h[q]?) : i_arJ h2 q = i_arJ h q := by unfold i_arJ; rw [e]
theorem w_arR {h h2 : iH} {t q : Nat} (e : h2[q]? = h[q]?) : i_arR h2 t q = i_arR h t q := by unfold i_arR; rw [e]
theorem w_obj {h h2 : iH} {q ci : Nat} (e : h2[q]? = h[q]?) (o : i_obj? h q ci) : i_obj? h2 q ci := by
  obtain ⟨fs, hf⟩ := o
  exact ⟨fs, e.trans hf⟩
theorem w_obj_fld {h : iH} {q ci b : Nat} {v : Value} (e : i_fld h q ci b = some v) : i_obj? h q ci := by
  obtain ⟨fs, h1, -⟩ := i_fld_s e
  exact ⟨fs, h1⟩
/-! reads of what was written -/
theorem w_fld_sf {h : iH} {q ci b : Nat} {v o : Value} (e : i_fld h q ci b = some o) : i_fld (i_sf h q b v) q ci b = some v := by
  obtain ⟨fs, h1, h2⟩ := i_fld_s e
  have hq := (List.getElem?_eq_some_iff.mp h1).1
  have hb := (List.getElem?_eq_some_iff.mp h2).1
  unfold i_fld i_sf
  simp only [h1]
  rw [List.getElem?_set_self hq]
  simp only [if_true]
  rw [List.getElem?_set_self hb]
theorem w_fld_sf_ne {h : iH} {q ci b b2 : Nat} {v : Value} (hb : b2 ≠ b) : i_fld (i_sf h q b v) q ci b2 = i_fld h q ci b2 := by
  unfold i_sf
  split
  · rename_i c fs h1
    have hq := (List.getElem?_eq_some_iff.mp h1).1
    unfold i_fld
    rw [List.getElem?_set_self hq, h1]
    by_cases hc : c = ci
    · simp only [hc, if_true]
      rw [List.getElem?_set_ne (fun z => hb z.symm)]
    · simp only [hc, if_false]
  · rfl
theorem w_obj_sf {h : iH} {q p ci b : Nat} {v : Value} (o : i_obj? h p ci) : i_obj? (i_sf h q b v) p ci := by
  by_cases hp : p = q
  · subst hp
    obtain ⟨fs, hf⟩ := o
    have hq := (List.getElem?_eq_some_iff.mp hf).1
    refine ⟨fs.set b v, ?_⟩
    unfold i_sf
    simp only [hf]
    rw [List.getElem?_set_self hq]
  · exact w_obj (w_sf_ne hp) o
theorem w_arI_siI {h : iH} {t q n i : Nat} {f : Nat → Int32} {x : Int32} (e : i_arI h t q = some (n, f)) : i_arI (i_siI h q i x) t q = some (n, upd f i x) := by
  have h1 := i_arI_s e
  have hq := (List.getElem?_eq_some_iff.mp h1).1
  unfold i_arI i_siI
  simp only [h1]
  rw [List.getElem?_set_self hq]
  simp only [if_true]
theorem w_arJ_siJ {h : iH} {q n i : Nat} {f : Nat → Int64} {x : Int64} (e : i_arJ h q = some (n, f)) : i_arJ (i_siJ h q i x) q = some (n, vp_updL f i x) := by
  have h1 := i_arJ_s e
  have hq := (List.getElem?_eq_some_iff.mp h1).1
  unfold i_arJ i_siJ
  simp only [h1]
  rw [List.getElem?_set_self hq]
  simp only [if_true]
/-! truth values -/
def i_bo (c : Prop) [Decidable c] : Int32 := if c then 1 else 0
theorem i_bo_t {c : Prop} [Decidable c] (h : c) : i_bo c = 1 := if_pos h
theorem i_bo_f {c : Prop} [Decidable c] (h : ¬ c) : i_bo c = 0 := if_neg h
theorem i_bo_0 {c : Prop} [Decidable c] : i_bo c = 0 ↔ ¬ c := by
  unfold i_bo
  by_cases h : c
  · rw [if_pos h]; exact ⟨fun z => absurd z (by decide), fun z => absurd h z⟩
  · rw [if_neg h]; exact ⟨fun _ => h, fun _ => rfl⟩
theorem i_bo_ret {c : Prop} [Decidable c] : i_ret (some .boolean) (i_bo c) = true := by
  unfold i_bo
  by_cases h : c
  · rw [if_pos h]; rfl
  · rw [if_neg h]; rfl
theorem i_bo_iff {c d : Prop} [Decidable c] [Decidable d] (h : c ↔ d) : i_bo c = i_bo d := by
  unfold i_bo
  by_cases hc : c
  · rw [if_pos hc, if_pos (h.mp hc)]
  · rw [if_neg hc, if_neg (fun z => hc (h.mpr z))]
section
variable {h h2 h3 : iH}
theorem x_upd {f : Nat → Int32} {i : Nat} {x : Int32} (j : Nat) : upd f i x j = if j = i then x else f j := rfl
theorem x_updJ {f : Nat → Int64} {i : Nat} {x : Int64} (j : Nat) : vp_updL f i x j = if j = i then x else f j := rfl
theorem x_aI_siI_ne {q p i : Nat} {x : Int32} (hp : p ≠ q) : aI (i_siI h q i x) p = aI h p := by
  unfold aI
  rw [w_siI_ne hp]
theorem x_aI_siI {t q n i : Nat} {x : Int32} {f : Nat → Int32} (e : i_arI h t q = some (n, f)) : aI (i_siI h q i x) q = upd (aI h q) i x := by
  have h1 := i_arI_s e
  have h2 := i_arI_s (w_arI_siI (i := i) (x := x) e)
  unfold aI
  rw [h1, h2]
theorem x_aI_siJ {q p i : Nat} {x : Int64} : aI (i_siJ h q i x) p = aI h p := by
  by_cases hp : p = q
  · subst hp
    unfold i_siJ
    split
    · rename_i e
      unfold aI
      rw [List.getElem?_set_self (List.getElem?_eq_some_iff.mp e).1, e]
    · rfl
  · unfold aI
    rw [w_siJ_ne hp]
theorem x_aI_sf {q p b : Nat} {x : Value} : aI (i_sf h q b x) p = aI h p := by
  by_cases hp : p = q
  · subst hp
    unfold i_sf
    split
    · rename_i e
      unfold aI
      rw [List.getElem?_set_self (List.getElem?_eq_some_iff.mp e).1, e]
    · rfl
  · unfold aI
    rw [w_sf_ne hp]
theorem x_aJ_siJ_ne {q p i : Nat} {x : Int64} (hp : p ≠ q) : aJ (i_siJ h q i x) p = aJ h p := by
  unfold aJ
  rw [w_siJ_ne hp]
theorem x_aJ_siJ {q n i : Nat} {x : Int64} {f : Nat → Int64} (e : i_arJ h q = some (n, f)) : aJ (i_siJ h q i x) q = vp_updL (aJ h q) i x := by
  have h1 := i_arJ_s e
  have h2 := i_arJ_s (w_arJ_siJ (i := i) (x := x) e)
  unfold aJ
  rw [h1, h2]
theorem x_aJ_siI {q p i : Nat} {x : Int32} : aJ (i_siI h q i x) p = aJ h p := by
  by_cases hp : p = q
  · subst hp
    unfold i_siI
    split
    · rename_i e
      unfold aJ
      rw [List.getElem?_set_self (List.getElem?_eq_some_iff.mp e).1, e]
    · rfl
  · unfold aJ
    rw [w_siI_ne hp]
theorem x_aJ_sf {q p b : Nat} {x : Value} : aJ (i_sf h q b x) p = aJ h p := by
  by_cases hp : p = q
  · subst hp
    unfold i_sf
    split
    · rename_i e
      unfold aJ
      rw [List.getElem?_set_self (List.getElem?_eq_some_iff.mp e).1, e]
    · rfl
  · unfold aJ
    rw [w_sf_ne hp]
theorem x_o_siI {q p i : Nat} {x : Int32} : (∀ ci fs, (i_siI h q i x)[p]? = some (.inr (ci, fs)) ↔ h[p]? = some (.inr (ci, fs))) := by
  intro ci fs
  by_cases hp : p = q
  · subst hp
    unfold i_siI
    split
    · rename_i e
      rw [List.getElem?_set_self (List.getElem?_eq_some_iff.mp e).1, e]
      simp
    · exact Iff.rfl
  · rw [w_siI_ne hp]
theorem x_o_siJ {q p i : Nat} {x : Int64} : (∀ ci fs, (i_siJ h q i x)[p]? = some (.inr (ci, fs)) ↔ h[p]? = some (.inr (ci, fs))) := by
  intro ci fs
  by_cases hp : p = q
  · subst hp
    unfold i_siJ
    split
    · rename_i e
      rw [List.getElem?_set_self (List.getElem?_eq_some_iff.mp e).1, e]
      simp
    · exact Iff.rfl
  · rw [w_siJ_ne hp]
/-- what an object's field shows -/
def i_fv (h : iH) (q b : Nat) : Option Value := match h[q]? with
  | some (.inr (_, fs)) => fs[b]?
  | _ => none
theorem fI_v (q b : Nat) : fI h q b = match i_fv h q b with
  | some (.int v) => v
  | _ => 0 := by
  unfold fI i_fv
  cases h[q]? with
  | none => rfl
  | some e => cases e with
    | inl a => rfl
    | inr o => rfl
theorem fJ_v (q b : Nat) : fJ h q b = match i_fv h q b with
  | some (.long v) => v
  | _ => 0 := by
  unfold fJ i_fv
  cases h[q]? with
  | none => rfl
  | some e => cases e with
    | inl a => rfl
    | inr o => rfl
theorem fR_v (q b : Nat) : fR h q b = match i_fv h q b with
  | some (.ref v) => v
  | _ => 0 := by
  unfold fR i_fv
  cases h[q]? with
  | none => rfl
  | some e => cases e with
    | inl a => rfl
    | inr o => rfl
theorem x_fv_siI {q i p c : Nat} {x : Int32} : i_fv (i_siI h q i x) p c = i_fv h p c := by
  by_cases hp : p = q
  · subst hp
    unfold i_siI
    split
    · rename_i e
      unfold i_fv
      rw [List.getElem?_set_self (List.getElem?_eq_some_iff.mp e).1, e]
    · rfl
  · unfold i_fv
    rw [w_siI_ne hp]
theorem x_fv_siJ {q i p c : Nat} {x : Int64} : i_fv (i_siJ h q i x) p c = i_fv h p c := by
  by_cases hp : p = q
  · subst hp
    unfold i_siJ
    split
    · rename_i e
      unfold i_fv
      rw [List.getElem?_set_self (List.getElem?_eq_some_iff.mp e).1, e]
    · rfl
  · unfold i_fv
    rw [w_siJ_ne hp]
theorem x_fv_sf_ne {q b p c : Nat} {x : Value} (hp : (p, c) ≠ (q, b)) : i_fv (i_sf h q b x) p c = i_fv h p c := by
  by_cases e1 : p = q
  · subst e1
    have e2 : c ≠ b := fun z => hp (by rw [z])
    unfold i_sf
    split
    · rename_i e
      unfold i_fv
      rw [List.getElem?_set_self (List.getElem?_eq_some_iff.mp e).1, e]
      exact List.getElem?_set_ne (fun z => e2 z.symm)
    · rfl
  · unfold i_fv
    rw [w_sf_ne e1]
theorem x_fv_sf {q b ci : Nat} {x o : Value} (e : i_fld h q ci b = some o) : i_fv (i_sf h q b x) q b = some x := by
  obtain ⟨fs, h1, h2⟩ := i_fld_s e
  unfold i_fv i_sf
  simp only [h1]
  rw [List.getElem?_set_self (List.getElem?_eq_some_iff.mp h1).1]
  exact List.getElem?_set_self (List.getElem?_eq_some_iff.mp h2).1
theorem x_fv_set {q p c : Nat} {a2 : Nat × vp_A} {a : Nat × vp_A} (e : h[q]? = some (.inl a)) : i_fv (h.set q (.inl a2)) p c = i_fv h p c := by
  by_cases hp : p = q
  · subst hp
    unfold i_fv
    rw [List.getElem?_set_self (List.getElem?_eq_some_iff.mp e).1, e]
  · unfold i_fv
    rw [List.getElem?_set_ne (fun z => hp z.symm)]
theorem x_fI_sf {q b ci : Nat} {x : Int32} {o : Value} (e : i_fld h q ci b = some o) : fI (i_sf h q b (.int x)) q b = x := by rw [fI_v, x_fv_sf e]
theorem x_fJ_sf {q b ci : Nat} {x : Int64} {o : Value} (e : i_fld h q ci b = some o) : fJ (i_sf h q b (.long x)) q b = x := by rw [fJ_v, x_fv_sf e]
theorem x_fR_sf {q b ci : Nat} {x : Nat} {o : Value} (e : i_fld h q ci b = some o) : fR (i_sf h q b (.ref x)) q b = x := by rw [fR_v, x_fv_sf e]
/-- a frame: arrays outside A and fields outside F are as they were -/
def i_Fr (A : List Nat) (F : List (Nat × Nat)) (h h2 : iH) : Prop := (∀ p, p ∉ A → aI h2 p = aI h p ∧ aJ h2 p = aJ h p) ∧ (∀ p c, (p, c) ∉ F → i_fv h2 p c = i_fv h p c)
section
variable {A B : List Nat} {F G : List (Nat × Nat)}
theorem i_Fr.refl : i_Fr A F h h := ⟨fun _ _ => ⟨rfl, rfl⟩, fun _ _ _ => rfl⟩
theorem i_Fr.trans (a : i_Fr A F h h2) (b : i_Fr A F h2 h3) : i_Fr A F h h3 := ⟨fun p hp => ⟨((b.1 p hp).1).trans (a.1 p hp).1, ((b.1 p hp).2).trans (a.1 p hp).2⟩, fun p c hp => (b.2 p c hp).trans (a.2 p c hp)⟩
theorem i_Fr.mono (a : i_Fr A F h h2) (hA : ∀ p, p ∈ A → p ∈ B) (hF : ∀ p, p ∈ F → p ∈ G) : i_Fr B G h h2 := ⟨fun p hp => a.1 p (fun z => hp (hA p z)), fun p c hp => a.2 p c (fun z => hp (hF _ z))⟩
theorem i_Fr.rI (a : i_Fr A F h h2) {p : Nat} (hp : p ∉ A) : aI h2 p = aI h p := (a.1 p hp).1
theorem i_Fr.rJ (a : i_Fr A F h h2) {p : Nat} (hp : p ∉ A) : aJ h2 p = aJ h p := (a.1 p hp).2
theorem i_Fr.vI (a : i_Fr A F h h2) {p c : Nat} (hp : (p, c) ∉ F) : fI h2 p c = fI h p c := by rw [fI_v, fI_v, a.2 p c hp]
theorem i_Fr.vJ (a : i_Fr A F h h2) {p c : Nat} (hp : (p, c) ∉ F) : fJ h2 p c = fJ h p c := by rw [fJ_v, fJ_v, a.2 p c hp]
theorem i_Fr.vR (a : i_Fr A F h h2) {p c : Nat} (hp : (p, c) ∉ F) : fR h2 p c = fR h p c := by rw [fR_v, fR_v, a.2 p c hp]
theorem i_Fr.siI (a : i_Fr A F h h2) {q i : Nat} {x : Int32} (hq : q ∈ A) : i_Fr A F h (i_siI h2 q i x) := a.trans ⟨fun p hp => ⟨x_aI_siI_ne (fun z => hp (z ▸ hq)), x_aJ_siI⟩, fun _ _ _ => x_fv_siI⟩
theorem i_Fr.siJ (a : i_Fr A F h h2) {q i : Nat} {x : Int64} (hq : q ∈ A) : i_Fr A F h (i_siJ h2 q i x) := a.trans ⟨fun p hp => ⟨x_aI_siJ, x_aJ_siJ_ne (fun z => hp (z ▸ hq))⟩, fun _ _ _ => x_fv_siJ⟩
theorem i_Fr.sf (a : i_Fr A F h h2) {q b : Nat} {x : Value} (hq : (q, b) ∈ F) : i_Fr A F h (i_sf h2 q b x) := a.trans ⟨fun p _ => ⟨x_aI_sf, x_aJ_sf⟩, fun p c hp => x_fv_sf_ne (fun z => hp (z ▸ hq))⟩
theorem i_Fr.set (a : i_Fr A F h h2) {q : Nat} {e e2 : Nat × vp_A} (hq : q ∈ A) (he : h2[q]? = some (.inl e)) : i_Fr A F h (h2.set q (.inl e2)) := a.trans ⟨fun p hp => by
  have hne : p ≠ q := fun z => hp (z ▸ hq)
  constructor
  · unfold aI
    rw [List.getElem?_set_ne (fun z => hne z.symm)]
  · unfold aJ
    rw [List.getElem?_set_ne (fun z => hne z.symm)], fun _ _ _ => x_fv_set he⟩
end
theorem x_aI_set {t q n : Nat} {f g : Nat → Int32} (e : i_arI h t q = some (n, f)) : aI (h.set q (.inl (t, n, .inl g))) q = g := by
  unfold aI
  rw [List.getElem?_set_self (List.getElem?_eq_some_iff.mp (i_arI_s e)).1]
theorem x_aJ_set {q n : Nat} {f g : Nat → Int64} (e : i_arJ h q = some (n, f)) : aJ (h.set q (.inl (1, n, .inr (.inl g)))) q = g := by
  unfold aJ
  rw [List.getElem?_set_self (List.getElem?_eq_some_iff.mp (i_arJ_s e)).1]
end
/-! numbers -/
def i_n (k : Nat) : Int32 := Int32.ofNat k
def i_m : Int32 := -1
theorem n_lit (k : Nat) : (no_index (OfNat.ofNat k : Int32)) = i_n k := rfl
theorem n_m : -(i_n 1) = i_m := rfl
theorem n_add (a b : Nat) : i_n a + i_n b = i_n (a + b) := (Int32.ofNat_add a b).symm
theorem n_mul (a b : Nat) : i_n a * i_n b = i_n (a * b) := (Int32.ofNat_mul a b).symm
theorem n_sub {a b : Nat} (h : b ≤ a) : i_n a - i_n b = i_n (a - b) := (Int32.ofNat_sub a b h).symm
theorem n_div {a b : Nat} (ha : a < 2147483648) (hb : b < 2147483648) : i_n a / i_n b = i_n (a / b) := (Int32.ofNat_div ha hb).symm
theorem n_mod {a b : Nat} (ha : a < 2147483648) (hb : b < 2147483648) : i_n a - i_n (a / b * b) = i_n (a % b) := by
  rw [n_sub (Nat.div_mul_le_self a b)]
  congr 1
  have := Nat.div_add_mod a b
  rw [Nat.mul_comm] at this
  omega
theorem n_cl {a : Nat} (ha : a < 2147483648) : (i_n a).toNatClampNeg = a := Int32.toNatClampNeg_ofNat_of_lt ha
theorem n_int {a : Nat} (ha : a < 2147483648) : (i_n a).toInt = a := Int32.toInt_ofNat_of_lt ha
theorem n_lt {a b : Nat} (ha : a < 2147483648) (hb : b < 2147483648) : i_n a < i_n b ↔ a < b := Int32.ofNat_lt_iff_lt ha hb
theorem n_le {a b : Nat} (ha : a < 2147483648) (hb : b < 2147483648) : i_n a ≤ i_n b ↔ a ≤ b := Int32.ofNat_le_iff_le ha hb
theorem n_eq {a b : Nat} (ha : a < 2147483648) (hb : b < 2147483648) : i_n a = i_n b ↔ a = b := by
  constructor
  · intro h
    have := congrArg Int32.toNatClampNeg h
    rwa [n_cl ha, n_cl hb] at this
  · intro h
    rw [h]
theorem n_mint : i_m.toInt = -1 := rfl
theorem n_mcl : i_m.toNatClampNeg = 0 := rfl
theorem n_eqm {a : Nat} (ha : a < 2147483648) : (i_n a = i_m) = False := by
  refine eq_false (fun h => ?_)
  have h2 := congrArg Int32.toInt h
  rw [n_int ha, n_mint] at h2
  omega
theorem n_meq {a : Nat} (ha : a < 2147483648) : (i_m = i_n a) = False := by
  refine eq_false (fun h => ?_)
  rw [eq_comm, n_eqm ha] at h
  exact h
theorem n_mlt {a : Nat} (ha : a < 2147483648) : (i_m < i_n a) = True := by
  refine eq_true ?_
  rw [Int32.lt_iff_toInt_lt, n_int ha, n_mint]
  omega
theorem n_ltm {a : Nat} (ha : a < 2147483648) : (i_n a < i_m) = False := by
  refine eq_false (fun h => ?_)
  rw [Int32.lt_iff_toInt_lt, n_int ha, n_mint] at h
  omega
theorem n_mle {a : Nat} (ha : a < 2147483648) : (i_m ≤ i_n a) = True := by
  refine eq_true ?_
  rw [Int32.le_iff_toInt_le, n_int ha, n_mint]
  omega
theorem n_lem {a : Nat} (ha : a < 2147483648) : (i_n a ≤ i_m) = False := by
  refine eq_false (fun h => ?_)
  rw [Int32.le_iff_toInt_le, n_int ha, n_mint] at h
  omega
theorem n_in {a N : Nat} (ha : a < 2147483648) : i_in (i_n a) N ↔ a < N := by
  unfold i_in
  rw [n_cl ha, Int32.lt_iff_toInt_lt, n_int ha, show ((0 : Int32).toInt) = 0 from rfl]
  omega
theorem n_inM {N : Nat} : i_in i_m N = False := by
  refine eq_false (fun h => h (Or.inl ?_))
  rw [Int32.lt_iff_toInt_lt, n_mint]
  decide
/-- any number at all is a natural, or below 0 -/
theorem n_cases (x : Int32) : (∃ a, a < 2147483648 ∧ x = i_n a) ∨ x < i_n 0 := by
  by_cases h : x < 0
  · exact Or.inr h
  · refine Or.inl ⟨x.toNatClampNeg, Int32.toNatClampNeg_lt x, ?_⟩
    exact (Int32.ofNat_toNatClampNeg x (Int32.not_lt.mp h)).symm
/-! loops -/
/-- a loop that counts up from k to n -/
theorem l_up {P : Nat → Prop} {n : Nat} (he : P n) (hs : ∀ k, k < n → P (k + 1) → P k) : ∀ k, k ≤ n → P k := by
  intro k hk
  obtain ⟨d, rfl⟩ : ∃ d, n = k + d := ⟨n - k, by omega⟩
  clear hk
  induction d generalizing k with
  | zero => exact he
  | succ d ih =>
    refine hs k (by omega) (ih (k + 1) ?_ ?_)
    · rw [show k + 1 + d = k + (d + 1) by omega]; exact he
    · intro j hj; exact hs j (by omega)
