/-! THE CLASS'S WORLD IS MADE -/
section
set_option maxRecDepth 100000
def i_vE (v w : Value) : Bool := match v, w with
  | .int a, .int b => a == b
  | .long a, .long b => a == b
  | .ref a, .ref b => a == b
  | .retAddr a, .retAddr b => a == b
  | _, _ => false
theorem i_vE_s {v w : Value} (h : i_vE v w = true) : v = w := by
  cases v <;> cases w <;> first | (simp only [i_vE, beq_iff_eq] at h; rw [h]) | (cases h)
def i_vsE : List Value → List Value → Bool
  | [], [] => true
  | a :: r, b :: s => i_vE a b && i_vsE r s
  | _, _ => false
theorem i_vsE_s : ∀ {v w : List Value}, i_vsE v w = true → v = w
  | [], [], _ => rfl
  | a :: r, b :: s, h => by
    rw [i_vsE, Bool.and_eq_true] at h
    rw [i_vE_s h.1, i_vsE_s h.2]
  | [], _ :: _, h => by cases h
  | _ :: _, [], h => by cases h
def i_lsE : iL → iL → Bool
  | [], [] => true
  | some a :: r, some b :: s => i_vE a b && i_lsE r s
  | none :: r, none :: s => i_lsE r s
  | _, _ => false
theorem i_lsE_s : ∀ {v w : iL}, i_lsE v w = true → v = w
  | [], [], _ => rfl
  | some a :: r, some b :: s, h => by
    rw [i_lsE, Bool.and_eq_true] at h
    rw [i_vE_s h.1, i_lsE_s h.2]
  | none :: r, none :: s, h => by
    rw [i_lsE] at h
    rw [i_lsE_s h]
  | [], _ :: _, h => by cases h
  | some _ :: _, [], h => by cases h
  | none :: _, [], h => by cases h
  | some _ :: _, none :: _, h => by cases h
  | none :: _, some _ :: _, h => by cases h
abbrev i_GSt : Type := iL × List Value × iH × Nat × Nat
def i_wd (G : Option i_GSt) : iH := match G with
  | some s => s.2.2.1
  | none => []
def i_stE (lo : iL) (st : List Value) (u w : Nat) (s : i_GSt) : Bool := i_lsE s.1 lo && i_vsE s.2.1 st && (s.2.2.2.1 == u && s.2.2.2.2 == w)
theorem i_stE_s {G : Option i_GSt} {lo : iL} {st : List Value} {u w : Nat} (h : G.map (i_stE lo st u w) = some true) : G = some (lo, st, i_wd G, u, w) := by
  match G, h with
  | some (l2, s2, h2, u2, w2), h =>
    rw [Option.map_some, Option.some.injEq] at h
    unfold i_stE at h
    rw [Bool.and_eq_true, Bool.and_eq_true, Bool.and_eq_true, beq_iff_eq, beq_iff_eq] at h
    obtain ⟨⟨h1, h2⟩, h3, h4⟩ := h
    have h1 := i_lsE_s h1
    have h2 := i_vsE_s h2
    dsimp only at h1 h2 h3 h4
    subst h1 h2 h3 h4
    rfl
/-- the world before the tape is made: 11 cells -/
noncomputable def i_g11 : Option i_GSt := i_goB i_MT i_AT 35 400 128 0 (i_lo0 [.ref 0] 1) [] [.inr (11, i_dfl 11)] 0 0
theorem i_g11_e : i_g11 = some ([some (.ref 0)], [.ref 10, .ref 10, .ref 0], i_wd i_g11, 10, 297) := i_stE_s (by decide +kernel)
noncomputable def i_g14 : Option i_GSt := i_goB i_MT i_AT 85 400 82 0 (i_lo0 [.ref 10] 4) [] (i_wd i_g11) 0 0
theorem i_g14_e : i_g14 = some ([some (.ref 10), none, none, none], [.int 4, .ref 12], i_wd i_g14, 3, 1189) := i_stE_s (by decide +kernel)
noncomputable def i_W14 : iH := i_wd i_g14
theorem i_W14_l : 13 < i_W14.length := by decide +kernel
end
