/-! A WAY OF A METHOD, up to a label, run -/
section
variable {MT : Nat → Option i_M} {AT : Nat → Nat → Option (Instr × Nat × Nat)} {L : Nat} {xs : Nat → Int32} {Q : Option Value → iH → Prop}
def i_goB (MT : Nat → Option i_M) (AT : Nat → Nat → Option (Instr × Nat × Nat)) (stop : Nat) : Nat → Nat → Nat → iL → List Value → iH → Nat → Nat → Option (iL × List Value × iH × Nat × Nat)
  | 0, _, _, _, _, _, _, _ => none
  | n + 1, k, pc, lo, st, h, u, w => if pc = stop then some (lo, st, h, u, w) else match MT k, AT k pc with
    | some M, some (ins, a, b) =>
      if i_isR ins = true then none
      else if i_isC ins b = true then match MT a with
        | some M2 => match i_pop M2 st with
          | some (As, r) => if i_cc M M2 As r h u w = true then match i_exB MT AT n a 0 (i_lo0 As (i_ml M2)) [] h 0 0 with
            | some (v, h2) => if h2.length = h.length ∨ i_fr h.length lo r = true then i_goB MT AT stop n k (pc + 3) lo (v.toList ++ r) h2 (u + i_mc M2) (w + i_ms M2) else none
            | none => none else none
          | none => none
        | none => none
      else if i_no3 st = true then match i_step 0 (fun _ => 0) M ins a b pc lo st h u w with
        | some (pc2, lo2, st2, h2, u2, w2) => i_goB MT AT stop n k pc2 lo2 st2 h2 u2 w2
        | none => none
      else none
    | _, _ => none
theorem i_goB_P {stop : Nat} {lo3 : iL} {st3 : List Value} {h3 : iH} {u3 w3 k : Nat} (H : i_P MT AT L xs k stop lo3 st3 h3 u3 w3 Q) : ∀ (n pc : Nat) (lo : iL) (st : List Value) (h : iH) (u w : Nat), i_goB MT AT stop n k pc lo st h u w = some (lo3, st3, h3, u3, w3) → i_P MT AT L xs k pc lo st h u w Q
  | 0, _, _, _, _, _, _, hs => by rw [i_goB] at hs; cases hs
  | n + 1, pc, lo, st, h, u, w, hs => by
    rw [i_goB] at hs
    split at hs
    · rename_i e
      subst e
      cases hs
      exact H
    split at hs
    · rename_i M ins a b hM hA
      split at hs
      · cases hs
      · rename_i hR
        split at hs
        · rename_i hC
          split at hs
          · rename_i M2 hM2
            split at hs
            · rename_i As r hp
              split at hs
              · rename_i hcc
                split at hs
                · rename_i v h2 hr
                  split at hs
                  · rename_i hl
                    have r1 := i_exB_ex (L := L) (xs := xs) n _ _ _ _ _ _ _ _ hr
                    obtain ⟨n2, r4, h4, r2, q⟩ := i_goB_P H n _ _ _ _ _ _ hs
                    refine ⟨max n n2 + 1, r4, h4, ?_, q⟩
                    have r1 := i_more n (max n n2) _ _ _ _ _ _ _ _ (Nat.le_max_left _ _) r1
                    have r2 := i_more n2 (max n n2) _ _ _ _ _ _ _ _ (Nat.le_max_right _ _) r2
                    rw [i_ex]
                    simp only [hM, hA, hR, hC, hM2, hp, hcc, r1, if_true, if_false]
                    rw [if_pos hl]
                    exact r2
                  · cases hs
                · cases hs
              · cases hs
            · cases hs
          · cases hs
        · rename_i hC
          split at hs
          · rename_i h3
            split at hs
            · rename_i pc2 lo2 st2 h2 u2 w2 hst
              obtain ⟨n2, r4, h4, r2, q⟩ := i_goB_P H n _ _ _ _ _ _ hs
              rw [← i_step_0 (L := L) (xs := xs) h3] at hst
              refine ⟨n2 + 1, r4, h4, ?_, q⟩
              rw [i_ex]
              simp only [hM, hA, hR, hC, hst, if_true, if_false]
              exact r2
            · cases hs
          · cases hs
    · cases hs
end
