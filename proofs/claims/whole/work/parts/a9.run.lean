/-! A RUN OF WHAT HAS NOTHING TO DO WITH THE LAW'S LIST -/
section
def i_no3 (st : List Value) : Bool := st.all (fun v => match v with | .retAddr 3 => false | _ => true)
theorem i_oA_0 {L : Nat} {xs : Nat → Int32} {j : Nat} (h : j ≠ 3) : i_oA L xs j = i_oA 0 (fun _ => 0) j := by
  unfold i_oA
  split <;> first | rfl | exact absurd rfl h
theorem i_no3_c {v : Value} {r : List Value} (h : i_no3 (v :: r) = true) : (∀ j, v = .retAddr j → j ≠ 3) ∧ i_no3 r = true := by
  unfold i_no3 at h ⊢
  rw [List.all_cons, Bool.and_eq_true] at h
  refine ⟨fun j e => ?_, h.2⟩
  subst e
  intro e3
  subst e3
  exact absurd h.1 (by decide)
theorem i_aget_0 {L : Nat} {xs : Nat → Int32} {pc : Nat} {lo : iL} {st : List Value} {h : iH} {u w : Nat} (hn : i_no3 st = true) : i_aget L xs pc lo st h u w = i_aget 0 (fun _ => 0) pc lo st h u w := by
  unfold i_aget
  split
  · rfl
  · rw [i_oA_0 ((i_no3_c (i_no3_c hn).2).1 _ rfl)]
  · rfl
theorem i_alen_0 {L : Nat} {xs : Nat → Int32} {pc : Nat} {lo : iL} {st : List Value} {h : iH} {u w : Nat} (hn : i_no3 st = true) : i_alen L xs pc lo st h u w = i_alen 0 (fun _ => 0) pc lo st h u w := by
  unfold i_alen
  split
  · rfl
  · rw [i_oA_0 ((i_no3_c hn).1 _ rfl)]
  · rfl
theorem i_copy_0 {L : Nat} {xs : Nat → Int32} {Rf Rl pc : Nat} {lo : iL} {st : List Value} {h : iH} {u w : Nat} (hn : i_no3 st = true) : i_copy L xs Rf Rl pc lo st h u w = i_copy 0 (fun _ => 0) Rf Rl pc lo st h u w := by
  unfold i_copy
  split
  · rfl
  · rw [i_oA_0 ((i_no3_c (i_no3_c (i_no3_c (i_no3_c (i_no3_c hn).2).2).2).2).1 _ rfl)]
  · rfl
theorem i_step_0 {L : Nat} {xs : Nat → Int32} {M : i_M} {ins : Instr} {a b pc : Nat} {lo : iL} {st : List Value} {h : iH} {u w : Nat} (hn : i_no3 st = true) : i_step L xs M ins a b pc lo st h u w = i_step 0 (fun _ => 0) M ins a b pc lo st h u w := by
  unfold i_step
  split
  case h_3 => exact i_aget_0 hn
  case h_11 => exact i_alen_0 hn
  case h_22 => rw [i_copy_0 hn]
  all_goals rfl
/-- the run, by a machine that knows no list -/
def i_exB (MT : Nat → Option i_M) (AT : Nat → Nat → Option (Instr × Nat × Nat)) : Nat → Nat → Nat → iL → List Value → iH → Nat → Nat → Option (Option Value × iH)
  | 0, _, _, _, _, _, _, _ => none
  | n + 1, k, pc, lo, st, h, u, w => match MT k, AT k pc with
    | some M, some (ins, a, b) =>
      if i_isR ins = true then i_end M ins st h u w
      else if i_isC ins b = true then match MT a with
        | some M2 => match i_pop M2 st with
          | some (As, r) => if i_cc M M2 As r h u w = true then match i_exB MT AT n a 0 (i_lo0 As (i_ml M2)) [] h 0 0 with
            | some (v, h2) => if h2.length = h.length ∨ i_fr h.length lo r = true then i_exB MT AT n k (pc + 3) lo (v.toList ++ r) h2 (u + i_mc M2) (w + i_ms M2) else none
            | none => none else none
          | none => none
        | none => none
      else if i_no3 st = true then match i_step 0 (fun _ => 0) M ins a b pc lo st h u w with
        | some (pc2, lo2, st2, h2, u2, w2) => i_exB MT AT n k pc2 lo2 st2 h2 u2 w2
        | none => none
      else none
    | _, _ => none
theorem i_exB_ex {MT : Nat → Option i_M} {AT : Nat → Nat → Option (Instr × Nat × Nat)} {L : Nat} {xs : Nat → Int32} : ∀ (n k pc : Nat) (lo : iL) (st : List Value) (h : iH) (u w : Nat) (z : Option Value × iH), i_exB MT AT n k pc lo st h u w = some z → i_ex MT AT L xs n k pc lo st h u w = some z
  | 0, _, _, _, _, _, _, _, _, hs => by rw [i_exB] at hs; cases hs
  | n + 1, k, pc, lo, st, h, u, w, z, hs => by
    rw [i_exB] at hs
    rw [i_ex]
    split at hs
    · rename_i M ins a b hM hA
      split at hs
      · rename_i hR
        simp only [hM, hA, hR, if_true]
        exact hs
      · rename_i hR
        split at hs
        · rename_i hC
          split at hs
          · rename_i M2 hM2
            split at hs
            · rename_i As r hp
              split at hs
              · rename_i hcc
                split at hs
                · rename_i v h2 hr
                  split at hs
                  · rename_i hl
                    have r1 := i_exB_ex (L := L) (xs := xs) n _ _ _ _ _ _ _ _ hr
                    have r2 := i_exB_ex (L := L) (xs := xs) n _ _ _ _ _ _ _ _ hs
                    simp only [hM, hA, hR, hC, hM2, hp, hcc, r1, if_true, if_false]
                    rw [if_pos hl]
                    exact r2
                  · cases hs
                · cases hs
              · cases hs
            · cases hs
          · cases hs
        · rename_i hC
          split at hs
          · rename_i h3
            split at hs
            · rename_i pc2 lo2 st2 h2 u2 w2 hst
              have r2 := i_exB_ex (L := L) (xs := xs) n _ _ _ _ _ _ _ _ hs
              rw [← i_step_0 (L := L) (xs := xs) h3] at hst
              simp only [hM, hA, hR, hC, hst, if_true, if_false]
              exact r2
            · cases hs
          · cases hs
    · cases hs
end
