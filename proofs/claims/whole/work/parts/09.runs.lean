/-! RUNS: instruction by instruction, calls by the same fuel; whatever a run answers the machine does -/
def i_sl : List Value → iL
  | [] => []
  | v :: vs => if v.category = 2 then some v :: none :: i_sl vs else some v :: i_sl vs
def i_lo0 (args : List Value) (n : Nat) : iL := i_sl args ++ List.replicate (n - (i_sl args).length) none
def i_cv (ad ox : Nat → Nat) (o : Option Value) : Slot := match o with
  | some v => .val (i_tr ad ox v)
  | none => .second
theorem i_sl_lg (ad ox : Nat → Nat) : ∀ args : List Value, lg_sl (args.map (i_tr ad ox)) = (i_sl args).map (i_cv ad ox)
  | [] => rfl
  | v :: vs => by
    have ih := i_sl_lg ad ox vs
    unfold lg_sl at ih ⊢
    rw [List.map_cons, List.flatMap_cons, ih, i_tr_cat]
    rw [show i_sl (v :: vs) = if v.category = 2 then some v :: none :: i_sl vs else some v :: i_sl vs from rfl]
    by_cases hc : v.category = 2
    · rw [if_pos hc, if_pos hc]
      rfl
    · rw [if_neg hc, if_neg hc]
      rfl
theorem i_LR_entry (ad ox : Nat → Nat) (args : List Value) (n : Nat) (h : (i_sl args).length ≤ n) : i_LR ad ox (i_lo0 args n) ((lg_sl (args.map (i_tr ad ox)) ++ List.replicate (n - (lg_sl (args.map (i_tr ad ox))).length) Slot.unset).toArray) n := by
  have hlen : (lg_sl (args.map (i_tr ad ox))).length = (i_sl args).length := by rw [i_sl_lg, List.length_map]
  have he := lv_entry (args.map (i_tr ad ox)) (n := n) (by rw [hlen]; exact h)
  refine ⟨by simp [i_lo0]; omega, he.1, he.2.1, fun i v hv => ?_⟩
  unfold i_lo0 at hv
  by_cases hi : i < (i_sl args).length
  · rw [List.getElem?_append_left hi] at hv
    rw [List.getElem?_toArray, List.getElem?_append_left (by rw [hlen]; exact hi), i_sl_lg, List.getElem?_map, hv]
    rfl
  · rw [List.getElem?_append_right (by omega)] at hv
    have := List.getElem?_eq_some_iff.mp hv
    obtain ⟨q1, q2⟩ := this
    rw [List.getElem_replicate] at q2
    cases q2
def i_ret (t : Option FieldType) (v : Int32) : Bool := match t with
  | some .int => true
  | some .boolean => v == 0 || v == 1
  | some .char => decide (narrow .char (.int v) = .int v)
  | some .byte => decide (narrow .byte (.int v) = .int v)
  | _ => false
theorem i_ret_ok {t : Option FieldType} {v : Int32} (h : i_ret t v = true) : ∃ ty, t = some ty ∧ narrow ty (.int v) = .int v := by
  unfold i_ret at h
  split at h
  · exact ⟨_, rfl, rfl⟩
  · simp only [Bool.or_eq_true, beq_iff_eq] at h
    rcases h with rfl | rfl
    · exact ⟨_, rfl, rfl⟩
    · exact ⟨_, rfl, rfl⟩
  · exact ⟨_, rfl, of_decide_eq_true h⟩
  · exact ⟨_, rfl, of_decide_eq_true h⟩
  · cases h
def i_pop (M2 : i_M) (st : List Value) : Option (List Value × List Value) := if i_na M2 ≤ st.length then (if i_ki M2 = 0 then some ((st.take (i_na M2)).reverse, st.drop (i_na M2)) else match st.drop (i_na M2) with
  | v :: r => some (v :: (st.take (i_na M2)).reverse, r)
  | [] => none) else none
def i_rcv (M2 : i_M) (h : iH) (As : List Value) : Bool := if i_ki M2 = 0 then true else match As with
  | .ref q :: _ => match h[q]? with
    | some (.inr (ci, _)) => i_ki M2 == 2 || ci == i_cl M2
    | _ => false
  | .retAddr j :: _ => i_ki M2 == 1 && i_cl M2 == 100 && (i_oR j).isSome
  | _ => false
def i_cc (M M2 : i_M) (As r : List Value) (h : iH) (u w : Nat) : Bool := i_rcv M2 h As && decide ((r.map fun v => v.category).sum ≤ 8) && decide ((i_sl As).length ≤ i_ml M2) && decide (u + i_mc M2 ≤ i_mc M) && decide (w + i_ms M2 ≤ i_ms M) && decide (i_fm M2 + 1 ≤ i_fm M) && decide (8 + (i_ml M2 + 11) + i_lc M2 ≤ i_lc M)
def i_isC (ins : Instr) (b : Nat) : Bool := match ins with
  | .invokevirtual _ => true
  | .invokespecial _ => b != 9
  | .invokestatic _ => b != 9
  | _ => false
def i_isR (ins : Instr) : Bool := match ins with
  | .ireturn => true
  | .lreturn => true
  | .return_ => true
  | _ => false
def i_end (M : i_M) (ins : Instr) (st : List Value) (h : iH) (u w : Nat) : Option (Option Value × iH) := if u ≤ i_mc M ∧ w ≤ i_ms M then (match ins, st with
  | .ireturn, [.int v] => if i_ret (i_re M) v = true then some (some (.int v), h) else none
  | .lreturn, [.long v] => if i_re M = some .long then some (some (.long v), h) else none
  | .return_, [] => if i_re M = none then some (none, h) else none
  | _, _ => none) else none
/-- a run: method k from pc on -/
def i_ex (MT : Nat → Option i_M) (AT : Nat → Nat → Option (Instr × Nat × Nat)) (L : Nat) (xs : Nat → Int32) : Nat → Nat → Nat → iL → List Value → iH → Nat → Nat → Option (Option Value × iH)
  | 0, _, _, _, _, _, _, _ => none
  | n + 1, k, pc, lo, st, h, u, w => match MT k, AT k pc with
    | some M, some (ins, a, b) =>
      if i_isR ins = true then i_end M ins st h u w
      else if i_isC ins b = true then match MT a with
        | some M2 => match i_pop M2 st with
          | some (As, r) => if i_cc M M2 As r h u w = true then match i_ex MT AT L xs n a 0 (i_lo0 As (i_ml M2)) [] h 0 0 with
            | some (v, h2) => if h2.length = h.length ∨ i_fr h.length lo r = true then i_ex MT AT L xs n k (pc + 3) lo (v.toList ++ r) h2 (u + i_mc M2) (w + i_ms M2) else none
            | none => none else none
          | none => none
        | none => none
      else match i_step L xs M ins a b pc lo st h u w with
        | some (pc2, lo2, st2, h2, u2, w2) => i_ex MT AT L xs n k pc2 lo2 st2 h2 u2 w2
        | none => none
    | _, _ => none
/-- one step of a run -/
theorem i_ex_s {MT : Nat → Option i_M} {AT : Nat → Nat → Option (Instr × Nat × Nat)} {L : Nat} {xs : Nat → Int32} {n k pc : Nat} {lo : iL} {st : List Value} {h h3 : iH} {u w : Nat} {r : Option Value} (hs : i_ex MT AT L xs (n + 1) k pc lo st h u w = some (r, h3)) :
    ∃ M ins a b, MT k = some M ∧ AT k pc = some (ins, a, b) ∧
      ((i_isR ins = true ∧ i_end M ins st h u w = some (r, h3)) ∨
       (i_isC ins b = true ∧ ∃ M2 As rr v h2, MT a = some M2 ∧ i_pop M2 st = some (As, rr) ∧ i_cc M M2 As rr h u w = true ∧ i_ex MT AT L xs n a 0 (i_lo0 As (i_ml M2)) [] h 0 0 = some (v, h2) ∧ (h2.length = h.length ∨ i_fr h.length lo rr = true) ∧ i_ex MT AT L xs n k (pc + 3) lo (v.toList ++ rr) h2 (u + i_mc M2) (w + i_ms M2) = some (r, h3)) ∨
       (i_isR ins = false ∧ i_isC ins b = false ∧ ∃ pc2 lo2 st2 h2 u2 w2, i_step L xs M ins a b pc lo st h u w = some (pc2, lo2, st2, h2, u2, w2) ∧ i_ex MT AT L xs n k pc2 lo2 st2 h2 u2 w2 = some (r, h3))) := by
  rw [i_ex] at hs
  split at hs
  · rename_i M ins a b hM hA
    refine ⟨M, ins, a, b, hM, hA, ?_⟩
    split at hs
    · rename_i hR
      exact Or.inl ⟨hR, hs⟩
    · rename_i hR
      split at hs
      · rename_i hC
        split at hs
        · rename_i M2 hM2
          split at hs
          · rename_i As rr hpop
            split at hs
            · rename_i hcc
              split at hs
              · rename_i v h2 hrun
                split at hs
                · rename_i hfr
                  exact Or.inr (Or.inl ⟨hC, M2, As, rr, v, h2, hM2, hpop, hcc, hrun, hfr, hs⟩)
                · cases hs
              · cases hs
            · cases hs
          · cases hs
        · cases hs
      · rename_i hC
        split at hs
        · rename_i pc2 lo2 st2 h2 u2 w2 hstep
          exact Or.inr (Or.inr ⟨by simpa using hR, by simpa using hC, pc2, lo2, st2, h2, u2, w2, hstep, hs⟩)
        · cases hs
  · cases hs
theorem i_end_s {M : i_M} {ins : Instr} {st : List Value} {h h3 : iH} {u w : Nat} {r : Option Value} (hs : i_end M ins st h u w = some (r, h3)) : u ≤ i_mc M ∧ w ≤ i_ms M ∧ h3 = h ∧
    ((∃ v, ins = .ireturn ∧ st = [.int v] ∧ r = some (.int v) ∧ i_ret (i_re M) v = true) ∨ (∃ v, ins = .lreturn ∧ st = [.long v] ∧ r = some (.long v) ∧ i_re M = some .long) ∨ (ins = .return_ ∧ st = [] ∧ r = none ∧ i_re M = none)) := by
  unfold i_end at hs
  obtain ⟨⟨h1, h2⟩, hs2⟩ := i_if_s hs
  clear hs
  refine ⟨h1, h2, ?_⟩
  split at hs2
  · rename_i v
    obtain ⟨h3, hs3⟩ := i_if_s hs2
    cases hs3
    exact ⟨rfl, Or.inl ⟨v, rfl, rfl, rfl, h3⟩⟩
  · rename_i v
    obtain ⟨h3, hs3⟩ := i_if_s hs2
    cases hs3
    exact ⟨rfl, Or.inr (Or.inl ⟨v, rfl, rfl, rfl, h3⟩)⟩
  · obtain ⟨h3, hs3⟩ := i_if_s hs2
    cases hs3
    exact ⟨rfl, Or.inr (Or.inr ⟨rfl, rfl, rfl, h3⟩)⟩
  · cases hs2
theorem i_n_ex {MT : Nat → Option i_M} {AT : Nat → Nat → Option (Instr × Nat × Nat)} {L : Nat} {xs : Nat → Int32} : ∀ (n k pc : Nat) (lo : iL) (st : List Value) (h : iH) (u w : Nat) (r : Option Value) (h3 : iH), i_ex MT AT L xs n k pc lo st h u w = some (r, h3) → h.length ≤ h3.length
  | 0, _, _, _, _, _, _, _, _, _, hs => by rw [i_ex] at hs; cases hs
  | n + 1, k, pc, lo, st, h, u, w, r, h3, hs => by
    obtain ⟨M, ins, a, b, hM, hA, h1 | h1 | h1⟩ := i_ex_s hs
    · rw [(i_end_s h1.2).2.2.1]
      exact Nat.le_refl _
    · obtain ⟨-, M2, As, rr, v, h2, -, -, -, q1, -, q2⟩ := h1
      exact Nat.le_trans (i_n_ex n _ _ _ _ _ _ _ _ _ q1) (i_n_ex n _ _ _ _ _ _ _ _ _ q2)
    · obtain ⟨-, -, pc2, lo2, st2, h2, u2, w2, q1, q2⟩ := h1
      exact Nat.le_trans (i_n_step q1) (i_n_ex n _ _ _ _ _ _ _ _ _ q2)
