/-! A ROW OF ROWS, as the machine lays it, and as a row of references -/
section
theorem i_outer (cA : ClassId) (N h0 : Nat) : ∀ i, Jvm.Free.Multi.outerC cA N h0 i = arrV cA N (fun j => if j < i then .ref (h0 + 1 + j) else .null)
  | 0 => by
    rw [Jvm.Free.Multi.outerC, arrV_new]
    refine congrArg (arrV cA N) (funext fun j => ?_)
    rw [if_neg (Nat.not_lt_zero _)]
  | i + 1 => by
    rw [Jvm.Free.Multi.outerC, i_outer cA N h0 i, arrV_store]
    refine congrArg (arrV cA N) (funext fun j => ?_)
    unfold updV
    by_cases hj : j = i
    · subst hj
      rw [if_pos rfl, if_pos (Nat.lt_succ_self _)]
    · rw [if_neg hj]
      dsimp only
      by_cases hl : j < i
      · rw [if_pos hl, if_pos (by omega)]
      · rw [if_neg hl, if_neg (by omega)]
end
