/-! A RUN MAKES NO MORE THAN ITS METHOD MAY; calls of methods that make nothing -/
theorem i_m_get {a : Nat} {b : Nat} {pc pc2 u u2 w w2 : Nat} {lo lo2 : iL} {st st2 : List Value} {h h2 : iH} (hs : i_get a b pc lo st h u w = some (pc2, lo2, st2, h2, u2, w2)) : h2.length + u = h.length + u2 := by
  unfold i_get at hs
  (repeat' split at hs) <;> first | (cases hs; done) | (simp only [Option.some.injEq, Prod.mk.injEq] at hs; obtain ⟨-, -, -, e1, e2, -⟩ := hs; subst e1; subst e2; first | rfl | (simp; done) | (simp; omega))
theorem i_m_put {a : Nat} {b : Nat} {pc pc2 u u2 w w2 : Nat} {lo lo2 : iL} {st st2 : List Value} {h h2 : iH} (hs : i_put a b pc lo st h u w = some (pc2, lo2, st2, h2, u2, w2)) : h2.length + u = h.length + u2 := by
  unfold i_put at hs
  (repeat' split at hs) <;> first | (cases hs; done) | (simp only [Option.some.injEq, Prod.mk.injEq] at hs; obtain ⟨-, -, -, e1, e2, -⟩ := hs; subst e1; subst e2; first | rfl | (simp; done) | (simp; omega))
theorem i_m_aget {L : Nat} {xs : Nat → Int32} {pc pc2 u u2 w w2 : Nat} {lo lo2 : iL} {st st2 : List Value} {h h2 : iH} (hs : i_aget L xs pc lo st h u w = some (pc2, lo2, st2, h2, u2, w2)) : h2.length + u = h.length + u2 := by
  unfold i_aget at hs
  (repeat' split at hs) <;> first | (cases hs; done) | (simp only [Option.some.injEq, Prod.mk.injEq] at hs; obtain ⟨-, -, -, e1, e2, -⟩ := hs; subst e1; subst e2; first | rfl | (simp; done) | (simp; omega))
theorem i_m_lget {pc pc2 u u2 w w2 : Nat} {lo lo2 : iL} {st st2 : List Value} {h h2 : iH} (hs : i_lget  pc lo st h u w = some (pc2, lo2, st2, h2, u2, w2)) : h2.length + u = h.length + u2 := by
  unfold i_lget at hs
  (repeat' split at hs) <;> first | (cases hs; done) | (simp only [Option.some.injEq, Prod.mk.injEq] at hs; obtain ⟨-, -, -, e1, e2, -⟩ := hs; subst e1; subst e2; first | rfl | (simp; done) | (simp; omega))
theorem i_m_bget {pc pc2 u u2 w w2 : Nat} {lo lo2 : iL} {st st2 : List Value} {h h2 : iH} (hs : i_bget  pc lo st h u w = some (pc2, lo2, st2, h2, u2, w2)) : h2.length + u = h.length + u2 := by
  unfold i_bget at hs
  (repeat' split at hs) <;> first | (cases hs; done) | (simp only [Option.some.injEq, Prod.mk.injEq] at hs; obtain ⟨-, -, -, e1, e2, -⟩ := hs; subst e1; subst e2; first | rfl | (simp; done) | (simp; omega))
theorem i_m_rget {pc pc2 u u2 w w2 : Nat} {lo lo2 : iL} {st st2 : List Value} {h h2 : iH} (hs : i_rget  pc lo st h u w = some (pc2, lo2, st2, h2, u2, w2)) : h2.length + u = h.length + u2 := by
  unfold i_rget at hs
  (repeat' split at hs) <;> first | (cases hs; done) | (simp only [Option.some.injEq, Prod.mk.injEq] at hs; obtain ⟨-, -, -, e1, e2, -⟩ := hs; subst e1; subst e2; first | rfl | (simp; done) | (simp; omega))
theorem i_m_aput {pc pc2 u u2 w w2 : Nat} {lo lo2 : iL} {st st2 : List Value} {h h2 : iH} (hs : i_aput  pc lo st h u w = some (pc2, lo2, st2, h2, u2, w2)) : h2.length + u = h.length + u2 := by
  unfold i_aput at hs
  (repeat' split at hs) <;> first | (cases hs; done) | (simp only [Option.some.injEq, Prod.mk.injEq] at hs; obtain ⟨-, -, -, e1, e2, -⟩ := hs; subst e1; subst e2; first | rfl | (simp; done) | (simp; omega))
theorem i_m_lput {pc pc2 u u2 w w2 : Nat} {lo lo2 : iL} {st st2 : List Value} {h h2 : iH} (hs : i_lput  pc lo st h u w = some (pc2, lo2, st2, h2, u2, w2)) : h2.length + u = h.length + u2 := by
  unfold i_lput at hs
  (repeat' split at hs) <;> first | (cases hs; done) | (simp only [Option.some.injEq, Prod.mk.injEq] at hs; obtain ⟨-, -, -, e1, e2, -⟩ := hs; subst e1; subst e2; first | rfl | (simp; done) | (simp; omega))
theorem i_m_bput {pc pc2 u u2 w w2 : Nat} {lo lo2 : iL} {st st2 : List Value} {h h2 : iH} (hs : i_bput  pc lo st h u w = some (pc2, lo2, st2, h2, u2, w2)) : h2.length + u = h.length + u2 := by
  unfold i_bput at hs
  (repeat' split at hs) <;> first | (cases hs; done) | (simp only [Option.some.injEq, Prod.mk.injEq] at hs; obtain ⟨-, -, -, e1, e2, -⟩ := hs; subst e1; subst e2; first | rfl | (simp; done) | (simp; omega))
theorem i_m_rput {pc pc2 u u2 w w2 : Nat} {lo lo2 : iL} {st st2 : List Value} {h h2 : iH} (hs : i_rput  pc lo st h u w = some (pc2, lo2, st2, h2, u2, w2)) : h2.length + u = h.length + u2 := by
  unfold i_rput at hs
  (repeat' split at hs) <;> first | (cases hs; done) | (simp only [Option.some.injEq, Prod.mk.injEq] at hs; obtain ⟨-, -, -, e1, e2, -⟩ := hs; subst e1; subst e2; first | rfl | (simp; done) | (simp; omega))
theorem i_m_alen {L : Nat} {xs : Nat → Int32} {pc pc2 u u2 w w2 : Nat} {lo lo2 : iL} {st st2 : List Value} {h h2 : iH} (hs : i_alen L xs pc lo st h u w = some (pc2, lo2, st2, h2, u2, w2)) : h2.length + u = h.length + u2 := by
  unfold i_alen at hs
  (repeat' split at hs) <;> first | (cases hs; done) | (simp only [Option.some.injEq, Prod.mk.injEq] at hs; obtain ⟨-, -, -, e1, e2, -⟩ := hs; subst e1; subst e2; first | rfl | (simp; done) | (simp; omega))
theorem i_m_newa {Rc : Nat} {Rs : Nat} {a : Nat} {pc pc2 u u2 w w2 : Nat} {lo lo2 : iL} {st st2 : List Value} {h h2 : iH} (hs : i_newa Rc Rs a pc lo st h u w = some (pc2, lo2, st2, h2, u2, w2)) : h2.length + u = h.length + u2 := by
  unfold i_newa at hs
  (repeat' split at hs) <;> first | (cases hs; done) | (simp only [Option.some.injEq, Prod.mk.injEq] at hs; obtain ⟨-, -, -, e1, e2, -⟩ := hs; subst e1; subst e2; first | rfl | (simp; done) | (simp; omega))
theorem i_m_newr {Rc : Nat} {Rs : Nat} {pc pc2 u u2 w w2 : Nat} {lo lo2 : iL} {st st2 : List Value} {h h2 : iH} (hs : i_newr Rc Rs pc lo st h u w = some (pc2, lo2, st2, h2, u2, w2)) : h2.length + u = h.length + u2 := by
  unfold i_newr at hs
  (repeat' split at hs) <;> first | (cases hs; done) | (simp only [Option.some.injEq, Prod.mk.injEq] at hs; obtain ⟨-, -, -, e1, e2, -⟩ := hs; subst e1; subst e2; first | rfl | (simp; done) | (simp; omega))
theorem i_m_newo {Rc : Nat} {Rs : Nat} {a : Nat} {pc pc2 u u2 w w2 : Nat} {lo lo2 : iL} {st st2 : List Value} {h h2 : iH} (hs : i_newo Rc Rs a pc lo st h u w = some (pc2, lo2, st2, h2, u2, w2)) : h2.length + u = h.length + u2 := by
  unfold i_newo at hs
  (repeat' split at hs) <;> first | (cases hs; done) | (simp only [Option.some.injEq, Prod.mk.injEq] at hs; obtain ⟨-, -, -, e1, e2, -⟩ := hs; subst e1; subst e2; first | rfl | (simp; done) | (simp; omega))
theorem i_m_copy {L : Nat} {xs : Nat → Int32} {Rf : Nat} {Rl : Nat} {pc pc2 u u2 w w2 : Nat} {lo lo2 : iL} {st st2 : List Value} {h h2 : iH} (hs : i_copy L xs Rf Rl pc lo st h u w = some (pc2, lo2, st2, h2, u2, w2)) : h2.length + u = h.length + u2 := by
  unfold i_copy at hs
  (repeat' split at hs) <;> first | (cases hs; done) | (simp only [Option.some.injEq, Prod.mk.injEq] at hs; obtain ⟨-, -, -, e1, e2, -⟩ := hs; subst e1; subst e2; first | rfl | (simp; done) | (simp; omega))
theorem i_m_obj {Rf : Nat} {Rl : Nat} {pc pc2 u u2 w w2 : Nat} {lo lo2 : iL} {st st2 : List Value} {h h2 : iH} (hs : i_obj Rf Rl pc lo st h u w = some (pc2, lo2, st2, h2, u2, w2)) : h2.length + u = h.length + u2 := by
  unfold i_obj at hs
  (repeat' split at hs) <;> first | (cases hs; done) | (simp only [Option.some.injEq, Prod.mk.injEq] at hs; obtain ⟨-, -, -, e1, e2, -⟩ := hs; subst e1; subst e2; first | rfl | (simp; done) | (simp; omega))
theorem i_m_stat {a : Nat} {pc pc2 u u2 w w2 : Nat} {lo lo2 : iL} {st st2 : List Value} {h h2 : iH} (hs : i_stat a pc lo st h u w = some (pc2, lo2, st2, h2, u2, w2)) : h2.length + u = h.length + u2 := by
  unfold i_stat at hs
  (repeat' split at hs) <;> first | (cases hs; done) | (simp only [Option.some.injEq, Prod.mk.injEq] at hs; obtain ⟨-, -, -, e1, e2, -⟩ := hs; subst e1; subst e2; first | rfl | (simp; done) | (simp; omega))
theorem i_m_mna {Rc : Nat} {Rs : Nat} {pc pc2 u u2 w w2 : Nat} {lo lo2 : iL} {st st2 : List Value} {h h2 : iH} (hs : i_mna Rc Rs pc lo st h u w = some (pc2, lo2, st2, h2, u2, w2)) : h2.length + u = h.length + u2 := by
  unfold i_mna at hs
  (repeat' split at hs) <;> first | (cases hs; done) | (simp only [Option.some.injEq, Prod.mk.injEq] at hs; obtain ⟨-, -, -, e1, e2, -⟩ := hs; subst e1; subst e2; first | rfl | (simp; done) | (simp; omega))
theorem i_m_cst {ins : Instr} {a b pc pc2 u u2 w w2 : Nat} {lo lo2 : iL} {st st2 : List Value} {h h2 : iH} (hs : i_cst ins a b pc lo st h u w = some (pc2, lo2, st2, h2, u2, w2)) : h2.length + u = h.length + u2 := by
  unfold i_cst at hs
  (repeat' split at hs) <;> first | (cases hs; done) | (simp only [Option.some.injEq, Prod.mk.injEq] at hs; obtain ⟨-, -, -, e1, e2, -⟩ := hs; subst e1; subst e2; rfl)
theorem i_m_sw {dflt lo_ hi_ : Int} {offs : Array Int} {pc pc2 u u2 w w2 : Nat} {lo lo2 : iL} {st st2 : List Value} {h h2 : iH} (hs : i_sw dflt lo_ hi_ offs pc lo st h u w = some (pc2, lo2, st2, h2, u2, w2)) : h2.length + u = h.length + u2 := by
  obtain ⟨x, r, hst, hs2⟩ := i_1i_s hs
  clear hs
  (repeat' split at hs2) <;> first | (cases hs2; done) | (simp only [Option.some.injEq, Prod.mk.injEq] at hs2; obtain ⟨-, -, -, e1, e2, -⟩ := hs2; subst e1; subst e2; rfl)
theorem i_m_s1w {ins : Instr} {a pc pc2 u u2 w w2 : Nat} {lo lo2 : iL} {st st2 : List Value} {h h2 : iH} (hs : i_s1w ins a pc lo st h u w = some (pc2, lo2, st2, h2, u2, w2)) : h2.length + u = h.length + u2 := by
  unfold i_s1w at hs
  (repeat' split at hs) <;> first | (cases hs; done) | (simp only [Option.some.injEq, Prod.mk.injEq] at hs; obtain ⟨-, -, -, e1, e2, -⟩ := hs; subst e1; subst e2; rfl)
set_option maxHeartbeats 4000000 in
theorem i_m_step {L : Nat} {xs : Nat → Int32} {M : i_M} {ins : Instr} {a b pc pc2 u u2 w w2 : Nat} {lo lo2 : iL} {st st2 : List Value} {h h2 : iH} (hs : i_step L xs M ins a b pc lo st h u w = some (pc2, lo2, st2, h2, u2, w2)) : h2.length + u = h.length + u2 := by
  unfold i_step at hs
  split at hs
  · exact i_m_get hs
  · exact i_m_put hs
  · exact i_m_aget hs
  · exact i_m_lget hs
  · exact i_m_bget hs
  · exact i_m_rget hs
  · exact i_m_aput hs
  · exact i_m_lput hs
  · exact i_m_bput hs
  · exact i_m_rput hs
  · exact i_m_alen hs
  · exact i_m_newo hs
  · exact i_m_newa hs
  · exact i_m_newr hs
  · exact i_m_mna hs
  · exact i_m_cst hs
  · exact i_m_cst hs
  · exact i_m_cst hs
  · exact i_m_stat hs
  · exact i_m_sw hs
  · split at hs
    · exact i_m_obj hs
    · cases hs
  · split at hs
    · exact i_m_copy hs
    · cases hs
  · exact i_m_s1w hs
section IGR
variable {MT : Nat → Option i_M} {AT : Nat → Nat → Option (Instr × Nat × Nat)} {L : Nat} {xs : Nat → Int32}
theorem i_grow : ∀ (n k : Nat) (M : i_M) (pc : Nat) (lo : iL) (st : List Value) (h : iH) (u w : Nat) (r : Option Value) (h3 : iH), MT k = some M → i_ex MT AT L xs n k pc lo st h u w = some (r, h3) → h3.length + u ≤ h.length + i_mc M
  | 0, _, _, _, _, _, _, _, _, _, _, _, hs => by rw [i_ex] at hs; cases hs
  | n + 1, k, M, pc, lo, st, h, u, w, r, h3, hM, hs => by
    obtain ⟨M', ins, a, b, hM', hA, h1 | h1 | h1⟩ := i_ex_s hs
    · have hMM : M' = M := Option.some.inj (hM'.symm.trans hM)
      subst hMM
      obtain ⟨e1, -, e3, -⟩ := i_end_s h1.2
      rw [e3]
      omega
    · obtain ⟨-, M2, As, rr, v, h2, q1, -, -, q4, -, q6⟩ := h1
      have r1 := i_grow n a M2 _ _ _ _ _ _ _ _ q1 q4
      have r2 := i_grow n k M _ _ _ _ _ _ _ _ hM q6
      omega
    · obtain ⟨-, -, pc2, lo2, st2, h2, u2, w2, q1, q2⟩ := h1
      have r1 := i_m_step q1
      have r2 := i_grow n k M _ _ _ _ _ _ _ _ hM q2
      omega
variable {k pc : Nat} {lo : iL} {st : List Value} {h : iH} {u w : Nat} {Q : Option Value → iH → Prop} {M : i_M} {C : List i_En} {ins : Instr} {a b : Nat}
def i_cn2 (M M2 : i_M) (As r : List Value) (u w : Nat) : Bool := decide ((r.map fun v => v.category).sum ≤ 8) && decide ((i_sl As).length ≤ i_ml M2) && decide (u + i_mc M2 ≤ i_mc M) && decide (w + i_ms M2 ≤ i_ms M) && decide (i_fm M2 + 1 ≤ i_fm M) && decide (8 + (i_ml M2 + 11) + i_lc M2 ≤ i_lc M)
theorem i_cc_of {M M2 : i_M} {As r : List Value} (h1 : i_rcv M2 h As = true) (h2 : i_cn2 M M2 As r u w = true) : i_cc M M2 As r h u w = true := by
  unfold i_cn2 at h2
  unfold i_cc
  simp only [Bool.and_eq_true, decide_eq_true_eq] at h2 ⊢
  obtain ⟨⟨⟨⟨⟨a1, a2⟩, a3⟩, a4⟩, a5⟩, a6⟩ := h2
  exact ⟨⟨⟨⟨⟨⟨h1, a1⟩, a2⟩, a3⟩, a4⟩, a5⟩, a6⟩
/-- a call of a method that makes nothing -/
theorem g_call {M2 : i_M} {As rr : List Value} (hk : i_K MT AT k M C) (hc : i_fd2 C pc = some (ins, a, b)) (h2 : i_isC ins b = true) (hM2 : MT a = some M2) (hz : i_mc M2 = 0 ∧ i_ms M2 = 0) (hp : i_pop M2 st = some (As, rr)) (hr : i_rcv M2 h As = true) (hcc : i_cn2 M M2 As rr u w = true) (g : i_C MT AT L xs a As h (fun v h2 => i_P MT AT L xs k (pc + 3) lo (v.toList ++ rr) h2 u w Q)) : i_P MT AT L xs k pc lo st h u w Q := by
  refine g_callG hk hc h2 hM2 hp (i_cc_of hr hcc) ?_
  obtain ⟨M3, e1, e2, n1, v, hh2, g1, g2⟩ := g
  refine ⟨M3, e1, e2, n1, v, hh2, g1, Or.inl ?_, ?_⟩
  · have e3 : M3 = M2 := Option.some.inj (e1.symm.trans hM2)
    subst e3
    have r1 := i_grow n1 a M3 _ _ _ _ _ _ _ _ e1 g1
    have r2 := i_n_ex n1 _ _ _ _ _ _ _ _ _ g1
    omega
  · rw [hz.1, hz.2]
    exact g2
theorem i_rcv_0 {M2 : i_M} {As : List Value} (h1 : i_ki M2 = 0) : i_rcv M2 h As = true := by
  unfold i_rcv
  rw [if_pos h1]
theorem i_rcv_v {M2 : i_M} {q ci : Nat} {As : List Value} (ho : i_obj? h q ci) (h1 : i_cl M2 = ci) (h2 : i_ki M2 ≠ 0) : i_rcv M2 h (.ref q :: As) = true := by
  obtain ⟨fs, hfs⟩ := ho
  unfold i_rcv
  rw [if_neg h2]
  simp [hfs, h1]
theorem i_rcv_x {M2 : i_M} {j : Nat} {As : List Value} (ho : (i_oR j).isSome = true) (h1 : i_cl M2 = 100) (h2 : i_ki M2 = 1) : i_rcv M2 h (.retAddr j :: As) = true := by
  unfold i_rcv
  rw [if_neg (by omega)]
  simp [ho, h1, h2]
end IGR

