/-! WHAT A RUN COMES TO: i_P: from here method k comes to its end with Q; rules, an instruction each; u, w: what it has made so far -/
section IWP
variable {MT : Nat → Option i_M} {AT : Nat → Nat → Option (Instr × Nat × Nat)} {L : Nat} {xs : Nat → Int32}
theorem i_isRC {ins : Instr} (h : i_isR ins = true) : ∀ b, i_isC ins b = false := by
  intro b
  cases ins <;> first | rfl | (simp [i_isR] at h; done)
/-- more fuel does no harm -/
theorem i_more : ∀ (n m k pc : Nat) (lo : iL) (st : List Value) (h : iH) (u w : Nat) (z : Option Value × iH), n ≤ m → i_ex MT AT L xs n k pc lo st h u w = some z → i_ex MT AT L xs m k pc lo st h u w = some z
  | 0, _, _, _, _, _, _, _, _, _, _, hs => by rw [i_ex] at hs; cases hs
  | n + 1, 0, _, _, _, _, _, _, _, _, hm, _ => absurd hm (by omega)
  | n + 1, m + 1, k, pc, lo, st, h, u, w, z, hm, hs => by
    obtain ⟨r, h3⟩ := z
    obtain ⟨M, ins, a, b, hM, hA, h1 | h1 | h1⟩ := i_ex_s hs
    · rw [i_ex, hM, hA]
      simp only [h1.1, if_true]
      exact h1.2
    · obtain ⟨hC, M2, As, rr, v, h2, q1, q2, q3, q4, q5, q6⟩ := h1
      have hR : i_isR ins = false := by
        cases hr : i_isR ins with
        | false => rfl
        | true => rw [i_isRC hr b] at hC; cases hC
      have r1 := i_more n m _ _ _ _ _ _ _ _ (by omega) q4
      have r2 := i_more n m _ _ _ _ _ _ _ _ (by omega) q6
      rw [i_ex, hM, hA]
      simp only [hR, hC, if_true, q1, q2, q3, r1, q5, r2, Bool.false_eq_true, if_false]
    · obtain ⟨hR, hC, pc2, lo2, st2, h2, u2, w2, q1, q2⟩ := h1
      have r2 := i_more n m _ _ _ _ _ _ _ _ (by omega) q2
      rw [i_ex, hM, hA]
      simp only [hR, hC, q1, r2, Bool.false_eq_true, if_false]
/-- from pc on the method comes to its end, with Q of its answer and the world -/
def i_P (MT : Nat → Option i_M) (AT : Nat → Nat → Option (Instr × Nat × Nat)) (L : Nat) (xs : Nat → Int32) (k pc : Nat) (lo : iL) (st : List Value) (h : iH) (u w : Nat) (Q : Option Value → iH → Prop) : Prop := ∃ n r h3, i_ex MT AT L xs n k pc lo st h u w = some (r, h3) ∧ Q r h3
/-- the method, called with these -/
def i_C (MT : Nat → Option i_M) (AT : Nat → Nat → Option (Instr × Nat × Nat)) (L : Nat) (xs : Nat → Int32) (k : Nat) (av : List Value) (h : iH) (Q : Option Value → iH → Prop) : Prop := ∃ M, MT k = some M ∧ (i_sl av).length ≤ i_ml M ∧ i_P MT AT L xs k 0 (i_lo0 av (i_ml M)) [] h 0 0 Q
theorem i_P.mono {k pc : Nat} {lo : iL} {st : List Value} {h : iH} {u w : Nat} {Q Q2 : Option Value → iH → Prop} (hp : i_P MT AT L xs k pc lo st h u w Q) (hq : ∀ r h3, Q r h3 → Q2 r h3) : i_P MT AT L xs k pc lo st h u w Q2 := by
  obtain ⟨n, r, h3, a, b⟩ := hp
  exact ⟨n, r, h3, a, hq r h3 b⟩
theorem i_C.mono {k : Nat} {av : List Value} {h : iH} {Q Q2 : Option Value → iH → Prop} (hp : i_C MT AT L xs k av h Q) (hq : ∀ r h3, Q r h3 → Q2 r h3) : i_C MT AT L xs k av h Q2 := by
  obtain ⟨M, a, b, c⟩ := hp
  exact ⟨M, a, b, c.mono hq⟩
/-- a method and its code -/
def i_K (MT : Nat → Option i_M) (AT : Nat → Nat → Option (Instr × Nat × Nat)) (k : Nat) (M : i_M) (C : List i_En) : Prop := MT k = some M ∧ ∀ pc, AT k pc = i_fd2 C pc
variable {k pc : Nat} {lo : iL} {st : List Value} {h : iH} {u w : Nat} {Q : Option Value → iH → Prop} {M : i_M} {C : List i_En} {ins : Instr} {a b : Nat}
/-- one instruction that is no call and no return -/
theorem g_step (hk : i_K MT AT k M C) (hc : i_fd2 C pc = some (ins, a, b)) (h1 : i_isR ins = false) (h2 : i_isC ins b = false) {pc2 : Nat} {lo2 : iL} {st2 : List Value} {hh2 : iH} {u2 w2 : Nat} (hs : i_step L xs M ins a b pc lo st h u w = some (pc2, lo2, st2, hh2, u2, w2)) (g : i_P MT AT L xs k pc2 lo2 st2 hh2 u2 w2 Q) : i_P MT AT L xs k pc lo st h u w Q := by
  obtain ⟨n, r, h3, g1, g2⟩ := g
  refine ⟨n + 1, r, h3, ?_, g2⟩
  rw [i_ex, hk.1, hk.2, hc]
  simp only [h1, h2, hs, g1, Bool.false_eq_true, if_false]
theorem g_ireturn {v : Int32} (hk : i_K MT AT k M C) (hc : i_fd2 C pc = some (.ireturn, a, b)) (hu : u ≤ i_mc M) (hw : w ≤ i_ms M) (hr : i_ret (i_re M) v = true) (g : Q (some (.int v)) h) : i_P MT AT L xs k pc lo [.int v] h u w Q := by
  refine ⟨1, some (.int v), h, ?_, g⟩
  rw [i_ex, hk.1, hk.2, hc]
  show i_end M .ireturn [.int v] h u w = _
  unfold i_end
  rw [if_pos ⟨hu, hw⟩]
  show (if i_ret (i_re M) v = true then _ else _) = _
  rw [if_pos hr]
theorem g_lreturn {v : Int64} (hk : i_K MT AT k M C) (hc : i_fd2 C pc = some (.lreturn, a, b)) (hu : u ≤ i_mc M) (hw : w ≤ i_ms M) (hr : i_re M = some .long) (g : Q (some (.long v)) h) : i_P MT AT L xs k pc lo [.long v] h u w Q := by
  refine ⟨1, some (.long v), h, ?_, g⟩
  rw [i_ex, hk.1, hk.2, hc]
  show i_end M .lreturn [.long v] h u w = _
  unfold i_end
  rw [if_pos ⟨hu, hw⟩]
  show (if i_re M = some .long then _ else _) = _
  rw [if_pos hr]
theorem g_return (hk : i_K MT AT k M C) (hc : i_fd2 C pc = some (.return_, a, b)) (hu : u ≤ i_mc M) (hw : w ≤ i_ms M) (hr : i_re M = none) (g : Q none h) : i_P MT AT L xs k pc lo [] h u w Q := by
  refine ⟨1, none, h, ?_, g⟩
  rw [i_ex, hk.1, hk.2, hc]
  show i_end M .return_ [] h u w = _
  unfold i_end
  rw [if_pos ⟨hu, hw⟩]
  show (if i_re M = none then _ else _) = _
  rw [if_pos hr]
/-- a call -/
theorem g_callG {M2 : i_M} {As rr : List Value} (hk : i_K MT AT k M C) (hc : i_fd2 C pc = some (ins, a, b)) (h2 : i_isC ins b = true) (hM2 : MT a = some M2) (hp : i_pop M2 st = some (As, rr)) (hcc : i_cc M M2 As rr h u w = true) (g : i_C MT AT L xs a As h (fun v h2 => (h2.length = h.length ∨ i_fr h.length lo rr = true) ∧ i_P MT AT L xs k (pc + 3) lo (v.toList ++ rr) h2 (u + i_mc M2) (w + i_ms M2) Q)) : i_P MT AT L xs k pc lo st h u w Q := by
  obtain ⟨M3, e1, e2, n1, v, hh2, g1, g2, n2, r, h3, g3, g4⟩ := g
  have e3 : M3 = M2 := Option.some.inj (e1.symm.trans hM2)
  subst e3
  have hR : i_isR ins = false := by
    cases hr : i_isR ins with
    | false => rfl
    | true => rw [i_isRC hr b] at h2; cases h2
  refine ⟨max n1 n2 + 1, r, h3, ?_, g4⟩
  have r1 := i_more n1 (max n1 n2) _ _ _ _ _ _ _ _ (Nat.le_max_left _ _) g1
  have r2 := i_more n2 (max n1 n2) _ _ _ _ _ _ _ _ (Nat.le_max_right _ _) g3
  rw [i_ex, hk.1, hk.2, hc]
  simp only [hR, h2, if_true, hM2, hp, hcc, r1, g2, r2, Bool.false_eq_true, if_false]
end IWP
