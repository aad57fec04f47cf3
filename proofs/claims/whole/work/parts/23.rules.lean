/-! branches, switches, copies; fields of texts -/
section IBR
variable {MT : Nat → Option i_M} {AT : Nat → Nat → Option (Instr × Nat × Nat)} {L : Nat} {xs : Nat → Int32}
variable {k pc : Nat} {lo : iL} {st : List Value} {h : iH} {u w : Nat} {Q : Option Value → iH → Prop} {M : i_M} {C : List i_En} {ins : Instr} {a b : Nat} {x y : Int32} {r : List Value} {off : Int}
theorem g_if {cd : ClassFile.Cond} (hk : i_K MT AT k M C) (hc : i_fd2 C pc = some (.ifCond cd off, a, b)) (kt : i_b1 cd x = true → i_P MT AT L xs k a lo r h u w Q) (kf : ¬ i_b1 cd x = true → i_P MT AT L xs k (pc + 3) lo r h u w Q) : i_P MT AT L xs k pc lo (.int x :: r) h u w Q := by
  refine g_step (pc2 := if i_b1 cd x = true then a else pc + 3) hk hc rfl rfl rfl ?_
  by_cases q : i_b1 cd x = true
  · rw [if_pos q]; exact kt q
  · rw [if_neg q]; exact kf q
theorem g_icmp {cd : ClassFile.Cond} (hk : i_K MT AT k M C) (hc : i_fd2 C pc = some (.if_icmp cd off, a, b)) (kt : i_b2 cd x y = true → i_P MT AT L xs k a lo r h u w Q) (kf : ¬ i_b2 cd x y = true → i_P MT AT L xs k (pc + 3) lo r h u w Q) : i_P MT AT L xs k pc lo (.int y :: .int x :: r) h u w Q := by
  refine g_step (pc2 := if i_b2 cd x y = true then a else pc + 3) hk hc rfl rfl rfl ?_
  by_cases q : i_b2 cd x y = true
  · rw [if_pos q]; exact kt q
  · rw [if_neg q]; exact kf q
theorem g_if_eq (hk : i_K MT AT k M C) (hc : i_fd2 C pc = some (.ifCond .eq off, a, b)) (kt : x = 0 → i_P MT AT L xs k a lo r h u w Q) (kf : ¬ (x = 0) → i_P MT AT L xs k (pc + 3) lo r h u w Q) : i_P MT AT L xs k pc lo (.int x :: r) h u w Q := g_if hk hc (fun q => kt (of_decide_eq_true q)) (fun q => kf (fun z => q (decide_eq_true z)))
theorem g_if_ne (hk : i_K MT AT k M C) (hc : i_fd2 C pc = some (.ifCond .ne off, a, b)) (kt : ¬ x = 0 → i_P MT AT L xs k a lo r h u w Q) (kf : ¬ (¬ x = 0) → i_P MT AT L xs k (pc + 3) lo r h u w Q) : i_P MT AT L xs k pc lo (.int x :: r) h u w Q := g_if hk hc (fun q => kt (of_decide_eq_true q)) (fun q => kf (fun z => q (decide_eq_true z)))
theorem g_if_lt (hk : i_K MT AT k M C) (hc : i_fd2 C pc = some (.ifCond .lt off, a, b)) (kt : x < 0 → i_P MT AT L xs k a lo r h u w Q) (kf : ¬ (x < 0) → i_P MT AT L xs k (pc + 3) lo r h u w Q) : i_P MT AT L xs k pc lo (.int x :: r) h u w Q := g_if hk hc (fun q => kt (of_decide_eq_true q)) (fun q => kf (fun z => q (decide_eq_true z)))
theorem g_if_ge (hk : i_K MT AT k M C) (hc : i_fd2 C pc = some (.ifCond .ge off, a, b)) (kt : 0 ≤ x → i_P MT AT L xs k a lo r h u w Q) (kf : ¬ (0 ≤ x) → i_P MT AT L xs k (pc + 3) lo r h u w Q) : i_P MT AT L xs k pc lo (.int x :: r) h u w Q := g_if hk hc (fun q => kt (of_decide_eq_true q)) (fun q => kf (fun z => q (decide_eq_true z)))
theorem g_if_gt (hk : i_K MT AT k M C) (hc : i_fd2 C pc = some (.ifCond .gt off, a, b)) (kt : 0 < x → i_P MT AT L xs k a lo r h u w Q) (kf : ¬ (0 < x) → i_P MT AT L xs k (pc + 3) lo r h u w Q) : i_P MT AT L xs k pc lo (.int x :: r) h u w Q := g_if hk hc (fun q => kt (of_decide_eq_true q)) (fun q => kf (fun z => q (decide_eq_true z)))
theorem g_if_le (hk : i_K MT AT k M C) (hc : i_fd2 C pc = some (.ifCond .le off, a, b)) (kt : x ≤ 0 → i_P MT AT L xs k a lo r h u w Q) (kf : ¬ (x ≤ 0) → i_P MT AT L xs k (pc + 3) lo r h u w Q) : i_P MT AT L xs k pc lo (.int x :: r) h u w Q := g_if hk hc (fun q => kt (of_decide_eq_true q)) (fun q => kf (fun z => q (decide_eq_true z)))
theorem g_icmp_eq (hk : i_K MT AT k M C) (hc : i_fd2 C pc = some (.if_icmp .eq off, a, b)) (kt : x = y → i_P MT AT L xs k a lo r h u w Q) (kf : ¬ (x = y) → i_P MT AT L xs k (pc + 3) lo r h u w Q) : i_P MT AT L xs k pc lo (.int y :: .int x :: r) h u w Q := g_icmp hk hc (fun q => kt (of_decide_eq_true q)) (fun q => kf (fun z => q (decide_eq_true z)))
theorem g_icmp_ne (hk : i_K MT AT k M C) (hc : i_fd2 C pc = some (.if_icmp .ne off, a, b)) (kt : ¬ x = y → i_P MT AT L xs k a lo r h u w Q) (kf : ¬ (¬ x = y) → i_P MT AT L xs k (pc + 3) lo r h u w Q) : i_P MT AT L xs k pc lo (.int y :: .int x :: r) h u w Q := g_icmp hk hc (fun q => kt (of_decide_eq_true q)) (fun q => kf (fun z => q (decide_eq_true z)))
theorem g_icmp_lt (hk : i_K MT AT k M C) (hc : i_fd2 C pc = some (.if_icmp .lt off, a, b)) (kt : x < y → i_P MT AT L xs k a lo r h u w Q) (kf : ¬ (x < y) → i_P MT AT L xs k (pc + 3) lo r h u w Q) : i_P MT AT L xs k pc lo (.int y :: .int x :: r) h u w Q := g_icmp hk hc (fun q => kt (of_decide_eq_true q)) (fun q => kf (fun z => q (decide_eq_true z)))
theorem g_icmp_ge (hk : i_K MT AT k M C) (hc : i_fd2 C pc = some (.if_icmp .ge off, a, b)) (kt : y ≤ x → i_P MT AT L xs k a lo r h u w Q) (kf : ¬ (y ≤ x) → i_P MT AT L xs k (pc + 3) lo r h u w Q) : i_P MT AT L xs k pc lo (.int y :: .int x :: r) h u w Q := g_icmp hk hc (fun q => kt (of_decide_eq_true q)) (fun q => kf (fun z => q (decide_eq_true z)))
theorem g_icmp_gt (hk : i_K MT AT k M C) (hc : i_fd2 C pc = some (.if_icmp .gt off, a, b)) (kt : y < x → i_P MT AT L xs k a lo r h u w Q) (kf : ¬ (y < x) → i_P MT AT L xs k (pc + 3) lo r h u w Q) : i_P MT AT L xs k pc lo (.int y :: .int x :: r) h u w Q := g_icmp hk hc (fun q => kt (of_decide_eq_true q)) (fun q => kf (fun z => q (decide_eq_true z)))
theorem g_icmp_le (hk : i_K MT AT k M C) (hc : i_fd2 C pc = some (.if_icmp .le off, a, b)) (kt : x ≤ y → i_P MT AT L xs k a lo r h u w Q) (kf : ¬ (x ≤ y) → i_P MT AT L xs k (pc + 3) lo r h u w Q) : i_P MT AT L xs k pc lo (.int y :: .int x :: r) h u w Q := g_icmp hk hc (fun q => kt (of_decide_eq_true q)) (fun q => kf (fun z => q (decide_eq_true z)))
def i_swt (dflt lo_ hi_ : Int) (offs : Array Int) (pc : Nat) (z : Int) : Option Nat := match (if z < lo_ ∨ hi_ < z then some dflt else offs[(z - lo_).toNat]?) with
  | some o => if (pc : Int) + o = ((((pc : Int) + o).toNat : Nat) : Int) then some ((pc : Int) + o).toNat else none
  | none => none
theorem g_sw {dflt lo_ hi_ : Int} {offs : Array Int} {t : Nat} (hk : i_K MT AT k M C) (hc : i_fd2 C pc = some (.tableswitch dflt lo_ hi_ offs, a, b)) (ht : i_swt dflt lo_ hi_ offs pc x.toInt = some t) (g : i_P MT AT L xs k t lo r h u w Q) : i_P MT AT L xs k pc lo (.int x :: r) h u w Q := by
  refine g_step (pc2 := t) hk hc rfl rfl ?_ g
  show i_sw dflt lo_ hi_ offs pc lo (.int x :: r) h u w = _
  unfold i_sw i_1i
  unfold i_swt at ht
  dsimp only
  split at ht
  · rename_i z hz
    split at ht
    · rename_i h1
      cases ht
      rw [hz]
      dsimp only
      rw [if_pos h1]
    · cases ht
  · cases ht
end IBR
section ISX
variable {a b pc : Nat} {lo : iL} {h : iH} {u w q : Nat} {r : List Value} {L : Nat} {xs : Nat → Int32} {Rf Rl : Nat}
theorem s_getX {j : Nat} {v : Value} (e : i_oF j b = some v) : i_get 100 b pc lo (.retAddr j :: r) h u w = some (pc + 3, lo, v :: r, h, u, w) := by
  unfold i_get
  simp only [e]
  rfl
theorem s_copyI {n dp sp : Int32} {q0 q1 n0 n1 : Nat} {f g : Nat → Int32} (e0 : i_arI h 0 q0 = some (n0, f)) (e1 : i_arI h 0 q1 = some (n1, g)) (h1 : ¬ sp < 0) (h2 : ¬ dp < 0) (h3 : ¬ n < 0) (h4 : sp.toNatClampNeg + n.toNatClampNeg ≤ n0) (h5 : dp.toNatClampNeg + n.toNatClampNeg ≤ n1) (h6 : 1 ≤ Rf ∧ (r.map fun v => v.category).sum + 18 ≤ Rl) : i_copy L xs Rf Rl pc lo (.int n :: .int dp :: .ref q1 :: .int sp :: .ref q0 :: r) h u w = some (pc + 3, lo, r, h.set q1 (.inl (0, n1, .inl (va_cpy f g sp.toNatClampNeg dp.toNatClampNeg n.toNatClampNeg))), u, w) := by
  unfold i_copy
  simp only [i_arI_s e0, i_arI_s e1]
  rw [if_pos ⟨trivial, trivial, h1, h2, h3, h4, h5, h6.1, h6.2⟩]
theorem s_copyJ {n dp sp : Int32} {q0 q1 n0 n1 : Nat} {f g : Nat → Int64} (e0 : i_arJ h q0 = some (n0, f)) (e1 : i_arJ h q1 = some (n1, g)) (h1 : ¬ sp < 0) (h2 : ¬ dp < 0) (h3 : ¬ n < 0) (h4 : sp.toNatClampNeg + n.toNatClampNeg ≤ n0) (h5 : dp.toNatClampNeg + n.toNatClampNeg ≤ n1) (h6 : 1 ≤ Rf ∧ (r.map fun v => v.category).sum + 18 ≤ Rl) : i_copy L xs Rf Rl pc lo (.int n :: .int dp :: .ref q1 :: .int sp :: .ref q0 :: r) h u w = some (pc + 3, lo, r, h.set q1 (.inl (1, n1, .inr (.inl (va_cpy f g sp.toNatClampNeg dp.toNatClampNeg n.toNatClampNeg)))), u, w) := by
  unfold i_copy
  simp only [i_arJ_s e0, i_arJ_s e1]
  rw [if_pos ⟨trivial, trivial, h1, h2, h3, h4, h5, h6.1, h6.2⟩]
theorem s_copyX {n dp sp : Int32} {j q1 n0 n1 : Nat} {f g : Nat → Int32} (e0 : i_oA L xs j = some (n0, f)) (e1 : i_arI h 0 q1 = some (n1, g)) (h1 : ¬ sp < 0) (h2 : ¬ dp < 0) (h3 : ¬ n < 0) (h4 : sp.toNatClampNeg + n.toNatClampNeg ≤ n0) (h5 : dp.toNatClampNeg + n.toNatClampNeg ≤ n1) (h6 : 1 ≤ Rf ∧ (r.map fun v => v.category).sum + 18 ≤ Rl) : i_copy L xs Rf Rl pc lo (.int n :: .int dp :: .ref q1 :: .int sp :: .retAddr j :: r) h u w = some (pc + 3, lo, r, h.set q1 (.inl (0, n1, .inl (va_cpy f g sp.toNatClampNeg dp.toNatClampNeg n.toNatClampNeg))), u, w) := by
  unfold i_copy
  simp only [e0, i_arI_s e1]
  rw [if_pos ⟨trivial, h1, h2, h3, h4, h5, h6.1, h6.2⟩]
end ISX
/-- an instruction on stack and locals alone -/
theorem g_s1 {MT : Nat → Option i_M} {AT : Nat → Nat → Option (Instr × Nat × Nat)} {L : Nat} {xs : Nat → Int32} {k pc : Nat} {lo : iL} {st : List Value} {h : iH} {u w : Nat} {Q : Option Value → iH → Prop} {M : i_M} {C : List i_En} {ins : Instr} {a b : Nat} (hk : i_K MT AT k M C) (hc : i_fd2 C pc = some (ins, a, b)) (h1 : i_isR ins = false) (h2 : i_isC ins b = false) (h0 : i_step L xs M ins a b pc lo st h u w = i_s1w ins a pc lo st h u w) {pc2 : Nat} {lo2 : iL} {st2 : List Value} (hs : i_s1 ins a pc lo st = some (pc2, lo2, st2)) (g : i_P MT AT L xs k pc2 lo2 st2 h u w Q) : i_P MT AT L xs k pc lo st h u w Q := by
  refine g_step (L := L) (xs := xs) hk hc h1 h2 (h0.trans ?_) g
  unfold i_s1w
  rw [hs]
theorem s_lo1 {lo lo2 : iL} {i a pc pc2 : Nat} {v : Value} {ins : Instr} {st st2 : List Value} (e : i_st1 lo i v = lo2) (hs : i_s1 ins a pc lo st = some (pc2, i_st1 lo i v, st2)) : i_s1 ins a pc lo st = some (pc2, lo2, st2) := by rw [← e]; exact hs
theorem s_if {α : Type} {c : Prop} [Decidable c] {x : Option α} (h : c) : (if c then x else none) = x := if_pos h
