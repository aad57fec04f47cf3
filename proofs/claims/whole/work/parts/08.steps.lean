/-! THE INTERPRETER, and that whatever it answers the machine does; over any tables of methods (MT) and code (AT) that say what the machine's tables say -/
abbrev i_M : Type := MethodName × ByteArray × Nat × Option FieldType × Nat × Nat × Nat × Nat × Nat × Nat × Nat
def i_y (M : i_M) : MethodName := M.1
def i_by (M : i_M) : ByteArray := M.2.1
def i_ml (M : i_M) : Nat := M.2.2.1
def i_re (M : i_M) : Option FieldType := M.2.2.2.1
/-- how many it takes (without the receiver) -/
def i_na (M : i_M) : Nat := M.2.2.2.2.1
/-- 0 static, 1 virtual, 2 a constructor -/
def i_ki (M : i_M) : Nat := M.2.2.2.2.2.1
/-- its class: a place in vwCl; 100: a text -/
def i_cl (M : i_M) : Nat := M.2.2.2.2.2.2.1
def i_mc (M : i_M) : Nat := M.2.2.2.2.2.2.2.1
def i_ms (M : i_M) : Nat := M.2.2.2.2.2.2.2.2.1
def i_fm (M : i_M) : Nat := M.2.2.2.2.2.2.2.2.2.1
def i_lc (M : i_M) : Nat := M.2.2.2.2.2.2.2.2.2.2
def i_rm (M : i_M) : Room := { frames := i_fm M, cells := i_mc M, slots := i_ms M, locals := i_lc M }
def i_own (M : i_M) : String := (i_y M).cls
def i_mna (Rc Rs pc : Nat) (lo : iL) (st : List Value) (h : iH) (u w : Nat) : Option i_S := match st with
  | .int k :: .int n :: r => if ¬ n < 0 ∧ ¬ k < 0 ∧ n.toNatClampNeg * 8 ≤ 536870912 ∧ k.toNatClampNeg * 8 ≤ 536870912 ∧ u + 1 + n.toNatClampNeg ≤ Rc ∧ w + n.toNatClampNeg + n.toNatClampNeg * k.toNatClampNeg ≤ Rs ∧ i_fr h.length lo r = true ∧ h.all (i_frE h.length) = true then some (pc + 4, lo, .ref h.length :: r, h ++ (.inl (4, n.toNatClampNeg, .inr (.inr (.inr (.inr (fun i => if i < n.toNatClampNeg then some (h.length + 1 + i) else none)))))) :: List.replicate n.toNatClampNeg (.inl (1, k.toNatClampNeg, .inr (.inl (fun _ => 0)))), u + 1 + n.toNatClampNeg, w + n.toNatClampNeg + n.toNatClampNeg * k.toNatClampNeg) else none
  | _ => none
def i_sw (dflt lo_ hi_ : Int) (offs : Array Int) (pc : Nat) (lo : iL) (st : List Value) (h : iH) (u w : Nat) : Option i_S := i_1i st fun x r => match (if x.toInt < lo_ ∨ hi_ < x.toInt then some dflt else offs[(x.toInt - lo_).toNat]?) with
  | some z => if (pc : Int) + z = ((((pc : Int) + z).toNat : Nat) : Int) then some (((pc : Int) + z).toNat, lo, r, h, u, w) else none
  | none => none
def i_s1w (ins : Instr) (a pc : Nat) (lo : iL) (st : List Value) (h : iH) (u w : Nat) : Option i_S := match i_s1 ins a pc lo st with
  | some q => some (q.1, q.2.1, q.2.2, h, u, w)
  | none => none
def i_step (L : Nat) (xs : Nat → Int32) (M : i_M) (ins : Instr) (a b pc : Nat) (lo : iL) (st : List Value) (h : iH) (u w : Nat) : Option i_S := match ins with
  | .getfield _ => i_get a b pc lo st h u w
  | .putfield _ => i_put a b pc lo st h u w
  | .iaload => i_aget L xs pc lo st h u w
  | .laload => i_lget pc lo st h u w
  | .baload => i_bget pc lo st h u w
  | .aaload => i_rget pc lo st h u w
  | .iastore => i_aput pc lo st h u w
  | .lastore => i_lput pc lo st h u w
  | .bastore => i_bput pc lo st h u w
  | .aastore => i_rput pc lo st h u w
  | .arraylength => i_alen L xs pc lo st h u w
  | .new _ => i_newo (i_mc M) (i_ms M) a pc lo st h u w
  | .newarray _ => i_newa (i_mc M) (i_ms M) a pc lo st h u w
  | .anewarray _ => i_newr (i_mc M) (i_ms M) pc lo st h u w
  | .multianewarray _ _ => i_mna (i_mc M) (i_ms M) pc lo st h u w
  | .ldc i => i_cst (.ldc i) a b pc lo st h u w
  | .ldc_w i => i_cst (.ldc_w i) a b pc lo st h u w
  | .ldc2_w i => i_cst (.ldc2_w i) a b pc lo st h u w
  | .getstatic _ => i_stat a pc lo st h u w
  | .tableswitch dflt lo_ hi_ offs => i_sw dflt lo_ hi_ offs pc lo st h u w
  | .invokespecial _ => if b = 9 then i_obj (i_fm M) (i_lc M) pc lo st h u w else none
  | .invokestatic _ => if b = 9 then i_copy L xs (i_fm M) (i_lc M) pc lo st h u w else none
  | ins => i_s1w ins a pc lo st h u w
def i_len (ins : Instr) : Nat := match ins with
  | .getfield _ => 3
  | .putfield _ => 3
  | .iaload => 1
  | .laload => 1
  | .baload => 1
  | .aaload => 1
  | .iastore => 1
  | .lastore => 1
  | .bastore => 1
  | .aastore => 1
  | .arraylength => 1
  | .new _ => 3
  | .newarray _ => 2
  | .anewarray _ => 3
  | .multianewarray _ _ => 4
  | .ldc _ => 2
  | .ldc_w _ => 3
  | .ldc2_w _ => 3
  | .getstatic _ => 3
  | .invokespecial _ => 3
  | .invokestatic _ => 3
  | .invokevirtual _ => 3
  | .ireturn => 1
  | .lreturn => 1
  | .return_ => 1
  | ins => i_len1 ins
def i_isSw (ins : Instr) : Bool := match ins with
  | .tableswitch _ _ _ _ => true
  | _ => false
def i_link (own : String) (idx : Nat) (y : MethodName) : Prop := Jvm.Cond.methodLink own idx y ∈ i_GT ∨ Jvm.Cond.methodLinkNest own idx y "StillTown" ∈ i_NW
def i_E (MT : Nat → Option i_M) (M : i_M) (ins : Instr) (a b : Nat) : Prop := match ins with
  | .getfield idx => (a = 100 ∧ Jvm.Cond.fieldLink (i_own M) idx "java/lang/String" (i_fd b).1 (i_fd b).2 ∈ i_GT) ∨ (a < 13 ∧ b < i_nf a ∧ i_lk (i_own M) idx a b ∈ i_GT)
  | .putfield idx => a < 13 ∧ b < i_nf a ∧ i_lk (i_own M) idx a b ∈ i_GT ∧ ((i_fl a b).2.2.2 = false ∨ (decide (i_ki M = 2) = true ∧ (i_fl a b).1 = i_own M))
  | .new idx => a < 13 ∧ Jvm.Cond.classLink (i_own M) idx (i_cn a) ∈ i_GT
  | .newarray t => a < 4 ∧ newarray.typeOf t = i_ty a ∧ Jvm.Cond.arrayClass (i_ty a) ∈ i_GT
  | .anewarray idx => Jvm.Cond.classLink (i_own M) idx "StillTown$Town" ∈ i_GT
  | .multianewarray idx d => d = 2 ∧ Jvm.Cond.classLink (i_own M) idx ("[" ++ (FieldType.array .long).toString) ∈ i_GT ∧ Jvm.Cond.arrayClass .long ∈ i_GT
  | .ldc idx => (b = 0 ∧ Jvm.Cond.constant (i_own M) idx (Int32.ofNat a) ∈ i_GT) ∨ (b = 1 ∧ i_oR a = some (i_own M, idx))
  | .ldc_w idx => Jvm.Cond.constant (i_own M) idx (Int32.ofNat a) ∈ i_GT
  | .ldc2_w idx => Jvm.Cond.constantLong (i_own M) idx (Int64.ofNat a) ∈ i_GT
  | .getstatic idx => ∃ q, i_oS a = some q ∧ (Jvm.Cond.fieldLink (i_own M) idx q.1 q.2.1 q.2.2.1 ∈ i_GT ∨ Jvm.Cond.fieldLinkNest (i_own M) idx q.1 q.2.1 q.2.2.1 "StillTown" ∈ i_NW)
  | .invokespecial idx => (b = 9 ∧ Jvm.Cond.methodLink (i_own M) idx objectInit ∈ i_GT ∧ Jvm.Cond.instanceMethod objectInit ∈ i_GT ∧ Jvm.Cond.code objectInit ⟨#[0xb1]⟩ 1 none ∈ i_GT) ∨ (b ≠ 9 ∧ ∃ M2, MT a = some M2 ∧ i_ki M2 = 2 ∧ i_link (i_own M) idx (i_y M2))
  | .invokevirtual idx => ∃ M2, MT a = some M2 ∧ i_ki M2 = 1 ∧ i_link (i_own M) idx (i_y M2)
  | .invokestatic idx => (b = 9 ∧ Jvm.Cond.methodLink (i_own M) idx arraycopyName ∈ i_GT ∧ Jvm.Cond.native arraycopyName ∈ i_GT ∧ Jvm.Cond.static arraycopyName ∈ i_GT ∧ Jvm.Cond.initialized "java/lang/System" ∈ i_GT) ∨ (b ≠ 9 ∧ ∃ M2, MT a = some M2 ∧ i_ki M2 = 0 ∧ i_link (i_own M) idx (i_y M2))
  | _ => True

theorem i_n_get {a : Nat} {b : Nat} {pc pc2 u u2 w w2 : Nat} {lo lo2 : iL} {st st2 : List Value} {h h2 : iH} (hs : i_get a b pc lo st h u w = some (pc2, lo2, st2, h2, u2, w2)) : h.length ≤ h2.length := by
  unfold i_get at hs
  (repeat' split at hs) <;> first | (cases hs; done) | (simp only [Option.some.injEq, Prod.mk.injEq] at hs; obtain ⟨-, -, -, e1, -⟩ := hs; rw [← e1]; simp)
theorem i_n_put {a : Nat} {b : Nat} {pc pc2 u u2 w w2 : Nat} {lo lo2 : iL} {st st2 : List Value} {h h2 : iH} (hs : i_put a b pc lo st h u w = some (pc2, lo2, st2, h2, u2, w2)) : h.length ≤ h2.length := by
  unfold i_put at hs
  (repeat' split at hs) <;> first | (cases hs; done) | (simp only [Option.some.injEq, Prod.mk.injEq] at hs; obtain ⟨-, -, -, e1, -⟩ := hs; rw [← e1]; simp)
theorem i_n_aget {L : Nat} {xs : Nat → Int32} {pc pc2 u u2 w w2 : Nat} {lo lo2 : iL} {st st2 : List Value} {h h2 : iH} (hs : i_aget L xs pc lo st h u w = some (pc2, lo2, st2, h2, u2, w2)) : h.length ≤ h2.length := by
  unfold i_aget at hs
  (repeat' split at hs) <;> first | (cases hs; done) | (simp only [Option.some.injEq, Prod.mk.injEq] at hs; obtain ⟨-, -, -, e1, -⟩ := hs; rw [← e1]; simp)
theorem i_n_lget {pc pc2 u u2 w w2 : Nat} {lo lo2 : iL} {st st2 : List Value} {h h2 : iH} (hs : i_lget  pc lo st h u w = some (pc2, lo2, st2, h2, u2, w2)) : h.length ≤ h2.length := by
  unfold i_lget at hs
  (repeat' split at hs) <;> first | (cases hs; done) | (simp only [Option.some.injEq, Prod.mk.injEq] at hs; obtain ⟨-, -, -, e1, -⟩ := hs; rw [← e1]; simp)
theorem i_n_bget {pc pc2 u u2 w w2 : Nat} {lo lo2 : iL} {st st2 : List Value} {h h2 : iH} (hs : i_bget  pc lo st h u w = some (pc2, lo2, st2, h2, u2, w2)) : h.length ≤ h2.length := by
  unfold i_bget at hs
  (repeat' split at hs) <;> first | (cases hs; done) | (simp only [Option.some.injEq, Prod.mk.injEq] at hs; obtain ⟨-, -, -, e1, -⟩ := hs; rw [← e1]; simp)
theorem i_n_rget {pc pc2 u u2 w w2 : Nat} {lo lo2 : iL} {st st2 : List Value} {h h2 : iH} (hs : i_rget  pc lo st h u w = some (pc2, lo2, st2, h2, u2, w2)) : h.length ≤ h2.length := by
  unfold i_rget at hs
  (repeat' split at hs) <;> first | (cases hs; done) | (simp only [Option.some.injEq, Prod.mk.injEq] at hs; obtain ⟨-, -, -, e1, -⟩ := hs; rw [← e1]; simp)
theorem i_n_aput {pc pc2 u u2 w w2 : Nat} {lo lo2 : iL} {st st2 : List Value} {h h2 : iH} (hs : i_aput  pc lo st h u w = some (pc2, lo2, st2, h2, u2, w2)) : h.length ≤ h2.length := by
  unfold i_aput at hs
  (repeat' split at hs) <;> first | (cases hs; done) | (simp only [Option.some.injEq, Prod.mk.injEq] at hs; obtain ⟨-, -, -, e1, -⟩ := hs; rw [← e1]; simp)
theorem i_n_lput {pc pc2 u u2 w w2 : Nat} {lo lo2 : iL} {st st2 : List Value} {h h2 : iH} (hs : i_lput  pc lo st h u w = some (pc2, lo2, st2, h2, u2, w2)) : h.length ≤ h2.length := by
  unfold i_lput at hs
  (repeat' split at hs) <;> first | (cases hs; done) | (simp only [Option.some.injEq, Prod.mk.injEq] at hs; obtain ⟨-, -, -, e1, -⟩ := hs; rw [← e1]; simp)
theorem i_n_bput {pc pc2 u u2 w w2 : Nat} {lo lo2 : iL} {st st2 : List Value} {h h2 : iH} (hs : i_bput  pc lo st h u w = some (pc2, lo2, st2, h2, u2, w2)) : h.length ≤ h2.length := by
  unfold i_bput at hs
  (repeat' split at hs) <;> first | (cases hs; done) | (simp only [Option.some.injEq, Prod.mk.injEq] at hs; obtain ⟨-, -, -, e1, -⟩ := hs; rw [← e1]; simp)
theorem i_n_rput {pc pc2 u u2 w w2 : Nat} {lo lo2 : iL} {st st2 : List Value} {h h2 : iH} (hs : i_rput  pc lo st h u w = some (pc2, lo2, st2, h2, u2, w2)) : h.length ≤ h2.length := by
  unfold i_rput at hs
  (repeat' split at hs) <;> first | (cases hs; done) | (simp only [Option.some.injEq, Prod.mk.injEq] at hs; obtain ⟨-, -, -, e1, -⟩ := hs; rw [← e1]; simp)
theorem i_n_alen {L : Nat} {xs : Nat → Int32} {pc pc2 u u2 w w2 : Nat} {lo lo2 : iL} {st st2 : List Value} {h h2 : iH} (hs : i_alen L xs pc lo st h u w = some (pc2, lo2, st2, h2, u2, w2)) : h.length ≤ h2.length := by
  unfold i_alen at hs
  (repeat' split at hs) <;> first | (cases hs; done) | (simp only [Option.some.injEq, Prod.mk.injEq] at hs; obtain ⟨-, -, -, e1, -⟩ := hs; rw [← e1]; simp)
theorem i_n_newa {Rc : Nat} {Rs : Nat} {a : Nat} {pc pc2 u u2 w w2 : Nat} {lo lo2 : iL} {st st2 : List Value} {h h2 : iH} (hs : i_newa Rc Rs a pc lo st h u w = some (pc2, lo2, st2, h2, u2, w2)) : h.length ≤ h2.length := by
  unfold i_newa at hs
  (repeat' split at hs) <;> first | (cases hs; done) | (simp only [Option.some.injEq, Prod.mk.injEq] at hs; obtain ⟨-, -, -, e1, -⟩ := hs; rw [← e1]; simp)
theorem i_n_newr {Rc : Nat} {Rs : Nat} {pc pc2 u u2 w w2 : Nat} {lo lo2 : iL} {st st2 : List Value} {h h2 : iH} (hs : i_newr Rc Rs pc lo st h u w = some (pc2, lo2, st2, h2, u2, w2)) : h.length ≤ h2.length := by
  unfold i_newr at hs
  (repeat' split at hs) <;> first | (cases hs; done) | (simp only [Option.some.injEq, Prod.mk.injEq] at hs; obtain ⟨-, -, -, e1, -⟩ := hs; rw [← e1]; simp)
theorem i_n_newo {Rc : Nat} {Rs : Nat} {a : Nat} {pc pc2 u u2 w w2 : Nat} {lo lo2 : iL} {st st2 : List Value} {h h2 : iH} (hs : i_newo Rc Rs a pc lo st h u w = some (pc2, lo2, st2, h2, u2, w2)) : h.length ≤ h2.length := by
  unfold i_newo at hs
  (repeat' split at hs) <;> first | (cases hs; done) | (simp only [Option.some.injEq, Prod.mk.injEq] at hs; obtain ⟨-, -, -, e1, -⟩ := hs; rw [← e1]; simp)
theorem i_n_copy {L : Nat} {xs : Nat → Int32} {Rf : Nat} {Rl : Nat} {pc pc2 u u2 w w2 : Nat} {lo lo2 : iL} {st st2 : List Value} {h h2 : iH} (hs : i_copy L xs Rf Rl pc lo st h u w = some (pc2, lo2, st2, h2, u2, w2)) : h.length ≤ h2.length := by
  unfold i_copy at hs
  (repeat' split at hs) <;> first | (cases hs; done) | (simp only [Option.some.injEq, Prod.mk.injEq] at hs; obtain ⟨-, -, -, e1, -⟩ := hs; rw [← e1]; simp)
theorem i_n_obj {Rf : Nat} {Rl : Nat} {pc pc2 u u2 w w2 : Nat} {lo lo2 : iL} {st st2 : List Value} {h h2 : iH} (hs : i_obj Rf Rl pc lo st h u w = some (pc2, lo2, st2, h2, u2, w2)) : h.length ≤ h2.length := by
  unfold i_obj at hs
  (repeat' split at hs) <;> first | (cases hs; done) | (simp only [Option.some.injEq, Prod.mk.injEq] at hs; obtain ⟨-, -, -, e1, -⟩ := hs; rw [← e1]; simp)
theorem i_n_stat {a : Nat} {pc pc2 u u2 w w2 : Nat} {lo lo2 : iL} {st st2 : List Value} {h h2 : iH} (hs : i_stat a pc lo st h u w = some (pc2, lo2, st2, h2, u2, w2)) : h.length ≤ h2.length := by
  unfold i_stat at hs
  (repeat' split at hs) <;> first | (cases hs; done) | (simp only [Option.some.injEq, Prod.mk.injEq] at hs; obtain ⟨-, -, -, e1, -⟩ := hs; rw [← e1]; simp)
theorem i_n_mna {Rc : Nat} {Rs : Nat} {pc pc2 u u2 w w2 : Nat} {lo lo2 : iL} {st st2 : List Value} {h h2 : iH} (hs : i_mna Rc Rs pc lo st h u w = some (pc2, lo2, st2, h2, u2, w2)) : h.length ≤ h2.length := by
  unfold i_mna at hs
  (repeat' split at hs) <;> first | (cases hs; done) | (simp only [Option.some.injEq, Prod.mk.injEq] at hs; obtain ⟨-, -, -, e1, -⟩ := hs; rw [← e1]; simp)
theorem i_n_cst {ins : Instr} {a b pc pc2 u u2 w w2 : Nat} {lo lo2 : iL} {st st2 : List Value} {h h2 : iH} (hs : i_cst ins a b pc lo st h u w = some (pc2, lo2, st2, h2, u2, w2)) : h.length ≤ h2.length := by
  unfold i_cst at hs
  (repeat' split at hs) <;> first | (cases hs; done) | (simp only [Option.some.injEq, Prod.mk.injEq] at hs; obtain ⟨-, -, -, e1, -⟩ := hs; rw [← e1]; simp)
theorem i_n_sw {dflt lo_ hi_ : Int} {offs : Array Int} {pc pc2 u u2 w w2 : Nat} {lo lo2 : iL} {st st2 : List Value} {h h2 : iH} (hs : i_sw dflt lo_ hi_ offs pc lo st h u w = some (pc2, lo2, st2, h2, u2, w2)) : h.length ≤ h2.length := by
  obtain ⟨x, r, hst, hs2⟩ := i_1i_s hs
  clear hs
  (repeat' split at hs2) <;> first | (cases hs2; done) | (simp only [Option.some.injEq, Prod.mk.injEq] at hs2; obtain ⟨-, -, -, e1, -⟩ := hs2; rw [← e1]; simp)
theorem i_n_s1w {ins : Instr} {a pc pc2 u u2 w w2 : Nat} {lo lo2 : iL} {st st2 : List Value} {h h2 : iH} (hs : i_s1w ins a pc lo st h u w = some (pc2, lo2, st2, h2, u2, w2)) : h.length ≤ h2.length := by
  unfold i_s1w at hs
  (repeat' split at hs) <;> first | (cases hs; done) | (simp only [Option.some.injEq, Prod.mk.injEq] at hs; obtain ⟨-, -, -, e1, -⟩ := hs; rw [← e1]; simp)
set_option maxHeartbeats 4000000 in
theorem i_n_step {L : Nat} {xs : Nat → Int32} {M : i_M} {ins : Instr} {a b pc pc2 u u2 w w2 : Nat} {lo lo2 : iL} {st st2 : List Value} {h h2 : iH} (hs : i_step L xs M ins a b pc lo st h u w = some (pc2, lo2, st2, h2, u2, w2)) : h.length ≤ h2.length := by
  unfold i_step at hs
  split at hs
  · exact i_n_get hs
  · exact i_n_put hs
  · exact i_n_aget hs
  · exact i_n_lget hs
  · exact i_n_bget hs
  · exact i_n_rget hs
  · exact i_n_aput hs
  · exact i_n_lput hs
  · exact i_n_bput hs
  · exact i_n_rput hs
  · exact i_n_alen hs
  · exact i_n_newo hs
  · exact i_n_newa hs
  · exact i_n_newr hs
  · exact i_n_mna hs
  · exact i_n_cst hs
  · exact i_n_cst hs
  · exact i_n_cst hs
  · exact i_n_stat hs
  · exact i_n_sw hs
  · split at hs
    · exact i_n_obj hs
    · cases hs
  · split at hs
    · exact i_n_copy hs
    · cases hs
  · exact i_n_s1w hs
/-- the row of multianewarray: proved in its own part -/
def i_MNA (l : Launch) : Prop := ∀ (p : Program) (e : Env) (R : Room) (s : State) (m : MethodId) (args : Array Value) (below : List Frame) (meth : Method) (c : Code) (H : Heap) (locs : List Loc) (Q : State → Prop) (cc : ByteArray) (D : va_G) (ad ox cT : Nat → Nat) (A : Nat → Prop) (L : Nat) (xs : Nat → Int32) (own : String) (nL pc pc2 u u2 w w2 idx : Nat) (lo lo2 : iL) (st st2 : List Value) (h h2 : iH) (ls : Array Slot),
  i_CX p c cc s m args own A D cT ox L xs → i_Wd D ad ox cT A s H locs h → i_mna R.cells R.slots pc lo st h u w = some (pc2, lo2, st2, h2, u2, w2) → Jvm.Cond.classLink own idx ("[" ++ (FieldType.array .long).toString) ∈ i_GT → Jvm.Cond.arrayClass .long ∈ i_GT → decode cc pc = .ok (.multianewarray idx 2, 4) → i_LR ad ox lo ls nL →
  (∀ (ad2 : Nat → Nat) (H2 : Heap) (locs2 : List Loc), (∀ k, ¬ (h.length ≤ k ∧ k < h2.length) → ad2 k = ad k) → i_Wd D ad2 ox cT A s H2 locs2 h2 → i_LR ad2 ox lo2 ls nL → W p l e R s m args below meth c H2 locs2 u2 w2 Q (F0 m pc2 ls (st2.map (i_tr ad2 ox)))) → W p l e R s m args below meth c H locs u w Q (F0 m pc ls (st.map (i_tr ad ox)))
section IST
variable {p : Program} {l : Launch} {e : Env} {R : Room} {s : State} {m : MethodId} {args : Array Value} {below : List Frame} {meth : Method} {c : Code} {H : Heap} {locs : List Loc} {Q : State → Prop}
variable {D : va_G} {ad ox cT : Nat → Nat} {A : Nat → Prop} {L : Nat} {xs : Nat → Int32} {pc pc2 a b u u2 w w2 : Nat} {lo lo2 : iL} {st st2 : List Value} {h h2 : iH} {ls : Array Slot} {M : i_M} {MT : Nat → Option i_M} {ins : Instr}
set_option maxHeartbeats 4000000 in
theorem i_h_sw {nL len : Nat} {cc : ByteArray} {dflt lo_ hi_ : Int} {offs : Array Int} (hexec : p.tables.exec = Jvm.exec) (hb : c.code = cc) (hw : i_Wd D ad ox cT A s H locs h) (hs : i_sw dflt lo_ hi_ offs pc lo st h u w = some (pc2, lo2, st2, h2, u2, w2)) (hdg : decode cc pc = .ok (.tableswitch dflt lo_ hi_ offs, len)) (hl : i_LR ad ox lo ls nL)
    (kk : ∀ (ad2 : Nat → Nat) (H2 : Heap) (locs2 : List Loc) (ls2 : Array Slot), (∀ k, ¬ (h.length ≤ k ∧ k < h2.length) → ad2 k = ad k) → i_Wd D ad2 ox cT A s H2 locs2 h2 → i_LR ad2 ox lo2 ls2 nL → W p l e R s m args below meth c H2 locs2 u2 w2 Q (F0 m pc2 ls2 (st2.map (i_tr ad2 ox)))) : W p l e R s m args below meth c H locs u w Q (F0 m pc ls (st.map (i_tr ad ox))) := by
  obtain ⟨x, r, hst, hs2⟩ := i_1i_s hs
  subst hst
  clear hs
  split at hs2
  · rename_i z hz
    obtain ⟨ht, hs3⟩ := i_if_s hs2
    cases hs3
    by_cases hx : x.toInt < lo_ ∨ hi_ < x.toInt
    · rw [if_pos hx] at hz
      cases hz
      exact lv_tableOut hexec hb hdg hx ht (kk ad H locs ls (fun _ _ => rfl) hw hl)
    · rw [if_neg hx] at hz
      exact lv_tableIn hexec hb hdg (fun q => hx (Or.inl q)) (fun q => hx (Or.inr q)) hz ht (kk ad H locs ls (fun _ _ => rfl) hw hl)
  · cases hs2
set_option maxHeartbeats 8000000 in
/-- one instruction that is no call and no return -/
theorem i_step_ok (hmna : i_MNA l) (X : i_CX p c (i_by M) s m args (i_own M) A D cT ox L xs) (hR : R = i_rm M) (hml : c.maxLocals = i_ml M) (hini : i_ki M = 2 → meth.name = "<init>") {len : Nat} (hdec : decode (i_by M) pc = .ok (ins, len)) (hlen : i_isSw ins = true ∨ len = i_len ins) (htg : ∀ z, i_off ins = some z → (pc : Int) + z = (a : Int)) (hE : i_E MT M ins a b) (hw : i_Wd D ad ox cT A s H locs h) (hl : i_LR ad ox lo ls (i_ml M)) (hs : i_step L xs M ins a b pc lo st h u w = some (pc2, lo2, st2, h2, u2, w2))
    (kk : ∀ (ad2 : Nat → Nat) (H2 : Heap) (locs2 : List Loc) (ls2 : Array Slot), (∀ k, ¬ (h.length ≤ k ∧ k < h2.length) → ad2 k = ad k) → i_Wd D ad2 ox cT A s H2 locs2 h2 → i_LR ad2 ox lo2 ls2 (i_ml M) → W p l e R s m args below meth c H2 locs2 u2 w2 Q (F0 m pc2 ls2 (st2.map (i_tr ad2 ox)))) : W p l e R s m args below meth c H locs u w Q (F0 m pc ls (st.map (i_tr ad ox))) := by
  subst hR
  have kk1 := fun ad2 H2 locs2 h1 h2 h3 => kk ad2 H2 locs2 ls h1 h2 h3
  unfold i_step at hs
  split at hs
  · have hd := hlen.resolve_left (by simp [i_isSw])
    rw [hd] at hdec
    exact i_h_get X hw hs hE hdec hl kk1
  · have hd := hlen.resolve_left (by simp [i_isSw])
    rw [hd] at hdec
    exact i_h_put X hw hs (ini := decide (i_ki M = 2)) (fun q => hini (of_decide_eq_true q)) hE hdec hl kk1
  · have hd := hlen.resolve_left (by simp [i_isSw])
    rw [hd] at hdec
    exact i_h_aget X hw hs hdec hl kk1
  · have hd := hlen.resolve_left (by simp [i_isSw])
    rw [hd] at hdec
    exact i_h_lget X hw hs hdec hl kk1
  · have hd := hlen.resolve_left (by simp [i_isSw])
    rw [hd] at hdec
    exact i_h_bget X hw hs hdec hl kk1
  · have hd := hlen.resolve_left (by simp [i_isSw])
    rw [hd] at hdec
    exact i_h_rget X hw hs hdec hl kk1
  · have hd := hlen.resolve_left (by simp [i_isSw])
    rw [hd] at hdec
    exact i_h_aput X hw hs hdec hl kk1
  · have hd := hlen.resolve_left (by simp [i_isSw])
    rw [hd] at hdec
    exact i_h_lput X hw hs hdec hl kk1
  · have hd := hlen.resolve_left (by simp [i_isSw])
    rw [hd] at hdec
    exact i_h_bput X hw hs hdec hl kk1
  · have hd := hlen.resolve_left (by simp [i_isSw])
    rw [hd] at hdec
    exact i_h_rput X hw hs hdec hl kk1
  · have hd := hlen.resolve_left (by simp [i_isSw])
    rw [hd] at hdec
    exact i_h_alen X hw hs hdec hl kk1
  · have hd := hlen.resolve_left (by simp [i_isSw])
    rw [hd] at hdec
    exact i_h_newo X hw hs hE hdec hl kk1
  · have hd := hlen.resolve_left (by simp [i_isSw])
    rw [hd] at hdec
    exact i_h_newa X hw hs hE hdec hl kk1
  · have hd := hlen.resolve_left (by simp [i_isSw])
    rw [hd] at hdec
    exact i_h_newr X hw hs hE hdec hl kk1
  · have hd := hlen.resolve_left (by simp [i_isSw])
    rw [hd] at hdec
    obtain ⟨rfl, h1, h2⟩ := hE
    exact hmna p e _ s m args below meth c H locs Q _ D ad ox cT A L xs _ _ pc pc2 u u2 w w2 _ lo lo2 st st2 h _ ls X hw hs h1 h2 hdec hl kk1
  · have hd := hlen.resolve_left (by simp [i_isSw])
    rw [hd] at hdec
    exact i_h_ldc X hw hs hE hdec hl kk1
  · have hd := hlen.resolve_left (by simp [i_isSw])
    rw [hd] at hdec
    exact i_h_ldc_w X hw hs hE hdec hl kk1
  · have hd := hlen.resolve_left (by simp [i_isSw])
    rw [hd] at hdec
    exact i_h_ldc2_w X hw hs hE hdec hl kk1
  · have hd := hlen.resolve_left (by simp [i_isSw])
    rw [hd] at hdec
    exact i_h_stat X hw hs hE hdec hl kk1
  · exact i_h_sw X.1 X.2.1 hw hs hdec hl kk
  · have hd := hlen.resolve_left (by simp [i_isSw])
    rw [hd] at hdec
    obtain ⟨h9, hs⟩ := i_if_s hs
    rcases hE with ⟨-, h1⟩ | ⟨h1, -⟩
    · exact i_h_obj X hw hs hml h1 hdec hl kk1
    · exact absurd h9 h1
  · have hd := hlen.resolve_left (by simp [i_isSw])
    rw [hd] at hdec
    obtain ⟨h9, hs⟩ := i_if_s hs
    rcases hE with ⟨-, h1⟩ | ⟨h1, -⟩
    · exact i_h_copy X hw hs hml h1 hdec hl kk1
    · exact absurd h9 h1
  · unfold i_s1w at hs
    split at hs
    · rename_i q hq
      obtain ⟨pc3, lo3, st3⟩ := q
      cases hs
      have hd : decode (i_by M) pc = .ok (ins, i_len1 ins) := by
        rcases hlen with q | q
        · cases ins <;> first | (simp [i_isSw] at q; done) | (simp [i_s1] at hq; done)
        · rw [q] at hdec
          cases ins <;> first | exact hdec | (simp [i_s1] at hq; done)
      exact i_s1_ok X.1 X.2.1 hq hd htg hl (fun ls2 h2 => kk ad H locs ls2 (fun _ _ => rfl) hw h2)
    · cases hs
end IST
