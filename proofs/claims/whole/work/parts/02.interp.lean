/-! THE INTERPRETER: values name places of the world (.ref k) or outside things (.retAddr j; .float 1 is the one that may be null); addresses come in by i_tr -/
def i_tr (ad ox : Nat → Nat) : Value → Value
  | .ref k => .ref (ad k)
  | .retAddr j => .ref (ox j)
  | .float b => if b = 1 then (match ox 4 with
    | 0 => .null
    | k + 1 => .ref k) else .float b
  | v => v
theorem i_tr_cat (ad ox : Nat → Nat) (v : Value) : (i_tr ad ox v).category = v.category := by
  cases v <;> first | rfl | skip
  simp only [i_tr]
  split
  · split <;> rfl
  · rfl
abbrev iL : Type := List (Option Value)
abbrev iH : Type := List va_E
def i_kill (lo : iL) (i : Nat) : iL := match i with
  | 0 => lo
  | j + 1 => match lo[j]? with
    | some (some w) => if w.category = 2 then lo.set j none else lo
    | _ => lo
def i_st1 (lo : iL) (i : Nat) (v : Value) : iL := (i_kill lo i).set i (some v)
def i_st2 (lo : iL) (i : Nat) (v : Value) : iL := ((i_kill lo i).set (i + 1) none).set i (some v)
def i_lv (ad ox : Nat → Nat) (lo : iL) : List (Nat × Value) := (List.range lo.length).filterMap (fun i => match lo[i]? with
  | some (some v) => some (i, i_tr ad ox v)
  | _ => none)
def i_LR (ad ox : Nat → Nat) (lo : iL) (ls : Array Slot) (nL : Nat) : Prop := lo.length = nL ∧ ls.size = nL ∧ lv_wf ls ∧ ∀ (i : Nat) (v : Value), lo[i]? = some (some v) → ls[i]? = some (.val (i_tr ad ox v))
theorem i_lv_mem {ad ox : Nat → Nat} {lo : iL} {q : Nat × Value} (h : q ∈ i_lv ad ox lo) : ∃ v, lo[q.1]? = some (some v) ∧ q.2 = i_tr ad ox v := by
  obtain ⟨i, hi, he⟩ := List.mem_filterMap.mp h
  revert he
  cases hx : lo[i]? with
  | none => intro he; cases he
  | some x =>
    cases x with
    | none => intro he; cases he
    | some v => intro he; cases he; exact ⟨v, hx, rfl⟩
theorem i_lv_in {ad ox : Nat → Nat} {lo : iL} {i : Nat} {v : Value} (h : lo[i]? = some (some v)) : (i, i_tr ad ox v) ∈ i_lv ad ox lo := by
  refine List.mem_filterMap.mpr ⟨i, List.mem_range.mpr (List.getElem?_eq_some_iff.mp h).1, ?_⟩
  rw [h]
theorem i_LR.has {ad ox : Nat → Nat} {lo : iL} {ls : Array Slot} {nL : Nat} (h : i_LR ad ox lo ls nL) : lv_has ls nL (i_lv ad ox lo) := by
  refine ⟨h.2.1, h.2.2.1, fun q hq => ?_⟩
  obtain ⟨v, h1, h2⟩ := i_lv_mem hq
  rw [h2]
  exact h.2.2.2 _ _ h1
theorem i_kill_len (lo : iL) (i : Nat) : (i_kill lo i).length = lo.length := by
  unfold i_kill
  split
  · rfl
  · split
    · split
      · simp
      · rfl
    · rfl
theorem i_kill_get {lo : iL} {i j : Nat} {w : Value} (h : (i_kill lo i)[j]? = some (some w)) : lo[j]? = some (some w) ∧ ¬ (j + 1 = i ∧ w.category = 2) := by
  unfold i_kill at h
  split at h
  · exact ⟨h, fun q => by omega⟩
  · rename_i k
    split at h
    · rename_i x hx
      split at h
      · rename_i hc
        by_cases e : j = k
        · subst e
          rw [List.getElem?_set_self (List.getElem?_eq_some_iff.mp hx).1] at h
          cases h
        · rw [List.getElem?_set_ne (fun q => e q.symm)] at h
          exact ⟨h, fun q => e (by omega)⟩
      · rename_i hc
        refine ⟨h, fun q => ?_⟩
        have e : j = k := by omega
        subst e
        rw [hx] at h
        cases h
        exact hc q.2
    · rename_i hx
      refine ⟨h, fun q => ?_⟩
      have e : j = k := by omega
      subst e
      exact hx _ h
theorem i_LR_st1 {ad ox : Nat → Nat} {lo : iL} {ls' : Array Slot} {nL i : Nat} {v : Value} (hn : lo.length = nL) (h : lv_has ls' nL ((i, i_tr ad ox v) :: (i_lv ad ox lo).filter (fun q => !(q.1 == i) && !(q.1 + 1 == i && q.2.category == 2)))) : i_LR ad ox (i_st1 lo i v) ls' nL := by
  refine ⟨by rw [i_st1, List.length_set, i_kill_len]; exact hn, h.1, h.2.1, fun j w hj => ?_⟩
  unfold i_st1 at hj
  by_cases e : j = i
  · subst e
    have hlt : j < (i_kill lo j).length := by
      have := (List.getElem?_eq_some_iff.mp hj).1
      rwa [List.length_set] at this
    rw [List.getElem?_set_self hlt] at hj
    cases hj
    exact h.2.2 _ List.mem_cons_self
  · rw [List.getElem?_set_ne (fun q => e q.symm)] at hj
    obtain ⟨h1, h2⟩ := i_kill_get hj
    refine h.2.2 (j, i_tr ad ox w) (List.mem_cons_of_mem _ (List.mem_filter.mpr ⟨i_lv_in h1, ?_⟩))
    have h3 : ¬ (j + 1 = i ∧ (i_tr ad ox w).category = 2) := by rw [i_tr_cat]; exact h2
    simp only [Bool.and_eq_true, Bool.not_eq_true', beq_eq_false_iff_ne, ne_eq, Bool.and_eq_false_iff]
    refine ⟨e, ?_⟩
    by_cases a : j + 1 = i
    · exact Or.inr (fun b => h3 ⟨a, b⟩)
    · exact Or.inl a
theorem i_LR_st2 {ad ox : Nat → Nat} {lo : iL} {ls' : Array Slot} {nL i : Nat} {v : Value} (hn : lo.length = nL) (h : lv_has ls' nL ((i, i_tr ad ox v) :: (i_lv ad ox lo).filter (fun q => !(q.1 == i) && (!(q.1 == i + 1) && !(q.1 + 1 == i && q.2.category == 2))))) : i_LR ad ox (i_st2 lo i v) ls' nL := by
  refine ⟨by rw [i_st2, List.length_set, List.length_set, i_kill_len]; exact hn, h.1, h.2.1, fun j w hj => ?_⟩
  unfold i_st2 at hj
  by_cases e : j = i
  · subst e
    have hlt : j < ((i_kill lo j).set (j + 1) none).length := by
      have := (List.getElem?_eq_some_iff.mp hj).1
      rwa [List.length_set] at this
    rw [List.getElem?_set_self hlt] at hj
    cases hj
    exact h.2.2 _ List.mem_cons_self
  · rw [List.getElem?_set_ne (fun q => e q.symm)] at hj
    by_cases e2 : j = i + 1
    · subst e2
      by_cases hlt : i + 1 < (i_kill lo i).length
      · rw [List.getElem?_set_self hlt] at hj
        cases hj
      · have := (List.getElem?_eq_some_iff.mp hj).1
        rw [List.length_set] at this
        exact absurd this hlt
    · rw [List.getElem?_set_ne (fun q => e2 q.symm)] at hj
      obtain ⟨h1, h2⟩ := i_kill_get hj
      refine h.2.2 (j, i_tr ad ox w) (List.mem_cons_of_mem _ (List.mem_filter.mpr ⟨i_lv_in h1, ?_⟩))
      have h3 : ¬ (j + 1 = i ∧ (i_tr ad ox w).category = 2) := by rw [i_tr_cat]; exact h2
      simp only [Bool.and_eq_true, Bool.not_eq_true', beq_eq_false_iff_ne, ne_eq, Bool.and_eq_false_iff]
      refine ⟨e, e2, ?_⟩
      by_cases a : j + 1 = i
      · exact Or.inr (fun b => h3 ⟨a, b⟩)
      · exact Or.inl a
/-! what stands on the stack, in a place of the locals -/
section IV
variable {α : Type}
def i_1i (st : List Value) (f : Int32 → List Value → Option α) : Option α := match st with
  | .int x :: r => f x r
  | _ => none
def i_1l (st : List Value) (f : Int64 → List Value → Option α) : Option α := match st with
  | .long x :: r => f x r
  | _ => none
def i_ii (st : List Value) (f : Int32 → Int32 → List Value → Option α) : Option α := match st with
  | .int y :: .int x :: r => f x y r
  | _ => none
def i_ll (st : List Value) (f : Int64 → Int64 → List Value → Option α) : Option α := match st with
  | .long y :: .long x :: r => f x y r
  | _ => none
def i_li (st : List Value) (f : Int64 → Int32 → List Value → Option α) : Option α := match st with
  | .int y :: .long x :: r => f x y r
  | _ => none
def i_1v (st : List Value) (f : Value → List Value → Option α) : Option α := match st with
  | v :: r => f v r
  | _ => none
def i_ldi (lo : iL) (i : Nat) (f : Int32 → Option α) : Option α := match lo[i]? with
  | some (some (.int x)) => f x
  | _ => none
def i_ldl (lo : iL) (i : Nat) (f : Int64 → Option α) : Option α := match lo[i]? with
  | some (some (.long x)) => f x
  | _ => none
def i_lda (lo : iL) (i : Nat) (f : Value → Option α) : Option α := match lo[i]? with
  | some (some (.ref x)) => f (.ref x)
  | some (some (.retAddr x)) => f (.retAddr x)
  | _ => none
def i_1a (st : List Value) (f : Value → List Value → Option α) : Option α := match st with
  | .ref x :: r => f (.ref x) r
  | .retAddr x :: r => f (.retAddr x) r
  | _ => none
theorem i_1i_s {st : List Value} {f : Int32 → List Value → Option α} {z : α} (h : i_1i st f = some z) : ∃ x r, st = .int x :: r ∧ f x r = some z := by
  unfold i_1i at h
  split at h
  · exact ⟨_, _, rfl, h⟩
  · cases h
theorem i_1l_s {st : List Value} {f : Int64 → List Value → Option α} {z : α} (h : i_1l st f = some z) : ∃ x r, st = .long x :: r ∧ f x r = some z := by
  unfold i_1l at h
  split at h
  · exact ⟨_, _, rfl, h⟩
  · cases h
theorem i_ii_s {st : List Value} {f : Int32 → Int32 → List Value → Option α} {z : α} (h : i_ii st f = some z) : ∃ x y r, st = .int y :: .int x :: r ∧ f x y r = some z := by
  unfold i_ii at h
  split at h
  · exact ⟨_, _, _, rfl, h⟩
  · cases h
theorem i_ll_s {st : List Value} {f : Int64 → Int64 → List Value → Option α} {z : α} (h : i_ll st f = some z) : ∃ x y r, st = .long y :: .long x :: r ∧ f x y r = some z := by
  unfold i_ll at h
  split at h
  · exact ⟨_, _, _, rfl, h⟩
  · cases h
theorem i_li_s {st : List Value} {f : Int64 → Int32 → List Value → Option α} {z : α} (h : i_li st f = some z) : ∃ x y r, st = .int y :: .long x :: r ∧ f x y r = some z := by
  unfold i_li at h
  split at h
  · exact ⟨_, _, _, rfl, h⟩
  · cases h
theorem i_1v_s {st : List Value} {f : Value → List Value → Option α} {z : α} (h : i_1v st f = some z) : ∃ x r, st = x :: r ∧ f x r = some z := by
  unfold i_1v at h
  split at h
  · exact ⟨_, _, rfl, h⟩
  · cases h
theorem i_ldi_s {lo : iL} {i : Nat} {f : Int32 → Option α} {z : α} (h : i_ldi lo i f = some z) : ∃ x, lo[i]? = some (some (.int x)) ∧ f x = some z := by
  unfold i_ldi at h
  split at h
  · rename_i x hx; exact ⟨x, hx, h⟩
  · cases h
theorem i_ldl_s {lo : iL} {i : Nat} {f : Int64 → Option α} {z : α} (h : i_ldl lo i f = some z) : ∃ x, lo[i]? = some (some (.long x)) ∧ f x = some z := by
  unfold i_ldl at h
  split at h
  · rename_i x hx; exact ⟨x, hx, h⟩
  · cases h
theorem i_lda_s {lo : iL} {i : Nat} {f : Value → Option α} {z : α} (h : i_lda lo i f = some z) : ∃ v, lo[i]? = some (some v) ∧ f v = some z ∧ ∀ ad ox : Nat → Nat, ∃ b, i_tr ad ox v = .ref b := by
  unfold i_lda at h
  split at h
  · rename_i x hx; exact ⟨.ref x, hx, h, fun ad ox => ⟨ad x, rfl⟩⟩
  · rename_i x hx; exact ⟨.retAddr x, hx, h, fun ad ox => ⟨ox x, rfl⟩⟩
  · cases h
theorem i_1a_s {st : List Value} {f : Value → List Value → Option α} {z : α} (h : i_1a st f = some z) : ∃ v r, st = v :: r ∧ f v r = some z ∧ v.category = 1 ∧ ∀ ad ox : Nat → Nat, ∃ b, i_tr ad ox v = .ref b := by
  unfold i_1a at h
  split at h
  · rename_i x r; exact ⟨.ref x, r, rfl, h, rfl, fun ad ox => ⟨ad x, rfl⟩⟩
  · rename_i x r; exact ⟨.retAddr x, r, rfl, h, rfl, fun ad ox => ⟨ox x, rfl⟩⟩
  · cases h
theorem i_if_s {c : Prop} [Decidable c] {x : Option α} {z : α} (h : (if c then x else none) = some z) : c ∧ x = some z := by
  split at h
  · rename_i hc; exact ⟨hc, h⟩
  · cases h
end IV
def i_b1 (c : ClassFile.Cond) (x : Int32) : Bool := match c with
  | .eq => decide (x = 0)
  | .ne => decide (¬ x = 0)
  | .lt => decide (x < 0)
  | .ge => decide (0 ≤ x)
  | .gt => decide (0 < x)
  | .le => decide (x ≤ 0)
def i_b2 (c : ClassFile.Cond) (x y : Int32) : Bool := match c with
  | .eq => decide (x = y)
  | .ne => decide (¬ x = y)
  | .lt => decide (x < y)
  | .ge => decide (y ≤ x)
  | .gt => decide (y < x)
  | .le => decide (x ≤ y)

/-- one instruction on locals and stack alone; a: where a branch leads -/
def i_s1 (ins : Instr) (a pc : Nat) (lo : iL) (st : List Value) : Option (Nat × iL × List Value) := match ins with
  | .iconst n => some (pc + 1, lo, .int (Int32.ofInt n) :: st)
  | .bipush n => some (pc + 2, lo, .int (Int8.ofInt n).toInt32 :: st)
  | .sipush n => some (pc + 3, lo, .int (Int16.ofInt n).toInt32 :: st)
  | .lconst n => some (pc + 1, lo, .long (Int64.ofNat (n : Nat)) :: st)
  | .aconst_null => some (pc + 1, lo, .null :: st)
  | .iload i => i_ldi lo i fun x => some (pc + 2, lo, .int x :: st)
  | .iload_n k => i_ldi lo (k : Nat) fun x => some (pc + 1, lo, .int x :: st)
  | .lload i => i_ldl lo i fun x => some (pc + 2, lo, .long x :: st)
  | .lload_n k => i_ldl lo (k : Nat) fun x => some (pc + 1, lo, .long x :: st)
  | .aload i => i_lda lo i fun v => some (pc + 2, lo, v :: st)
  | .aload_n k => i_lda lo (k : Nat) fun v => some (pc + 1, lo, v :: st)
  | .istore i => i_1i st fun x r => if i < lo.length then some (pc + 2, i_st1 lo i (.int x), r) else none
  | .istore_n k => i_1i st fun x r => if (k : Nat) < lo.length then some (pc + 1, i_st1 lo (k : Nat) (.int x), r) else none
  | .lstore i => i_1l st fun x r => if i + 1 < lo.length then some (pc + 2, i_st2 lo i (.long x), r) else none
  | .lstore_n k => i_1l st fun x r => if (k : Nat) + 1 < lo.length then some (pc + 1, i_st2 lo (k : Nat) (.long x), r) else none
  | .astore i => i_1a st fun v r => if i < lo.length then some (pc + 2, i_st1 lo i v, r) else none
  | .astore_n k => i_1a st fun v r => if (k : Nat) < lo.length then some (pc + 1, i_st1 lo (k : Nat) v, r) else none
  | .iinc i n => i_ldi lo i fun x => some (pc + 3, i_st1 lo i (.int (x + Int32.ofInt n)), st)
  | .iadd => i_ii st fun x y r => some (pc + 1, lo, .int (x + y) :: r)
  | .isub => i_ii st fun x y r => some (pc + 1, lo, .int (x - y) :: r)
  | .imul => i_ii st fun x y r => some (pc + 1, lo, .int (x * y) :: r)
  | .iand => i_ii st fun x y r => some (pc + 1, lo, .int (x &&& y) :: r)
  | .ior => i_ii st fun x y r => some (pc + 1, lo, .int (x ||| y) :: r)
  | .ixor => i_ii st fun x y r => some (pc + 1, lo, .int (x ^^^ y) :: r)
  | .ishl => i_ii st fun x y r => some (pc + 1, lo, .int (x <<< (y &&& 31)) :: r)
  | .ishr => i_ii st fun x y r => some (pc + 1, lo, .int (x >>> (y &&& 31)) :: r)
  | .iushr => i_ii st fun x y r => some (pc + 1, lo, .int ((x.toUInt32 >>> (y.toUInt32 &&& Int32.toUInt32 31)).toInt32) :: r)
  | .ladd => i_ll st fun x y r => some (pc + 1, lo, .long (x + y) :: r)
  | .lsub => i_ll st fun x y r => some (pc + 1, lo, .long (x - y) :: r)
  | .lmul => i_ll st fun x y r => some (pc + 1, lo, .long (x * y) :: r)
  | .land => i_ll st fun x y r => some (pc + 1, lo, .long (x &&& y) :: r)
  | .lor => i_ll st fun x y r => some (pc + 1, lo, .long (x ||| y) :: r)
  | .lxor => i_ll st fun x y r => some (pc + 1, lo, .long (x ^^^ y) :: r)
  | .lshl => i_li st fun x y r => some (pc + 1, lo, .long (x <<< (y.toInt64 &&& 63)) :: r)
  | .lshr => i_li st fun x y r => some (pc + 1, lo, .long (x >>> (y.toInt64 &&& 63)) :: r)
  | .lushr => i_li st fun x y r => some (pc + 1, lo, .long ((x.toUInt64 >>> (y.toInt64.toUInt64 &&& Int64.toUInt64 63)).toInt64) :: r)
  | .idiv => i_ii st fun x y r => if ¬ y = 0 then some (pc + 1, lo, .int (x / y) :: r) else none
  | .irem => i_ii st fun x y r => if ¬ y = 0 then some (pc + 1, lo, .int (x - x / y * y) :: r) else none
  | .ldiv => i_ll st fun x y r => if ¬ y = 0 then some (pc + 1, lo, .long (x / y) :: r) else none
  | .lrem => i_ll st fun x y r => if ¬ y = 0 then some (pc + 1, lo, .long (x - x / y * y) :: r) else none
  | .lcmp => i_ll st fun x y r => some (pc + 1, lo, .int (lg_cmp x y) :: r)
  | .ineg => i_1i st fun x r => some (pc + 1, lo, .int (-x) :: r)
  | .i2l => i_1i st fun x r => some (pc + 1, lo, .long x.toInt64 :: r)
  | .l2i => i_1l st fun x r => some (pc + 1, lo, .int x.toInt32 :: r)
  | .i2b => i_1i st fun x r => some (pc + 1, lo, .int x.toInt8.toInt32 :: r)
  | .i2s => i_1i st fun x r => some (pc + 1, lo, .int x.toInt16.toInt32 :: r)
  | .i2c => i_1i st fun x r => some (pc + 1, lo, .int (x.toUInt32 % 65536).toInt32 :: r)
  | .dup => i_1v st fun v r => if v.category = 1 then some (pc + 1, lo, v :: v :: r) else none
  | .pop => i_1v st fun v r => if v.category = 1 then some (pc + 1, lo, r) else none
  | .dup_x1 => i_1v st fun v r => i_1v r fun w r2 => if v.category = 1 ∧ w.category = 1 then some (pc + 1, lo, v :: w :: v :: r2) else none
  | .dup2 => i_1v st fun v r => if v.category = 2 then some (pc + 1, lo, v :: v :: r) else i_1v r fun w r2 => if v.category = 1 ∧ w.category = 1 then some (pc + 1, lo, v :: w :: v :: w :: r2) else none
  | .goto off => some (a, lo, st)
  | .ifCond cd off => i_1i st fun x r => some (if i_b1 cd x = true then a else pc + 3, lo, r)
  | .if_icmp cd off => i_ii st fun x y r => some (if i_b2 cd x y = true then a else pc + 3, lo, r)
  | _ => none
/-- how long an instruction is (of those that i_s1 does) -/
def i_len1 (ins : Instr) : Nat := match ins with
  | .iconst _ => 1
  | .bipush _ => 2
  | .sipush _ => 3
  | .lconst _ => 1
  | .aconst_null => 1
  | .iload _ => 2
  | .iload_n _ => 1
  | .lload _ => 2
  | .lload_n _ => 1
  | .aload _ => 2
  | .aload_n _ => 1
  | .istore _ => 2
  | .istore_n _ => 1
  | .lstore _ => 2
  | .lstore_n _ => 1
  | .astore _ => 2
  | .astore_n _ => 1
  | .iinc _ _ => 3
  | .iadd => 1
  | .isub => 1
  | .imul => 1
  | .iand => 1
  | .ior => 1
  | .ixor => 1
  | .ishl => 1
  | .ishr => 1
  | .iushr => 1
  | .ladd => 1
  | .lsub => 1
  | .lmul => 1
  | .land => 1
  | .lor => 1
  | .lxor => 1
  | .lshl => 1
  | .lshr => 1
  | .lushr => 1
  | .idiv => 1
  | .irem => 1
  | .ldiv => 1
  | .lrem => 1
  | .lcmp => 1
  | .ineg => 1
  | .i2l => 1
  | .l2i => 1
  | .i2b => 1
  | .i2s => 1
  | .i2c => 1
  | .dup => 1
  | .pop => 1
  | .dup_x1 => 1
  | .dup2 => 1
  | .goto _ => 3
  | .ifCond _ _ => 3
  | .if_icmp _ _ => 3
  | _ => 0
/-- by how much a branch goes -/
def i_off (ins : Instr) : Option Int := match ins with
  | .goto off => some off
  | .ifCond _ off => some off
  | .if_icmp _ off => some off
  | _ => none
section IS1
variable {p : Program} {l : Launch} {e : Env} {R : Room} {s : State} {m : MethodId} {args : Array Value} {below : List Frame} {meth : Method} {c : Code} {H : Heap} {locs : List Loc} {cells slots : Nat} {Q : State → Prop}
variable {cc : ByteArray}
set_option maxHeartbeats 1000000 in
theorem i_k_iconst (hexec : p.tables.exec = Jvm.exec) (hb : c.code = cc) {ad ox : Nat → Nat} {a pc pc2 nL : Nat} {lo lo2 : iL} {st st2 : List Value} {ls : Array Slot} {n : Int} (hs : i_s1 (.iconst n) a pc lo st = some (pc2, lo2, st2)) (hdg : decode cc pc = .ok (.iconst n, 1)) (hl : i_LR ad ox lo ls nL) (kk : ∀ ls2, i_LR ad ox lo2 ls2 nL → W p l e R s m args below meth c H locs cells slots Q (F0 m pc2 ls2 (st2.map (i_tr ad ox)))) : W p l e R s m args below meth c H locs cells slots Q (F0 m pc ls (st.map (i_tr ad ox))) := by
    have hs : (some (pc + 1, lo, .int (Int32.ofInt n) :: st)) = some (pc2, lo2, st2) := hs
    cases hs
    exact lv_iconst hexec hb hdg rfl (kk ls hl)
set_option maxHeartbeats 1000000 in
theorem i_k_bipush (hexec : p.tables.exec = Jvm.exec) (hb : c.code = cc) {ad ox : Nat → Nat} {a pc pc2 nL : Nat} {lo lo2 : iL} {st st2 : List Value} {ls : Array Slot} {n : Int} (hs : i_s1 (.bipush n) a pc lo st = some (pc2, lo2, st2)) (hdg : decode cc pc = .ok (.bipush n, 2)) (hl : i_LR ad ox lo ls nL) (kk : ∀ ls2, i_LR ad ox lo2 ls2 nL → W p l e R s m args below meth c H locs cells slots Q (F0 m pc2 ls2 (st2.map (i_tr ad ox)))) : W p l e R s m args below meth c H locs cells slots Q (F0 m pc ls (st.map (i_tr ad ox))) := by
    have hs : (some (pc + 2, lo, .int (Int8.ofInt n).toInt32 :: st)) = some (pc2, lo2, st2) := hs
    cases hs
    exact lv_bipush hexec hb hdg rfl (kk ls hl)
set_option maxHeartbeats 1000000 in
theorem i_k_sipush (hexec : p.tables.exec = Jvm.exec) (hb : c.code = cc) {ad ox : Nat → Nat} {a pc pc2 nL : Nat} {lo lo2 : iL} {st st2 : List Value} {ls : Array Slot} {n : Int} (hs : i_s1 (.sipush n) a pc lo st = some (pc2, lo2, st2)) (hdg : decode cc pc = .ok (.sipush n, 3)) (hl : i_LR ad ox lo ls nL) (kk : ∀ ls2, i_LR ad ox lo2 ls2 nL → W p l e R s m args below meth c H locs cells slots Q (F0 m pc2 ls2 (st2.map (i_tr ad ox)))) : W p l e R s m args below meth c H locs cells slots Q (F0 m pc ls (st.map (i_tr ad ox))) := by
    have hs : (some (pc + 3, lo, .int (Int16.ofInt n).toInt32 :: st)) = some (pc2, lo2, st2) := hs
    cases hs
    exact lv_sipush hexec hb hdg rfl (kk ls hl)
set_option maxHeartbeats 1000000 in
theorem i_k_lconst (hexec : p.tables.exec = Jvm.exec) (hb : c.code = cc) {ad ox : Nat → Nat} {a pc pc2 nL : Nat} {lo lo2 : iL} {st st2 : List Value} {ls : Array Slot} {n : Fin 2} (hs : i_s1 (.lconst n) a pc lo st = some (pc2, lo2, st2)) (hdg : decode cc pc = .ok (.lconst n, 1)) (hl : i_LR ad ox lo ls nL) (kk : ∀ ls2, i_LR ad ox lo2 ls2 nL → W p l e R s m args below meth c H locs cells slots Q (F0 m pc2 ls2 (st2.map (i_tr ad ox)))) : W p l e R s m args below meth c H locs cells slots Q (F0 m pc ls (st.map (i_tr ad ox))) := by
    have hs : (some (pc + 1, lo, .long (Int64.ofNat (n : Nat)) :: st)) = some (pc2, lo2, st2) := hs
    cases hs
    exact lv_lconst hexec hb hdg rfl (kk ls hl)
set_option maxHeartbeats 1000000 in
theorem i_k_aconst_null (hexec : p.tables.exec = Jvm.exec) (hb : c.code = cc) {ad ox : Nat → Nat} {a pc pc2 nL : Nat} {lo lo2 : iL} {st st2 : List Value} {ls : Array Slot}  (hs : i_s1 (.aconst_null) a pc lo st = some (pc2, lo2, st2)) (hdg : decode cc pc = .ok (.aconst_null, 1)) (hl : i_LR ad ox lo ls nL) (kk : ∀ ls2, i_LR ad ox lo2 ls2 nL → W p l e R s m args below meth c H locs cells slots Q (F0 m pc2 ls2 (st2.map (i_tr ad ox)))) : W p l e R s m args below meth c H locs cells slots Q (F0 m pc ls (st.map (i_tr ad ox))) := by
    have hs : (some (pc + 1, lo, .null :: st)) = some (pc2, lo2, st2) := hs
    cases hs
    exact lv_null hexec hb hdg (kk ls hl)
set_option maxHeartbeats 1000000 in
theorem i_k_iload (hexec : p.tables.exec = Jvm.exec) (hb : c.code = cc) {ad ox : Nat → Nat} {a pc pc2 nL : Nat} {lo lo2 : iL} {st st2 : List Value} {ls : Array Slot} {i : Nat} (hs : i_s1 (.iload i) a pc lo st = some (pc2, lo2, st2)) (hdg : decode cc pc = .ok (.iload i, 2)) (hl : i_LR ad ox lo ls nL) (kk : ∀ ls2, i_LR ad ox lo2 ls2 nL → W p l e R s m args below meth c H locs cells slots Q (F0 m pc2 ls2 (st2.map (i_tr ad ox)))) : W p l e R s m args below meth c H locs cells slots Q (F0 m pc ls (st.map (i_tr ad ox))) := by
    have hs : (i_ldi lo i fun x => some (pc + 2, lo, .int x :: st)) = some (pc2, lo2, st2) := hs
    obtain ⟨x, hx, h⟩ := i_ldi_s hs
    cases h
    exact lv_iload hexec hb hdg (hl.2.2.2 _ _ hx) (kk ls hl)
set_option maxHeartbeats 1000000 in
theorem i_k_iload_n (hexec : p.tables.exec = Jvm.exec) (hb : c.code = cc) {ad ox : Nat → Nat} {a pc pc2 nL : Nat} {lo lo2 : iL} {st st2 : List Value} {ls : Array Slot} {k : Fin 4} (hs : i_s1 (.iload_n k) a pc lo st = some (pc2, lo2, st2)) (hdg : decode cc pc = .ok (.iload_n k, 1)) (hl : i_LR ad ox lo ls nL) (kk : ∀ ls2, i_LR ad ox lo2 ls2 nL → W p l e R s m args below meth c H locs cells slots Q (F0 m pc2 ls2 (st2.map (i_tr ad ox)))) : W p l e R s m args below meth c H locs cells slots Q (F0 m pc ls (st.map (i_tr ad ox))) := by
    have hs : (i_ldi lo (k : Nat) fun x => some (pc + 1, lo, .int x :: st)) = some (pc2, lo2, st2) := hs
    obtain ⟨x, hx, h⟩ := i_ldi_s hs
    cases h
    exact lv_iload_n hexec hb hdg rfl (hl.2.2.2 _ _ hx) (kk ls hl)
set_option maxHeartbeats 1000000 in
theorem i_k_lload (hexec : p.tables.exec = Jvm.exec) (hb : c.code = cc) {ad ox : Nat → Nat} {a pc pc2 nL : Nat} {lo lo2 : iL} {st st2 : List Value} {ls : Array Slot} {i : Nat} (hs : i_s1 (.lload i) a pc lo st = some (pc2, lo2, st2)) (hdg : decode cc pc = .ok (.lload i, 2)) (hl : i_LR ad ox lo ls nL) (kk : ∀ ls2, i_LR ad ox lo2 ls2 nL → W p l e R s m args below meth c H locs cells slots Q (F0 m pc2 ls2 (st2.map (i_tr ad ox)))) : W p l e R s m args below meth c H locs cells slots Q (F0 m pc ls (st.map (i_tr ad ox))) := by
    have hs : (i_ldl lo i fun x => some (pc + 2, lo, .long x :: st)) = some (pc2, lo2, st2) := hs
    obtain ⟨x, hx, h⟩ := i_ldl_s hs
    cases h
    exact lv_lload hexec hb hdg (hl.2.2.2 _ _ hx) (kk ls hl)
set_option maxHeartbeats 1000000 in
theorem i_k_lload_n (hexec : p.tables.exec = Jvm.exec) (hb : c.code = cc) {ad ox : Nat → Nat} {a pc pc2 nL : Nat} {lo lo2 : iL} {st st2 : List Value} {ls : Array Slot} {k : Fin 4} (hs : i_s1 (.lload_n k) a pc lo st = some (pc2, lo2, st2)) (hdg : decode cc pc = .ok (.lload_n k, 1)) (hl : i_LR ad ox lo ls nL) (kk : ∀ ls2, i_LR ad ox lo2 ls2 nL → W p l e R s m args below meth c H locs cells slots Q (F0 m pc2 ls2 (st2.map (i_tr ad ox)))) : W p l e R s m args below meth c H locs cells slots Q (F0 m pc ls (st.map (i_tr ad ox))) := by
    have hs : (i_ldl lo (k : Nat) fun x => some (pc + 1, lo, .long x :: st)) = some (pc2, lo2, st2) := hs
    obtain ⟨x, hx, h⟩ := i_ldl_s hs
    cases h
    exact lv_lload_n hexec hb hdg rfl (hl.2.2.2 _ _ hx) (kk ls hl)
set_option maxHeartbeats 1000000 in
theorem i_k_aload (hexec : p.tables.exec = Jvm.exec) (hb : c.code = cc) {ad ox : Nat → Nat} {a pc pc2 nL : Nat} {lo lo2 : iL} {st st2 : List Value} {ls : Array Slot} {i : Nat} (hs : i_s1 (.aload i) a pc lo st = some (pc2, lo2, st2)) (hdg : decode cc pc = .ok (.aload i, 2)) (hl : i_LR ad ox lo ls nL) (kk : ∀ ls2, i_LR ad ox lo2 ls2 nL → W p l e R s m args below meth c H locs cells slots Q (F0 m pc2 ls2 (st2.map (i_tr ad ox)))) : W p l e R s m args below meth c H locs cells slots Q (F0 m pc ls (st.map (i_tr ad ox))) := by
    have hs : (i_lda lo i fun v => some (pc + 2, lo, v :: st)) = some (pc2, lo2, st2) := hs
    obtain ⟨v, hx, h, hr⟩ := i_lda_s hs
    cases h
    obtain ⟨b, hb2⟩ := hr ad ox
    have hq := hl.2.2.2 _ _ hx
    have k2 := kk ls hl
    rw [List.map_cons] at k2
    rw [hb2] at hq k2
    exact lv_aload hexec hb hdg hq k2
set_option maxHeartbeats 1000000 in
theorem i_k_aload_n (hexec : p.tables.exec = Jvm.exec) (hb : c.code = cc) {ad ox : Nat → Nat} {a pc pc2 nL : Nat} {lo lo2 : iL} {st st2 : List Value} {ls : Array Slot} {k : Fin 4} (hs : i_s1 (.aload_n k) a pc lo st = some (pc2, lo2, st2)) (hdg : decode cc pc = .ok (.aload_n k, 1)) (hl : i_LR ad ox lo ls nL) (kk : ∀ ls2, i_LR ad ox lo2 ls2 nL → W p l e R s m args below meth c H locs cells slots Q (F0 m pc2 ls2 (st2.map (i_tr ad ox)))) : W p l e R s m args below meth c H locs cells slots Q (F0 m pc ls (st.map (i_tr ad ox))) := by
    have hs : (i_lda lo (k : Nat) fun v => some (pc + 1, lo, v :: st)) = some (pc2, lo2, st2) := hs
    obtain ⟨v, hx, h, hr⟩ := i_lda_s hs
    cases h
    obtain ⟨b, hb2⟩ := hr ad ox
    have hq := hl.2.2.2 _ _ hx
    have k2 := kk ls hl
    rw [List.map_cons] at k2
    rw [hb2] at hq k2
    exact lv_aload_n hexec hb hdg rfl hq k2
set_option maxHeartbeats 1000000 in
theorem i_k_istore (hexec : p.tables.exec = Jvm.exec) (hb : c.code = cc) {ad ox : Nat → Nat} {a pc pc2 nL : Nat} {lo lo2 : iL} {st st2 : List Value} {ls : Array Slot} {i : Nat} (hs : i_s1 (.istore i) a pc lo st = some (pc2, lo2, st2)) (hdg : decode cc pc = .ok (.istore i, 2)) (hl : i_LR ad ox lo ls nL) (kk : ∀ ls2, i_LR ad ox lo2 ls2 nL → W p l e R s m args below meth c H locs cells slots Q (F0 m pc2 ls2 (st2.map (i_tr ad ox)))) : W p l e R s m args below meth c H locs cells slots Q (F0 m pc ls (st.map (i_tr ad ox))) := by
    have hs : (i_1i st fun x r => if i < lo.length then some (pc + 2, i_st1 lo i (.int x), r) else none) = some (pc2, lo2, st2) := hs
    obtain ⟨x, r, rfl, h⟩ := i_1i_s hs
    obtain ⟨hi, h⟩ := i_if_s h
    cases h
    exact lv_istore hexec hb hdg hl.has (hl.1 ▸ hi) rfl (fun ls2 h2 => kk ls2 (i_LR_st1 (v := .int x) hl.1 h2))
set_option maxHeartbeats 1000000 in
theorem i_k_istore_n (hexec : p.tables.exec = Jvm.exec) (hb : c.code = cc) {ad ox : Nat → Nat} {a pc pc2 nL : Nat} {lo lo2 : iL} {st st2 : List Value} {ls : Array Slot} {k : Fin 4} (hs : i_s1 (.istore_n k) a pc lo st = some (pc2, lo2, st2)) (hdg : decode cc pc = .ok (.istore_n k, 1)) (hl : i_LR ad ox lo ls nL) (kk : ∀ ls2, i_LR ad ox lo2 ls2 nL → W p l e R s m args below meth c H locs cells slots Q (F0 m pc2 ls2 (st2.map (i_tr ad ox)))) : W p l e R s m args below meth c H locs cells slots Q (F0 m pc ls (st.map (i_tr ad ox))) := by
    have hs : (i_1i st fun x r => if (k : Nat) < lo.length then some (pc + 1, i_st1 lo (k : Nat) (.int x), r) else none) = some (pc2, lo2, st2) := hs
    obtain ⟨x, r, rfl, h⟩ := i_1i_s hs
    obtain ⟨hi, h⟩ := i_if_s h
    cases h
    exact lv_istore_n hexec hb hdg rfl hl.has (hl.1 ▸ hi) rfl (fun ls2 h2 => kk ls2 (i_LR_st1 (v := .int x) hl.1 h2))
set_option maxHeartbeats 1000000 in
theorem i_k_lstore (hexec : p.tables.exec = Jvm.exec) (hb : c.code = cc) {ad ox : Nat → Nat} {a pc pc2 nL : Nat} {lo lo2 : iL} {st st2 : List Value} {ls : Array Slot} {i : Nat} (hs : i_s1 (.lstore i) a pc lo st = some (pc2, lo2, st2)) (hdg : decode cc pc = .ok (.lstore i, 2)) (hl : i_LR ad ox lo ls nL) (kk : ∀ ls2, i_LR ad ox lo2 ls2 nL → W p l e R s m args below meth c H locs cells slots Q (F0 m pc2 ls2 (st2.map (i_tr ad ox)))) : W p l e R s m args below meth c H locs cells slots Q (F0 m pc ls (st.map (i_tr ad ox))) := by
    have hs : (i_1l st fun x r => if i + 1 < lo.length then some (pc + 2, i_st2 lo i (.long x), r) else none) = some (pc2, lo2, st2) := hs
    obtain ⟨x, r, rfl, h⟩ := i_1l_s hs
    obtain ⟨hi, h⟩ := i_if_s h
    cases h
    exact lv_lstore hexec hb hdg hl.has (hl.1 ▸ hi) rfl (fun ls2 h2 => kk ls2 (i_LR_st2 (v := .long x) hl.1 h2))
set_option maxHeartbeats 1000000 in
theorem i_k_lstore_n (hexec : p.tables.exec = Jvm.exec) (hb : c.code = cc) {ad ox : Nat → Nat} {a pc pc2 nL : Nat} {lo lo2 : iL} {st st2 : List Value} {ls : Array Slot} {k : Fin 4} (hs : i_s1 (.lstore_n k) a pc lo st = some (pc2, lo2, st2)) (hdg : decode cc pc = .ok (.lstore_n k, 1)) (hl : i_LR ad ox lo ls nL) (kk : ∀ ls2, i_LR ad ox lo2 ls2 nL → W p l e R s m args below meth c H locs cells slots Q (F0 m pc2 ls2 (st2.map (i_tr ad ox)))) : W p l e R s m args below meth c H locs cells slots Q (F0 m pc ls (st.map (i_tr ad ox))) := by
    have hs : (i_1l st fun x r => if (k : Nat) + 1 < lo.length then some (pc + 1, i_st2 lo (k : Nat) (.long x), r) else none) = some (pc2, lo2, st2) := hs
    obtain ⟨x, r, rfl, h⟩ := i_1l_s hs
    obtain ⟨hi, h⟩ := i_if_s h
    cases h
    exact lv_lstore_n hexec hb hdg rfl hl.has (hl.1 ▸ hi) rfl (fun ls2 h2 => kk ls2 (i_LR_st2 (v := .long x) hl.1 h2))
set_option maxHeartbeats 1000000 in
theorem i_k_astore (hexec : p.tables.exec = Jvm.exec) (hb : c.code = cc) {ad ox : Nat → Nat} {a pc pc2 nL : Nat} {lo lo2 : iL} {st st2 : List Value} {ls : Array Slot} {i : Nat} (hs : i_s1 (.astore i) a pc lo st = some (pc2, lo2, st2)) (hdg : decode cc pc = .ok (.astore i, 2)) (hl : i_LR ad ox lo ls nL) (kk : ∀ ls2, i_LR ad ox lo2 ls2 nL → W p l e R s m args below meth c H locs cells slots Q (F0 m pc2 ls2 (st2.map (i_tr ad ox)))) : W p l e R s m args below meth c H locs cells slots Q (F0 m pc ls (st.map (i_tr ad ox))) := by
    have hs : (i_1a st fun v r => if i < lo.length then some (pc + 2, i_st1 lo i v, r) else none) = some (pc2, lo2, st2) := hs
    obtain ⟨v, r, rfl, h, hc, hr⟩ := i_1a_s hs
    obtain ⟨hi, h⟩ := i_if_s h
    cases h
    obtain ⟨b, hb2⟩ := hr ad ox
    rw [List.map_cons, hb2]
    exact lv_astore hexec hb hdg hl.has (hl.1 ▸ hi) rfl (fun ls2 h2 => kk ls2 (i_LR_st1 (v := v) hl.1 (by rw [hb2]; exact h2)))
set_option maxHeartbeats 1000000 in
theorem i_k_astore_n (hexec : p.tables.exec = Jvm.exec) (hb : c.code = cc) {ad ox : Nat → Nat} {a pc pc2 nL : Nat} {lo lo2 : iL} {st st2 : List Value} {ls : Array Slot} {k : Fin 4} (hs : i_s1 (.astore_n k) a pc lo st = some (pc2, lo2, st2)) (hdg : decode cc pc = .ok (.astore_n k, 1)) (hl : i_LR ad ox lo ls nL) (kk : ∀ ls2, i_LR ad ox lo2 ls2 nL → W p l e R s m args below meth c H locs cells slots Q (F0 m pc2 ls2 (st2.map (i_tr ad ox)))) : W p l e R s m args below meth c H locs cells slots Q (F0 m pc ls (st.map (i_tr ad ox))) := by
    have hs : (i_1a st fun v r => if (k : Nat) < lo.length then some (pc + 1, i_st1 lo (k : Nat) v, r) else none) = some (pc2, lo2, st2) := hs
    obtain ⟨v, r, rfl, h, hc, hr⟩ := i_1a_s hs
    obtain ⟨hi, h⟩ := i_if_s h
    cases h
    obtain ⟨b, hb2⟩ := hr ad ox
    rw [List.map_cons, hb2]
    exact lv_astore_n hexec hb hdg rfl hl.has (hl.1 ▸ hi) rfl (fun ls2 h2 => kk ls2 (i_LR_st1 (v := v) hl.1 (by rw [hb2]; exact h2)))
set_option maxHeartbeats 1000000 in
theorem i_k_iinc (hexec : p.tables.exec = Jvm.exec) (hb : c.code = cc) {ad ox : Nat → Nat} {a pc pc2 nL : Nat} {lo lo2 : iL} {st st2 : List Value} {ls : Array Slot} {i : Nat} {n : Int} (hs : i_s1 (.iinc i n) a pc lo st = some (pc2, lo2, st2)) (hdg : decode cc pc = .ok (.iinc i n, 3)) (hl : i_LR ad ox lo ls nL) (kk : ∀ ls2, i_LR ad ox lo2 ls2 nL → W p l e R s m args below meth c H locs cells slots Q (F0 m pc2 ls2 (st2.map (i_tr ad ox)))) : W p l e R s m args below meth c H locs cells slots Q (F0 m pc ls (st.map (i_tr ad ox))) := by
    have hs : (i_ldi lo i fun x => some (pc + 3, i_st1 lo i (.int (x + Int32.ofInt n)), st)) = some (pc2, lo2, st2) := hs
    obtain ⟨x, hx, h⟩ := i_ldi_s hs
    cases h
    obtain ⟨j, hj⟩ := List.getElem?_of_mem (i_lv_in (ad := ad) (ox := ox) hx)
    exact lv_iinc hexec hb hdg hl.has hj rfl (hl.1 ▸ (List.getElem?_eq_some_iff.mp hx).1) rfl (fun ls2 h2 => kk ls2 (i_LR_st1 (v := .int (x + Int32.ofInt n)) hl.1 h2))
set_option maxHeartbeats 1000000 in
theorem i_k_iadd (hexec : p.tables.exec = Jvm.exec) (hb : c.code = cc) {ad ox : Nat → Nat} {a pc pc2 nL : Nat} {lo lo2 : iL} {st st2 : List Value} {ls : Array Slot}  (hs : i_s1 (.iadd) a pc lo st = some (pc2, lo2, st2)) (hdg : decode cc pc = .ok (.iadd, 1)) (hl : i_LR ad ox lo ls nL) (kk : ∀ ls2, i_LR ad ox lo2 ls2 nL → W p l e R s m args below meth c H locs cells slots Q (F0 m pc2 ls2 (st2.map (i_tr ad ox)))) : W p l e R s m args below meth c H locs cells slots Q (F0 m pc ls (st.map (i_tr ad ox))) := by
    have hs : (i_ii st fun x y r => some (pc + 1, lo, .int (x + y) :: r)) = some (pc2, lo2, st2) := hs
    obtain ⟨x, y, r, rfl, h⟩ := i_ii_s hs
    cases h
    exact lv_iadd hexec hb hdg (kk ls hl)
set_option maxHeartbeats 1000000 in
theorem i_k_isub (hexec : p.tables.exec = Jvm.exec) (hb : c.code = cc) {ad ox : Nat → Nat} {a pc pc2 nL : Nat} {lo lo2 : iL} {st st2 : List Value} {ls : Array Slot}  (hs : i_s1 (.isub) a pc lo st = some (pc2, lo2, st2)) (hdg : decode cc pc = .ok (.isub, 1)) (hl : i_LR ad ox lo ls nL) (kk : ∀ ls2, i_LR ad ox lo2 ls2 nL → W p l e R s m args below meth c H locs cells slots Q (F0 m pc2 ls2 (st2.map (i_tr ad ox)))) : W p l e R s m args below meth c H locs cells slots Q (F0 m pc ls (st.map (i_tr ad ox))) := by
    have hs : (i_ii st fun x y r => some (pc + 1, lo, .int (x - y) :: r)) = some (pc2, lo2, st2) := hs
    obtain ⟨x, y, r, rfl, h⟩ := i_ii_s hs
    cases h
    exact lv_isub hexec hb hdg (kk ls hl)
set_option maxHeartbeats 1000000 in
theorem i_k_imul (hexec : p.tables.exec = Jvm.exec) (hb : c.code = cc) {ad ox : Nat → Nat} {a pc pc2 nL : Nat} {lo lo2 : iL} {st st2 : List Value} {ls : Array Slot}  (hs : i_s1 (.imul) a pc lo st = some (pc2, lo2, st2)) (hdg : decode cc pc = .ok (.imul, 1)) (hl : i_LR ad ox lo ls nL) (kk : ∀ ls2, i_LR ad ox lo2 ls2 nL → W p l e R s m args below meth c H locs cells slots Q (F0 m pc2 ls2 (st2.map (i_tr ad ox)))) : W p l e R s m args below meth c H locs cells slots Q (F0 m pc ls (st.map (i_tr ad ox))) := by
    have hs : (i_ii st fun x y r => some (pc + 1, lo, .int (x * y) :: r)) = some (pc2, lo2, st2) := hs
    obtain ⟨x, y, r, rfl, h⟩ := i_ii_s hs
    cases h
    exact lv_imul hexec hb hdg (kk ls hl)
set_option maxHeartbeats 1000000 in
theorem i_k_iand (hexec : p.tables.exec = Jvm.exec) (hb : c.code = cc) {ad ox : Nat → Nat} {a pc pc2 nL : Nat} {lo lo2 : iL} {st st2 : List Value} {ls : Array Slot}  (hs : i_s1 (.iand) a pc lo st = some (pc2, lo2, st2)) (hdg : decode cc pc = .ok (.iand, 1)) (hl : i_LR ad ox lo ls nL) (kk : ∀ ls2, i_LR ad ox lo2 ls2 nL → W p l e R s m args below meth c H locs cells slots Q (F0 m pc2 ls2 (st2.map (i_tr ad ox)))) : W p l e R s m args below meth c H locs cells slots Q (F0 m pc ls (st.map (i_tr ad ox))) := by
    have hs : (i_ii st fun x y r => some (pc + 1, lo, .int (x &&& y) :: r)) = some (pc2, lo2, st2) := hs
    obtain ⟨x, y, r, rfl, h⟩ := i_ii_s hs
    cases h
    exact lv_iand hexec hb hdg (kk ls hl)
set_option maxHeartbeats 1000000 in
theorem i_k_ior (hexec : p.tables.exec = Jvm.exec) (hb : c.code = cc) {ad ox : Nat → Nat} {a pc pc2 nL : Nat} {lo lo2 : iL} {st st2 : List Value} {ls : Array Slot}  (hs : i_s1 (.ior) a pc lo st = some (pc2, lo2, st2)) (hdg : decode cc pc = .ok (.ior, 1)) (hl : i_LR ad ox lo ls nL) (kk : ∀ ls2, i_LR ad ox lo2 ls2 nL → W p l e R s m args below meth c H locs cells slots Q (F0 m pc2 ls2 (st2.map (i_tr ad ox)))) : W p l e R s m args below meth c H locs cells slots Q (F0 m pc ls (st.map (i_tr ad ox))) := by
    have hs : (i_ii st fun x y r => some (pc + 1, lo, .int (x ||| y) :: r)) = some (pc2, lo2, st2) := hs
    obtain ⟨x, y, r, rfl, h⟩ := i_ii_s hs
    cases h
    exact lv_ior hexec hb hdg (kk ls hl)
set_option maxHeartbeats 1000000 in
theorem i_k_ixor (hexec : p.tables.exec = Jvm.exec) (hb : c.code = cc) {ad ox : Nat → Nat} {a pc pc2 nL : Nat} {lo lo2 : iL} {st st2 : List Value} {ls : Array Slot}  (hs : i_s1 (.ixor) a pc lo st = some (pc2, lo2, st2)) (hdg : decode cc pc = .ok (.ixor, 1)) (hl : i_LR ad ox lo ls nL) (kk : ∀ ls2, i_LR ad ox lo2 ls2 nL → W p l e R s m args below meth c H locs cells slots Q (F0 m pc2 ls2 (st2.map (i_tr ad ox)))) : W p l e R s m args below meth c H locs cells slots Q (F0 m pc ls (st.map (i_tr ad ox))) := by
    have hs : (i_ii st fun x y r => some (pc + 1, lo, .int (x ^^^ y) :: r)) = some (pc2, lo2, st2) := hs
    obtain ⟨x, y, r, rfl, h⟩ := i_ii_s hs
    cases h
    exact lv_ixor hexec hb hdg (kk ls hl)
set_option maxHeartbeats 1000000 in
theorem i_k_ishl (hexec : p.tables.exec = Jvm.exec) (hb : c.code = cc) {ad ox : Nat → Nat} {a pc pc2 nL : Nat} {lo lo2 : iL} {st st2 : List Value} {ls : Array Slot}  (hs : i_s1 (.ishl) a pc lo st = some (pc2, lo2, st2)) (hdg : decode cc pc = .ok (.ishl, 1)) (hl : i_LR ad ox lo ls nL) (kk : ∀ ls2, i_LR ad ox lo2 ls2 nL → W p l e R s m args below meth c H locs cells slots Q (F0 m pc2 ls2 (st2.map (i_tr ad ox)))) : W p l e R s m args below meth c H locs cells slots Q (F0 m pc ls (st.map (i_tr ad ox))) := by
    have hs : (i_ii st fun x y r => some (pc + 1, lo, .int (x <<< (y &&& 31)) :: r)) = some (pc2, lo2, st2) := hs
    obtain ⟨x, y, r, rfl, h⟩ := i_ii_s hs
    cases h
    exact lv_ishl hexec hb hdg (kk ls hl)
set_option maxHeartbeats 1000000 in
theorem i_k_ishr (hexec : p.tables.exec = Jvm.exec) (hb : c.code = cc) {ad ox : Nat → Nat} {a pc pc2 nL : Nat} {lo lo2 : iL} {st st2 : List Value} {ls : Array Slot}  (hs : i_s1 (.ishr) a pc lo st = some (pc2, lo2, st2)) (hdg : decode cc pc = .ok (.ishr, 1)) (hl : i_LR ad ox lo ls nL) (kk : ∀ ls2, i_LR ad ox lo2 ls2 nL → W p l e R s m args below meth c H locs cells slots Q (F0 m pc2 ls2 (st2.map (i_tr ad ox)))) : W p l e R s m args below meth c H locs cells slots Q (F0 m pc ls (st.map (i_tr ad ox))) := by
    have hs : (i_ii st fun x y r => some (pc + 1, lo, .int (x >>> (y &&& 31)) :: r)) = some (pc2, lo2, st2) := hs
    obtain ⟨x, y, r, rfl, h⟩ := i_ii_s hs
    cases h
    exact lv_ishr hexec hb hdg (kk ls hl)
set_option maxHeartbeats 1000000 in
theorem i_k_iushr (hexec : p.tables.exec = Jvm.exec) (hb : c.code = cc) {ad ox : Nat → Nat} {a pc pc2 nL : Nat} {lo lo2 : iL} {st st2 : List Value} {ls : Array Slot}  (hs : i_s1 (.iushr) a pc lo st = some (pc2, lo2, st2)) (hdg : decode cc pc = .ok (.iushr, 1)) (hl : i_LR ad ox lo ls nL) (kk : ∀ ls2, i_LR ad ox lo2 ls2 nL → W p l e R s m args below meth c H locs cells slots Q (F0 m pc2 ls2 (st2.map (i_tr ad ox)))) : W p l e R s m args below meth c H locs cells slots Q (F0 m pc ls (st.map (i_tr ad ox))) := by
    have hs : (i_ii st fun x y r => some (pc + 1, lo, .int ((x.toUInt32 >>> (y.toUInt32 &&& Int32.toUInt32 31)).toInt32) :: r)) = some (pc2, lo2, st2) := hs
    obtain ⟨x, y, r, rfl, h⟩ := i_ii_s hs
    cases h
    exact lv_iushr hexec hb hdg rfl (kk ls hl)
set_option maxHeartbeats 1000000 in
theorem i_k_ladd (hexec : p.tables.exec = Jvm.exec) (hb : c.code = cc) {ad ox : Nat → Nat} {a pc pc2 nL : Nat} {lo lo2 : iL} {st st2 : List Value} {ls : Array Slot}  (hs : i_s1 (.ladd) a pc lo st = some (pc2, lo2, st2)) (hdg : decode cc pc = .ok (.ladd, 1)) (hl : i_LR ad ox lo ls nL) (kk : ∀ ls2, i_LR ad ox lo2 ls2 nL → W p l e R s m args below meth c H locs cells slots Q (F0 m pc2 ls2 (st2.map (i_tr ad ox)))) : W p l e R s m args below meth c H locs cells slots Q (F0 m pc ls (st.map (i_tr ad ox))) := by
    have hs : (i_ll st fun x y r => some (pc + 1, lo, .long (x + y) :: r)) = some (pc2, lo2, st2) := hs
    obtain ⟨x, y, r, rfl, h⟩ := i_ll_s hs
    cases h
    exact lv_ladd hexec hb hdg (kk ls hl)
set_option maxHeartbeats 1000000 in
theorem i_k_lsub (hexec : p.tables.exec = Jvm.exec) (hb : c.code = cc) {ad ox : Nat → Nat} {a pc pc2 nL : Nat} {lo lo2 : iL} {st st2 : List Value} {ls : Array Slot}  (hs : i_s1 (.lsub) a pc lo st = some (pc2, lo2, st2)) (hdg : decode cc pc = .ok (.lsub, 1)) (hl : i_LR ad ox lo ls nL) (kk : ∀ ls2, i_LR ad ox lo2 ls2 nL → W p l e R s m args below meth c H locs cells slots Q (F0 m pc2 ls2 (st2.map (i_tr ad ox)))) : W p l e R s m args below meth c H locs cells slots Q (F0 m pc ls (st.map (i_tr ad ox))) := by
    have hs : (i_ll st fun x y r => some (pc + 1, lo, .long (x - y) :: r)) = some (pc2, lo2, st2) := hs
    obtain ⟨x, y, r, rfl, h⟩ := i_ll_s hs
    cases h
    exact lv_lsub hexec hb hdg (kk ls hl)
set_option maxHeartbeats 1000000 in
theorem i_k_lmul (hexec : p.tables.exec = Jvm.exec) (hb : c.code = cc) {ad ox : Nat → Nat} {a pc pc2 nL : Nat} {lo lo2 : iL} {st st2 : List Value} {ls : Array Slot}  (hs : i_s1 (.lmul) a pc lo st = some (pc2, lo2, st2)) (hdg : decode cc pc = .ok (.lmul, 1)) (hl : i_LR ad ox lo ls nL) (kk : ∀ ls2, i_LR ad ox lo2 ls2 nL → W p l e R s m args below meth c H locs cells slots Q (F0 m pc2 ls2 (st2.map (i_tr ad ox)))) : W p l e R s m args below meth c H locs cells slots Q (F0 m pc ls (st.map (i_tr ad ox))) := by
    have hs : (i_ll st fun x y r => some (pc + 1, lo, .long (x * y) :: r)) = some (pc2, lo2, st2) := hs
    obtain ⟨x, y, r, rfl, h⟩ := i_ll_s hs
    cases h
    exact lv_lmul hexec hb hdg (kk ls hl)
set_option maxHeartbeats 1000000 in
theorem i_k_land (hexec : p.tables.exec = Jvm.exec) (hb : c.code = cc) {ad ox : Nat → Nat} {a pc pc2 nL : Nat} {lo lo2 : iL} {st st2 : List Value} {ls : Array Slot}  (hs : i_s1 (.land) a pc lo st = some (pc2, lo2, st2)) (hdg : decode cc pc = .ok (.land, 1)) (hl : i_LR ad ox lo ls nL) (kk : ∀ ls2, i_LR ad ox lo2 ls2 nL → W p l e R s m args below meth c H locs cells slots Q (F0 m pc2 ls2 (st2.map (i_tr ad ox)))) : W p l e R s m args below meth c H locs cells slots Q (F0 m pc ls (st.map (i_tr ad ox))) := by
    have hs : (i_ll st fun x y r => some (pc + 1, lo, .long (x &&& y) :: r)) = some (pc2, lo2, st2) := hs
    obtain ⟨x, y, r, rfl, h⟩ := i_ll_s hs
    cases h
    exact lv_land hexec hb hdg (kk ls hl)
set_option maxHeartbeats 1000000 in
theorem i_k_lor (hexec : p.tables.exec = Jvm.exec) (hb : c.code = cc) {ad ox : Nat → Nat} {a pc pc2 nL : Nat} {lo lo2 : iL} {st st2 : List Value} {ls : Array Slot}  (hs : i_s1 (.lor) a pc lo st = some (pc2, lo2, st2)) (hdg : decode cc pc = .ok (.lor, 1)) (hl : i_LR ad ox lo ls nL) (kk : ∀ ls2, i_LR ad ox lo2 ls2 nL → W p l e R s m args below meth c H locs cells slots Q (F0 m pc2 ls2 (st2.map (i_tr ad ox)))) : W p l e R s m args below meth c H locs cells slots Q (F0 m pc ls (st.map (i_tr ad ox))) := by
    have hs : (i_ll st fun x y r => some (pc + 1, lo, .long (x ||| y) :: r)) = some (pc2, lo2, st2) := hs
    obtain ⟨x, y, r, rfl, h⟩ := i_ll_s hs
    cases h
    exact lv_lor hexec hb hdg (kk ls hl)
set_option maxHeartbeats 1000000 in
theorem i_k_lxor (hexec : p.tables.exec = Jvm.exec) (hb : c.code = cc) {ad ox : Nat → Nat} {a pc pc2 nL : Nat} {lo lo2 : iL} {st st2 : List Value} {ls : Array Slot}  (hs : i_s1 (.lxor) a pc lo st = some (pc2, lo2, st2)) (hdg : decode cc pc = .ok (.lxor, 1)) (hl : i_LR ad ox lo ls nL) (kk : ∀ ls2, i_LR ad ox lo2 ls2 nL → W p l e R s m args below meth c H locs cells slots Q (F0 m pc2 ls2 (st2.map (i_tr ad ox)))) : W p l e R s m args below meth c H locs cells slots Q (F0 m pc ls (st.map (i_tr ad ox))) := by
    have hs : (i_ll st fun x y r => some (pc + 1, lo, .long (x ^^^ y) :: r)) = some (pc2, lo2, st2) := hs
    obtain ⟨x, y, r, rfl, h⟩ := i_ll_s hs
    cases h
    exact lv_lxor hexec hb hdg (kk ls hl)
set_option maxHeartbeats 1000000 in
theorem i_k_lshl (hexec : p.tables.exec = Jvm.exec) (hb : c.code = cc) {ad ox : Nat → Nat} {a pc pc2 nL : Nat} {lo lo2 : iL} {st st2 : List Value} {ls : Array Slot}  (hs : i_s1 (.lshl) a pc lo st = some (pc2, lo2, st2)) (hdg : decode cc pc = .ok (.lshl, 1)) (hl : i_LR ad ox lo ls nL) (kk : ∀ ls2, i_LR ad ox lo2 ls2 nL → W p l e R s m args below meth c H locs cells slots Q (F0 m pc2 ls2 (st2.map (i_tr ad ox)))) : W p l e R s m args below meth c H locs cells slots Q (F0 m pc ls (st.map (i_tr ad ox))) := by
    have hs : (i_li st fun x y r => some (pc + 1, lo, .long (x <<< (y.toInt64 &&& 63)) :: r)) = some (pc2, lo2, st2) := hs
    obtain ⟨x, y, r, rfl, h⟩ := i_li_s hs
    cases h
    exact lv_lshl hexec hb hdg rfl (kk ls hl)
set_option maxHeartbeats 1000000 in
theorem i_k_lshr (hexec : p.tables.exec = Jvm.exec) (hb : c.code = cc) {ad ox : Nat → Nat} {a pc pc2 nL : Nat} {lo lo2 : iL} {st st2 : List Value} {ls : Array Slot}  (hs : i_s1 (.lshr) a pc lo st = some (pc2, lo2, st2)) (hdg : decode cc pc = .ok (.lshr, 1)) (hl : i_LR ad ox lo ls nL) (kk : ∀ ls2, i_LR ad ox lo2 ls2 nL → W p l e R s m args below meth c H locs cells slots Q (F0 m pc2 ls2 (st2.map (i_tr ad ox)))) : W p l e R s m args below meth c H locs cells slots Q (F0 m pc ls (st.map (i_tr ad ox))) := by
    have hs : (i_li st fun x y r => some (pc + 1, lo, .long (x >>> (y.toInt64 &&& 63)) :: r)) = some (pc2, lo2, st2) := hs
    obtain ⟨x, y, r, rfl, h⟩ := i_li_s hs
    cases h
    exact lv_lshr hexec hb hdg rfl (kk ls hl)
set_option maxHeartbeats 1000000 in
theorem i_k_lushr (hexec : p.tables.exec = Jvm.exec) (hb : c.code = cc) {ad ox : Nat → Nat} {a pc pc2 nL : Nat} {lo lo2 : iL} {st st2 : List Value} {ls : Array Slot}  (hs : i_s1 (.lushr) a pc lo st = some (pc2, lo2, st2)) (hdg : decode cc pc = .ok (.lushr, 1)) (hl : i_LR ad ox lo ls nL) (kk : ∀ ls2, i_LR ad ox lo2 ls2 nL → W p l e R s m args below meth c H locs cells slots Q (F0 m pc2 ls2 (st2.map (i_tr ad ox)))) : W p l e R s m args below meth c H locs cells slots Q (F0 m pc ls (st.map (i_tr ad ox))) := by
    have hs : (i_li st fun x y r => some (pc + 1, lo, .long ((x.toUInt64 >>> (y.toInt64.toUInt64 &&& Int64.toUInt64 63)).toInt64) :: r)) = some (pc2, lo2, st2) := hs
    obtain ⟨x, y, r, rfl, h⟩ := i_li_s hs
    cases h
    exact lv_lushr hexec hb hdg rfl (kk ls hl)
set_option maxHeartbeats 1000000 in
theorem i_k_idiv (hexec : p.tables.exec = Jvm.exec) (hb : c.code = cc) {ad ox : Nat → Nat} {a pc pc2 nL : Nat} {lo lo2 : iL} {st st2 : List Value} {ls : Array Slot}  (hs : i_s1 (.idiv) a pc lo st = some (pc2, lo2, st2)) (hdg : decode cc pc = .ok (.idiv, 1)) (hl : i_LR ad ox lo ls nL) (kk : ∀ ls2, i_LR ad ox lo2 ls2 nL → W p l e R s m args below meth c H locs cells slots Q (F0 m pc2 ls2 (st2.map (i_tr ad ox)))) : W p l e R s m args below meth c H locs cells slots Q (F0 m pc ls (st.map (i_tr ad ox))) := by
    have hs : (i_ii st fun x y r => if ¬ y = 0 then some (pc + 1, lo, .int (x / y) :: r) else none) = some (pc2, lo2, st2) := hs
    obtain ⟨x, y, r, rfl, h⟩ := i_ii_s hs
    obtain ⟨hi, h⟩ := i_if_s h
    cases h
    exact lv_idiv hexec hb hdg hi (kk ls hl)
set_option maxHeartbeats 1000000 in
theorem i_k_irem (hexec : p.tables.exec = Jvm.exec) (hb : c.code = cc) {ad ox : Nat → Nat} {a pc pc2 nL : Nat} {lo lo2 : iL} {st st2 : List Value} {ls : Array Slot}  (hs : i_s1 (.irem) a pc lo st = some (pc2, lo2, st2)) (hdg : decode cc pc = .ok (.irem, 1)) (hl : i_LR ad ox lo ls nL) (kk : ∀ ls2, i_LR ad ox lo2 ls2 nL → W p l e R s m args below meth c H locs cells slots Q (F0 m pc2 ls2 (st2.map (i_tr ad ox)))) : W p l e R s m args below meth c H locs cells slots Q (F0 m pc ls (st.map (i_tr ad ox))) := by
    have hs : (i_ii st fun x y r => if ¬ y = 0 then some (pc + 1, lo, .int (x - x / y * y) :: r) else none) = some (pc2, lo2, st2) := hs
    obtain ⟨x, y, r, rfl, h⟩ := i_ii_s hs
    obtain ⟨hi, h⟩ := i_if_s h
    cases h
    exact lv_irem hexec hb hdg hi (kk ls hl)
set_option maxHeartbeats 1000000 in
theorem i_k_ldiv (hexec : p.tables.exec = Jvm.exec) (hb : c.code = cc) {ad ox : Nat → Nat} {a pc pc2 nL : Nat} {lo lo2 : iL} {st st2 : List Value} {ls : Array Slot}  (hs : i_s1 (.ldiv) a pc lo st = some (pc2, lo2, st2)) (hdg : decode cc pc = .ok (.ldiv, 1)) (hl : i_LR ad ox lo ls nL) (kk : ∀ ls2, i_LR ad ox lo2 ls2 nL → W p l e R s m args below meth c H locs cells slots Q (F0 m pc2 ls2 (st2.map (i_tr ad ox)))) : W p l e R s m args below meth c H locs cells slots Q (F0 m pc ls (st.map (i_tr ad ox))) := by
    have hs : (i_ll st fun x y r => if ¬ y = 0 then some (pc + 1, lo, .long (x / y) :: r) else none) = some (pc2, lo2, st2) := hs
    obtain ⟨x, y, r, rfl, h⟩ := i_ll_s hs
    obtain ⟨hi, h⟩ := i_if_s h
    cases h
    exact lv_ldiv hexec hb hdg hi (kk ls hl)
set_option maxHeartbeats 1000000 in
theorem i_k_lrem (hexec : p.tables.exec = Jvm.exec) (hb : c.code = cc) {ad ox : Nat → Nat} {a pc pc2 nL : Nat} {lo lo2 : iL} {st st2 : List Value} {ls : Array Slot}  (hs : i_s1 (.lrem) a pc lo st = some (pc2, lo2, st2)) (hdg : decode cc pc = .ok (.lrem, 1)) (hl : i_LR ad ox lo ls nL) (kk : ∀ ls2, i_LR ad ox lo2 ls2 nL → W p l e R s m args below meth c H locs cells slots Q (F0 m pc2 ls2 (st2.map (i_tr ad ox)))) : W p l e R s m args below meth c H locs cells slots Q (F0 m pc ls (st.map (i_tr ad ox))) := by
    have hs : (i_ll st fun x y r => if ¬ y = 0 then some (pc + 1, lo, .long (x - x / y * y) :: r) else none) = some (pc2, lo2, st2) := hs
    obtain ⟨x, y, r, rfl, h⟩ := i_ll_s hs
    obtain ⟨hi, h⟩ := i_if_s h
    cases h
    exact lv_lrem hexec hb hdg hi (kk ls hl)
set_option maxHeartbeats 1000000 in
theorem i_k_lcmp (hexec : p.tables.exec = Jvm.exec) (hb : c.code = cc) {ad ox : Nat → Nat} {a pc pc2 nL : Nat} {lo lo2 : iL} {st st2 : List Value} {ls : Array Slot}  (hs : i_s1 (.lcmp) a pc lo st = some (pc2, lo2, st2)) (hdg : decode cc pc = .ok (.lcmp, 1)) (hl : i_LR ad ox lo ls nL) (kk : ∀ ls2, i_LR ad ox lo2 ls2 nL → W p l e R s m args below meth c H locs cells slots Q (F0 m pc2 ls2 (st2.map (i_tr ad ox)))) : W p l e R s m args below meth c H locs cells slots Q (F0 m pc ls (st.map (i_tr ad ox))) := by
    have hs : (i_ll st fun x y r => some (pc + 1, lo, .int (lg_cmp x y) :: r)) = some (pc2, lo2, st2) := hs
    obtain ⟨x, y, r, rfl, h⟩ := i_ll_s hs
    cases h
    exact W.lcmp hexec hb hdg (kk ls hl)
set_option maxHeartbeats 1000000 in
theorem i_k_ineg (hexec : p.tables.exec = Jvm.exec) (hb : c.code = cc) {ad ox : Nat → Nat} {a pc pc2 nL : Nat} {lo lo2 : iL} {st st2 : List Value} {ls : Array Slot}  (hs : i_s1 (.ineg) a pc lo st = some (pc2, lo2, st2)) (hdg : decode cc pc = .ok (.ineg, 1)) (hl : i_LR ad ox lo ls nL) (kk : ∀ ls2, i_LR ad ox lo2 ls2 nL → W p l e R s m args below meth c H locs cells slots Q (F0 m pc2 ls2 (st2.map (i_tr ad ox)))) : W p l e R s m args below meth c H locs cells slots Q (F0 m pc ls (st.map (i_tr ad ox))) := by
    have hs : (i_1i st fun x r => some (pc + 1, lo, .int (-x) :: r)) = some (pc2, lo2, st2) := hs
    obtain ⟨x, r, rfl, h⟩ := i_1i_s hs
    cases h
    exact lv_ineg hexec hb hdg (kk ls hl)
set_option maxHeartbeats 1000000 in
theorem i_k_i2l (hexec : p.tables.exec = Jvm.exec) (hb : c.code = cc) {ad ox : Nat → Nat} {a pc pc2 nL : Nat} {lo lo2 : iL} {st st2 : List Value} {ls : Array Slot}  (hs : i_s1 (.i2l) a pc lo st = some (pc2, lo2, st2)) (hdg : decode cc pc = .ok (.i2l, 1)) (hl : i_LR ad ox lo ls nL) (kk : ∀ ls2, i_LR ad ox lo2 ls2 nL → W p l e R s m args below meth c H locs cells slots Q (F0 m pc2 ls2 (st2.map (i_tr ad ox)))) : W p l e R s m args below meth c H locs cells slots Q (F0 m pc ls (st.map (i_tr ad ox))) := by
    have hs : (i_1i st fun x r => some (pc + 1, lo, .long x.toInt64 :: r)) = some (pc2, lo2, st2) := hs
    obtain ⟨x, r, rfl, h⟩ := i_1i_s hs
    cases h
    exact lv_i2l hexec hb hdg rfl (kk ls hl)
set_option maxHeartbeats 1000000 in
theorem i_k_l2i (hexec : p.tables.exec = Jvm.exec) (hb : c.code = cc) {ad ox : Nat → Nat} {a pc pc2 nL : Nat} {lo lo2 : iL} {st st2 : List Value} {ls : Array Slot}  (hs : i_s1 (.l2i) a pc lo st = some (pc2, lo2, st2)) (hdg : decode cc pc = .ok (.l2i, 1)) (hl : i_LR ad ox lo ls nL) (kk : ∀ ls2, i_LR ad ox lo2 ls2 nL → W p l e R s m args below meth c H locs cells slots Q (F0 m pc2 ls2 (st2.map (i_tr ad ox)))) : W p l e R s m args below meth c H locs cells slots Q (F0 m pc ls (st.map (i_tr ad ox))) := by
    have hs : (i_1l st fun x r => some (pc + 1, lo, .int x.toInt32 :: r)) = some (pc2, lo2, st2) := hs
    obtain ⟨x, r, rfl, h⟩ := i_1l_s hs
    cases h
    exact lv_l2i hexec hb hdg rfl (kk ls hl)
set_option maxHeartbeats 1000000 in
theorem i_k_i2b (hexec : p.tables.exec = Jvm.exec) (hb : c.code = cc) {ad ox : Nat → Nat} {a pc pc2 nL : Nat} {lo lo2 : iL} {st st2 : List Value} {ls : Array Slot}  (hs : i_s1 (.i2b) a pc lo st = some (pc2, lo2, st2)) (hdg : decode cc pc = .ok (.i2b, 1)) (hl : i_LR ad ox lo ls nL) (kk : ∀ ls2, i_LR ad ox lo2 ls2 nL → W p l e R s m args below meth c H locs cells slots Q (F0 m pc2 ls2 (st2.map (i_tr ad ox)))) : W p l e R s m args below meth c H locs cells slots Q (F0 m pc ls (st.map (i_tr ad ox))) := by
    have hs : (i_1i st fun x r => some (pc + 1, lo, .int x.toInt8.toInt32 :: r)) = some (pc2, lo2, st2) := hs
    obtain ⟨x, r, rfl, h⟩ := i_1i_s hs
    cases h
    exact lv_i2b hexec hb hdg rfl (kk ls hl)
set_option maxHeartbeats 1000000 in
theorem i_k_i2s (hexec : p.tables.exec = Jvm.exec) (hb : c.code = cc) {ad ox : Nat → Nat} {a pc pc2 nL : Nat} {lo lo2 : iL} {st st2 : List Value} {ls : Array Slot}  (hs : i_s1 (.i2s) a pc lo st = some (pc2, lo2, st2)) (hdg : decode cc pc = .ok (.i2s, 1)) (hl : i_LR ad ox lo ls nL) (kk : ∀ ls2, i_LR ad ox lo2 ls2 nL → W p l e R s m args below meth c H locs cells slots Q (F0 m pc2 ls2 (st2.map (i_tr ad ox)))) : W p l e R s m args below meth c H locs cells slots Q (F0 m pc ls (st.map (i_tr ad ox))) := by
    have hs : (i_1i st fun x r => some (pc + 1, lo, .int x.toInt16.toInt32 :: r)) = some (pc2, lo2, st2) := hs
    obtain ⟨x, r, rfl, h⟩ := i_1i_s hs
    cases h
    exact lv_i2s hexec hb hdg rfl (kk ls hl)
set_option maxHeartbeats 1000000 in
theorem i_k_i2c (hexec : p.tables.exec = Jvm.exec) (hb : c.code = cc) {ad ox : Nat → Nat} {a pc pc2 nL : Nat} {lo lo2 : iL} {st st2 : List Value} {ls : Array Slot}  (hs : i_s1 (.i2c) a pc lo st = some (pc2, lo2, st2)) (hdg : decode cc pc = .ok (.i2c, 1)) (hl : i_LR ad ox lo ls nL) (kk : ∀ ls2, i_LR ad ox lo2 ls2 nL → W p l e R s m args below meth c H locs cells slots Q (F0 m pc2 ls2 (st2.map (i_tr ad ox)))) : W p l e R s m args below meth c H locs cells slots Q (F0 m pc ls (st.map (i_tr ad ox))) := by
    have hs : (i_1i st fun x r => some (pc + 1, lo, .int (x.toUInt32 % 65536).toInt32 :: r)) = some (pc2, lo2, st2) := hs
    obtain ⟨x, r, rfl, h⟩ := i_1i_s hs
    cases h
    exact lv_i2c hexec hb hdg rfl (kk ls hl)
set_option maxHeartbeats 1000000 in
theorem i_k_dup (hexec : p.tables.exec = Jvm.exec) (hb : c.code = cc) {ad ox : Nat → Nat} {a pc pc2 nL : Nat} {lo lo2 : iL} {st st2 : List Value} {ls : Array Slot}  (hs : i_s1 (.dup) a pc lo st = some (pc2, lo2, st2)) (hdg : decode cc pc = .ok (.dup, 1)) (hl : i_LR ad ox lo ls nL) (kk : ∀ ls2, i_LR ad ox lo2 ls2 nL → W p l e R s m args below meth c H locs cells slots Q (F0 m pc2 ls2 (st2.map (i_tr ad ox)))) : W p l e R s m args below meth c H locs cells slots Q (F0 m pc ls (st.map (i_tr ad ox))) := by
    have hs : (i_1v st fun v r => if v.category = 1 then some (pc + 1, lo, v :: v :: r) else none) = some (pc2, lo2, st2) := hs
    obtain ⟨v, r, rfl, h⟩ := i_1v_s hs
    obtain ⟨hi, h⟩ := i_if_s h
    cases h
    exact lv_dup hexec hb hdg (by rw [i_tr_cat]; exact hi) (kk ls hl)
set_option maxHeartbeats 1000000 in
theorem i_k_pop (hexec : p.tables.exec = Jvm.exec) (hb : c.code = cc) {ad ox : Nat → Nat} {a pc pc2 nL : Nat} {lo lo2 : iL} {st st2 : List Value} {ls : Array Slot}  (hs : i_s1 (.pop) a pc lo st = some (pc2, lo2, st2)) (hdg : decode cc pc = .ok (.pop, 1)) (hl : i_LR ad ox lo ls nL) (kk : ∀ ls2, i_LR ad ox lo2 ls2 nL → W p l e R s m args below meth c H locs cells slots Q (F0 m pc2 ls2 (st2.map (i_tr ad ox)))) : W p l e R s m args below meth c H locs cells slots Q (F0 m pc ls (st.map (i_tr ad ox))) := by
    have hs : (i_1v st fun v r => if v.category = 1 then some (pc + 1, lo, r) else none) = some (pc2, lo2, st2) := hs
    obtain ⟨v, r, rfl, h⟩ := i_1v_s hs
    obtain ⟨hi, h⟩ := i_if_s h
    cases h
    exact lv_pop hexec hb hdg (by rw [i_tr_cat]; exact hi) (kk ls hl)
set_option maxHeartbeats 1000000 in
theorem i_k_dup_x1 (hexec : p.tables.exec = Jvm.exec) (hb : c.code = cc) {ad ox : Nat → Nat} {a pc pc2 nL : Nat} {lo lo2 : iL} {st st2 : List Value} {ls : Array Slot}  (hs : i_s1 (.dup_x1) a pc lo st = some (pc2, lo2, st2)) (hdg : decode cc pc = .ok (.dup_x1, 1)) (hl : i_LR ad ox lo ls nL) (kk : ∀ ls2, i_LR ad ox lo2 ls2 nL → W p l e R s m args below meth c H locs cells slots Q (F0 m pc2 ls2 (st2.map (i_tr ad ox)))) : W p l e R s m args below meth c H locs cells slots Q (F0 m pc ls (st.map (i_tr ad ox))) := by
    have hs : (i_1v st fun v r => i_1v r fun w r2 => if v.category = 1 ∧ w.category = 1 then some (pc + 1, lo, v :: w :: v :: r2) else none) = some (pc2, lo2, st2) := hs
    obtain ⟨v, r, rfl, h⟩ := i_1v_s hs
    obtain ⟨w, r2, rfl, h⟩ := i_1v_s h
    obtain ⟨hi, h⟩ := i_if_s h
    cases h
    exact lv_dup_x1 hexec hb hdg (by rw [i_tr_cat]; exact hi.1) (by rw [i_tr_cat]; exact hi.2) (kk ls hl)
set_option maxHeartbeats 1000000 in
theorem i_k_dup2 (hexec : p.tables.exec = Jvm.exec) (hb : c.code = cc) {ad ox : Nat → Nat} {a pc pc2 nL : Nat} {lo lo2 : iL} {st st2 : List Value} {ls : Array Slot}  (hs : i_s1 (.dup2) a pc lo st = some (pc2, lo2, st2)) (hdg : decode cc pc = .ok (.dup2, 1)) (hl : i_LR ad ox lo ls nL) (kk : ∀ ls2, i_LR ad ox lo2 ls2 nL → W p l e R s m args below meth c H locs cells slots Q (F0 m pc2 ls2 (st2.map (i_tr ad ox)))) : W p l e R s m args below meth c H locs cells slots Q (F0 m pc ls (st.map (i_tr ad ox))) := by
    have hs : (i_1v st fun v r => if v.category = 2 then some (pc + 1, lo, v :: v :: r) else i_1v r fun w r2 => if v.category = 1 ∧ w.category = 1 then some (pc + 1, lo, v :: w :: v :: w :: r2) else none) = some (pc2, lo2, st2) := hs
    obtain ⟨v, r, rfl, h⟩ := i_1v_s hs
    split at h
    · rename_i hc
      cases h
      exact lv_dup2_2 hexec hb hdg (by rw [i_tr_cat]; exact hc) (kk ls hl)
    · obtain ⟨w, r2, rfl, h⟩ := i_1v_s h
      obtain ⟨hi, h⟩ := i_if_s h
      cases h
      exact lv_dup2_11 hexec hb hdg (by rw [i_tr_cat]; exact hi.1) (by rw [i_tr_cat]; exact hi.2) (kk ls hl)
set_option maxHeartbeats 1000000 in
theorem i_k_goto (hexec : p.tables.exec = Jvm.exec) (hb : c.code = cc) {ad ox : Nat → Nat} {a pc pc2 nL : Nat} {lo lo2 : iL} {st st2 : List Value} {ls : Array Slot} {off : Int} (hs : i_s1 (.goto off) a pc lo st = some (pc2, lo2, st2)) (hdg : decode cc pc = .ok (.goto off, 3)) (htg : ∀ z, i_off (.goto off) = some z → (pc : Int) + z = (a : Int)) (hl : i_LR ad ox lo ls nL) (kk : ∀ ls2, i_LR ad ox lo2 ls2 nL → W p l e R s m args below meth c H locs cells slots Q (F0 m pc2 ls2 (st2.map (i_tr ad ox)))) : W p l e R s m args below meth c H locs cells slots Q (F0 m pc ls (st.map (i_tr ad ox))) := by
    have hs : (some (a, lo, st)) = some (pc2, lo2, st2) := hs
    cases hs
    exact lv_goto hexec hb hdg (htg off rfl) (kk ls hl)
set_option maxHeartbeats 1000000 in
theorem i_k_ifCond (hexec : p.tables.exec = Jvm.exec) (hb : c.code = cc) {ad ox : Nat → Nat} {a pc pc2 nL : Nat} {lo lo2 : iL} {st st2 : List Value} {ls : Array Slot} {cd : ClassFile.Cond} {off : Int} (hs : i_s1 (.ifCond cd off) a pc lo st = some (pc2, lo2, st2)) (hdg : decode cc pc = .ok (.ifCond cd off, 3)) (htg : ∀ z, i_off (.ifCond cd off) = some z → (pc : Int) + z = (a : Int)) (hl : i_LR ad ox lo ls nL) (kk : ∀ ls2, i_LR ad ox lo2 ls2 nL → W p l e R s m args below meth c H locs cells slots Q (F0 m pc2 ls2 (st2.map (i_tr ad ox)))) : W p l e R s m args below meth c H locs cells slots Q (F0 m pc ls (st.map (i_tr ad ox))) := by
    have hs : (i_1i st fun x r => some (if i_b1 cd x = true then a else pc + 3, lo, r)) = some (pc2, lo2, st2) := hs
    obtain ⟨x, r, rfl, h⟩ := i_1i_s hs
    cases h
    cases cd
    · exact lv_if_eq hexec hb hdg (htg off rfl) (fun h => by have k2 := kk ls hl; rw [if_pos (by simp [i_b1, h])] at k2; exact k2) (fun h => by have k2 := kk ls hl; rw [if_neg (by simp only [i_b1, decide_eq_true_eq]; exact h)] at k2; exact k2)
    · exact lv_if_ne hexec hb hdg (htg off rfl) (fun h => by have k2 := kk ls hl; rw [if_pos (by simp [i_b1, h])] at k2; exact k2) (fun h => by have k2 := kk ls hl; rw [if_neg (by simp only [i_b1, decide_eq_true_eq]; exact fun n => n h)] at k2; exact k2)
    · exact lv_if_lt hexec hb hdg (htg off rfl) (fun h => by have k2 := kk ls hl; rw [if_pos (by simp [i_b1, h])] at k2; exact k2) (fun h => by have k2 := kk ls hl; rw [if_neg (by simp only [i_b1, decide_eq_true_eq]; exact h)] at k2; exact k2)
    · exact lv_if_ge hexec hb hdg (htg off rfl) (fun h => by have k2 := kk ls hl; rw [if_pos (by simp [i_b1, h])] at k2; exact k2) (fun h => by have k2 := kk ls hl; rw [if_neg (by simp only [i_b1, decide_eq_true_eq]; exact h)] at k2; exact k2)
    · exact lv_if_gt hexec hb hdg (htg off rfl) (fun h => by have k2 := kk ls hl; rw [if_pos (by simp [i_b1, h])] at k2; exact k2) (fun h => by have k2 := kk ls hl; rw [if_neg (by simp only [i_b1, decide_eq_true_eq]; exact h)] at k2; exact k2)
    · exact lv_if_le hexec hb hdg (htg off rfl) (fun h => by have k2 := kk ls hl; rw [if_pos (by simp [i_b1, h])] at k2; exact k2) (fun h => by have k2 := kk ls hl; rw [if_neg (by simp only [i_b1, decide_eq_true_eq]; exact h)] at k2; exact k2)
set_option maxHeartbeats 1000000 in
theorem i_k_if_icmp (hexec : p.tables.exec = Jvm.exec) (hb : c.code = cc) {ad ox : Nat → Nat} {a pc pc2 nL : Nat} {lo lo2 : iL} {st st2 : List Value} {ls : Array Slot} {cd : ClassFile.Cond} {off : Int} (hs : i_s1 (.if_icmp cd off) a pc lo st = some (pc2, lo2, st2)) (hdg : decode cc pc = .ok (.if_icmp cd off, 3)) (htg : ∀ z, i_off (.if_icmp cd off) = some z → (pc : Int) + z = (a : Int)) (hl : i_LR ad ox lo ls nL) (kk : ∀ ls2, i_LR ad ox lo2 ls2 nL → W p l e R s m args below meth c H locs cells slots Q (F0 m pc2 ls2 (st2.map (i_tr ad ox)))) : W p l e R s m args below meth c H locs cells slots Q (F0 m pc ls (st.map (i_tr ad ox))) := by
    have hs : (i_ii st fun x y r => some (if i_b2 cd x y = true then a else pc + 3, lo, r)) = some (pc2, lo2, st2) := hs
    obtain ⟨x, y, r, rfl, h⟩ := i_ii_s hs
    cases h
    cases cd
    · exact lv_icmp_eq hexec hb hdg (htg off rfl) (fun h => by have k2 := kk ls hl; rw [if_pos (by simp [i_b2, h])] at k2; exact k2) (fun h => by have k2 := kk ls hl; rw [if_neg (by simp only [i_b2, decide_eq_true_eq]; exact h)] at k2; exact k2)
    · exact lv_icmp_ne hexec hb hdg (htg off rfl) (fun h => by have k2 := kk ls hl; rw [if_pos (by simp [i_b2, h])] at k2; exact k2) (fun h => by have k2 := kk ls hl; rw [if_neg (by simp only [i_b2, decide_eq_true_eq]; exact fun n => n h)] at k2; exact k2)
    · exact lv_icmp_lt hexec hb hdg (htg off rfl) (fun h => by have k2 := kk ls hl; rw [if_pos (by simp [i_b2, h])] at k2; exact k2) (fun h => by have k2 := kk ls hl; rw [if_neg (by simp only [i_b2, decide_eq_true_eq]; exact h)] at k2; exact k2)
    · exact lv_icmp_ge hexec hb hdg (htg off rfl) (fun h => by have k2 := kk ls hl; rw [if_pos (by simp [i_b2, h])] at k2; exact k2) (fun h => by have k2 := kk ls hl; rw [if_neg (by simp only [i_b2, decide_eq_true_eq]; exact h)] at k2; exact k2)
    · exact lv_icmp_gt hexec hb hdg (htg off rfl) (fun h => by have k2 := kk ls hl; rw [if_pos (by simp [i_b2, h])] at k2; exact k2) (fun h => by have k2 := kk ls hl; rw [if_neg (by simp only [i_b2, decide_eq_true_eq]; exact h)] at k2; exact k2)
    · exact lv_icmp_le hexec hb hdg (htg off rfl) (fun h => by have k2 := kk ls hl; rw [if_pos (by simp [i_b2, h])] at k2; exact k2) (fun h => by have k2 := kk ls hl; rw [if_neg (by simp only [i_b2, decide_eq_true_eq]; exact h)] at k2; exact k2)
set_option maxHeartbeats 4000000 in
theorem i_s1_ok (hexec : p.tables.exec = Jvm.exec) (hb : c.code = cc) {ad ox : Nat → Nat} {a pc pc2 nL : Nat} {lo lo2 : iL} {st st2 : List Value} {ls : Array Slot} {ins : Instr} (hs : i_s1 ins a pc lo st = some (pc2, lo2, st2)) (hdg : decode cc pc = .ok (ins, i_len1 ins)) (htg : ∀ z, i_off ins = some z → (pc : Int) + z = (a : Int)) (hl : i_LR ad ox lo ls nL) (kk : ∀ ls2, i_LR ad ox lo2 ls2 nL → W p l e R s m args below meth c H locs cells slots Q (F0 m pc2 ls2 (st2.map (i_tr ad ox)))) : W p l e R s m args below meth c H locs cells slots Q (F0 m pc ls (st.map (i_tr ad ox))) := by
  cases ins with
  | iconst n => exact i_k_iconst hexec hb hs hdg hl kk
  | bipush n => exact i_k_bipush hexec hb hs hdg hl kk
  | sipush n => exact i_k_sipush hexec hb hs hdg hl kk
  | lconst n => exact i_k_lconst hexec hb hs hdg hl kk
  | aconst_null => exact i_k_aconst_null hexec hb hs hdg hl kk
  | iload i => exact i_k_iload hexec hb hs hdg hl kk
  | iload_n k => exact i_k_iload_n hexec hb hs hdg hl kk
  | lload i => exact i_k_lload hexec hb hs hdg hl kk
  | lload_n k => exact i_k_lload_n hexec hb hs hdg hl kk
  | aload i => exact i_k_aload hexec hb hs hdg hl kk
  | aload_n k => exact i_k_aload_n hexec hb hs hdg hl kk
  | istore i => exact i_k_istore hexec hb hs hdg hl kk
  | istore_n k => exact i_k_istore_n hexec hb hs hdg hl kk
  | lstore i => exact i_k_lstore hexec hb hs hdg hl kk
  | lstore_n k => exact i_k_lstore_n hexec hb hs hdg hl kk
  | astore i => exact i_k_astore hexec hb hs hdg hl kk
  | astore_n k => exact i_k_astore_n hexec hb hs hdg hl kk
  | iinc i n => exact i_k_iinc hexec hb hs hdg hl kk
  | iadd => exact i_k_iadd hexec hb hs hdg hl kk
  | isub => exact i_k_isub hexec hb hs hdg hl kk
  | imul => exact i_k_imul hexec hb hs hdg hl kk
  | iand => exact i_k_iand hexec hb hs hdg hl kk
  | ior => exact i_k_ior hexec hb hs hdg hl kk
  | ixor => exact i_k_ixor hexec hb hs hdg hl kk
  | ishl => exact i_k_ishl hexec hb hs hdg hl kk
  | ishr => exact i_k_ishr hexec hb hs hdg hl kk
  | iushr => exact i_k_iushr hexec hb hs hdg hl kk
  | ladd => exact i_k_ladd hexec hb hs hdg hl kk
  | lsub => exact i_k_lsub hexec hb hs hdg hl kk
  | lmul => exact i_k_lmul hexec hb hs hdg hl kk
  | land => exact i_k_land hexec hb hs hdg hl kk
  | lor => exact i_k_lor hexec hb hs hdg hl kk
  | lxor => exact i_k_lxor hexec hb hs hdg hl kk
  | lshl => exact i_k_lshl hexec hb hs hdg hl kk
  | lshr => exact i_k_lshr hexec hb hs hdg hl kk
  | lushr => exact i_k_lushr hexec hb hs hdg hl kk
  | idiv => exact i_k_idiv hexec hb hs hdg hl kk
  | irem => exact i_k_irem hexec hb hs hdg hl kk
  | ldiv => exact i_k_ldiv hexec hb hs hdg hl kk
  | lrem => exact i_k_lrem hexec hb hs hdg hl kk
  | lcmp => exact i_k_lcmp hexec hb hs hdg hl kk
  | ineg => exact i_k_ineg hexec hb hs hdg hl kk
  | i2l => exact i_k_i2l hexec hb hs hdg hl kk
  | l2i => exact i_k_l2i hexec hb hs hdg hl kk
  | i2b => exact i_k_i2b hexec hb hs hdg hl kk
  | i2s => exact i_k_i2s hexec hb hs hdg hl kk
  | i2c => exact i_k_i2c hexec hb hs hdg hl kk
  | dup => exact i_k_dup hexec hb hs hdg hl kk
  | pop => exact i_k_pop hexec hb hs hdg hl kk
  | dup_x1 => exact i_k_dup_x1 hexec hb hs hdg hl kk
  | dup2 => exact i_k_dup2 hexec hb hs hdg hl kk
  | goto off => exact i_k_goto hexec hb hs hdg htg hl kk
  | ifCond cd off => exact i_k_ifCond hexec hb hs hdg htg hl kk
  | if_icmp cd off => exact i_k_if_icmp hexec hb hs hdg htg hl kk
  | _ => cases hs
end IS1
