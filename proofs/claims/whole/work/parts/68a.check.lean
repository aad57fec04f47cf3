/-! THE TABLES' CHECK: what an entry must show, as a Bool; then every entry by the kernel -/
def i_isW (c : Nat) (w : Jvm.Cond) : Bool := decide (lw_tbl[c]? = some w) && goodWord w
def i_isN (c : Nat) (w : Jvm.Cond) : Bool := decide (lw_tbl[c]? = some w) && i_isNest w
theorem i_isW_ok {c : Nat} {w : Jvm.Cond} (h : i_isW c w = true) : w ∈ i_GT := by
  simp only [i_isW, Bool.and_eq_true, decide_eq_true_eq] at h
  exact i_inG h.1 h.2
theorem i_isN_ok {c : Nat} {w : Jvm.Cond} (h : i_isN c w = true) : w ∈ i_NW := by
  simp only [i_isN, Bool.and_eq_true, decide_eq_true_eq] at h
  exact List.mem_filter.mpr ⟨List.mem_of_getElem? h.1, h.2⟩
def i_caB (MT : Nat → Option i_M) (M : i_M) (ki idx a c : Nat) : Bool := match MT a with
  | some M2 => decide (i_ki M2 = ki) && (i_isW c (.methodLink (i_own M) idx (i_y M2)) || i_isN c (.methodLinkNest (i_own M) idx (i_y M2) "StillTown"))
  | none => false
theorem i_caB_ok {MT : Nat → Option i_M} {M : i_M} {ki idx a c : Nat} (h : i_caB MT M ki idx a c = true) : ∃ M2, MT a = some M2 ∧ i_ki M2 = ki ∧ i_link (i_own M) idx (i_y M2) := by
  unfold i_caB at h
  split at h
  · rename_i M2 hM
    simp only [Bool.and_eq_true, decide_eq_true_eq, Bool.or_eq_true] at h
    refine ⟨M2, hM, h.1, ?_⟩
    rcases h.2 with q | q
    · exact Or.inl (i_isW_ok q)
    · exact Or.inr (i_isN_ok q)
  · cases h
def i_EB (MT : Nat → Option i_M) (M : i_M) (ins : Instr) (a b c : Nat) : Bool := match ins with
  | .getfield idx => if a = 100 then i_isW c (.fieldLink (i_own M) idx "java/lang/String" (i_fd b).1 (i_fd b).2) else decide (a < 13) && decide (b < i_nf a) && i_isW c (i_lk (i_own M) idx a b)
  | .putfield idx => decide (a < 13) && decide (b < i_nf a) && i_isW c (i_lk (i_own M) idx a b) && (decide ((i_fl a b).2.2.2 = false) || (decide (i_ki M = 2) && decide ((i_fl a b).1 = i_own M)))
  | .new idx => decide (a < 13) && i_isW c (.classLink (i_own M) idx (i_cn a))
  | .newarray t => decide (a < 4) && decide (newarray.typeOf t = i_ty a)
  | .anewarray idx => i_isW c (.classLink (i_own M) idx "StillTown$Town")
  | .multianewarray idx d => decide (d = 2) && i_isW c (.classLink (i_own M) idx ("[" ++ (FieldType.array .long).toString))
  | .ldc idx => if b = 0 then i_isW c (.constant (i_own M) idx (Int32.ofNat a)) else decide (b = 1) && decide (i_oR a = some (i_own M, idx))
  | .ldc_w idx => i_isW c (.constant (i_own M) idx (Int32.ofNat a))
  | .ldc2_w idx => i_isW c (.constantLong (i_own M) idx (Int64.ofNat a))
  | .getstatic idx => match i_oS a with
    | some q => i_isW c (.fieldLink (i_own M) idx q.1 q.2.1 q.2.2.1) || i_isN c (.fieldLinkNest (i_own M) idx q.1 q.2.1 q.2.2.1 "StillTown")
    | none => false
  | .invokespecial idx => if b = 9 then i_isW c (.methodLink (i_own M) idx objectInit) else i_caB MT M 2 idx a c
  | .invokevirtual idx => i_caB MT M 1 idx a c
  | .invokestatic idx => if b = 9 then i_isW c (.methodLink (i_own M) idx arraycopyName) else i_caB MT M 0 idx a c
  | _ => true
def i_enB (MT : Nat → Option i_M) (M : i_M) (q : i_En) : Bool := match decode (i_by M) q.1 with
  | .ok (ins, len) => decide (ins = q.2.1) && (i_isSw q.2.1 || decide (len = i_len q.2.1)) && (match i_off q.2.1 with
    | some z => decide ((q.1 : Int) + z = (q.2.2.1 : Int))
    | none => true) && i_EB MT M q.2.1 q.2.2.1 q.2.2.2.1 q.2.2.2.2
  | _ => false
set_option maxRecDepth 100000 in
theorem i_w_obj : Jvm.Cond.instanceMethod objectInit ∈ i_GT ∧ Jvm.Cond.code objectInit ⟨#[0xb1]⟩ 1 none ∈ i_GT := ⟨by decide +kernel, by decide +kernel⟩
set_option maxRecDepth 100000 in
theorem i_w_copy : Jvm.Cond.native arraycopyName ∈ i_GT ∧ Jvm.Cond.static arraycopyName ∈ i_GT ∧ Jvm.Cond.initialized "java/lang/System" ∈ i_GT := ⟨by decide +kernel, by decide +kernel, by decide +kernel⟩
set_option maxRecDepth 100000 in
theorem i_w_arr : ∀ a, a < 4 → Jvm.Cond.arrayClass (i_ty a) ∈ i_GT := by decide +kernel
theorem i_EB_ok {MT : Nat → Option i_M} {M : i_M} {ins : Instr} {a b c : Nat} (h : i_EB MT M ins a b c = true) : i_E MT M ins a b := by
  unfold i_EB at h
  split at h
  · split at h
    · rename_i h1
      exact Or.inl ⟨h1, i_isW_ok h⟩
    · simp only [Bool.and_eq_true, decide_eq_true_eq] at h
      exact Or.inr ⟨h.1.1, h.1.2, i_isW_ok h.2⟩
  · simp only [Bool.and_eq_true, Bool.or_eq_true, decide_eq_true_eq] at h
    exact ⟨h.1.1.1, h.1.1.2, i_isW_ok h.1.2, h.2.elim Or.inl (fun q => Or.inr ⟨decide_eq_true q.1, q.2⟩)⟩
  · simp only [Bool.and_eq_true, decide_eq_true_eq] at h
    exact ⟨h.1, i_isW_ok h.2⟩
  · simp only [Bool.and_eq_true, decide_eq_true_eq] at h
    exact ⟨h.1, h.2, i_w_arr _ h.1⟩
  · exact i_isW_ok h
  · simp only [Bool.and_eq_true, decide_eq_true_eq] at h
    exact ⟨h.1, i_isW_ok h.2, i_w_arr 1 (by decide)⟩
  · split at h
    · rename_i h1
      exact Or.inl ⟨h1, i_isW_ok h⟩
    · simp only [Bool.and_eq_true, decide_eq_true_eq] at h
      exact Or.inr h
  · exact i_isW_ok h
  · exact i_isW_ok h
  · split at h
    · rename_i q hq
      rcases Bool.or_eq_true_iff.mp h with h | h
      · exact ⟨q, hq, Or.inl (i_isW_ok h)⟩
      · exact ⟨q, hq, Or.inr (i_isN_ok h)⟩
    · cases h
  · split at h
    · rename_i h1
      exact Or.inl ⟨h1, i_isW_ok h, i_w_obj.1, i_w_obj.2⟩
    · rename_i h1
      exact Or.inr ⟨h1, i_caB_ok h⟩
  · exact i_caB_ok h
  · split at h
    · rename_i h1
      exact Or.inl ⟨h1, i_isW_ok h, i_w_copy⟩
    · rename_i h1
      exact Or.inr ⟨h1, i_caB_ok h⟩
  · cases ins <;> first | trivial | (exfalso; simp_all; done)
