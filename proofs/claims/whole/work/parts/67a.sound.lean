/-! SOUNDNESS: by induction on the fuel -/
def i_mw (M : i_M) : List Jvm.Cond := .code (i_y M) (i_by M) (i_ml M) (i_re M) :: i_GT
def i_MOK (M : i_M) : Prop := Jvm.Cond.code (i_y M) (i_by M) (i_ml M) (i_re M) ∈ i_GT ∧ plainName (i_own M) = true ∧ Jvm.Cond.initialized (i_own M) ∈ i_GT ∧ (i_own M ≠ "java/lang/invoke/MethodHandle" ∧ i_own M ≠ "java/lang/invoke/VarHandle" ∧ (parseMethodDescriptor (i_y M).desc).map (fun d => d.parameters.length) = some (i_na M)) ∧
  ((i_ki M = 0 ∧ Jvm.Cond.static (i_y M) ∈ i_GT) ∨ (i_ki M = 1 ∧ Jvm.Cond.instanceMethod (i_y M) ∈ i_GT ∧ Jvm.Cond.selects (i_own M) (i_y M) (i_y M) ∈ i_GT ∧ ((i_cl M < 13 ∧ i_cn (i_cl M) = i_own M) ∨ (i_cl M = 100 ∧ i_own M = "java/lang/String"))) ∨ (i_ki M = 2 ∧ (i_y M).name = "<init>" ∧ Jvm.Cond.instanceMethod (i_y M) ∈ i_GT ∧ i_re M = none))
/-- the tables of methods and code say what the machine's say -/
def i_TOK (MT : Nat → Option i_M) (AT : Nat → Nat → Option (Instr × Nat × Nat)) : Prop :=
  (∀ k M, MT k = some M → i_ki M ≤ 2 → i_MOK M) ∧
  ∀ k M pc ins a b, MT k = some M → AT k pc = some (ins, a, b) → ∃ len, decode (i_by M) pc = .ok (ins, len) ∧ (i_isSw ins = true ∨ len = i_len ins) ∧ (∀ z, i_off ins = some z → (pc : Int) + z = (a : Int)) ∧ i_E MT M ins a b
def i_Pre (D : va_G) (ad ox cT : Nat → Nat) (L : Nat) (xs : Nat → Int32) (h : iH) (sz : Nat) : State → Prop := fun U => U.heap.size = sz ∧ va_P D vwCl (i_ws ad ox cT h) U.heap ∧ va_K D vwCl (i_tys cT) U ∧ va_D (fun _ => True) (i_ws ad ox cT h) ∧ i_EX ox L xs (va_A (i_ws ad ox cT h) sz) U U.heap
def i_Qc (D : va_G) (ad ox cT : Nat → Nat) (h : iH) (sz : Nat) (r : Option Value) (h2 : iH) : Array Value → State → Outcome → State → Prop := fun _ st oc t => oc = .returned r ∧ (∃ ad2 : Nat → Nat, (∀ k, ¬ (h.length ≤ k ∧ k < h2.length) → ad2 k = ad k) ∧ va_P D vwCl (i_ws ad2 ox cT h2) t.heap ∧ va_D (va_A (i_ws ad ox cT h) sz) (i_ws ad2 ox cT h2)) ∧ va_F (va_A (i_ws ad ox cT h) sz) st t
theorem i_Pre_blind {D : va_G} {ad ox cT : Nat → Nat} {L : Nat} {xs : Nat → Int32} {h : iH} {sz : Nat} (av : List Value) : FrameBlind (va_Pc av (i_Pre D ad ox cT L xs h sz)) := by
  intro a U g mk q
  obtain ⟨q0, q1, q2, q3, q4, q5⟩ := q
  exact ⟨q0, q1, q2, va_K.moved (u := U) (U := U.calling g mk a) (Vm.Alike.refl U.vm) q3, q4, i_EX.same (s := U) (U := U.calling g mk a) q5 rfl rfl⟩
section ISO
variable {p : Program} {l : Launch} {e : Env} {R : Room} {s : State} {m : MethodId} {args : Array Value} {below : List Frame} {meth : Method} {c : Code} {H : Heap} {locs : List Loc} {Q : State → Prop} {cells slots mc ms : Nat}
variable {D : va_G} {ad ox cT : Nat → Nat} {A : Nat → Prop} {L : Nat} {xs : Nat → Int32} {h h2 : iH}
/-- behind a call -/
theorem i_call {pc : Nat} {ls : Array Slot} {st0 rest : List Value} {a : Array Value} {r : Option Value} (hr : va_Run p l e R s m args below meth c H locs cells slots mc ms (F0 m pc ls st0) rest (i_Qc D ad ox cT h H.size r h2 a) (va_A (i_ws ad ox cT h) H.size)) (hS : va_S A s.heap H locs) (hF : ∀ q, va_A (i_ws ad ox cT h) H.size q → A q)
    (kk : ∀ (ad2 : Nat → Nat) (H1 : Heap) (locs1 : List Loc), (∀ k, ¬ (h.length ≤ k ∧ k < h2.length) → ad2 k = ad k) → i_Wd D ad2 ox cT A s H1 locs1 h2 → W p l e R s m args below meth c H1 locs1 (cells + mc) (slots + ms) Q (F0 m (pc + 3) ls (r.toList ++ rest))) : W p l e R s m args below meth c H locs cells slots Q (F0 m pc ls st0) := by
  intro T hT X
  obtain ⟨v, st₀, t, T', Lc, h0, X', hL, e1, e2, ⟨hv, ⟨ad2, k1, k2, k3⟩, hz, hk⟩, st⟩ := hr T hT X
  cases hv
  rw [h0] at hz hk
  obtain ⟨t2, a1, b1⟩ := kk ad2 T'.heap (locs ++ Lc) k1 ⟨by rw [e1]; exact k2, k3.weaken (fun _ _ _ hq => hF _ hq), ⟨Nat.le_trans hS.1 (by rw [e1]; exact hz), fun q h1 h2 => by rw [e1, hk q (Nat.lt_of_lt_of_le h1 hS.1) (fun z => h2 (hF q z))]; exact hS.2.1 q h1 h2, fun q hq => by
      rcases List.mem_append.mp hq with h | h
      · exact hS.2.2 q h
      · exact hF _ (hL q h)⟩⟩ T' rfl X'
  exact ⟨t2, st t2 a1, b1⟩
end ISO
/-- what a run of fuel n is worth -/
def i_EXn (MT : Nat → Option i_M) (AT : Nat → Nat → Option (Instr × Nat × Nat)) (L : Nat) (xs : Nat → Int32) (l : Launch) (n : Nat) : Prop :=
  ∀ (k : Nat) (M : i_M) (pc : Nat) (lo : iL) (st : List Value) (h : iH) (u w : Nat) (r : Option Value) (h3 : iH), MT k = some M → i_ex MT AT L xs n k pc lo st h u w = some (r, h3) →
  ∀ (p : Program) (e : Env) (s : State) (m : MethodId) (args : Array Value) (below : List Frame) (meth : Method) (c : Code) (H : Heap) (locs : List Loc) (Q : State → Prop) (D : va_G) (ad ox cT : Nat → Nat) (A : Nat → Prop) (ls : Array Slot),
  i_CX p c (i_by M) s m args (i_own M) A D cT ox L xs → c.maxLocals = i_ml M → (i_ki M = 2 → meth.name = "<init>") → i_Wd D ad ox cT A s H locs h → i_LR ad ox lo ls (i_ml M) →
  (∀ (ad2 : Nat → Nat) (H2 : Heap) (locs2 : List Loc) (pcR : Nat) (ls2 : Array Slot) (u2 w2 : Nat) (ins : Instr), (∀ k, ¬ (h.length ≤ k ∧ k < h3.length) → ad2 k = ad k) → i_Wd D ad2 ox cT A s H2 locs2 h3 → u2 ≤ i_mc M → w2 ≤ i_ms M → decode (i_by M) pcR = .ok (ins, 1) →
    ((∃ v, ins = .ireturn ∧ r = some (.int v) ∧ i_ret (i_re M) v = true) ∨ (∃ v, ins = .lreturn ∧ r = some (.long v) ∧ i_re M = some .long) ∨ (ins = .return_ ∧ r = none ∧ i_re M = none)) →
    W p l e (i_rm M) s m args below meth c H2 locs2 u2 w2 Q (F0 m pcR ls2 r.toList)) →
  W p l e (i_rm M) s m args below meth c H locs u w Q (F0 m pc ls (st.map (i_tr ad ox)))
/-- a method's contract out of a run -/
theorem i_met {MT : Nat → Option i_M} {AT : Nat → Nat → Option (Instr × Nat × Nat)} {L : Nat} {xs : Nat → Int32} {l : Launch} {n : Nat} (hx : i_EXn MT AT L xs l n) {k : Nat} {M : i_M} (hM : MT k = some M) (hok : i_MOK M) {av : List Value} {h h3 : iH} {r : Option Value} (hr : i_ex MT AT L xs n k 0 (i_lo0 av (i_ml M)) [] h 0 0 = some (r, h3)) (hlen : (i_sl av).length ≤ i_ml M) (D : va_G) (ad ox cT : Nat → Nat) (sz : Nat) :
    Met l (i_y M) (i_mw M) (i_rm M) (va_Pc (av.map (i_tr ad ox)) (i_Pre D ad ox cT L xs h sz)) (i_Qc D ad ox cT h sz r h3) (i_mc M) (i_ms M) (va_A (i_ws ad ox cT h) sz) := by
  refine Met.ofW (cc := i_by M) (maxL := i_ml M) (ret := i_re M) hok.2.1 rfl ?_
  intro p e s m args below meth c s₁ B hml hv
  obtain ⟨rfl, hsz, hP, hK, hD0, hEX⟩ := hv
  have hexec := B.exec
  have hb := B.bytes
  have hret := B.returns
  have hts := atoms_spec (ws := i_mw M) B.pre
  have hown : s.vm.findClass (i_own M) = some m.cls := findClass_of_methodNamed B.named
  have hlocks := B.notSynchronized
  subst hsz
  have hD := hD0.self (sz := s.heap.size)
  have hin : i_ki M = 2 → meth.name = "<init>" := by
    intro hk
    have hnm := (name_of_methodNamed B.named B.method).1
    rcases hok.2.2.2.2 with q | q | q
    · omega
    · omega
    · exact hnm.trans q.2.1
  rw [lg_entry_eq]
  have hl := i_LR_entry ad ox av (i_ml M) hlen
  generalize (lg_sl (av.map (i_tr ad ox)) ++ List.replicate (i_ml M - (lg_sl (av.map (i_tr ad ox))).length) Slot.unset).toArray = ls at hl ⊢
  have X : i_CX p c (i_by M) s m (av.map (i_tr ad ox)).toArray (i_own M) (va_A (i_ws ad ox cT h) s.heap.size) D cT ox L xs := ⟨hexec, hb, hown, fun w hw => hts w (List.mem_cons_of_mem _ hw), hK, hEX, fun q hq => Or.inr hq⟩
  refine hx k M 0 (i_lo0 av (i_ml M)) [] h 0 0 r h3 hM hr p e s m _ below meth c s.heap [] _ D ad ox cT _ ls X hml hin ⟨hP, hD, va_S.rf⟩ hl ?_
  intro ad2 H2 locs2 pcR ls2 u2 w2 ins hag hw hu hw2 hdg hrt
  refine W.widen hu hw2 ?_
  have hq : ∀ t : State, t.heap = H2 → s.WarmedH t.vm → i_Qc D ad ox cT h s.heap.size r h3 (av.map (i_tr ad ox)).toArray s (.returned r) t := fun t ht _ => ⟨rfl, ⟨ad2, hag, by rw [ht]; exact hw.1, hw.2.1⟩, hw.2.2.F ht⟩
  rcases hrt with ⟨v, rfl, rfl, h1⟩ | ⟨v, rfl, rfl, h1⟩ | ⟨rfl, rfl, h1⟩
  · obtain ⟨ty, e1, e2⟩ := i_ret_ok h1
    exact W.zret hexec hb (hret.trans e1) e2 hq hw.2.2.2.2 hdg
  · exact W.lret hexec hb (hret.trans h1) hq hw.2.2.2.2 hdg
  · exact W.vret hexec hb (hret.trans h1) hq hw.2.2.2.2 hdg
