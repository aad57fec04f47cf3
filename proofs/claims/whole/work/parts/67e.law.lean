/-! THE CLAIM OUT OF ONE WALK OF THE LAW'S BODY. Your part is whole_start (and what it stands on); all else here is the same for every law, but numbers. -/
def R_law : String := "StillTownLaw"
def lw_P (b : Addr) (xs : List Int32) (args : Array Value) (s : State) : Prop := args = #[.ref b] ∧ s.IntsAt b xs ∧ xs.length ≤ 3072 ∧ (Jvm.Cond.and given_1 narrow_1).before args s = true
def lw_Q (_ : Array Value) (s : State) (o : Outcome) (t : State) : Prop := o = .returned (some (.int 1)) ∧ Framed s o t [] 600000 7302250
def lw_Z (below : List Frame) (a : Array Value) (s : State) : State → Prop := fun t => ∃ o, t.status = .running ∧ Ended t below o ∧ lw_Q a s o t
/-- the law's own end, with 1 on the stack, nothing written that was there before, its room as the claim has it -/
theorem lw_ret {p : Program} {l : Launch} {e : Env} {s : State} {m : MethodId} {below : List Frame} {meth : Method} {c : Code} {b : Nat} (hx : p.tables.exec = Jvm.exec) (hb : c.code = code) (hr : meth.sig.returnType = ret) (hlocks : meth.locks = false) {pc : Nat} {H : Heap} {ls : Array Slot} (hdg : decode code pc = .ok (.ireturn, 1)) : W p l e room_1 s m #[Value.ref b] below meth c H [] 600000 7302250 (lw_Z below #[Value.ref b] s) (F0 m pc ls [.int 1]) := by
  intro T hT X
  obtain ⟨fs, hret, hrun, hended, hW, hframe⟩ := X.leave (v := some (.int 1)) (hlocks := hlocks) (fun h => by rw [hr] at h; cases h)
  have hmeth' : T.vm.method? m = some meth := X.method'
  refine ⟨T.setFrames fs, ?_, .returned (some (.int 1)), hrun, hended, rfl, ⟨_, rfl⟩, hW, hframe⟩
  jvm_step X.here [X.here.top, hx, hb, hdg, hmeth', hr, ret, narrow_b1]
  (try refine ⟨rfl, ?_⟩); (try refine ⟨rfl, ?_⟩)
  first | (intro acts; rw [hret _ acts rfl rfl rfl]) | rw [hret _ _ rfl rfl rfl]
  exact Steps.refl _
/-- what holds at the law's entry: the machine, the code, the tables' words (any of lw_tbl by 'hts w (by decide +kernel)'), the script of L ints xs at the cell b, what the Statement gives of the start (any of its parts by flat_of_before) -/
def lw_At (p : Program) (s : State) (m : MethodId) (meth : Method) (c : Code) (b L : Nat) (xs : Nat → Int32) : Prop :=
  p.tables.exec = Jvm.exec ∧ c.code = code ∧ meth.sig.returnType = ret ∧ c.maxLocals = 4 ∧ s.vm.findClass R_law = some m.cls ∧ (∀ w ∈ lw_tbl, w.before #[Value.ref b] s = true) ∧ va_X b L xs s s.heap ∧ b < s.heap.size ∧ meth.locks = false ∧ (Jvm.Cond.and given_1 narrow_1).before #[Value.ref b] s = true
/-! FROM THE LAW'S ENTRY: a run of the interpreter that answers 1 closes it -/
def i_ox (tE tS tW b fo : Nat) (adK adV : Nat → Nat) : Nat → Nat := fun j => match j with
  | 0 => tE
  | 1 => tS
  | 2 => tW
  | 3 => b
  | 4 => fo
  | 5 => adK 0
  | 6 => adV 0
  | 7 => adK 1
  | _ => adV 1
theorem i_nw_on {w : Jvm.Cond} (h : w ∈ i_NW) : w.onTables = true := by
  have h1 := (List.mem_filter.mp h).2
  cases w <;> first | rfl | (simp [i_isNest] at h1; done)
set_option maxHeartbeats 4000000 in
theorem i_start {s : State} {b L : Nat} {xs : Nat → Int32} (hts : ∀ w ∈ lw_tbl, w.before #[Value.ref b] s = true) (hX : va_X b L xs s s.heap) (hbl : b < s.heap.size) (hL : L ≤ 3072) (hgv : (Jvm.Cond.and given_1 narrow_1).before #[Value.ref b] s = true) :
    ∃ ox : Nat → Nat, ox 3 = b ∧ i_EX ox L xs (fun q => s.heap.size ≤ q) s s.heap := by
  have hg : ∀ w ∈ i_prem, w.before #[Value.ref b] s = true := flat_of_before _ hgv
  have hA : ∀ a : Nat, a < s.heap.size → ¬ (s.heap.size ≤ a) := fun a h => by omega
  obtain ⟨tE, hE1, hE2⟩ := va_Tof (s := s) (args := #[Value.ref b]) (tm := .static "StillTown" "EAST" "[I") (ty := .int) (N := 8) (f := fun j => .int (i_EAST j)) (A := fun q => s.heap.size ≤ q) (by decide) (hg _ i_st_ar.1) (va_eqt (hg _ i_st_le.1)) (fun j hj => va_eqt (hg _ (i_st_e j hj))) hA
  obtain ⟨tS, hS1, hS2⟩ := va_Tof (s := s) (args := #[Value.ref b]) (tm := .static "StillTown" "SOUTH" "[I") (ty := .int) (N := 8) (f := fun j => .int (i_SOUTH j)) (A := fun q => s.heap.size ≤ q) (by decide) (hg _ i_st_ar.2.1) (va_eqt (hg _ i_st_le.2.1)) (fun j hj => va_eqt (hg _ (i_st_s j hj))) hA
  obtain ⟨tW, hW1, hW2⟩ := va_Tof (s := s) (args := #[Value.ref b]) (tm := .static "StillTown" "SEEN_WITHOUT" "[I") (ty := .int) (N := 4) (f := fun j => .int (i_SEEN j)) (A := fun q => s.heap.size ≤ q) (by decide) (hg _ i_st_ar.2.2) (va_eqt (hg _ i_st_le.2.2)) (fun j hj => va_eqt (hg _ (i_st_w j hj))) hA
  obtain ⟨adK, adV, hT, hTe⟩ := vk_Sof (s := s) (args := #[Value.ref b]) (N := 2) (tm := i_txt) (len := i_txlen) (byt := i_txb) (A := fun q => s.heap.size ≤ q) (by decide) (fun i hi => hg _ (i_tx_ex i hi)) (fun i hi => hg _ (i_tx_co i hi)) (fun i hi => hg _ (i_tx_ar i hi)) (fun i hi => hg _ (i_tx_le i hi)) (fun i hi j hj => hg _ (i_tx_el i hi j hj)) (fun i j hi hj hij => by
    rcases (show i = 0 ∧ j = 1 ∨ i = 1 ∧ j = 0 by omega) with ⟨rfl, rfl⟩ | ⟨rfl, rfl⟩
    · exact Or.inl (hg _ i_tx_ne)
    · exact Or.inr (hg _ i_tx_ne)) hA
  obtain ⟨l1, l2, l3, l4, l5⟩ := i_st_l.1
  obtain ⟨n1, n2, n3⟩ := i_st_l.2
  have hF : ∃ fo : Nat, va_Z "jdk/internal/util/Preconditions" "SIOOBE_FORMATTER" "Ljava/util/function/BiFunction;" (match fo with
    | 0 => .null
    | k + 1 => .ref k) (fun q => s.heap.size ≤ q) s s.heap := by
    rcases va_Zqof (hts _ l5) (hts _ n3) (hg _ i_st_c.2) hA with h | ⟨t, h⟩
    · exact ⟨0, h⟩
    · exact ⟨t + 1, h⟩
  obtain ⟨fo, hFo⟩ := hF
  have t0 := hT.1 0 (by decide)
  have t1 := hT.1 1 (by decide)
  refine ⟨i_ox tE tS tW b fo adK adV, rfl, fun j N f hj => ?_, fun j bs hj => ?_, fun j k v hj => ?_, fun a C n d v hj => ?_, fun j own k hj => ?_, fun w hw => ?_, va_AO.of (hts _ i_st_r.2.2.1), (hts _ i_st_r.2.2.2 : _)⟩
  · match j, hj with
    | 0, hj => cases hj; exact hE2
    | 1, hj => cases hj; exact hS2
    | 2, hj => cases hj; exact hW2
    | 3, hj =>
      cases hj
      obtain ⟨scr, h1, h2, h3, h4, h5⟩ := hX
      exact ⟨scr, h1, h2, h3, Nat.le_of_eq h4.symm, congrArg Nat.toInt32 h4, h5, hA b hbl⟩
    | n + 4, hj => cases hj
  · match j, hj with
    | 6, hj => cases hj; exact t0.2.2.2
    | 8, hj => cases hj; exact t1.2.2.2
    | 0, hj => cases hj
    | 1, hj => cases hj
    | 2, hj => cases hj
    | 3, hj => cases hj
    | 4, hj => cases hj
    | 5, hj => cases hj
    | 7, hj => cases hj
    | n + 9, hj => cases hj
  · unfold i_oF at hj
    split at hj
    · cases hj; exact t0.2.1
    · cases hj; exact t0.2.2.1
    · cases hj; exact t1.2.1
    · cases hj; exact t1.2.2.1
    · cases hj
  · unfold i_oS at hj
    split at hj
    · cases hj; exact va_Zref (hts _ l1) (hts _ n1) hE1 hA
    · cases hj; exact va_Zref (hts _ l2) (hts _ n1) hS1 hA
    · cases hj; exact va_Zref (hts _ l3) (hts _ n1) hW1 hA
    · cases hj; exact va_Zof (hts _ l4) (hts _ n2) (va_eqi (hg _ i_st_c.1)) hA
    · cases hj; exact hFo
    · cases hj
  · unfold i_oR at hj
    split at hj
    · cases hj; exact ⟨⟨_, vk_R.of (hts _ i_st_r.1) (hTe 0 (by decide))⟩, t0.1⟩
    · cases hj; exact ⟨⟨_, vk_R.of (hts _ i_st_r.2.1) (hTe 1 (by decide))⟩, t1.1⟩
    · cases hj
  · exact va_Nw.of (i_nw_on hw) (hts w (List.mem_filter.mp hw).1)
set_option maxHeartbeats 4000000 in
/-- the law's walk out of a run -/
theorem i_law {MT : Nat → Option i_M} {AT : Nat → Nat → Option (Instr × Nat × Nat)} {k : Nat} {M : i_M} (hT : i_TOK MT AT) (hM : MT k = some M) (hM1 : i_by M = code) (hM2 : i_own M = R_law) (hM3 : i_rm M = room_1) (hM4 : i_ml M = 4) (hM5 : i_ki M = 3) {p : Program} {e : Env} {s : State} {m : MethodId} {below : List Frame} {meth : Method} {c : Code} (l : Launch) (hmna : i_MNA l) {b L : Nat} {xs : Nat → Int32} (hL : L ≤ 3072) (C0 : lw_At p s m meth c b L xs)
    (hrun : ∃ n h3, i_ex MT AT L xs n k 0 (i_lo0 [.retAddr 3] 4) [] [] 0 0 = some (some (.int 1), h3)) : W p l e room_1 s m #[Value.ref b] below meth c s.heap [] 0 0 (lw_Z below #[Value.ref b] s) (entryFrame m ([Value.ref b] : List Value).toArray 4) := by
  obtain ⟨hx, hb, hr, hml, hown, hts, hX, hbl, hlocks, hgv⟩ := id C0
  obtain ⟨n, h3, hrun⟩ := hrun
  obtain ⟨ox, ho, hEX⟩ := i_start hts hX hbl hL hgv
  have hgt : ∀ w ∈ i_GT, w.before #[Value.ref b] s = true := fun w hw => hts w (List.mem_filter.mp hw).1
  obtain ⟨cT, hcT⟩ := i_arrays hts
  obtain ⟨D, hD⟩ := i_classes hgt
  rw [lg_entry_eq]
  have hl := i_LR_entry (fun _ => 0) ox [.retAddr 3] 4 (by decide)
  have hmap : ([.retAddr 3] : List Value).map (i_tr (fun _ => 0) ox) = [Value.ref b] := by
    show [Value.ref (ox 3)] = _
    rw [ho]
  rw [hmap] at hl
  generalize (lg_sl ([Value.ref b]) ++ List.replicate (4 - (lg_sl ([Value.ref b])).length) Slot.unset).toArray = ls at hl ⊢
  have X : i_CX p c (i_by M) s m #[Value.ref b] (i_own M) (fun q => s.heap.size ≤ q) D cT ox L xs := ⟨hx, hb.trans hM1.symm, by rw [hM2]; exact hown, hgt, ⟨hD, hcT⟩, hEX, fun _ h => h⟩
  have hW0 : i_Wd D (fun _ => 0) ox cT (fun q => s.heap.size ≤ q) s s.heap [] [] := ⟨fun k q h => (by cases h), ⟨fun i j p q h => (by cases h), fun k q h => (by cases h)⟩, va_S.rf⟩
  rw [← hM3]
  refine i_sound hT hmna n k M 0 (i_lo0 [.retAddr 3] 4) [] [] 0 0 (some (.int 1)) h3 hM hrun p e s m #[Value.ref b] below meth c s.heap [] (lw_Z below #[Value.ref b] s) D (fun _ => 0) ox cT (fun q => s.heap.size ≤ q) ls X (hml.trans hM4.symm) (fun h => by omega) hW0 (by rw [hM4]; exact hl) ?_
  intro ad2 H2 locs2 pcR ls2 u2 w2 ins hag hw hu hw2 hdg hrt
  have hins : ins = .ireturn := by
    rcases hrt with ⟨v, h1, -, -⟩ | ⟨v, -, h1, -⟩ | ⟨-, h1, -⟩
    · exact h1
    · cases h1
    · cases h1
  subst hins
  rw [hM1] at hdg
  have hc : i_mc M = 600000 := congrArg Room.cells hM3
  have hs : i_ms M = 7302250 := congrArg Room.slots hM3
  refine va_forget hw.2.2.2.2 ?_
  rw [hc] at hu
  rw [hs] at hw2
  refine W.widen hu hw2 ?_
  rw [hM3]
  exact lw_ret hx hb hr hlocks hdg
