/-! THE ENTRY: what the Statement gives at the law's start is what the interpreter's world wants -/
section IEN
variable {s : State} {args : Array Value}
theorem i_arrOver {t : FieldType} (h : (Jvm.Cond.arrayOver (.array t)).before args s = true) : ∃ (c : ClassId) (k : Class) (comp : ClassId), s.vm.findClass ("[" ++ (FieldType.array t).toString) = some c ∧ s.vm.classes[c]? = some k ∧ k.kind = .array comp (.array t) := by
  simp only [Jvm.Cond.before, Jvm.Cond.holds, Jvm.Cond.value, beq_iff_eq] at h
  cases hc : s.vm.findClass (FieldType.array t).toString with
  | none => simp [hc] at h
  | some comp =>
    simp only [hc, Option.bind_some, Option.bind_eq_some_iff, Option.map_eq_some_iff] at h
    obtain ⟨c, hi, k, hk, hb⟩ := h
    cases hkind : k.kind with
    | array component ty =>
      rw [hkind] at hb
      simp at hb
      exact ⟨c, k, component, hb.2, hk, by rw [hkind, hb.1]⟩
    | _ => rw [hkind] at hb; simp at hb
theorem i_arrT {ty : FieldType} {c : ClassId} {k : Class} {comp : ClassId} (hk : s.vm.classes[c]? = some k) (hkind : k.kind = .array comp ty) : ArrOfT s c ty := fun N z => ⟨(fun k h => by cases h), k, hk, comp, hkind⟩
/-- the classes of arrays -/
theorem i_arrays (hts : ∀ w ∈ lw_tbl, w.before args s = true) : ∃ cT : Nat → Nat, ∀ (k : Nat) (q : ClassId × FieldType), (i_tys cT)[k]? = some q → ArrOfT s q.1 q.2 ∧ va_RA s q.1 q.2 := by
  have h0 : ∀ t, ∃ c : Nat, t < 6 → ArrOfT s c (i_ty t) ∧ va_RA s c (i_ty t) := by
    intro t
    match t with
    | 0 =>
      obtain ⟨c, k, comp, h1, h2, h3⟩ := Jvm.Cond.arrayClass_spec (hts (.arrayClass .int) (by decide +kernel))
      exact ⟨c, fun _ => ⟨i_arrT h2 h3, h1⟩⟩
    | 1 =>
      obtain ⟨c, k, comp, h1, h2, h3⟩ := Jvm.Cond.arrayClass_spec (hts (.arrayClass .long) (by decide +kernel))
      exact ⟨c, fun _ => ⟨i_arrT h2 h3, h1⟩⟩
    | 2 =>
      obtain ⟨c, k, comp, h1, h2, h3⟩ := Jvm.Cond.arrayClass_spec (hts (.arrayClass .boolean) (by decide +kernel))
      exact ⟨c, fun _ => ⟨i_arrT h2 h3, h1⟩⟩
    | 3 =>
      obtain ⟨c, k, comp, h1, h2, h3⟩ := Jvm.Cond.arrayClass_spec (hts (.arrayClass .byte) (by decide +kernel))
      exact ⟨c, fun _ => ⟨i_arrT h2 h3, h1⟩⟩
    | 4 =>
      obtain ⟨c, k, comp, h1, h2, h3⟩ := i_arrOver (hts (.arrayOver (.array .long)) (by decide +kernel))
      exact ⟨c, fun _ => ⟨i_arrT h2 h3, h1⟩⟩
    | 5 =>
      obtain ⟨comp, c, k, h1, -, h2, h3, h4⟩ := Jvm.Cond.arrayOver_spec (hts (.arrayOver (.object "StillTown$Town")) (by decide +kernel))
      exact ⟨c, fun _ => ⟨i_arrT h2 h3, k, comp, h2, h3, h1, h4⟩⟩
    | n + 6 => exact ⟨0, fun h => absurd h (by omega)⟩
  obtain ⟨cT, hcT⟩ := Classical.axiomOfChoice h0
  refine ⟨cT, fun k q hq => ?_⟩
  have hk : k < 6 := (List.getElem?_eq_some_iff.mp hq).1
  rw [i_tys_at cT hk] at hq
  cases hq
  exact hcT k hk
/-- the classes -/
theorem i_classes (hts : ∀ w ∈ i_GT, w.before args s = true) : ∃ D : va_G, ∀ (c : Nat) (q : vw_C), vwCl[c]? = some q → u_Kn s q.1 q.2.1 q.2.2 (D.1 c) (D.2 c) := by
  have h0 : ∀ ci : Nat, ∃ z : ClassId × (Nat → Nat), ∀ q : vw_C, vwCl[ci]? = some q → u_Kn s q.1 q.2.1 q.2.2 z.1 z.2 := by
    intro ci
    by_cases h : ci < 13
    · obtain ⟨C, T, N, c1, c2, -, -, c5, -⟩ := i_cf ci h
      obtain ⟨cC, iS, hk⟩ := u_known hts c2 (hts _ c5)
      exact ⟨(cC, iS), fun q hq => by cases c1.symm.trans hq; exact hk⟩
    · exact ⟨(0, fun _ => 0), fun q hq => absurd (List.getElem?_eq_some_iff.mp hq).1 h⟩
  obtain ⟨z, hz⟩ := Classical.axiomOfChoice h0
  exact ⟨(fun c => (z c).1, fun c => (z c).2), fun c q hq => hz c q hq⟩
end IEN
def i_txt (i : Nat) : Jvm.Term := if i = 0 then .string "StillTown$Tape" 60 else .string "StillTownModel" 245
def i_txlen : List Nat := [145, 147]
def i_txb : List (List Int32) := [i_TX1, i_TX2]
noncomputable def i_prem : List Jvm.Cond := flatC (Jvm.Cond.and given_1 narrow_1)
section ITX
set_option maxRecDepth 100000
theorem i_tx_ex : ∀ i, i < 2 → Jvm.Cond.exactly (i_txt i) "java/lang/String" ∈ i_prem := by decide +kernel
theorem i_tx_co : ∀ i, i < 2 → Jvm.Cond.eq (.field (i_txt i) "java/lang/String" "coder" "B") (.int 0) ∈ i_prem := by decide +kernel
theorem i_tx_ar : ∀ i, i < 2 → Jvm.Cond.arrayOf (.field (i_txt i) "java/lang/String" "value" "[B") .byte ∈ i_prem := by decide +kernel
theorem i_tx_le : ∀ i, i < 2 → Jvm.Cond.eq (.length (.field (i_txt i) "java/lang/String" "value" "[B")) (.int (Int32.ofNat (i_txlen.getD i 0))) ∈ i_prem := by decide +kernel
def i_elq (t : Jvm.Term) (bs : List Int32) : List Jvm.Cond := (List.range bs.length).map (fun j => Jvm.Cond.eq (.elem t (.int (Int32.ofNat j))) (.int (bs.getD j 0)))
theorem i_elq_in {t : Jvm.Term} {bs : List Int32} {base : Nat} (h : (i_prem.drop base).take bs.length = i_elq t bs) {j : Nat} (hj : j < bs.length) : Jvm.Cond.eq (.elem t (.int (Int32.ofNat j))) (.int (bs.getD j 0)) ∈ i_prem := by
  have h1 : Jvm.Cond.eq (.elem t (.int (Int32.ofNat j))) (.int (bs.getD j 0)) ∈ i_elq t bs := List.mem_map.mpr ⟨j, List.mem_range.mpr hj, rfl⟩
  rw [← h] at h1
  exact List.mem_of_mem_drop (List.mem_of_mem_take h1)
theorem i_tx_e1 : (i_prem.drop 42).take i_TX1.length = i_elq (.field (.string "StillTown$Tape" 60) "java/lang/String" "value" "[B") i_TX1 := by decide +kernel
theorem i_tx_e2 : (i_prem.drop 191).take i_TX2.length = i_elq (.field (.string "StillTownModel" 245) "java/lang/String" "value" "[B") i_TX2 := by decide +kernel
theorem i_tx_el : ∀ i, i < 2 → ∀ j, j < i_txlen.getD i 0 → Jvm.Cond.eq (.elem (.field (i_txt i) "java/lang/String" "value" "[B") (.int (Int32.ofNat j))) (.int ((i_txb.getD i []).getD j 0)) ∈ i_prem := by
  intro i hi j hj
  match i, hi with
  | 0, _ => exact i_elq_in i_tx_e1 hj
  | 1, _ => exact i_elq_in i_tx_e2 hj
theorem i_tx_ne : Jvm.Cond.not (Jvm.Cond.eq (i_txt 0) (i_txt 1)) ∈ i_prem := by decide +kernel
theorem i_st_ar : Jvm.Cond.arrayOf (.static "StillTown" "EAST" "[I") .int ∈ i_prem ∧ Jvm.Cond.arrayOf (.static "StillTown" "SOUTH" "[I") .int ∈ i_prem ∧ Jvm.Cond.arrayOf (.static "StillTown" "SEEN_WITHOUT" "[I") .int ∈ i_prem := by decide +kernel
theorem i_st_le : Jvm.Cond.eq (.length (.static "StillTown" "EAST" "[I")) (.int (Int32.ofNat 8)) ∈ i_prem ∧ Jvm.Cond.eq (.length (.static "StillTown" "SOUTH" "[I")) (.int (Int32.ofNat 8)) ∈ i_prem ∧ Jvm.Cond.eq (.length (.static "StillTown" "SEEN_WITHOUT" "[I")) (.int (Int32.ofNat 4)) ∈ i_prem := by decide +kernel
theorem i_st_e : ∀ j, j < 8 → Jvm.Cond.eq (.elem (.static "StillTown" "EAST" "[I") (.int (Int32.ofNat j))) (.int (i_EAST j)) ∈ i_prem := by decide +kernel
theorem i_st_s : ∀ j, j < 8 → Jvm.Cond.eq (.elem (.static "StillTown" "SOUTH" "[I") (.int (Int32.ofNat j))) (.int (i_SOUTH j)) ∈ i_prem := by decide +kernel
theorem i_st_w : ∀ j, j < 4 → Jvm.Cond.eq (.elem (.static "StillTown" "SEEN_WITHOUT" "[I") (.int (Int32.ofNat j))) (.int (i_SEEN j)) ∈ i_prem := by decide +kernel
theorem i_st_c : Jvm.Cond.eq (.static "java/lang/String" "COMPACT_STRINGS" "Z") (.int 1) ∈ i_prem ∧ Jvm.Cond.isRef (.static "jdk/internal/util/Preconditions" "SIOOBE_FORMATTER" "Ljava/util/function/BiFunction;") ∈ i_prem := by decide +kernel
theorem i_st_l : (Jvm.Cond.laysStatic "StillTown" "EAST" "[I" ∈ lw_tbl ∧ Jvm.Cond.laysStatic "StillTown" "SOUTH" "[I" ∈ lw_tbl ∧ Jvm.Cond.laysStatic "StillTown" "SEEN_WITHOUT" "[I" ∈ lw_tbl ∧ Jvm.Cond.laysStatic "java/lang/String" "COMPACT_STRINGS" "Z" ∈ lw_tbl ∧ Jvm.Cond.laysStatic "jdk/internal/util/Preconditions" "SIOOBE_FORMATTER" "Ljava/util/function/BiFunction;" ∈ lw_tbl) ∧ (Jvm.Cond.initialized "StillTown" ∈ lw_tbl ∧ Jvm.Cond.initialized "java/lang/String" ∈ lw_tbl ∧ Jvm.Cond.initialized "jdk/internal/util/Preconditions" ∈ lw_tbl) := by decide +kernel
theorem i_st_r : Jvm.Cond.stringRef "StillTown$Tape" 60 "n ne e se s sw w nw size wall to tree sways cart goes lamp person at looks far hides from shows seen slow turn sign self does step still loop end" ∈ lw_tbl ∧ Jvm.Cond.stringRef "StillTownModel" 245 " n ne e se s sw w nw size wall tree cart lamp person hides shows seen to sways goes at looks far from slow turn sign self does step still loop end " ∈ lw_tbl ∧ Jvm.Cond.arrayOver (.object "StillTown$Town") ∈ lw_tbl ∧ Jvm.Cond.arrayOver (.array .long) ∈ lw_tbl := by decide +kernel
end ITX
