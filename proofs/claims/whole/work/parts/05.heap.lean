/-! INSTRUCTIONS ON THE WORLD: what is outside, the tables' words that an instruction needs, and that the machine does them -/
def i_isNest (w : Jvm.Cond) : Bool := match w with
  | .fieldLinkNest .. => true
  | .methodLinkNest .. => true
  | _ => false
def i_NW : List Jvm.Cond := lw_tbl.filter i_isNest
/-- rows of rows of longs: their class is there -/
def i_AOA (U : State) : Prop := (Jvm.Cond.arrayOver (.array .long)).before #[] U = true
theorem i_AOA_spec {args : Array Value} {s : State} {t : FieldType} (h : (Jvm.Cond.arrayOver (.array t)).before args s = true) :
    ∃ comp c k, s.vm.findClass (FieldType.array t).toString = some comp ∧ (s.vm.classes.findIdx? fun (x : Class) => match x.kind with | .array component _ => component == comp | _ => false) = some c ∧ s.vm.classes[c]? = some k ∧ k.kind = .array comp (.array t) ∧ s.vm.findClass ("[" ++ (FieldType.array t).toString) = some c := by
  simp only [Jvm.Cond.before, Jvm.Cond.holds, Jvm.Cond.value, beq_iff_eq] at h
  cases hc : s.vm.findClass (FieldType.array t).toString with
  | none => simp [hc] at h
  | some comp =>
    simp only [hc, Option.bind_some, Option.bind_eq_some_iff, Option.map_eq_some_iff] at h
    obtain ⟨c, hi, k, hk, hb⟩ := h
    obtain ⟨hlt, hp, -⟩ := Array.findIdx?_eq_some_iff_getElem.mp hi
    have hkk : s.vm.classes[c] = k := (Array.getElem?_eq_some_iff.mp hk).2
    rw [hkk] at hp
    cases hkind : k.kind with
    | array component ty =>
      rw [hkind] at hb hp
      simp at hb hp
      exact ⟨comp, c, k, rfl, hi, hk, by rw [hkind, hp, hb.1], hb.2⟩
    | _ => rw [hkind] at hb; simp at hb
theorem i_AOA.moved {u U : State} (hvm : u.vm.Alike U.vm) (h : i_AOA u) : i_AOA U := by
  obtain ⟨comp, c, k, h1, h2, h3, h4, h5⟩ := i_AOA_spec h
  obtain ⟨k', hk', he⟩ := hvm.2.2 _ _ h3
  have hb := va_idx_bare U.vm comp
  have hb2 := va_idx_bare u.vm comp
  have hbe : U.vm.bare = u.vm.bare := by first | exact hvm.bare_eq | exact hvm.bare_eq.symm
  rw [hbe] at hb
  have hi : (U.vm.classes.findIdx? fun (x : Class) => match x.kind with | .array component _ => component == comp | _ => false) = some c := hb.symm.trans (hb2.trans h2)
  have hkind : k'.kind = .array comp (.array .long) := by rw [he]; exact h4
  have f1 : U.vm.findClass (FieldType.array .long).toString = some comp := by rw [hvm.findClass]; exact h1
  have f3 : U.vm.findClass ("[" ++ (FieldType.array .long).toString) = some c := by rw [hvm.findClass]; exact h5
  unfold i_AOA Jvm.Cond.before Jvm.Cond.holds
  simp only [Jvm.Cond.value]
  rw [f1, Option.bind_some]
  generalize hz : Array.findIdx? _ U.vm.classes = z
  have hz2 : z = some c := hz.symm.trans hi
  subst hz2
  simp [hk', hkind, f3]
def i_EX (ox : Nat → Nat) (L : Nat) (xs : Nat → Int32) (A : Nat → Prop) (U : State) (H : Heap) : Prop :=
  (∀ j N f, i_oA L xs j = some (N, f) → va_T .int (ox j) N (fun k => .int (f k)) A U H) ∧
  (∀ j bs, i_oB j = some bs → va_T .byte (ox j) bs.length (fun k => .int (bs.getD k 0)) A U H) ∧
  (∀ j b v, i_oF j b = some v → va_OF "java/lang/String" (i_fd b).1 (i_fd b).2 (i_tr ox ox v) (ox j) A U H) ∧
  (∀ a C n d v, i_oS a = some (C, n, d, v) → va_Z C n d (i_tr ox ox v) A U H) ∧
  (∀ j own k, i_oR j = some (own, k) → (∃ tx, vk_R own k tx (ox j) U) ∧ va_O "java/lang/String" (ox j) A U H) ∧
  (∀ w ∈ i_NW, va_Nw w U) ∧ va_AO "StillTown$Town" U ∧ i_AOA U
theorem i_nw_warm {s U : State} (hW : s.WarmedH U.vm) {w : Jvm.Cond} (hw : w ∈ i_NW) (h : va_Nw w s) : va_Nw w U := by
  have h1 := (List.mem_filter.mp hw).2
  cases w <;> first | exact va_Nw.warmF hW h | exact va_Nw.warmM hW h | (simp [i_isNest] at h1)
/-- what is outside for a callee -/
theorem i_EX.call {ox : Nat → Nat} {L : Nat} {xs : Nat → Int32} {A B : Nat → Prop} {s U : State} {H : Heap} {locs : List Loc} (h : i_EX ox L xs A s s.heap) (hS : va_S A s.heap H locs) (hW : s.WarmedH U.vm) (hU : U.heap = H) (hn : ∀ q, B q → A q) : i_EX ox L xs B U U.heap := by
  have hk : ∀ a : Nat, a < s.heap.size → ¬ A a → U.heap[a]? = s.heap[a]? := fun a h1 h2 => by rw [hU]; exact hS.2.1 a h1 h2
  have hv := hW.alike
  obtain ⟨h1, h2, h3, h4, h5, h6, h7, h8⟩ := h
  refine ⟨fun j N f hj => (((h1 j N f hj).kept hk).moved hv).narrow hn, fun j bs hj => (((h2 j bs hj).kept hk).moved hv).narrow hn, fun j b v hj => (((h3 j b v hj).kept hk).moved hv).narrow hn, fun a C n d v hj => (((h4 a C n d v hj).kept hk).moved hv).narrow hn, fun j own k hj => ?_, fun w hw => i_nw_warm hW hw (h6 w hw), h7.moved hv, h8.moved hv⟩
  · obtain ⟨⟨tx, a1⟩, a2⟩ := h5 j own k hj
    exact ⟨⟨tx, a1.warm hW⟩, ((a2.kept hk).moved hv).narrow hn⟩
theorem i_EX.same {ox : Nat → Nat} {L : Nat} {xs : Nat → Int32} {A : Nat → Prop} {s U : State} (h : i_EX ox L xs A s s.heap) (hv : U.vm = s.vm) (hH : U.heap = s.heap) : i_EX ox L xs A U U.heap := by
  have ha : s.vm.Alike U.vm := by rw [hv]; exact Vm.Alike.refl s.vm
  obtain ⟨h1, h2, h3, h4, h5, h6, h7, h8⟩ := h
  rw [hH]
  refine ⟨fun j N f hj => (h1 j N f hj).moved ha, fun j bs hj => (h2 j bs hj).moved ha, fun j b v hj => (h3 j b v hj).moved ha, fun a C n d v hj => (h4 a C n d v hj).moved ha, fun j own k hj => ?_, fun w hw => ?_, h7.moved ha, h8.moved ha⟩
  · obtain ⟨⟨tx, a1⟩, a2⟩ := h5 j own k hj
    exact ⟨⟨tx, a1.same hv⟩, a2.moved ha⟩
  · have h9 := (List.mem_filter.mp hw).2
    cases w <;> first | exact va_Nw.same rfl hv.symm (h6 _ hw) | (simp [i_isNest] at h9)
abbrev i_S : Type := Nat × iL × List Value × iH × Nat × Nat
def i_fit (ty : FieldType) (v : Value) : Bool := match ty, v with
  | .int, .int _ => true
  | .long, .long _ => true
  | .boolean, .int x => x == 0 || x == 1
  | .object _, .ref _ => true
  | .object _, .null => true
  | .array _, .ref _ => true
  | .array _, .null => true
  | _, _ => false
theorem i_fit_ok {ty : FieldType} {v : Value} (h : i_fit ty v = true) (ad ox : Nat → Nat) : fits ty (i_tr ad ox v) = true ∧ narrow ty (i_tr ad ox v) = i_tr ad ox v := by
  cases ty <;> cases v <;> first | (simp [i_fit] at h; done) | exact ⟨rfl, rfl⟩ | skip
  rename_i x
  simp only [i_fit, Bool.or_eq_true, beq_iff_eq] at h
  rcases h with rfl | rfl
  · exact ⟨rfl, rfl⟩
  · exact ⟨rfl, rfl⟩
/-! the steps -/
def i_get (a b pc : Nat) (lo : iL) (st : List Value) (h : iH) (u w : Nat) : Option i_S := match st with
  | .ref q :: r => match h[q]? with
    | some (.inr (ci, fs)) => if ci = a then match fs[b]? with
      | some v => some (pc + 3, lo, v :: r, h, u, w)
      | none => none else none
    | _ => none
  | .retAddr j :: r => if a = 100 then match i_oF j b with
    | some v => some (pc + 3, lo, v :: r, h, u, w)
    | none => none else none
  | _ => none
def i_put (a b pc : Nat) (lo : iL) (st : List Value) (h : iH) (u w : Nat) : Option i_S := match st with
  | v :: .ref q :: r => match h[q]? with
    | some (.inr (ci, fs)) => if ci = a ∧ b < fs.length ∧ i_fit (i_cty a b) v = true then some (pc + 3, lo, r, h.set q (.inr (ci, fs.set b v)), u, w) else none
    | _ => none
  | _ => none
def i_rf (o : Option Nat) : Value := match o with
  | some k => .ref k
  | none => .null
def i_aget (L : Nat) (xs : Nat → Int32) (pc : Nat) (lo : iL) (st : List Value) (h : iH) (u w : Nat) : Option i_S := match st with
  | .int i :: .ref q :: r => match h[q]? with
    | some (.inl (t, n, .inl f)) => if t = 0 ∧ ¬ (i < 0 ∨ n ≤ i.toNatClampNeg) then some (pc + 1, lo, .int (f i.toNatClampNeg) :: r, h, u, w) else none
    | _ => none
  | .int i :: .retAddr j :: r => match i_oA L xs j with
    | some (n, f) => if ¬ (i < 0 ∨ n ≤ i.toNatClampNeg) then some (pc + 1, lo, .int (f i.toNatClampNeg) :: r, h, u, w) else none
    | none => none
  | _ => none
def i_lget (pc : Nat) (lo : iL) (st : List Value) (h : iH) (u w : Nat) : Option i_S := match st with
  | .int i :: .ref q :: r => match h[q]? with
    | some (.inl (t, n, .inr (.inl f))) => if t = 1 ∧ ¬ (i < 0 ∨ n ≤ i.toNatClampNeg) then some (pc + 1, lo, .long (f i.toNatClampNeg) :: r, h, u, w) else none
    | _ => none
  | _ => none
def i_bget (pc : Nat) (lo : iL) (st : List Value) (h : iH) (u w : Nat) : Option i_S := match st with
  | .int i :: .ref q :: r => match h[q]? with
    | some (.inl (t, n, .inl f)) => if (t = 2 ∨ t = 3) ∧ ¬ (i < 0 ∨ n ≤ i.toNatClampNeg) then some (pc + 1, lo, .int (f i.toNatClampNeg) :: r, h, u, w) else none
    | _ => none
  | .int i :: .retAddr j :: r => match i_oB j with
    | some bs => if ¬ (i < 0 ∨ bs.length ≤ i.toNatClampNeg) then some (pc + 1, lo, .int (bs.getD i.toNatClampNeg 0) :: r, h, u, w) else none
    | none => none
  | _ => none
def i_rget (pc : Nat) (lo : iL) (st : List Value) (h : iH) (u w : Nat) : Option i_S := match st with
  | .int i :: .ref q :: r => match h[q]? with
    | some (.inl (t, n, .inr (.inr (.inr (.inr f))))) => if (t = 4 ∨ t = 5) ∧ ¬ (i < 0 ∨ n ≤ i.toNatClampNeg) then some (pc + 1, lo, i_rf (f i.toNatClampNeg) :: r, h, u, w) else none
    | _ => none
  | _ => none
def i_aput (pc : Nat) (lo : iL) (st : List Value) (h : iH) (u w : Nat) : Option i_S := match st with
  | .int x :: .int i :: .ref q :: r => match h[q]? with
    | some (.inl (t, n, .inl f)) => if t = 0 ∧ ¬ (i < 0 ∨ n ≤ i.toNatClampNeg) then some (pc + 1, lo, r, h.set q (.inl (t, n, .inl (upd f i.toNatClampNeg x))), u, w) else none
    | _ => none
  | _ => none
def i_lput (pc : Nat) (lo : iL) (st : List Value) (h : iH) (u w : Nat) : Option i_S := match st with
  | .long x :: .int i :: .ref q :: r => match h[q]? with
    | some (.inl (t, n, .inr (.inl f))) => if t = 1 ∧ ¬ (i < 0 ∨ n ≤ i.toNatClampNeg) then some (pc + 1, lo, r, h.set q (.inl (t, n, .inr (.inl (vp_updL f i.toNatClampNeg x)))), u, w) else none
    | _ => none
  | _ => none
def i_bput (pc : Nat) (lo : iL) (st : List Value) (h : iH) (u w : Nat) : Option i_S := match st with
  | .int x :: .int i :: .ref q :: r => match h[q]? with
    | some (.inl (t, n, .inl f)) => if (t = 2 ∨ t = 3) ∧ ¬ (i < 0 ∨ n ≤ i.toNatClampNeg) then some (pc + 1, lo, r, h.set q (.inl (t, n, .inl (upd f i.toNatClampNeg (if t = 2 then vp_nar .boolean x else vp_nar .byte x)))), u, w) else none
    | _ => none
  | _ => none
def i_rput (pc : Nat) (lo : iL) (st : List Value) (h : iH) (u w : Nat) : Option i_S := match st with
  | .ref v :: .int i :: .ref q :: r => match h[q]?, h[v]? with
    | some (.inl (t, n, .inr (.inr (.inr (.inr f))))), some (.inr (ci, _)) => if t = 5 ∧ ci = 8 ∧ ¬ (i < 0 ∨ n ≤ i.toNatClampNeg) then some (pc + 1, lo, r, h.set q (.inl (t, n, .inr (.inr (.inr (.inr (va_up f i.toNatClampNeg (some v))))))), u, w) else none
    | _, _ => none
  | _ => none
def i_alen (L : Nat) (xs : Nat → Int32) (pc : Nat) (lo : iL) (st : List Value) (h : iH) (u w : Nat) : Option i_S := match st with
  | .ref q :: r => match h[q]? with
    | some (.inl (t, x)) => if t < 6 then some (pc + 1, lo, .int (Int32.ofNat x.1) :: r, h, u, w) else none
    | _ => none
  | .retAddr j :: r => match i_oA L xs j with
    | some (n, _) => some (pc + 1, lo, .int (Int32.ofNat n) :: r, h, u, w)
    | none => match i_oB j with
      | some bs => some (pc + 1, lo, .int (Int32.ofNat bs.length) :: r, h, u, w)
      | none => none
  | _ => none
def i_zero (a n : Nat) : vp_A := if a = 1 then (n, .inr (.inl (fun _ => 0))) else (n, .inl (fun _ => 0))
def i_newa (Rc Rs a pc : Nat) (lo : iL) (st : List Value) (h : iH) (u w : Nat) : Option i_S := match st with
  | .int n :: r => if ¬ n < 0 ∧ n.toNatClampNeg * 8 ≤ 536870912 ∧ u + 1 ≤ Rc ∧ w + n.toNatClampNeg ≤ Rs ∧ i_fr h.length lo r = true ∧ h.all (i_frE h.length) = true then some (pc + 2, lo, .ref h.length :: r, h ++ [.inl (a, i_zero a n.toNatClampNeg)], u + 1, w + n.toNatClampNeg) else none
  | _ => none
def i_newr (Rc Rs pc : Nat) (lo : iL) (st : List Value) (h : iH) (u w : Nat) : Option i_S := match st with
  | .int n :: r => if ¬ n < 0 ∧ n.toNatClampNeg * 8 ≤ 536870912 ∧ u + 1 ≤ Rc ∧ w + n.toNatClampNeg ≤ Rs ∧ i_fr h.length lo r = true ∧ h.all (i_frE h.length) = true then some (pc + 3, lo, .ref h.length :: r, h ++ [.inl (5, n.toNatClampNeg, .inr (.inr (.inr (.inr (fun _ => none)))))], u + 1, w + n.toNatClampNeg) else none
  | _ => none
def i_dfl (a : Nat) : List Value := (List.range (i_nf a)).map (fun k => defaultValue (i_cty a k))
def i_newo (Rc Rs a pc : Nat) (lo : iL) (st : List Value) (h : iH) (u w : Nat) : Option i_S :=
  if u + 1 ≤ Rc ∧ w + i_nf a ≤ Rs ∧ i_fr h.length lo st = true ∧ h.all (i_frE h.length) = true then some (pc + 3, lo, .ref h.length :: st, h ++ [.inr (a, i_dfl a)], u + 1, w + i_nf a) else none
def i_copy (L : Nat) (xs : Nat → Int32) (Rf Rl pc : Nat) (lo : iL) (st : List Value) (h : iH) (u w : Nat) : Option i_S := match st with
  | .int n :: .int dp :: .ref q1 :: .int sp :: .ref q0 :: r => match h[q0]?, h[q1]? with
    | some (.inl (t0, n0, .inl f)), some (.inl (t1, n1, .inl g)) => if t0 = 0 ∧ t1 = 0 ∧ ¬ sp < 0 ∧ ¬ dp < 0 ∧ ¬ n < 0 ∧ sp.toNatClampNeg + n.toNatClampNeg ≤ n0 ∧ dp.toNatClampNeg + n.toNatClampNeg ≤ n1 ∧ 1 ≤ Rf ∧ (r.map fun v => v.category).sum + 18 ≤ Rl then some (pc + 3, lo, r, h.set q1 (.inl (t1, n1, .inl (va_cpy f g sp.toNatClampNeg dp.toNatClampNeg n.toNatClampNeg))), u, w) else none
    | some (.inl (t0, n0, .inr (.inl f))), some (.inl (t1, n1, .inr (.inl g))) => if t0 = 1 ∧ t1 = 1 ∧ ¬ sp < 0 ∧ ¬ dp < 0 ∧ ¬ n < 0 ∧ sp.toNatClampNeg + n.toNatClampNeg ≤ n0 ∧ dp.toNatClampNeg + n.toNatClampNeg ≤ n1 ∧ 1 ≤ Rf ∧ (r.map fun v => v.category).sum + 18 ≤ Rl then some (pc + 3, lo, r, h.set q1 (.inl (t1, n1, .inr (.inl (va_cpy f g sp.toNatClampNeg dp.toNatClampNeg n.toNatClampNeg)))), u, w) else none
    | _, _ => none
  | .int n :: .int dp :: .ref q1 :: .int sp :: .retAddr j :: r => match i_oA L xs j, h[q1]? with
    | some (n0, f), some (.inl (t1, n1, .inl g)) => if t1 = 0 ∧ ¬ sp < 0 ∧ ¬ dp < 0 ∧ ¬ n < 0 ∧ sp.toNatClampNeg + n.toNatClampNeg ≤ n0 ∧ dp.toNatClampNeg + n.toNatClampNeg ≤ n1 ∧ 1 ≤ Rf ∧ (r.map fun v => v.category).sum + 18 ≤ Rl then some (pc + 3, lo, r, h.set q1 (.inl (t1, n1, .inl (va_cpy f g sp.toNatClampNeg dp.toNatClampNeg n.toNatClampNeg))), u, w) else none
    | _, _ => none
  | _ => none
/-- Object() -/
def i_obj (Rf Rl pc : Nat) (lo : iL) (st : List Value) (h : iH) (u w : Nat) : Option i_S := match st with
  | .ref _ :: r => if 1 ≤ Rf ∧ (r.map fun v => v.category).sum + 12 ≤ Rl then some (pc + 3, lo, r, h, u, w) else none
  | _ => none
def i_stat (a pc : Nat) (lo : iL) (st : List Value) (h : iH) (u w : Nat) : Option i_S := match i_oS a with
  | some q => some (pc + 3, lo, q.2.2.2 :: st, h, u, w)
  | none => none
