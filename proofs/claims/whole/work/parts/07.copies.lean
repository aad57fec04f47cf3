/-! CONSTANTS, COPIES -/
def i_cst (ins : Instr) (a b pc : Nat) (lo : iL) (st : List Value) (h : iH) (u w : Nat) : Option i_S := match ins with
  | .ldc _ => if b = 0 then some (pc + 2, lo, .int (Int32.ofNat a) :: st, h, u, w) else some (pc + 2, lo, .retAddr a :: st, h, u, w)
  | .ldc_w _ => some (pc + 3, lo, .int (Int32.ofNat a) :: st, h, u, w)
  | .ldc2_w _ => some (pc + 3, lo, .long (Int64.ofNat a) :: st, h, u, w)
  | _ => none
theorem i_native : nativeFrameWords "java/lang/System" "arraycopy" 5 = 7 := by decide +kernel
section IHC
variable {p : Program} {l : Launch} {e : Env} {R : Room} {s : State} {m : MethodId} {args : Array Value} {below : List Frame} {meth : Method} {c : Code} {H : Heap} {locs : List Loc} {Q : State → Prop}
variable {cc : ByteArray} {D : va_G} {ad ox cT : Nat → Nat} {A : Nat → Prop} {L : Nat} {xs : Nat → Int32} {own : String} {nL pc pc2 a b u u2 w w2 idx : Nat} {lo lo2 : iL} {st st2 : List Value} {h h2 : iH} {ls : Array Slot}
theorem i_sum (ad ox : Nat → Nat) (r : List Value) : ((r.map (i_tr ad ox)).map fun v => v.category).sum = (r.map fun v => v.category).sum := by
  rw [List.map_map]
  congr 1
  exact List.map_congr_left (fun v _ => i_tr_cat ad ox v)

/-- a copy out of a table of ints that nobody writes -/
theorem i_copyt {cl : List vw_C} {tys : List (ClassId × FieldType)} {ws : va_W} {rest : List Value} {cells slots a : Nat} (hexec : p.tables.exec = Jvm.exec) (hb : c.code = cc) (hml : c.maxLocals = ls.size) (hown : s.vm.findClass own = some m.cls) (hlink : (Jvm.Cond.methodLink own idx arraycopyName).before args s = true) (hnat : (Jvm.Cond.native arraycopyName).before args s = true) (hstat : (Jvm.Cond.static arraycopyName).before args s = true) (hini : (Jvm.Cond.initialized "java/lang/System").before args s = true)
    (hK : va_K D cl tys s) (hP : va_P D cl ws H) (hD : va_D A ws) (hS : va_S A s.heap H locs) {b0 n0 : Nat} {f : Nat → Int32} (hX : va_T .int b0 n0 (fun j => .int (f j)) A s s.heap) (q1 t1 : Nat) {c1 : ClassId} {n1 : Nat} {g : Nat → Int32} (ha1 : ws[q1]? = some (a, .inl (c1, n1, .inl g))) (ht1 : tys[t1]? = some (c1, .int))
    {sp dp n : Int32} (h1 : ¬ sp < 0) (h2 : ¬ dp < 0) (h3 : ¬ n < 0) (h4 : sp.toNatClampNeg + n.toNatClampNeg ≤ n0) (h5 : dp.toNatClampNeg + n.toNatClampNeg ≤ n1)
    (hframes : 1 ≤ R.frames) (hlocals : (rest.map fun v => v.category).sum + (nativeFrameWords "java/lang/System" "arraycopy" 5 + 11) ≤ R.locals) (hdg : decode cc pc = .ok (.invokestatic idx, 3))
    (kk : ∀ (H1 : Heap) (locs1 : List Loc), va_P D cl (ws.set q1 (a, .inl (c1, n1, .inl (va_cpy f g sp.toNatClampNeg dp.toNatClampNeg n.toNatClampNeg)))) H1 → va_D A (ws.set q1 (a, .inl (c1, n1, .inl (va_cpy f g sp.toNatClampNeg dp.toNatClampNeg n.toNatClampNeg)))) → va_S A s.heap H1 locs1 → W p l e R s m args below meth c H1 locs1 cells slots Q (F0 m (pc + 3) ls rest)) : W p l e R s m args below meth c H locs cells slots Q (F0 m pc ls (.int n :: .int dp :: .ref a :: .int sp :: .ref b0 :: rest)) := by
  have nn : ∀ z : Int32, ¬ z < 0 → z.toInt = (z.toNatClampNeg : Int) := by
    intro z hz
    have hz0 : (0 : Int) ≤ z.toInt := by
      have := Int32.not_lt.mp hz
      simpa using Int32.le_iff_toInt_le.mp this
    show z.toInt = ((z.toInt.toNat : Nat) : Int)
    omega
  intro T hT X
  obtain ⟨scr, g1, ⟨g6, k0, hk0, cm0, hkk0⟩, g3, g4, -, g5, g7⟩ := hX
  have hc0 : H[b0]? = some scr := (hS.2.1 b0 (Array.getElem?_eq_some_iff.mp g1).1 g7).trans g1
  have hc1 : H[a]? = some (vp_cell c1 (n1, .inl g)) := hP q1 _ ha1
  obtain ⟨-, k1, hk1, cm1, hkk1⟩ := (hK.2 t1 _ ht1).1 n1 (fun j => .int (g j))
  have hget : ∀ i : Nat, i < n.toNatClampNeg → scr.slots.getD (sp.toNatClampNeg + i) .null = .int (f (sp.toNatClampNeg + i)) := fun i hi => by
    rw [Array.getD_eq_getD_getElem?, g5 _ (by omega)]
    rfl
  have hdst : ¬ dp.toInt + n.toInt > ((vp_cell c1 (n1, .inl g)).slots.size : Int) := by
    rw [nn dp h2, nn n h3]
    show ¬ _ > ((arrV c1 n1 (fun j => .int (g j))).slots.size : Int)
    rw [arrV_size]
    omega
  obtain ⟨vm', X', step⟩ := X.arraycopy hexec hown hlink hnat hstat hini (src := b0) (dst := a) (cs := scr) (cd := vp_cell c1 (n1, .inl g)) (srcPos := sp) (destPos := dp) (n := n) (by rw [hT]; exact hc0) (by rw [hT]; exact hc1)
    g6 (fun _ h => by cases h) g3 (fun h => by cases h) hk0 hk1 hkk0 hkk1 (by simp [refKind]) h1 h2 h3 (by rw [nn sp h1, nn n h3]; omega) hdst
    (fun vm₁ _ i hi => ⟨by rw [hget i hi]; rfl, by rw [hget i hi]; exact trivial⟩)
    (g := F0 m pc ls (.int n :: .int dp :: .ref a :: .int sp :: .ref b0 :: rest)) rfl (by rw [hml]) (rest := rest) rfl (by rw [hb]; exact hdg) hframes (by show 2 * 0 + _ + _ ≤ _; omega)
  have e1 : copied scr (vp_cell c1 (n1, .inl g)) sp dp n = vp_cell c1 (n1, .inl (va_cpy f g sp.toNatClampNeg dp.toNatClampNeg n.toNatClampNeg)) := va_copiedX (fun z => .int z) scr c1 f g g5 h4
  rw [e1] at X' step
  have hla : a < H.size := (Array.getElem?_eq_some_iff.mp hc1).1
  have oq : ∀ q : Nat, q ≠ a → (H.setIfInBounds a (vp_cell c1 (n1, .inl (va_cpy f g sp.toNatClampNeg dp.toNatClampNeg n.toNatClampNeg))))[q]? = H[q]? := fun q hq => by simp [Array.getElem?_setIfInBounds, Ne.symm hq]
  have hS1 := hS.2.2
  obtain ⟨t, a1, b1⟩ := kk (H.setIfInBounds a (vp_cell c1 (n1, .inl (va_cpy f g sp.toNatClampNeg dp.toNatClampNeg n.toNatClampNeg)))) _ (hP.set hD ha1 (show (H.setIfInBounds a _)[a]? = some _ by simp [Array.getElem?_setIfInBounds, hla]) oq) (hD.set ha1) ⟨by simp; exact hS.1, fun q z1 z2 => (oq q (fun e => z2 (by rw [e]; exact hD.2 q1 _ ha1))).trans (hS.2.1 q z1 z2), fun q hq => by
      rcases List.mem_append.mp hq with h | h
      · exact hS1 q h
      · obtain ⟨z, -, hz⟩ := List.mem_map.mp h
        rw [← hz]
        exact hD.2 q1 _ ha1⟩ _ (by rw [← hT]; rfl) X'
  exact ⟨t, step t a1, b1⟩
set_option maxHeartbeats 1000000 in
theorem i_h_ldc (X : i_CX p c cc s m args own A D cT ox L xs) (hw : i_Wd D ad ox cT A s H locs h) (hs : i_cst (.ldc idx) a b pc lo st h u w = some (pc2, lo2, st2, h2, u2, w2)) (hE : (b = 0 ∧ Jvm.Cond.constant own idx (Int32.ofNat a) ∈ i_GT) ∨ (b = 1 ∧ i_oR a = some (own, idx))) (hdg : decode cc pc = .ok (.ldc idx, 2)) (hl : i_LR ad ox lo ls nL) (kk : ∀ (ad2 : Nat → Nat) (H2 : Heap) (locs2 : List Loc), (∀ k, ¬ (h.length ≤ k ∧ k < h2.length) → ad2 k = ad k) → i_Wd D ad2 ox cT A s H2 locs2 h2 → i_LR ad2 ox lo2 ls nL → W p l e R s m args below meth c H2 locs2 u2 w2 Q (F0 m pc2 ls (st2.map (i_tr ad2 ox)))) : W p l e R s m args below meth c H locs u w Q (F0 m pc ls (st.map (i_tr ad ox))) := by
  obtain ⟨hexec, hb, hown, hts, hK, hEX, hA⟩ := X
  have hs : (if b = 0 then some (pc + 2, lo, Value.int (Int32.ofNat a) :: st, h, u, w) else some (pc + 2, lo, .retAddr a :: st, h, u, w)) = some (pc2, lo2, st2, h2, u2, w2) := hs
  rcases hE with ⟨h1, h2⟩ | ⟨h1, h2⟩
  · rw [if_pos h1] at hs
    cases hs
    exact lv_ldc hexec hb hown (hts _ h2) hdg (kk ad H locs (fun _ _ => rfl) hw hl)
  · rw [if_neg (by omega)] at hs
    cases hs
    obtain ⟨⟨tx, h3⟩, -⟩ := hEX.2.2.2.2.1 a own idx h2
    exact va_ldcS hexec hb hown h3 hdg (kk ad H locs (fun _ _ => rfl) hw hl)
set_option maxHeartbeats 1000000 in
theorem i_h_ldc_w (X : i_CX p c cc s m args own A D cT ox L xs) (hw : i_Wd D ad ox cT A s H locs h) (hs : i_cst (.ldc_w idx) a b pc lo st h u w = some (pc2, lo2, st2, h2, u2, w2)) (hE : Jvm.Cond.constant own idx (Int32.ofNat a) ∈ i_GT) (hdg : decode cc pc = .ok (.ldc_w idx, 3)) (hl : i_LR ad ox lo ls nL) (kk : ∀ (ad2 : Nat → Nat) (H2 : Heap) (locs2 : List Loc), (∀ k, ¬ (h.length ≤ k ∧ k < h2.length) → ad2 k = ad k) → i_Wd D ad2 ox cT A s H2 locs2 h2 → i_LR ad2 ox lo2 ls nL → W p l e R s m args below meth c H2 locs2 u2 w2 Q (F0 m pc2 ls (st2.map (i_tr ad2 ox)))) : W p l e R s m args below meth c H locs u w Q (F0 m pc ls (st.map (i_tr ad ox))) := by
  obtain ⟨hexec, hb, hown, hts, hK, hEX, hA⟩ := X
  cases hs
  exact lv_ldcw hexec hb hown (hts _ hE) hdg (kk ad H locs (fun _ _ => rfl) hw hl)
set_option maxHeartbeats 1000000 in
theorem i_h_ldc2_w (X : i_CX p c cc s m args own A D cT ox L xs) (hw : i_Wd D ad ox cT A s H locs h) (hs : i_cst (.ldc2_w idx) a b pc lo st h u w = some (pc2, lo2, st2, h2, u2, w2)) (hE : Jvm.Cond.constantLong own idx (Int64.ofNat a) ∈ i_GT) (hdg : decode cc pc = .ok (.ldc2_w idx, 3)) (hl : i_LR ad ox lo ls nL) (kk : ∀ (ad2 : Nat → Nat) (H2 : Heap) (locs2 : List Loc), (∀ k, ¬ (h.length ≤ k ∧ k < h2.length) → ad2 k = ad k) → i_Wd D ad2 ox cT A s H2 locs2 h2 → i_LR ad2 ox lo2 ls nL → W p l e R s m args below meth c H2 locs2 u2 w2 Q (F0 m pc2 ls (st2.map (i_tr ad2 ox)))) : W p l e R s m args below meth c H locs u w Q (F0 m pc ls (st.map (i_tr ad ox))) := by
  obtain ⟨hexec, hb, hown, hts, hK, hEX, hA⟩ := X
  cases hs
  exact lv_ldc2 hexec hb hown (hts _ hE) hdg (kk ad H locs (fun _ _ => rfl) hw hl)
set_option maxHeartbeats 1000000 in
theorem i_h_copy (X : i_CX p c cc s m args own A D cT ox L xs) (hw : i_Wd D ad ox cT A s H locs h) (hs : i_copy L xs R.frames R.locals pc lo st h u w = some (pc2, lo2, st2, h2, u2, w2)) (hml : c.maxLocals = nL) (hE : Jvm.Cond.methodLink own idx arraycopyName ∈ i_GT ∧ Jvm.Cond.native arraycopyName ∈ i_GT ∧ Jvm.Cond.static arraycopyName ∈ i_GT ∧ Jvm.Cond.initialized "java/lang/System" ∈ i_GT) (hdg : decode cc pc = .ok (.invokestatic idx, 3)) (hl : i_LR ad ox lo ls nL) (kk : ∀ (ad2 : Nat → Nat) (H2 : Heap) (locs2 : List Loc), (∀ k, ¬ (h.length ≤ k ∧ k < h2.length) → ad2 k = ad k) → i_Wd D ad2 ox cT A s H2 locs2 h2 → i_LR ad2 ox lo2 ls nL → W p l e R s m args below meth c H2 locs2 u2 w2 Q (F0 m pc2 ls (st2.map (i_tr ad2 ox)))) : W p l e R s m args below meth c H locs u w Q (F0 m pc ls (st.map (i_tr ad ox))) := by
  obtain ⟨hexec, hb, hown, hts, hK, hEX, hA⟩ := X
  unfold i_copy at hs
  split at hs
  · rename_i n dp q1 sp q0 r
    split at hs
    · rename_i t0 n0 f t1 n1 g he0 he1
      obtain ⟨⟨a1, a2, a3, a4, a5, a6, a7, a8, a9⟩, hs2⟩ := i_if_s hs
      subst a1
      subst a2
      cases hs2
      exact va_copyi (a := ad q1) (a0 := ad q0) (ty := .int) hexec hb (by rw [hml]; exact hl.2.1.symm) hown (hts _ hE.1) (hts _ hE.2.1) (hts _ hE.2.2.1) (hts _ hE.2.2.2) hK hw.1 hw.2.1 hw.2.2 q0 q1 0 0 (i_ws_get he0) (i_ws_get he1) rfl rfl rfl a3 a4 a5 a6 a7 (fun _ _ => rfl) a8 (by rw [i_sum, i_native]; omega) hdg (fun H1 locs1 q1' q2' q3' => kk ad H1 locs1 (fun _ _ => rfl) (hw.set (e := .inl (0, n1, .inl (va_cpy f g sp.toNatClampNeg dp.toNatClampNeg n.toNatClampNeg))) q1' q2' q3') hl)
    · rename_i t0 n0 f t1 n1 g he0 he1
      obtain ⟨⟨a1, a2, a3, a4, a5, a6, a7, a8, a9⟩, hs2⟩ := i_if_s hs
      subst a1
      subst a2
      cases hs2
      exact va_copyl (a := ad q1) (a0 := ad q0) hexec hb (by rw [hml]; exact hl.2.1.symm) hown (hts _ hE.1) (hts _ hE.2.1) (hts _ hE.2.2.1) (hts _ hE.2.2.2) hK hw.1 hw.2.1 hw.2.2 q0 q1 1 1 (i_ws_get he0) (i_ws_get he1) rfl rfl rfl a3 a4 a5 a6 a7 (fun _ _ => rfl) a8 (by rw [i_sum, i_native]; omega) hdg (fun H1 locs1 q1' q2' q3' => kk ad H1 locs1 (fun _ _ => rfl) (hw.set (e := .inl (1, n1, .inr (.inl (va_cpy f g sp.toNatClampNeg dp.toNatClampNeg n.toNatClampNeg)))) q1' q2' q3') hl)
    · cases hs
  · rename_i n dp q1 sp j r
    split at hs
    · rename_i n0 f t1 n1 g he0 he1
      obtain ⟨⟨a1, a3, a4, a5, a6, a7, a8, a9⟩, hs2⟩ := i_if_s hs
      subst a1
      cases hs2
      exact i_copyt (a := ad q1) hexec hb (by rw [hml]; exact hl.2.1.symm) hown (hts _ hE.1) (hts _ hE.2.1) (hts _ hE.2.2.1) (hts _ hE.2.2.2) hK hw.1 hw.2.1 hw.2.2 (hEX.1 j n0 f he0) q1 0 (i_ws_get he1) rfl a3 a4 a5 a6 a7 a8 (by rw [i_sum, i_native]; omega) hdg (fun H1 locs1 q1' q2' q3' => kk ad H1 locs1 (fun _ _ => rfl) (hw.set (e := .inl (0, n1, .inl (va_cpy f g sp.toNatClampNeg dp.toNatClampNeg n.toNatClampNeg))) q1' q2' q3') hl)
    · cases hs
  · cases hs
end IHC
