/-! CONSTANTS, COPIES -/
def i_cst (ins : Instr) (a b pc : Nat) (lo : iL) (st : List Value) (h : iH) (u w : Nat) : Option i_S := match ins with
  | .ldc _ => if b = 0 then some (pc + 2, lo, .int (Int32.ofNat a) :: st, h, u, w) else some (pc + 2, lo, .retAddr a :: st, h, u, w)
  | .ldc_w _ => some (pc + 3, lo, .int (Int32.ofNat a) :: st, h, u, w)
  | .ldc2_w _ => some (pc + 3, lo, .long (Int64.ofNat a) :: st, h, u, w)
  | _ => none
theorem i_native : nativeFrameWords "java/lang/System" "arraycopy" 5 = 7 := by decide +kernel
section IHC
variable {p : Program} {l : Launch} {e : Env} {R : Room} {s : State} {m : MethodId} {args : Array Value} {below : List Frame} {meth : Method} {c : Code} {H : Heap} {locs : List Loc} {Q : State → Prop}
variable {cc : ByteArray} {D : va_G} {ad ox cT : Nat → Nat} {A : Nat → Prop} {L : Nat} {xs : Nat → Int32} {own : String} {nL pc pc2 a b u u2 w w2 idx : Nat} {lo lo2 : iL} {st st2 : List Value} {h h2 : iH} {ls : Array Slot}
theorem i_sum (ad ox : Nat → Nat) (r : List Value) : ((r.map (i_tr ad ox)).map fun v => v.category).sum = (r.map fun v => v.category).sum := by
  rw [List.map_map]
  congr 1
  exact List.map_congr_left (fun v _ => i_tr_cat ad ox v)

set_option maxHeartbeats 1000000 in
theorem i_h_ldc (X : i_CX p c cc s m args own A D cT ox L xs) (hw : i_Wd D ad ox cT A s H locs h) (hs : i_cst (.ldc idx) a b pc lo st h u w = some (pc2, lo2, st2, h2, u2, w2)) (hE : (b = 0 ∧ Jvm.Cond.constant own idx (Int32.ofNat a) ∈ i_GT) ∨ (b = 1 ∧ i_oR a = some (own, idx))) (hdg : decode cc pc = .ok (.ldc idx, 2)) (hl : i_LR ad ox lo ls nL) (kk : ∀ (ad2 : Nat → Nat) (H2 : Heap) (locs2 : List Loc), (∀ k, ¬ (h.length ≤ k ∧ k < h2.length) → ad2 k = ad k) → i_Wd D ad2 ox cT A s H2 locs2 h2 → i_LR ad2 ox lo2 ls nL → W p l e R s m args below meth c H2 locs2 u2 w2 Q (F0 m pc2 ls (st2.map (i_tr ad2 ox)))) : W p l e R s m args below meth c H locs u w Q (F0 m pc ls (st.map (i_tr ad ox))) := by
  obtain ⟨hexec, hb, hown, hts, hK, hEX, hA⟩ := X
  have hs : (if b = 0 then some (pc + 2, lo, Value.int (Int32.ofNat a) :: st, h, u, w) else some (pc + 2, lo, .retAddr a :: st, h, u, w)) = some (pc2, lo2, st2, h2, u2, w2) := hs
  rcases hE with ⟨h1, h2⟩ | ⟨h1, h2⟩
  · rw [if_pos h1] at hs
    cases hs
    exact lv_ldc hexec hb hown (hts _ h2) hdg (kk ad H locs (fun _ _ => rfl) hw hl)
  · rw [if_neg (by omega)] at hs
    cases hs
    obtain ⟨⟨tx, h3⟩, -⟩ := hEX.2.2.2.2.1 a own idx h2
    exact va_ldcS hexec hb hown h3 hdg (kk ad H locs (fun _ _ => rfl) hw hl)
set_option maxHeartbeats 1000000 in
theorem i_h_ldc_w (X : i_CX p c cc s m args own A D cT ox L xs) (hw : i_Wd D ad ox cT A s H locs h) (hs : i_cst (.ldc_w idx) a b pc lo st h u w = some (pc2, lo2, st2, h2, u2, w2)) (hE : Jvm.Cond.constant own idx (Int32.ofNat a) ∈ i_GT) (hdg : decode cc pc = .ok (.ldc_w idx, 3)) (hl : i_LR ad ox lo ls nL) (kk : ∀ (ad2 : Nat → Nat) (H2 : Heap) (locs2 : List Loc), (∀ k, ¬ (h.length ≤ k ∧ k < h2.length) → ad2 k = ad k) → i_Wd D ad2 ox cT A s H2 locs2 h2 → i_LR ad2 ox lo2 ls nL → W p l e R s m args below meth c H2 locs2 u2 w2 Q (F0 m pc2 ls (st2.map (i_tr ad2 ox)))) : W p l e R s m args below meth c H locs u w Q (F0 m pc ls (st.map (i_tr ad ox))) := by
  obtain ⟨hexec, hb, hown, hts, hK, hEX, hA⟩ := X
  cases hs
  exact lv_ldcw hexec hb hown (hts _ hE) hdg (kk ad H locs (fun _ _ => rfl) hw hl)
set_option maxHeartbeats 1000000 in
theorem i_h_ldc2_w (X : i_CX p c cc s m args own A D cT ox L xs) (hw : i_Wd D ad ox cT A s H locs h) (hs : i_cst (.ldc2_w idx) a b pc lo st h u w = some (pc2, lo2, st2, h2, u2, w2)) (hE : Jvm.Cond.constantLong own idx (Int64.ofNat a) ∈ i_GT) (hdg : decode cc pc = .ok (.ldc2_w idx, 3)) (hl : i_LR ad ox lo ls nL) (kk : ∀ (ad2 : Nat → Nat) (H2 : Heap) (locs2 : List Loc), (∀ k, ¬ (h.length ≤ k ∧ k < h2.length) → ad2 k = ad k) → i_Wd D ad2 ox cT A s H2 locs2 h2 → i_LR ad2 ox lo2 ls nL → W p l e R s m args below meth c H2 locs2 u2 w2 Q (F0 m pc2 ls (st2.map (i_tr ad2 ox)))) : W p l e R s m args below meth c H locs u w Q (F0 m pc ls (st.map (i_tr ad ox))) := by
  obtain ⟨hexec, hb, hown, hts, hK, hEX, hA⟩ := X
  cases hs
  exact lv_ldc2 hexec hb hown (hts _ hE) hdg (kk ad H locs (fun _ _ => rfl) hw hl)
set_option maxHeartbeats 1000000 in
theorem i_h_copy (X : i_CX p c cc s m args own A D cT ox L xs) (hw : i_Wd D ad ox cT A s H locs h) (hs : i_copy L xs R.frames R.locals pc lo st h u w = some (pc2, lo2, st2, h2, u2, w2)) (hml : c.maxLocals = nL) (hE : Jvm.Cond.methodLink own idx arraycopyName ∈ i_GT ∧ Jvm.Cond.native arraycopyName ∈ i_GT ∧ Jvm.Cond.static arraycopyName ∈ i_GT ∧ Jvm.Cond.initialized "java/lang/System" ∈ i_GT) (hdg : decode cc pc = .ok (.invokestatic idx, 3)) (hl : i_LR ad ox lo ls nL) (kk : ∀ (ad2 : Nat → Nat) (H2 : Heap) (locs2 : List Loc), (∀ k, ¬ (h.length ≤ k ∧ k < h2.length) → ad2 k = ad k) → i_Wd D ad2 ox cT A s H2 locs2 h2 → i_LR ad2 ox lo2 ls nL → W p l e R s m args below meth c H2 locs2 u2 w2 Q (F0 m pc2 ls (st2.map (i_tr ad2 ox)))) : W p l e R s m args below meth c H locs u w Q (F0 m pc ls (st.map (i_tr ad ox))) := by
  obtain ⟨hexec, hb, hown, hts, hK, hEX, hA⟩ := X
  unfold i_copy at hs
  split at hs
  · rename_i n dp q1 sp q0 r
    split at hs
    · rename_i t0 n0 f t1 n1 g he0 he1
      obtain ⟨⟨a1, a2, a3, a4, a5, a6, a7, a8, a9⟩, hs2⟩ := i_if_s hs
      subst a1
      subst a2
      cases hs2
      exact va_copyi (a := ad q1) (a0 := ad q0) (ty := .int) hexec hb (by rw [hml]; exact hl.2.1.symm) hown (hts _ hE.1) (hts _ hE.2.1) (hts _ hE.2.2.1) (hts _ hE.2.2.2) hK hw.1 hw.2.1 hw.2.2 q0 q1 0 0 (i_ws_get he0) (i_ws_get he1) rfl rfl rfl a3 a4 a5 a6 a7 (fun _ _ => rfl) a8 (by rw [i_sum, i_native]; omega) hdg (fun H1 locs1 q1' q2' q3' => kk ad H1 locs1 (fun _ _ => rfl) (hw.set (e := .inl (0, n1, .inl (va_cpy f g sp.toNatClampNeg dp.toNatClampNeg n.toNatClampNeg))) q1' q2' q3') hl)
    · rename_i t0 n0 f t1 n1 g he0 he1
      obtain ⟨⟨a1, a2, a3, a4, a5, a6, a7, a8, a9⟩, hs2⟩ := i_if_s hs
      subst a1
      subst a2
      cases hs2
      exact va_copyl (a := ad q1) (a0 := ad q0) hexec hb (by rw [hml]; exact hl.2.1.symm) hown (hts _ hE.1) (hts _ hE.2.1) (hts _ hE.2.2.1) (hts _ hE.2.2.2) hK hw.1 hw.2.1 hw.2.2 q0 q1 1 1 (i_ws_get he0) (i_ws_get he1) rfl rfl rfl a3 a4 a5 a6 a7 (fun _ _ => rfl) a8 (by rw [i_sum, i_native]; omega) hdg (fun H1 locs1 q1' q2' q3' => kk ad H1 locs1 (fun _ _ => rfl) (hw.set (e := .inl (1, n1, .inr (.inl (va_cpy f g sp.toNatClampNeg dp.toNatClampNeg n.toNatClampNeg)))) q1' q2' q3') hl)
    · cases hs
  · rename_i n dp q1 sp j r
    split at hs
    · rename_i n0 f t1 n1 g he0 he1
      obtain ⟨⟨a1, a3, a4, a5, a6, a7, a8, a9⟩, hs2⟩ := i_if_s hs
      subst a1
      cases hs2
      obtain ⟨z1, z2, z3⟩ := hEX.1 j n0 f he0
      exact va_copyx (a := ad q1) hexec hb (by rw [hml]; exact hl.2.1.symm) hown (hts _ hE.1) (hts _ hE.2.1) (hts _ hE.2.2.1) (hts _ hE.2.2.2) hK hw.1 hw.2.1 hw.2.2 z1 z2 z3 q1 0 (i_ws_get he1) rfl a3 a4 a5 a6 a7 a8 (by rw [i_sum, i_native]; omega) hdg (fun H1 locs1 q1' q2' q3' => kk ad H1 locs1 (fun _ _ => rfl) (hw.set (e := .inl (0, n1, .inl (va_cpy f g sp.toNatClampNeg dp.toNatClampNeg n.toNatClampNeg))) q1' q2' q3') hl)
    · cases hs
  · cases hs
end IHC
