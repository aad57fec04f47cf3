/-! MULTIANEWARRAY: the machine does what the interpreter says -/
section
theorem i_rep_get {N n : Nat} {h : iH} {x y : va_E} (hn : h.length = n) : ∀ (i : Nat) (e : va_E), (h ++ (x :: List.replicate N y))[i]? = some e → (i < n ∧ h[i]? = some e) ∨ (i = n ∧ e = x) ∨ (∃ j, j < N ∧ i = n + (1 + j) ∧ e = y) := by
  intro i e he
  subst hn
  by_cases hi : i < h.length
  · rw [List.getElem?_append_left hi] at he
    exact Or.inl ⟨hi, he⟩
  · rw [List.getElem?_append_right (by omega)] at he
    obtain ⟨k, hk⟩ : ∃ k, i = h.length + k := ⟨i - h.length, by omega⟩
    subst hk
    rw [Nat.add_sub_cancel_left] at he
    cases k with
    | zero =>
      rw [List.getElem?_cons_zero] at he
      exact Or.inr (Or.inl ⟨rfl, (Option.some.inj he).symm⟩)
    | succ j =>
      rw [List.getElem?_cons_succ, List.getElem?_replicate] at he
      split at he
      · rename_i hj
        exact Or.inr (Or.inr ⟨j, hj, by omega, (Option.some.inj he).symm⟩)
      · cases he
set_option maxHeartbeats 4000000 in
theorem i_mna_ok (l : Launch) : i_MNA l := by
  intro p e R s m args below meth c H locs Q cc D ad ox cT A L xs own nL pc pc2 u u2 w w2 idx lo lo2 st st2 h h2 ls X hw hs hcl har hdg hl kk
  obtain ⟨hexec, hb, hown, hts, hK, hEX, hA⟩ := X
  unfold i_mna at hs
  split at hs
  · rename_i k n r
    obtain ⟨⟨hn, hk, hb1, hb2, hc1, hc2, hf1, hf2⟩, hs⟩ := i_if_s hs
    cases hs
    intro T hT X
    have hov : (Jvm.Cond.arrayOver (.array .long)).before args s = true := hEX.2.2.2.2.2.2.2
    obtain ⟨vm₁, cA, comp, hW1, hfA, hfC, hO, hI, X1, step⟩ := X.multianewarray2F hexec (own := own) (index := idx) (ty := .long) hown (hts _ hcl) hov (hts _ har) (g := F0 m pc ls (.int k :: .int n :: r.map (i_tr ad ox))) rfl (by rw [hb]; exact hdg) (n := n) (k := k) (rest := r.map (i_tr ad ox)) rfl hn hk (by omega) (by show k.toNatClampNeg * 8 ≤ _; exact hb2) (by omega) rfl rfl (by omega) (by omega)
    have hcA : cA = cT 4 := Option.some.inj (hfA.symm.trans (hK.2 4 (cT 4, i_ty 4) rfl).2)
    have hcC : comp = cT 1 := Option.some.inj (hfC.symm.trans (hK.2 1 (cT 1, i_ty 1) rfl).2)
    subst hcA hcC
    obtain ⟨f1, f2, -, -⟩ := Jvm.Free.Multi.fill_facts (T.setVm vm₁) (cT 4) (cT 1) n.toNatClampNeg k.toNatClampNeg (defaultValue .long) n.toNatClampNeg
    have hTs : (T.setVm vm₁).heap = H := hT
    have f5 := fun (a : Nat) (ha : a < (T.setVm vm₁).heap.size) => Jvm.Free.Multi.fill_old (T.setVm vm₁) (cT 4) (cT 1) n.toNatClampNeg k.toNatClampNeg (defaultValue .long) ha n.toNatClampNeg
    have f6 := fun (j : Nat) (hj : j < n.toNatClampNeg) => Jvm.Free.Multi.fill_inner (T.setVm vm₁) (cT 4) (cT 1) n.toNatClampNeg k.toNatClampNeg (defaultValue .long) n.toNatClampNeg j hj
    rw [hTs] at f1 f2 f5 f6
    rw [hT] at step
    generalize hF : Jvm.Free.Multi.fill (T.setVm vm₁) (cT 4) (cT 1) n.toNatClampNeg k.toNatClampNeg (defaultValue .long) n.toNatClampNeg = F at f1 f2 f5 f6 X1 step
    generalize hN : n.toNatClampNeg = N at *
    generalize hM : k.toNatClampNeg = M at *
    have hex : ∃ ad2 : Nat → Nat, (∀ i, i < h.length → ad2 i = ad i) ∧ (∀ i, h.length + 1 + N ≤ i → ad2 i = ad i) ∧ (∀ j, j ≤ N → ad2 (h.length + j) = H.size + j) := ⟨fun i => if h.length ≤ i ∧ i < h.length + 1 + N then H.size + (i - h.length) else ad i, fun i hi => if_neg (by omega), fun i hi => if_neg (by omega), fun j hj => by
      dsimp only
      rw [if_pos (by omega)]
      omega⟩
    obtain ⟨ad2, g1, g2, g3⟩ := hex
    have g30 : ad2 h.length = H.size := g3 0 (Nat.zero_le _)
    have hl1 : ∀ (i : Nat) (q : Nat × va_E), (i_ws ad ox cT h)[i]? = some q → q.1 < H.size := fun i q hq => (hw.1 i q hq).lt
    have hget := @i_rep_get N h.length h (.inl (4, N, .inr (.inr (.inr (.inr (fun i => if i < N then some (h.length + 1 + i) else none)))))) (.inl (1, M, .inr (.inl (fun _ => 0)))) rfl
    have hfe := List.all_eq_true.mp hf2
    have hadr : ∀ (i : Nat) (q : Nat × va_E), (i_ws ad2 ox cT (h ++ (.inl (4, N, .inr (.inr (.inr (.inr (fun i => if i < N then some (h.length + 1 + i) else none))))) :: List.replicate N (.inl (1, M, .inr (.inl (fun _ => 0)))))))[i]? = some q → (i_ws ad ox cT h)[i]? = some q ∨ (h.length ≤ i ∧ q.1 = H.size + (i - h.length)) := by
      intro i q hq
      obtain ⟨e1, he, rfl⟩ := i_ws_of hq
      rcases hget i e1 he with ⟨h1, h2⟩ | ⟨rfl, -⟩ | ⟨j, hj, rfl, -⟩
      · left
        rw [g1 i h1, i_te_fr g1 (hfe _ (List.mem_of_getElem? h2))]
        exact i_ws_get h2
      · right
        refine ⟨Nat.le_refl _, ?_⟩
        show ad2 h.length = _
        rw [g30]
        omega
      · right
        refine ⟨by omega, ?_⟩
        show ad2 (h.length + (1 + j)) = _
        rw [g3 (1 + j) (by omega)]
        omega
    have hwd : i_Wd D ad2 ox cT A s F.heap locs (h ++ (.inl (4, N, .inr (.inr (.inr (.inr (fun i => if i < N then some (h.length + 1 + i) else none))))) :: List.replicate N (.inl (1, M, .inr (.inl (fun _ => 0)))))) := by
      refine ⟨fun i q hq => ?_, ⟨fun i j x y hi hj hxy => ?_, fun i q hq => ?_⟩, ⟨?_, fun x h1 h2 => ?_, hw.2.2.2.2⟩⟩
      · obtain ⟨e1, he, rfl⟩ := i_ws_of hq
        rcases hget i e1 he with ⟨h1, h2⟩ | ⟨rfl, rfl⟩ | ⟨j, hj, rfl, rfl⟩
        · rw [g1 i h1, i_te_fr g1 (hfe _ (List.mem_of_getElem? h2))]
          exact (hw.1 i _ (i_ws_get h2)).kept (f5 _ (hl1 i _ (i_ws_get h2)))
        · show F.heap[ad2 h.length]? = some (vp_cell (cT 4) (i_ta ad2 (N, .inr (.inr (.inr (.inr (fun i => if i < N then some (h.length + 1 + i) else none)))))))
          rw [g30, f2, i_outer]
          show _ = some (arrV (cT 4) N (fun j => va_rf (if j < N then Option.map ad2 (if j < N then some (h.length + 1 + j) else none) else none)))
          refine congrArg (fun f => some (arrV (cT 4) N f)) (funext fun j => ?_)
          by_cases hj : j < N
          · rw [if_pos hj, if_pos hj, if_pos hj, Option.map_some, Nat.add_assoc h.length 1 j, g3 (1 + j) (by omega), ← Nat.add_assoc]
            rfl
          · rw [if_neg hj, if_neg hj]
            rfl
        · show F.heap[ad2 (h.length + (1 + j))]? = some (vp_cell (cT 1) (M, .inr (.inl (fun _ => 0))))
          rw [g3 (1 + j) (by omega), ← Nat.add_assoc, f6 j hj]
          exact congrArg some (arrV_new (cT 1) M (.long 0))
      · rcases hadr i x hi with a1 | ⟨a1, a2⟩ <;> rcases hadr j y hj with b1 | ⟨b1, b2⟩
        · exact hw.2.1.1 i j x y a1 b1 hxy
        · have := hl1 i x a1
          omega
        · have := hl1 j y b1
          omega
        · omega
      · rcases hadr i q hq with a1 | ⟨a1, a2⟩
        · exact hw.2.1.2 i q a1
        · refine hA _ ?_
          have := hw.2.2.1
          omega
      · have := hw.2.2.1
        omega
      · have := hw.2.2.1
        exact (f5 x (by omega)).trans (hw.2.2.2.1 x h1 h2)
    have hfr := hf1
    simp only [i_fr, Bool.and_eq_true] at hfr
    have k2 := kk ad2 F.heap locs (fun i hi => ?_) hwd (i_LR_fr g1 hfr.1 hl)
    · rw [List.map_cons, i_map_fr g1 hfr.2] at k2
      simp only [i_tr, g30] at k2
      obtain ⟨t, a1, b1⟩ := k2 F rfl X1
      exact ⟨t, step t a1, b1⟩
    · rcases Nat.lt_or_ge i h.length with h1 | h1
      · exact g1 i h1
      · refine g2 i ?_
        rw [List.length_append, List.length_cons, List.length_replicate] at hi
        omega
  · cases hs
end
