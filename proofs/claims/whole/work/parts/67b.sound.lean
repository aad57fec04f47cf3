/-! SOUNDNESS, the induction -/
theorem i_r_ex {MT : Nat → Option i_M} {AT : Nat → Nat → Option (Instr × Nat × Nat)} {L : Nat} {xs : Nat → Int32} (ad ox : Nat → Nat) : ∀ (n k pc : Nat) (lo : iL) (st : List Value) (h : iH) (u w : Nat) (r : Option Value) (h3 : iH), i_ex MT AT L xs n k pc lo st h u w = some (r, h3) → r.toList.map (i_tr ad ox) = r.toList
  | 0, _, _, _, _, _, _, _, _, _, hs => by rw [i_ex] at hs; cases hs
  | n + 1, k, pc, lo, st, h, u, w, r, h3, hs => by
    obtain ⟨M, ins, a, b, hM, hA, h1 | h1 | h1⟩ := i_ex_s hs
    · rcases (i_end_s h1.2).2.2.2 with ⟨v, -, -, rfl, -⟩ | ⟨v, -, -, rfl, -⟩ | ⟨-, -, rfl, -⟩ <;> rfl
    · obtain ⟨-, M2, As, rr, v, h2, -, -, -, -, -, q2⟩ := h1
      exact i_r_ex ad ox n _ _ _ _ _ _ _ _ _ q2
    · obtain ⟨-, -, pc2, lo2, st2, h2, u2, w2, -, q2⟩ := h1
      exact i_r_ex ad ox n _ _ _ _ _ _ _ _ _ q2
theorem i_pop_s {M2 : i_M} {st As r : List Value} (h : i_pop M2 st = some (As, r)) : (i_ki M2 = 0 ∧ As.length = i_na M2 ∧ st = As.reverse ++ r) ∨ (i_ki M2 ≠ 0 ∧ ∃ v As2, As = v :: As2 ∧ As2.length = i_na M2 ∧ st = As2.reverse ++ v :: r) := by
  unfold i_pop at h
  obtain ⟨hn, h2⟩ := i_if_s h
  clear h
  have hl : ((st.take (i_na M2)).reverse).length = i_na M2 := by
    rw [List.length_reverse, List.length_take]
    omega
  split at h2
  · rename_i hk
    cases h2
    exact Or.inl ⟨hk, hl, by rw [List.reverse_reverse, List.take_append_drop]⟩
  · rename_i hk
    split at h2
    · rename_i v r2 hd
      cases h2
      exact Or.inr ⟨hk, v, _, rfl, hl, by rw [List.reverse_reverse, ← hd, List.take_append_drop]⟩
    · cases h2
theorem i_good_mw {M2 : i_M} (h : Jvm.Cond.code (i_y M2) (i_by M2) (i_ml M2) (i_re M2) ∈ i_GT) : GoodIn i_GT (i_mw M2) := by
  intro w hw
  rcases List.mem_cons.mp hw with rfl | hw
  · exact ⟨h, good_of_word (i_GT_good _ h)⟩
  · exact ⟨hw, good_of_word (i_GT_good _ hw)⟩
theorem i_isR_len {ins : Instr} (h : i_isR ins = true) : i_isSw ins = false ∧ i_len ins = 1 := by
  cases ins <;> first | (simp [i_isR] at h; done) | exact ⟨rfl, rfl⟩
theorem i_isC_s {ins : Instr} {b : Nat} (h : i_isC ins b = true) : i_isSw ins = false ∧ i_len ins = 3 ∧ ((∃ idx, ins = .invokevirtual idx) ∨ (∃ idx, ins = .invokespecial idx ∧ b ≠ 9) ∨ (∃ idx, ins = .invokestatic idx ∧ b ≠ 9)) := by
  cases ins <;> first | (simp [i_isC] at h; done) | skip
  · rename_i idx
    exact ⟨rfl, rfl, Or.inr (Or.inl ⟨idx, rfl, by simpa [i_isC] using h⟩)⟩
  · rename_i idx
    exact ⟨rfl, rfl, Or.inr (Or.inr ⟨idx, rfl, by simpa [i_isC] using h⟩)⟩
  · rename_i idx
    exact ⟨rfl, rfl, Or.inl ⟨idx, rfl⟩⟩
section ISD
variable {p : Program} {l : Launch} {e : Env} {s : State} {m : MethodId} {args : Array Value} {below : List Frame} {meth : Method} {c : Code} {H : Heap} {locs : List Loc} {Q : State → Prop}
variable {D : va_G} {ad ox cT : Nat → Nat} {A : Nat → Prop} {L : Nat} {xs : Nat → Int32} {h h2 : iH} {ls : Array Slot} {M M2 : i_M} {pc u w idx : Nat} {st As rr : List Value} {r : Option Value}
theorem i_hF (hA : ∀ q, s.heap.size ≤ q → A q) (hw : i_Wd D ad ox cT A s H locs h) : ∀ q, va_A (i_ws ad ox cT h) H.size q → A q := by
  intro q hq
  rcases hq with ⟨k, e1, hk⟩ | hq
  · exact hw.2.1.2 k (q, e1) hk
  · exact hA q (Nat.le_trans hw.2.2.1 hq)
theorem i_hPre (X : i_CX p c (i_by M) s m args (i_own M) A D cT ox L xs) (hw : i_Wd D ad ox cT A s H locs h) : ∀ U : State, U.heap = H → s.WarmedH U.vm → i_Pre D ad ox cT L xs h H.size U := by
  obtain ⟨hexec, hb, hown, hts, hK, hEX, hA⟩ := X
  intro U hU hW
  exact ⟨by rw [hU], by rw [hU]; exact hw.1, va_K.moved hW.alike hK, hw.2.1.weaken (fun _ _ _ _ => trivial), hEX.call hw.2.2 hW hU (i_hF hA hw)⟩
set_option maxHeartbeats 4000000 in
/-- a call of a method: it runs -/
theorem i_runs (X : i_CX p c (i_by M) s m args (i_own M) A D cT ox L xs) (hml : c.maxLocals = i_ml M) (hw : i_Wd D ad ox cT A s H locs h) (hl : ls.size = i_ml M) (hok : i_MOK M2) (hM : Met l (i_y M2) (i_mw M2) (i_rm M2) (va_Pc (As.map (i_tr ad ox)) (i_Pre D ad ox cT L xs h H.size)) (i_Qc D ad ox cT h H.size r h2) (i_mc M2) (i_ms M2) (va_A (i_ws ad ox cT h) H.size))
    (hpop : i_pop M2 st = some (As, rr)) (hcc : i_cc M M2 As rr h u w = true) (hlk : i_link (i_own M) idx (i_y M2)) {ins : Instr} (hins : (i_ki M2 = 1 ∧ ins = .invokevirtual idx) ∨ (i_ki M2 = 2 ∧ ins = .invokespecial idx) ∨ (i_ki M2 = 0 ∧ ins = .invokestatic idx)) (hdg : decode (i_by M) pc = .ok (ins, 3)) :
    ∃ a, va_Run p l e (i_rm M) s m args below meth c H locs u w (i_mc M2) (i_ms M2) (F0 m pc ls (st.map (i_tr ad ox))) (rr.map (i_tr ad ox)) (i_Qc D ad ox cT h H.size r h2 a) (va_A (i_ws ad ox cT h) H.size) := by
  have hPre := i_hPre X hw
  obtain ⟨hexec, hb, hown, hts, hK, hEX, hA⟩ := X
  obtain ⟨o1, o2, o3, o4, o5⟩ := hok
  unfold i_cc at hcc
  simp only [Bool.and_eq_true, decide_eq_true_eq] at hcc
  obtain ⟨⟨⟨⟨⟨⟨c1, c2⟩, c3⟩, c4⟩, c5⟩, c6⟩, c7⟩ := hcc
  have S : CallFix p m c (i_by M) (i_ml M) s args i_GT (i_own M) := ⟨hexec, hb, hml, hown, hts⟩
  have hG := i_good_mw o1
  have hW : 2 * (F0 m pc ls (st.map (i_tr ad ox))).monitorRoom + ((rr.map (i_tr ad ox)).map fun v => v.category).sum ≤ 8 := by
    rw [i_sum]
    show 2 * 0 + _ ≤ 8
    omega
  have hR : (i_rm M2).frames + 1 ≤ (i_rm M).frames ∧ 8 + (i_ml M2 + 11) + (i_rm M2).locals ≤ (i_rm M).locals := ⟨c6, c7⟩
  have hf : u + i_mc M2 ≤ (i_rm M).cells ∧ w + i_ms M2 ≤ (i_rm M).slots := ⟨c4, c5⟩
  have hini := hts _ o3
  rcases i_pop_s hpop with ⟨k0, pn, pst⟩ | ⟨k0, v, As2, pA, pn, pst⟩
  · -- static
    have hstack : (F0 m pc ls (st.map (i_tr ad ox))).stack = (As.map (i_tr ad ox)).reverse ++ rr.map (i_tr ad ox) := by
      show st.map (i_tr ad ox) = _
      rw [pst, List.map_append, List.map_reverse]
    have hst : (Jvm.Cond.static (i_y M2)).before args s = true := by
      rcases o5 with q | q | q
      · exact hts _ q.2
      · omega
      · omega
    have hp : PreS s H (va_Pc (As.map (i_tr ad ox)) (i_Pre D ad ox cT L xs h H.size)) (As.map (i_tr ad ox)) := ⟨i_Pre_blind _, fun U hU hW => ⟨rfl, hPre U hU hW⟩⟩
    have hdg2 : decode (i_by M) (F0 m pc ls (st.map (i_tr ad ox))).pc = .ok (.invokestatic idx, 3) := by
      rcases hins with q | q | q
      · omega
      · omega
      · rw [q.2] at hdg
        exact hdg
    rcases hlk with hlk | hlk
    · exact ⟨_, va_runS S hM ⟨callB_of (i_na M2) hts hG rfl rfl rfl hini (hts _ hlk) o4 hR, hst⟩ hp rfl (by rw [List.length_map]; exact pn) hl hstack hW hdg2 hf⟩
    · exact ⟨_, va_runSN S hM ⟨va_cnB (i_na M2) hts hG rfl rfl rfl (hEX.2.2.2.2.2.1 _ hlk) hini o4 hR, hst, trivial⟩ hp rfl (by rw [List.length_map]; exact pn) hl hstack hW hdg2 hf⟩
  · -- with a receiver
    subst pA
    have hins1 : (Jvm.Cond.instanceMethod (i_y M2)).before args s = true := by
      rcases o5 with q | q | q
      · exact absurd q.1 k0
      · exact hts _ q.2.1
      · exact hts _ q.2.2.1
    have hv : ∃ b, i_tr ad ox v = .ref b ∧ (i_ki M2 = 1 → ∃ cellB : Cell, H[b]? = some cellB ∧ cellB.vm.isStatics = false ∧ s.vm.findClass (i_own M2) = some cellB.cls) := by
      unfold i_rcv at c1
      rw [if_neg k0] at c1
      split at c1
      · rename_i q As3 hq
        cases hq
        refine ⟨ad q, rfl, fun k1 => ?_⟩
        split at c1
        · rename_i ci fs he
          have hci : ci = i_cl M2 := by
            rw [k1] at c1
            simpa using c1
          have h13 := hw.cls he
          obtain ⟨C, T, N, q1, -⟩ := i_cf ci h13
          have hC : C = i_own M2 := by
            rcases o5 with z | z | z
            · omega
            · rcases z.2.2.2 with ⟨z1, z2⟩ | ⟨z1, z2⟩
              · rw [← hci, i_cn_eq q1] at z2
                exact z2
              · omega
            · omega
          subst hC
          exact va_recv hK hw.1 q1 (i_ws_get he)
        · cases c1
      · rename_i j As3 hq
        cases hq
        refine ⟨ox j, rfl, fun k1 => ?_⟩
        simp only [Bool.and_eq_true, beq_iff_eq] at c1
        obtain ⟨⟨d1, d2⟩, d3⟩ := c1
        have hC : i_own M2 = "java/lang/String" := by
          rcases o5 with z | z | z
          · omega
          · rcases z.2.2.2 with ⟨z1, z2⟩ | ⟨z1, z2⟩
            · omega
            · exact z2
          · omega
        rw [hC]
        cases hR2 : i_oR j with
        | none => rw [hR2] at d3; cases d3
        | some q2 =>
          obtain ⟨-, cell, g1, g2, g3, g4⟩ := hEX.2.2.2.2.1 j q2.1 q2.2 hR2
          exact ⟨cell, by rw [hw.2.2.2.1 _ (Array.getElem?_eq_some_iff.mp g1).1 g4]; exact g1, g2, g3⟩
      · cases c1
    obtain ⟨b, hb2, hrec⟩ := hv
    rw [List.map_cons, hb2] at hM
    have hstack : (F0 m pc ls (st.map (i_tr ad ox))).stack = (As2.map (i_tr ad ox)).reverse ++ .ref b :: rr.map (i_tr ad ox) := by
      show st.map (i_tr ad ox) = _
      rw [pst, List.map_append, List.map_reverse, List.map_cons, hb2]
    have hpc : ∀ U : State, U.heap = H → s.WarmedH U.vm → va_Pc (Value.ref b :: As2.map (i_tr ad ox)) (i_Pre D ad ox cT L xs h H.size) (Value.ref b :: As2.map (i_tr ad ox)).toArray U := fun U hU hW => ⟨rfl, hPre U hU hW⟩
    rcases hins with q | q | q
    · have hdg2 : decode (i_by M) (F0 m pc ls (st.map (i_tr ad ox))).pc = .ok (.invokevirtual idx, 3) := by
        rw [q.2] at hdg
        exact hdg
      have hsel : (Jvm.Cond.selects (i_own M2) (i_y M2) (i_y M2)).before args s = true := by
        rcases o5 with z | z | z
        · omega
        · exact hts _ z.2.2.1
        · omega
      have hp : PreV s H (i_own M2) b (va_Pc (Value.ref b :: As2.map (i_tr ad ox)) (i_Pre D ad ox cT L xs h H.size)) (As2.map (i_tr ad ox)) := ⟨i_Pre_blind _, hrec q.1, hpc⟩
      rcases hlk with hlk | hlk
      · exact ⟨_, va_runV S hM ⟨callB_of (i_na M2) hts hG rfl rfl rfl hini (hts _ hlk) o4 hR, hins1, hsel⟩ hp rfl (by rw [List.length_map]; exact pn) hl hstack hW hdg2 hf⟩
      · exact ⟨_, va_runVN S hM ⟨va_cnB (i_na M2) hts hG rfl rfl rfl (hEX.2.2.2.2.2.1 _ hlk) hini o4 hR, hins1, hsel⟩ hp rfl (by rw [List.length_map]; exact pn) hl hstack hW hdg2 hf⟩
    · have hdg2 : decode (i_by M) (F0 m pc ls (st.map (i_tr ad ox))).pc = .ok (.invokespecial idx, 3) := by
        rw [q.2] at hdg
        exact hdg
      have hnm : (i_y M2).name = "<init>" ∧ i_re M2 = none := by
        rcases o5 with z | z | z
        · omega
        · omega
        · exact ⟨z.2.1, z.2.2.2⟩
      have hp : PreS s H (va_Pc (Value.ref b :: As2.map (i_tr ad ox)) (i_Pre D ad ox cT L xs h H.size)) (Value.ref b :: As2.map (i_tr ad ox)) := ⟨i_Pre_blind _, hpc⟩
      have hmw : i_mw M2 = Jvm.Cond.code (i_y M2) (i_by M2) (i_ml M2) none :: i_GT := by
        unfold i_mw
        rw [hnm.2]
      rcases hlk with hlk | hlk
      · exact ⟨_, va_runI S hM ⟨callB_of (i_na M2) hts hG hmw rfl rfl hini (hts _ hlk) o4 hR, hnm.1, hins1⟩ hp rfl (by rw [List.length_map]; exact pn) hl hstack hW hdg2 hf⟩
      · exact ⟨_, va_runIN S hM ⟨va_cnB (i_na M2) hts hG hmw rfl rfl (hEX.2.2.2.2.2.1 _ hlk) hini o4 hR, hnm.1, hins1⟩ hp rfl (by rw [List.length_map]; exact pn) hl hstack hW hdg2 hf⟩
    · exact absurd q.1 k0
end ISD
