/-! SOUNDNESS over these tables; the law's walk out of a run -/
set_option maxHeartbeats 4000000 in
/-- whatever a run answers, the machine does -/
theorem i_sound2 {L : Nat} {xs : Nat → Int32} {l : Launch} (hmna : i_MNA l) : ∀ n, i_EXn i_MT i_AT L xs l n
  | 0 => by
    intro k M pc lo st h u w r h3 hM hs
    rw [i_ex] at hs
    cases hs
  | n + 1 => by
    have ih := i_sound2 (L := L) (xs := xs) hmna n
    intro k M pc lo st h u w r h3 hM hs p e s m args below meth c H locs Q D ad ox cT A ls X hml hini hw hl fin
    obtain ⟨M', ins, a, b, hM', hA', h1⟩ := i_ex_s hs
    have hMM : M' = M := Option.some.inj (hM'.symm.trans hM)
    subst hMM
    obtain ⟨len, hdec, hlen, htg, hE⟩ := i_tok2.2 k M' pc ins a b hM hA'
    rcases h1 with ⟨hR, hend⟩ | ⟨hC, M2, As, rr, v, h2, hM2, hpop, hcc, hrun, hfr, hrest⟩ | ⟨hR, hC, pc2, lo2, st2, h2, u2, w2, hstep, hrest⟩
    · -- a return
      obtain ⟨g1, g2⟩ := i_isR_len hR
      have hdg : decode (i_by M') pc = .ok (ins, 1) := by
        rcases hlen with q | q
        · rw [g1] at q; cases q
        · rw [q, g2] at hdec; exact hdec
      obtain ⟨e1, e2, e3, e4⟩ := i_end_s hend
      subst e3
      have hst : st.map (i_tr ad ox) = r.toList := by
        rcases e4 with ⟨v, -, rfl, rfl, -⟩ | ⟨v, -, rfl, rfl, -⟩ | ⟨-, rfl, rfl, -⟩ <;> rfl
      rw [hst]
      refine fin ad H locs pc ls u w ins (fun _ _ => rfl) hw e1 e2 hdg ?_
      rcases e4 with ⟨v, q1, -, q2, q3⟩ | ⟨v, q1, -, q2, q3⟩ | ⟨q1, -, q2, q3⟩
      · exact Or.inl ⟨v, q1, q2, q3⟩
      · exact Or.inr (Or.inl ⟨v, q1, q2, q3⟩)
      · exact Or.inr (Or.inr ⟨q1, q2, q3⟩)
    · -- a call
      obtain ⟨g1, g2, g3⟩ := i_isC_s hC
      have hdg : decode (i_by M') pc = .ok (ins, 3) := by
        rcases hlen with q | q
        · rw [g1] at q; cases q
        · rw [q, g2] at hdec; exact hdec
      have hcall : ∃ idx, i_link (i_own M') idx (i_y M2) ∧ ((i_ki M2 = 1 ∧ ins = .invokevirtual idx) ∨ (i_ki M2 = 2 ∧ ins = .invokespecial idx) ∨ (i_ki M2 = 0 ∧ ins = .invokestatic idx)) := by
        rcases g3 with ⟨idx, rfl⟩ | ⟨idx, rfl, hb9⟩ | ⟨idx, rfl, hb9⟩
        · obtain ⟨M3, q1, q2, q3⟩ := hE
          have hM3 : M3 = M2 := Option.some.inj (q1.symm.trans hM2)
          subst hM3
          exact ⟨idx, q3, Or.inl ⟨q2, rfl⟩⟩
        · rcases hE with ⟨q0, -⟩ | ⟨-, M3, q1, q2, q3⟩
          · exact absurd q0 hb9
          · have hM3 : M3 = M2 := Option.some.inj (q1.symm.trans hM2)
            subst hM3
            exact ⟨idx, q3, Or.inr (Or.inl ⟨q2, rfl⟩)⟩
        · rcases hE with ⟨q0, -⟩ | ⟨-, M3, q1, q2, q3⟩
          · exact absurd q0 hb9
          · have hM3 : M3 = M2 := Option.some.inj (q1.symm.trans hM2)
            subst hM3
            exact ⟨idx, q3, Or.inr (Or.inr ⟨q2, rfl⟩)⟩
      obtain ⟨idx, hlk, hins⟩ := hcall
      have hki : i_ki M2 ≤ 2 := by
        rcases hins with q | q | q <;> omega
      rcases i_tok2.1 a M2 hM2 hki with hok | ha
      · skip
        have hcl : (i_sl As).length ≤ i_ml M2 := by
          unfold i_cc at hcc
          simp only [Bool.and_eq_true, decide_eq_true_eq] at hcc
          exact hcc.1.1.1.1.2
        have hmet := i_met ih hM2 hok hrun hcl D ad ox cT H.size
        obtain ⟨aa, hrun2⟩ := i_runs (p := p) (e := e) (below := below) (meth := meth) X hml hw hl.2.1 hok hmet hpop hcc hlk hins hdg
        refine i_call hrun2 hw.2.2 (i_hF X.2.2.2.2.2.2 hw) (fun ad2 H1 locs1 hag hw2 => ?_)
        have hn12 := i_n_ex n _ _ _ _ _ _ _ _ _ hrun
        have hn23 := i_n_ex n _ _ _ _ _ _ _ _ _ hrest
        have hboth : i_LR ad2 ox lo ls (i_ml M') ∧ rr.map (i_tr ad2 ox) = rr.map (i_tr ad ox) := by
          rcases hfr with hz | hz
          · have hae : ad2 = ad := funext (fun k => hag k (by rw [hz]; omega))
            rw [hae]
            exact ⟨hl, rfl⟩
          · simp only [i_fr, Bool.and_eq_true] at hz
            have hk : ∀ k, k < h.length → ad2 k = ad k := fun k hk => hag k (by omega)
            exact ⟨i_LR_fr hk hz.1 hl, i_map_fr hk hz.2⟩
        have hst : v.toList ++ rr.map (i_tr ad ox) = (v.toList ++ rr).map (i_tr ad2 ox) := by
          rw [List.map_append, i_r_ex ad2 ox n _ _ _ _ _ _ _ _ _ hrun, hboth.2]
        rw [hst]
        refine ih k M' (pc + 3) lo (v.toList ++ rr) h2 (u + i_mc M2) (w + i_ms M2) r h3 hM hrest p e s m args below meth c H1 locs1 Q D ad2 ox cT A ls X hml hini hw2 hboth.1 ?_
        intro ad3 H3 locs3 pcR ls3 u3 w3 ins3 hag3 hw3 hu3 hw33 hdg3 hrt3
        refine fin ad3 H3 locs3 pcR ls3 u3 w3 ins3 (fun k hk => ?_) hw3 hu3 hw33 hdg3 hrt3
        rw [hag3 k (by omega), hag k (by omega)]
      · obtain ⟨z1, z2, z3⟩ := i_mx_ki ha hM2
        have hdg2 : decode (i_by M') pc = .ok (.invokestatic idx, 3) := by
          rcases hins with q | q | q
          · omega
          · omega
          · rw [q.2] at hdg
            exact hdg
        refine i_mx ha hM2 X hml hl.2.1 hpop hcc hlk (i_lc21 hM hA' hC ha) hdg2 hrun (fun z hv hh => ?_)
        subst hv hh
        rw [z2, z3, Nat.add_zero, Nat.add_zero] at hrest
        exact ih k M' (pc + 3) lo (.int z :: rr) _ u w r h3 hM hrest p e s m args below meth c H locs Q D ad ox cT A ls X hml hini hw hl fin
    · -- one instruction
      refine i_step_ok hmna X rfl hml hini hdec hlen htg hE hw hl hstep (fun ad2 H2 locs2 ls2 hag hw2 hl2 => ?_)
      have hn12 := i_n_step hstep
      have hn23 := i_n_ex n _ _ _ _ _ _ _ _ _ hrest
      refine ih k M' pc2 lo2 st2 h2 u2 w2 r h3 hM hrest p e s m args below meth c H2 locs2 Q D ad2 ox cT A ls2 X hml hini hw2 hl2 ?_
      intro ad3 H3 locs3 pcR ls3 u3 w3 ins3 hag3 hw3 hu3 hw33 hdg3 hrt3
      refine fin ad3 H3 locs3 pcR ls3 u3 w3 ins3 (fun k hk => ?_) hw3 hu3 hw33 hdg3 hrt3
      rw [hag3 k (by omega), hag k (by omega)]
set_option maxHeartbeats 4000000 in
/-- the law's walk out of a run -/
theorem i_law2 {k : Nat} {M : i_M} (hM : i_MT k = some M) (hM1 : i_by M = code) (hM2 : i_own M = R_law) (hM3 : i_rm M = room_1) (hM4 : i_ml M = 4) (hM5 : i_ki M = 3) {p : Program} {e : Env} {s : State} {m : MethodId} {below : List Frame} {meth : Method} {c : Code} (l : Launch) (hmna : i_MNA l) {b L : Nat} {xs : Nat → Int32} (hL : L ≤ 3072) (C0 : lw_At p s m meth c b L xs)
    (hrun : ∃ n h3, i_ex i_MT i_AT L xs n k 0 (i_lo0 [.retAddr 3] 4) [] [] 0 0 = some (some (.int 1), h3)) : W p l e room_1 s m #[Value.ref b] below meth c s.heap [] 0 0 (lw_Z below #[Value.ref b] s) (entryFrame m ([Value.ref b] : List Value).toArray 4) := by
  obtain ⟨hx, hb, hr, hml, hown, hts, hX, hbl, hlocks, hgv⟩ := id C0
  obtain ⟨n, h3, hrun⟩ := hrun
  obtain ⟨ox, ho, hEX⟩ := i_start hts hX hbl hL hgv
  have hgt : ∀ w ∈ i_GT, w.before #[Value.ref b] s = true := fun w hw => hts w (List.mem_filter.mp hw).1
  obtain ⟨cT, hcT⟩ := i_arrays hts
  obtain ⟨D, hD⟩ := i_classes hgt
  rw [lg_entry_eq]
  have hl := i_LR_entry (fun _ => 0) ox [.retAddr 3] 4 (by decide)
  have hmap : ([.retAddr 3] : List Value).map (i_tr (fun _ => 0) ox) = [Value.ref b] := by
    show [Value.ref (ox 3)] = _
    rw [ho]
  rw [hmap] at hl
  generalize (lg_sl ([Value.ref b]) ++ List.replicate (4 - (lg_sl ([Value.ref b])).length) Slot.unset).toArray = ls at hl ⊢
  have X : i_CX p c (i_by M) s m #[Value.ref b] (i_own M) (fun q => s.heap.size ≤ q) D cT ox L xs := ⟨hx, hb.trans hM1.symm, by rw [hM2]; exact hown, hgt, ⟨hD, hcT⟩, hEX, fun _ h => h⟩
  have hW0 : i_Wd D (fun _ => 0) ox cT (fun q => s.heap.size ≤ q) s s.heap [] [] := ⟨fun k q h => (by cases h), ⟨fun i j p q h => (by cases h), fun k q h => (by cases h)⟩, va_S.rf⟩
  rw [← hM3]
  refine i_sound2 hmna n k M 0 (i_lo0 [.retAddr 3] 4) [] [] 0 0 (some (.int 1)) h3 hM hrun p e s m #[Value.ref b] below meth c s.heap [] (lw_Z below #[Value.ref b] s) D (fun _ => 0) ox cT (fun q => s.heap.size ≤ q) ls X (hml.trans hM4.symm) (fun h => by omega) hW0 (by rw [hM4]; exact hl) ?_
  intro ad2 H2 locs2 pcR ls2 u2 w2 ins hag hw hu hw2 hdg hrt
  have hins : ins = .ireturn := by
    rcases hrt with ⟨v, h1, -, -⟩ | ⟨v, -, h1, -⟩ | ⟨-, h1, -⟩
    · exact h1
    · cases h1
    · cases h1
  subst hins
  rw [hM1] at hdg
  have hc : i_mc M = 600000 := congrArg Room.cells hM3
  have hs : i_ms M = 7302250 := congrArg Room.slots hM3
  refine va_forget hw.2.2.2.2 ?_
  rw [hc] at hu
  rw [hs] at hw2
  refine W.widen hu hw2 ?_
  rw [hM3]
  exact lw_ret hx hb hr hlocks hdg
