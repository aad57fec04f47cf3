/-! BLOCKS, 2: what it takes to go on from a label; by program -/
section
variable {L : Nat} {xs : Nat → Int32}
set_option maxRecDepth 20000
set_option maxHeartbeats 1000000
/-! StillTown$Town.takeScript([I)V -/
theorem e99 {x0 : Nat} {x1 : Nat} {h : iH} {Q : Option Value → iH → Prop} (H : i_P i_MT i_AT L xs 99 0 [some (.ref x0), some (.ref x1)] [] h 0 0 Q) : i_C i_MT i_AT L xs 99 [.ref x0, .ref x1] h Q := ⟨i_m99, i_k99.1, Nat.le_of_ble_eq_true rfl, H⟩
theorem b99_0 {x0 : Nat} {x1 : Nat} {h : iH} {Q : Option Value → iH → Prop} (H : (∃ v1 : Nat, i_fld h x0 8 13 = some (.ref v1) ∧ (∃ (n2 : Nat) (f3 : Nat → Int32) (n4 : Nat) (g5 : Nat → Int32), i_arI h 0 x1 = some (n2, f3) ∧ i_arI h 0 v1 = some (n4, g5) ∧ ¬ (0 : Int32) < 0 ∧ ¬ (0 : Int32) < 0 ∧ ¬ (480 : Int32) < 0 ∧ (0 : Int32).toNatClampNeg + (480 : Int32).toNatClampNeg ≤ n2 ∧ (0 : Int32).toNatClampNeg + (480 : Int32).toNatClampNeg ≤ n4 ∧ i_P i_MT i_AT L xs 99 13 [some (.ref x0), some (.ref x1)] [] (h.set v1 (.inl (0, n4, .inl (va_cpy f3 g5 (0 : Int32).toNatClampNeg (0 : Int32).toNatClampNeg (480 : Int32).toNatClampNeg)))) 0 0 Q))) : i_P i_MT i_AT L xs 99 0 [some (.ref x0), some (.ref x1)] [] h 0 0 Q := by
  have hk := i_k99
  refine g_s1 (pc2 := 1) hk rfl rfl rfl rfl rfl ?_
  refine g_s1 (pc2 := 2) (st2 := [.int (0 : Int32), .ref x1]) hk rfl rfl rfl rfl rfl ?_
  refine g_s1 (pc2 := 3) hk rfl rfl rfl rfl rfl ?_
  obtain ⟨v1, ev1, H⟩ := H
  refine g_step (pc2 := 6) hk rfl rfl rfl (s_get ev1) ?_
  refine g_s1 (pc2 := 7) (st2 := [.int (0 : Int32), .ref v1, .int (0 : Int32), .ref x1]) hk rfl rfl rfl rfl rfl ?_
  refine g_s1 (pc2 := 10) (st2 := [.int (480 : Int32), .int (0 : Int32), .ref v1, .int (0 : Int32), .ref x1]) hk rfl rfl rfl rfl rfl ?_
  obtain ⟨n2, f3, n4, g5, ef3, eg5, h1, h2, h3, h4, h5, H⟩ := H
  refine g_step (pc2 := 13) hk rfl rfl rfl (s_copyI (L := L) (xs := xs) ef3 eg5 h1 h2 h3 h4 h5 (by decide)) ?_
  exact H
theorem b99_13 {x0 : Nat} {x1 : Nat} {h : iH} {Q : Option Value → iH → Prop} (H : Q none h) : i_P i_MT i_AT L xs 99 13 [some (.ref x0), some (.ref x1)] [] h 0 0 Q := by
  have hk := i_k99
  exact g_return hk rfl (by decide) (by decide) rfl H
/-! StillTown$Town.anyLampAt(J)Z -/
theorem e100 {x0 : Nat} {x1 : Int64} {h : iH} {Q : Option Value → iH → Prop} (H : i_P i_MT i_AT L xs 100 0 [some (.ref x0), some (.long x1), none, none] [] h 0 0 Q) : i_C i_MT i_AT L xs 100 [.ref x0, .long x1] h Q := ⟨i_m100, i_k100.1, Nat.le_of_ble_eq_true rfl, H⟩
theorem b100_0 {x0 : Nat} {x1 : Int64} {x3 : Option Value} {h : iH} {Q : Option Value → iH → Prop} (H : i_P i_MT i_AT L xs 100 2 [some (.ref x0), some (.long x1), none, some (.int (0 : Int32))] [] h 0 0 Q) : i_P i_MT i_AT L xs 100 0 [some (.ref x0), some (.long x1), none, x3] [] h 0 0 Q := by
  have hk := i_k100
  refine g_s1 (pc2 := 1) (st2 := [.int (0 : Int32)]) hk rfl rfl rfl rfl rfl ?_
  refine g_s1 (pc2 := 2) (lo2 := [some (.ref x0), some (.long x1), none, some (.int (0 : Int32))]) hk rfl rfl rfl rfl rfl ?_
  exact H
theorem b100_2 {x0 : Nat} {x1 : Int64} {x3 : Int32} {h : iH} {Q : Option Value → iH → Prop} (H : (∃ v1 : Int32, i_fld h x0 8 9 = some (.int v1) ∧ ((v1 ≤ x3 → Q (some (.int 0)) h) ∧ (¬ (v1 ≤ x3) → (∃ v2 : Nat, i_fld h x0 8 10 = some (.ref v2) ∧ (∃ (n3 : Nat) (f4 : Nat → Int32), i_arI h 0 v2 = some (n3, f4) ∧ ¬ (x3 < 0 ∨ n3 ≤ x3.toNatClampNeg) ∧ (i_C i_MT i_AT L xs 193 [.long x1, .int (f4 x3.toNatClampNeg)] h (fun v h5 => ∃ r6 : Int32, v = some (.int r6) ∧ i_P i_MT i_AT L xs 100 20 [some (.ref x0), some (.long x1), none, some (.int x3)] [.int r6] h5 0 0 Q)))))))) : i_P i_MT i_AT L xs 100 2 [some (.ref x0), some (.long x1), none, some (.int x3)] [] h 0 0 Q := by
  have hk := i_k100
  refine g_s1 (pc2 := 3) hk rfl rfl rfl rfl rfl ?_
  refine g_s1 (pc2 := 4) hk rfl rfl rfl rfl rfl ?_
  obtain ⟨v1, ev1, H⟩ := H
  refine g_step (pc2 := 7) hk rfl rfl rfl (s_get ev1) ?_
  refine g_icmp_ge hk rfl (fun hc => ?_) (fun hc => ?_)
  · have H := H.1 hc
    refine g_s1 (pc2 := 32) (st2 := [.int (0 : Int32)]) hk rfl rfl rfl rfl rfl ?_
    exact g_ireturn hk rfl (by decide) (by decide) rfl H
  · have H := H.2 hc
    refine g_s1 (pc2 := 11) hk rfl rfl rfl rfl rfl ?_
    refine g_s1 (pc2 := 12) hk rfl rfl rfl rfl rfl ?_
    obtain ⟨v2, ev2, H⟩ := H
    refine g_step (pc2 := 15) hk rfl rfl rfl (s_get ev2) ?_
    refine g_s1 (pc2 := 16) hk rfl rfl rfl rfl rfl ?_
    obtain ⟨n3, f4, ef4, hi, H⟩ := H
    refine g_step (pc2 := 17) hk rfl rfl rfl (s_aget (L := L) (xs := xs) ef4 hi) ?_
    refine g_call hk rfl rfl i_k193.1 ⟨rfl, rfl⟩ rfl (i_rcv_0 rfl) rfl ?_
    exact H.mono (fun v h2 q => by obtain ⟨r, rfl, q⟩ := q; exact q)
theorem b100_20 {x0 : Nat} {x1 : Int64} {x3 : Int32} {s0 : Int32} {h : iH} {Q : Option Value → iH → Prop} (H : ((s0 = 0 → i_P i_MT i_AT L xs 100 2 [some (.ref x0), some (.long x1), none, some (.int (x3 + 1))] [] h 0 0 Q) ∧ (¬ (s0 = 0) → Q (some (.int 1)) h))) : i_P i_MT i_AT L xs 100 20 [some (.ref x0), some (.long x1), none, some (.int x3)] [.int s0] h 0 0 Q := by
  have hk := i_k100
  refine g_if_eq hk rfl (fun hc => ?_) (fun hc => ?_)
  · have H := H.1 hc
    refine g_s1 (pc2 := 28) (lo2 := [some (.ref x0), some (.long x1), none, some (.int (x3 + 1))]) hk rfl rfl rfl rfl rfl ?_
    refine g_s1 (pc2 := 2) hk rfl rfl rfl rfl rfl ?_
    exact H
  · have H := H.2 hc
    refine g_s1 (pc2 := 24) (st2 := [.int (1 : Int32)]) hk rfl rfl rfl rfl rfl ?_
    exact g_ireturn hk rfl (by decide) (by decide) rfl H
/-! StillTown$Town.weightOn(II)I -/
theorem e101 {x0 : Nat} {x1 : Int32} {x2 : Int32} {h : iH} {Q : Option Value → iH → Prop} (H : i_P i_MT i_AT L xs 101 0 [some (.ref x0), some (.int x1), some (.int x2), none] [] h 0 0 Q) : i_C i_MT i_AT L xs 101 [.ref x0, .int x1, .int x2] h Q := ⟨i_m101, i_k101.1, Nat.le_of_ble_eq_true rfl, H⟩
theorem b101_0 {x0 : Nat} {x1 : Int32} {x2 : Int32} {x3 : Option Value} {h : iH} {Q : Option Value → iH → Prop} (H : ((¬ x2 = 0 → ((x2 = (1 : Int32) → i_P i_MT i_AT L xs 101 31 [some (.ref x0), some (.int x1), some (.int x2), some (.int (16 : Int32))] [] h 0 0 Q) ∧ (¬ (x2 = (1 : Int32)) → (∃ v1 : Nat, i_fld h x0 8 11 = some (.ref v1) ∧ (∃ (n2 : Nat) (f3 : Nat → Int32), i_arI h 0 v1 = some (n2, f3) ∧ ¬ ((x2 - (2 : Int32)) < 0 ∨ n2 ≤ (x2 - (2 : Int32)).toNatClampNeg) ∧ i_P i_MT i_AT L xs 101 31 [some (.ref x0), some (.int x1), some (.int x2), some (.int (f3 (x2 - (2 : Int32)).toNatClampNeg))] [] h 0 0 Q))))) ∧ (¬ (¬ x2 = 0) → (∃ v4 : Nat, i_fld h x0 8 11 = some (.ref v4) ∧ (∃ (n5 : Nat) (f6 : Nat → Int32), i_arI h 0 v4 = some (n5, f6) ∧ ¬ ((3 : Int32) < 0 ∨ n5 ≤ (3 : Int32).toNatClampNeg) ∧ i_P i_MT i_AT L xs 101 31 [some (.ref x0), some (.int x1), some (.int x2), some (.int (f6 (3 : Int32).toNatClampNeg))] [] h 0 0 Q))))) : i_P i_MT i_AT L xs 101 0 [some (.ref x0), some (.int x1), some (.int x2), x3] [] h 0 0 Q := by
  have hk := i_k101
  refine g_s1 (pc2 := 2) (st2 := [.int (16 : Int32)]) hk rfl rfl rfl rfl rfl ?_
  refine g_s1 (pc2 := 3) (lo2 := [some (.ref x0), some (.int x1), some (.int x2), some (.int (16 : Int32))]) hk rfl rfl rfl rfl rfl ?_
  refine g_s1 (pc2 := 4) hk rfl rfl rfl rfl rfl ?_
  refine g_if_ne hk rfl (fun hc => ?_) (fun hc => ?_)
  · have H := H.1 hc
    refine g_s1 (pc2 := 18) hk rfl rfl rfl rfl rfl ?_
    refine g_s1 (pc2 := 19) (st2 := [.int (1 : Int32), .int x2]) hk rfl rfl rfl rfl rfl ?_
    refine g_icmp_eq hk rfl (fun hc => ?_) (fun hc => ?_)
    · have H := H.1 hc
      exact H
    · have H := H.2 hc
      refine g_s1 (pc2 := 23) hk rfl rfl rfl rfl rfl ?_
      obtain ⟨v1, ev1, H⟩ := H
      refine g_step (pc2 := 26) hk rfl rfl rfl (s_get ev1) ?_
      refine g_s1 (pc2 := 27) hk rfl rfl rfl rfl rfl ?_
      refine g_s1 (pc2 := 28) (st2 := [.int (2 : Int32), .int x2, .ref v1]) hk rfl rfl rfl rfl rfl ?_
      refine g_s1 (pc2 := 29) hk rfl rfl rfl rfl rfl ?_
      obtain ⟨n2, f3, ef3, hi, H⟩ := H
      refine g_step (pc2 := 30) hk rfl rfl rfl (s_aget (L := L) (xs := xs) ef3 hi) ?_
      refine g_s1 (pc2 := 31) (lo2 := [some (.ref x0), some (.int x1), some (.int x2), some (.int (f3 (x2 - (2 : Int32)).toNatClampNeg))]) hk rfl rfl rfl rfl rfl ?_
      exact H
  · have H := H.2 hc
    refine g_s1 (pc2 := 8) hk rfl rfl rfl rfl rfl ?_
    obtain ⟨v4, ev4, H⟩ := H
    refine g_step (pc2 := 11) hk rfl rfl rfl (s_get ev4) ?_
    refine g_s1 (pc2 := 12) (st2 := [.int (3 : Int32), .ref v4]) hk rfl rfl rfl rfl rfl ?_
    obtain ⟨n5, f6, ef6, hi, H⟩ := H
    refine g_step (pc2 := 13) hk rfl rfl rfl (s_aget (L := L) (xs := xs) ef6 hi) ?_
    refine g_s1 (pc2 := 14) (lo2 := [some (.ref x0), some (.int x1), some (.int x2), some (.int (f6 (3 : Int32).toNatClampNeg))]) hk rfl rfl rfl rfl rfl ?_
    refine g_s1 (pc2 := 31) hk rfl rfl rfl rfl rfl ?_
    exact H
theorem b101_31 {x0 : Nat} {x1 : Int32} {x2 : Int32} {x3 : Int32} {h : iH} {Q : Option Value → iH → Prop} (H : (∃ v1 : Nat, i_fld h x0 8 4 = some (.ref v1) ∧ (∃ (n2 : Nat) (f3 : Nat → Int32), i_arI h 0 v1 = some (n2, f3) ∧ ¬ (x1 < 0 ∨ n2 ≤ x1.toNatClampNeg) ∧ (¬ (16 : Int32) = 0 ∧ Q (some (.int ((x3 * ((16 : Int32) - (f3 x1.toNatClampNeg))) / (16 : Int32)))) h)))) : i_P i_MT i_AT L xs 101 31 [some (.ref x0), some (.int x1), some (.int x2), some (.int x3)] [] h 0 0 Q := by
  have hk := i_k101
  refine g_s1 (pc2 := 32) hk rfl rfl rfl rfl rfl ?_
  refine g_s1 (pc2 := 34) (st2 := [.int (16 : Int32), .int x3]) hk rfl rfl rfl rfl rfl ?_
  refine g_s1 (pc2 := 35) hk rfl rfl rfl rfl rfl ?_
  obtain ⟨v1, ev1, H⟩ := H
  refine g_step (pc2 := 38) hk rfl rfl rfl (s_get ev1) ?_
  refine g_s1 (pc2 := 39) hk rfl rfl rfl rfl rfl ?_
  obtain ⟨n2, f3, ef3, hi, H⟩ := H
  refine g_step (pc2 := 40) hk rfl rfl rfl (s_aget (L := L) (xs := xs) ef3 hi) ?_
  refine g_s1 (pc2 := 41) hk rfl rfl rfl rfl rfl ?_
  refine g_s1 (pc2 := 42) hk rfl rfl rfl rfl rfl ?_
  refine g_s1 (pc2 := 44) (st2 := [.int (16 : Int32), .int (x3 * ((16 : Int32) - (f3 x1.toNatClampNeg)))]) hk rfl rfl rfl rfl rfl ?_
  obtain ⟨hz, H⟩ := H
  refine g_s1 (pc2 := 45) hk rfl rfl rfl rfl (s_if hz) ?_
  exact g_ireturn hk rfl (by decide) (by decide) rfl H
/-! StillTown$TownReader.<init>(LStillTown$Tape;LStillTown$Town;)V -/
theorem e102 {x0 : Nat} {x1 : Nat} {x2 : Nat} {h : iH} {Q : Option Value → iH → Prop} (H : i_P i_MT i_AT L xs 102 0 [some (.ref x0), some (.ref x1), some (.ref x2)] [] h 0 0 Q) : i_C i_MT i_AT L xs 102 [.ref x0, .ref x1, .ref x2] h Q := ⟨i_m102, i_k102.1, Nat.le_of_ble_eq_true rfl, H⟩
theorem b102_0 {x0 : Nat} {x1 : Nat} {x2 : Nat} {h : iH} {Q : Option Value → iH → Prop} (H : ((∃ o, i_fld h x0 9 2 = some o) ∧ i_P i_MT i_AT L xs 102 9 [some (.ref x0), some (.ref x1), some (.ref x2)] [] (i_sf h x0 2 (.int (0 : Int32))) 0 0 Q)) : i_P i_MT i_AT L xs 102 0 [some (.ref x0), some (.ref x1), some (.ref x2)] [] h 0 0 Q := by
  have hk := i_k102
  refine g_s1 (pc2 := 1) hk rfl rfl rfl rfl rfl ?_
  refine g_step (pc2 := 4) hk rfl rfl rfl rfl ?_
  refine g_s1 (pc2 := 5) hk rfl rfl rfl rfl rfl ?_
  refine g_s1 (pc2 := 6) (st2 := [.int (0 : Int32), .ref x0]) hk rfl rfl rfl rfl rfl ?_
  obtain ⟨⟨o, ho⟩, H⟩ := H
  refine g_step (pc2 := 9) hk rfl rfl rfl (s_put ho rfl) ?_
  exact H
theorem b102_9 {x0 : Nat} {x1 : Nat} {x2 : Nat} {h : iH} {Q : Option Value → iH → Prop} (H : ((∃ o, i_fld h x0 9 3 = some o) ∧ i_P i_MT i_AT L xs 102 14 [some (.ref x0), some (.ref x1), some (.ref x2)] [] (i_sf h x0 3 (.int (0 : Int32))) 0 0 Q)) : i_P i_MT i_AT L xs 102 9 [some (.ref x0), some (.ref x1), some (.ref x2)] [] h 0 0 Q := by
  have hk := i_k102
  refine g_s1 (pc2 := 10) hk rfl rfl rfl rfl rfl ?_
  refine g_s1 (pc2 := 11) (st2 := [.int (0 : Int32), .ref x0]) hk rfl rfl rfl rfl rfl ?_
  obtain ⟨⟨o, ho⟩, H⟩ := H
  refine g_step (pc2 := 14) hk rfl rfl rfl (s_put ho rfl) ?_
  exact H
theorem b102_14 {x0 : Nat} {x1 : Nat} {x2 : Nat} {h : iH} {Q : Option Value → iH → Prop} (H : ((∃ o, i_fld h x0 9 4 = some o) ∧ ((0 : Int32) == 0 || (0 : Int32) == 1) = true ∧ i_P i_MT i_AT L xs 102 19 [some (.ref x0), some (.ref x1), some (.ref x2)] [] (i_sf h x0 4 (.int (0 : Int32))) 0 0 Q)) : i_P i_MT i_AT L xs 102 14 [some (.ref x0), some (.ref x1), some (.ref x2)] [] h 0 0 Q := by
  have hk := i_k102
  refine g_s1 (pc2 := 15) hk rfl rfl rfl rfl rfl ?_
  refine g_s1 (pc2 := 16) (st2 := [.int (0 : Int32), .ref x0]) hk rfl rfl rfl rfl rfl ?_
  obtain ⟨⟨o, ho⟩, hf, H⟩ := H
  refine g_step (pc2 := 19) hk rfl rfl rfl (s_put ho hf) ?_
  exact H
theorem b102_19 {x0 : Nat} {x1 : Nat} {x2 : Nat} {h : iH} {Q : Option Value → iH → Prop} (H : ((∃ o, i_fld h x0 9 0 = some o) ∧ i_P i_MT i_AT L xs 102 24 [some (.ref x0), some (.ref x1), some (.ref x2)] [] (i_sf h x0 0 (.ref x1)) 0 0 Q)) : i_P i_MT i_AT L xs 102 19 [some (.ref x0), some (.ref x1), some (.ref x2)] [] h 0 0 Q := by
  have hk := i_k102
  refine g_s1 (pc2 := 20) hk rfl rfl rfl rfl rfl ?_
  refine g_s1 (pc2 := 21) hk rfl rfl rfl rfl rfl ?_
  obtain ⟨⟨o, ho⟩, H⟩ := H
  refine g_step (pc2 := 24) hk rfl rfl rfl (s_put ho rfl) ?_
  exact H
theorem b102_24 {x0 : Nat} {x1 : Nat} {x2 : Nat} {h : iH} {Q : Option Value → iH → Prop} (H : ((∃ o, i_fld h x0 9 1 = some o) ∧ i_P i_MT i_AT L xs 102 29 [some (.ref x0), some (.ref x1), some (.ref x2)] [] (i_sf h x0 1 (.ref x2)) 0 0 Q)) : i_P i_MT i_AT L xs 102 24 [some (.ref x0), some (.ref x1), some (.ref x2)] [] h 0 0 Q := by
  have hk := i_k102
  refine g_s1 (pc2 := 25) hk rfl rfl rfl rfl rfl ?_
  refine g_s1 (pc2 := 26) hk rfl rfl rfl rfl rfl ?_
  obtain ⟨⟨o, ho⟩, H⟩ := H
  refine g_step (pc2 := 29) hk rfl rfl rfl (s_put ho rfl) ?_
  exact H
theorem b102_29 {x0 : Nat} {x1 : Nat} {x2 : Nat} {h : iH} {Q : Option Value → iH → Prop} (H : Q none h) : i_P i_MT i_AT L xs 102 29 [some (.ref x0), some (.ref x1), some (.ref x2)] [] h 0 0 Q := by
  have hk := i_k102
  exact g_return hk rfl (by decide) (by decide) rfl H
/-! StillTown$TownReader.readInto(LStillTown$Town;)Z -/
theorem e103 {x0 : Nat} {x1 : Nat} {h : iH} {Q : Option Value → iH → Prop} (H : i_P i_MT i_AT L xs 103 0 [some (.ref x0), some (.ref x1), none] [] h 0 0 Q) : i_C i_MT i_AT L xs 103 [.ref x0, .ref x1] h Q := ⟨i_m103, i_k103.1, Nat.le_of_ble_eq_true rfl, H⟩
theorem b103_0 {x0 : Nat} {x1 : Nat} {x2 : Option Value} {h : iH} {Q : Option Value → iH → Prop} (H : ((∃ o, i_fld h x0 9 1 = some o) ∧ i_P i_MT i_AT L xs 103 5 [some (.ref x0), some (.ref x1), x2] [] (i_sf h x0 1 (.ref x1)) 0 0 Q)) : i_P i_MT i_AT L xs 103 0 [some (.ref x0), some (.ref x1), x2] [] h 0 0 Q := by
  have hk := i_k103
  refine g_s1 (pc2 := 1) hk rfl rfl rfl rfl rfl ?_
  refine g_s1 (pc2 := 2) hk rfl rfl rfl rfl rfl ?_
  obtain ⟨⟨o, ho⟩, H⟩ := H
  refine g_step (pc2 := 5) hk rfl rfl rfl (s_put ho rfl) ?_
  exact H
theorem b103_5 {x0 : Nat} {x1 : Nat} {x2 : Option Value} {h : iH} {Q : Option Value → iH → Prop} (H : (∃ v1 : Nat, i_fld h x0 9 1 = some (.ref v1) ∧ (i_obj? h v1 8 ∧ i_C i_MT i_AT L xs 97 [.ref v1] h (fun v h2 => v = none ∧ i_P i_MT i_AT L xs 103 12 [some (.ref x0), some (.ref x1), x2] [] h2 0 0 Q)))) : i_P i_MT i_AT L xs 103 5 [some (.ref x0), some (.ref x1), x2] [] h 0 0 Q := by
  have hk := i_k103
  refine g_s1 (pc2 := 6) hk rfl rfl rfl rfl rfl ?_
  obtain ⟨v1, ev1, H⟩ := H
  refine g_step (pc2 := 9) hk rfl rfl rfl (s_get ev1) ?_
  obtain ⟨ho, H⟩ := H
  refine g_call hk rfl rfl i_k97.1 ⟨rfl, rfl⟩ rfl (i_rcv_v ho rfl (by decide)) rfl ?_
  exact H.mono (fun v h2 q => by obtain ⟨rfl, q⟩ := q; exact q)
theorem b103_12 {x0 : Nat} {x1 : Nat} {x2 : Option Value} {h : iH} {Q : Option Value → iH → Prop} (H : ((∃ o, i_fld h x0 9 4 = some o) ∧ ((0 : Int32) == 0 || (0 : Int32) == 1) = true ∧ i_P i_MT i_AT L xs 103 17 [some (.ref x0), some (.ref x1), x2] [] (i_sf h x0 4 (.int (0 : Int32))) 0 0 Q)) : i_P i_MT i_AT L xs 103 12 [some (.ref x0), some (.ref x1), x2] [] h 0 0 Q := by
  have hk := i_k103
  refine g_s1 (pc2 := 13) hk rfl rfl rfl rfl rfl ?_
  refine g_s1 (pc2 := 14) (st2 := [.int (0 : Int32), .ref x0]) hk rfl rfl rfl rfl rfl ?_
  obtain ⟨⟨o, ho⟩, hf, H⟩ := H
  refine g_step (pc2 := 17) hk rfl rfl rfl (s_put ho hf) ?_
  exact H
theorem b103_17 {x0 : Nat} {x1 : Nat} {x2 : Option Value} {h : iH} {Q : Option Value → iH → Prop} (H : (i_obj? h x0 9 ∧ i_C i_MT i_AT L xs 104 [.ref x0] h (fun v h1 => ∃ r2 : Int32, v = some (.int r2) ∧ i_P i_MT i_AT L xs 103 21 [some (.ref x0), some (.ref x1), x2] [.int r2] h1 0 0 Q))) : i_P i_MT i_AT L xs 103 17 [some (.ref x0), some (.ref x1), x2] [] h 0 0 Q := by
  have hk := i_k103
  refine g_s1 (pc2 := 18) hk rfl rfl rfl rfl rfl ?_
  obtain ⟨ho, H⟩ := H
  refine g_call hk rfl rfl i_k104.1 ⟨rfl, rfl⟩ rfl (i_rcv_v ho rfl (by decide)) rfl ?_
  exact H.mono (fun v h2 q => by obtain ⟨r, rfl, q⟩ := q; exact q)
theorem b103_21 {x0 : Nat} {x1 : Nat} {x2 : Option Value} {s0 : Int32} {h : iH} {Q : Option Value → iH → Prop} (H : ((¬ s0 = 0 → i_P i_MT i_AT L xs 103 28 [some (.ref x0), some (.ref x1), some (.int (0 : Int32))] [] h 0 0 Q) ∧ (¬ (¬ s0 = 0) → Q (some (.int 0)) h))) : i_P i_MT i_AT L xs 103 21 [some (.ref x0), some (.ref x1), x2] [.int s0] h 0 0 Q := by
  have hk := i_k103
  refine g_if_ne hk rfl (fun hc => ?_) (fun hc => ?_)
  · have H := H.1 hc
    refine g_s1 (pc2 := 27) (st2 := [.int (0 : Int32)]) hk rfl rfl rfl rfl rfl ?_
    refine g_s1 (pc2 := 28) (lo2 := [some (.ref x0), some (.ref x1), some (.int (0 : Int32))]) hk rfl rfl rfl rfl rfl ?_
    exact H
  · have H := H.2 hc
    refine g_s1 (pc2 := 25) (st2 := [.int (0 : Int32)]) hk rfl rfl rfl rfl rfl ?_
    exact g_ireturn hk rfl (by decide) (by decide) rfl H
theorem b103_28 {x0 : Nat} {x1 : Nat} {x2 : Int32} {h : iH} {Q : Option Value → iH → Prop} (H : (((900 : Int32) ≤ x2 → (∃ v1 : Nat, i_fld h x0 9 0 = some (.ref v1) ∧ (i_obj? h v1 7 ∧ i_C i_MT i_AT L xs 87 [.ref v1] h (fun v h2 => ∃ r3 : Int32, v = some (.int r3) ∧ i_P i_MT i_AT L xs 103 76 [some (.ref x0), some (.ref x1), some (.int x2)] [.int r3] h2 0 0 Q)))) ∧ (¬ ((900 : Int32) ≤ x2) → (∃ v4 : Nat, i_fld h x0 9 0 = some (.ref v4) ∧ (i_obj? h v4 7 ∧ i_C i_MT i_AT L xs 88 [.ref v4] h (fun v h5 => v = none ∧ i_P i_MT i_AT L xs 103 42 [some (.ref x0), some (.ref x1), some (.int x2)] [] h5 0 0 Q)))))) : i_P i_MT i_AT L xs 103 28 [some (.ref x0), some (.ref x1), some (.int x2)] [] h 0 0 Q := by
  have hk := i_k103
  refine g_s1 (pc2 := 29) hk rfl rfl rfl rfl rfl ?_
  refine g_s1 (pc2 := 32) (st2 := [.int (900 : Int32), .int x2]) hk rfl rfl rfl rfl rfl ?_
  refine g_icmp_ge hk rfl (fun hc => ?_) (fun hc => ?_)
  · have H := H.1 hc
    refine g_s1 (pc2 := 70) hk rfl rfl rfl rfl rfl ?_
    obtain ⟨v1, ev1, H⟩ := H
    refine g_step (pc2 := 73) hk rfl rfl rfl (s_get ev1) ?_
    obtain ⟨ho, H⟩ := H
    refine g_call hk rfl rfl i_k87.1 ⟨rfl, rfl⟩ rfl (i_rcv_v ho rfl (by decide)) rfl ?_
    exact H.mono (fun v h2 q => by obtain ⟨r, rfl, q⟩ := q; exact q)
  · have H := H.2 hc
    refine g_s1 (pc2 := 36) hk rfl rfl rfl rfl rfl ?_
    obtain ⟨v4, ev4, H⟩ := H
    refine g_step (pc2 := 39) hk rfl rfl rfl (s_get ev4) ?_
    obtain ⟨ho, H⟩ := H
    refine g_call hk rfl rfl i_k88.1 ⟨rfl, rfl⟩ rfl (i_rcv_v ho rfl (by decide)) rfl ?_
    exact H.mono (fun v h2 q => by obtain ⟨rfl, q⟩ := q; exact q)
theorem b103_42 {x0 : Nat} {x1 : Nat} {x2 : Int32} {h : iH} {Q : Option Value → iH → Prop} (H : (∃ v1 : Nat, i_fld h x0 9 0 = some (.ref v1) ∧ (∃ v2 : Int32, i_fld h v1 7 6 = some (.int v2) ∧ ((¬ v2 = 0 → (i_obj? h x0 9 ∧ i_C i_MT i_AT L xs 105 [.ref x0] h (fun v h3 => ∃ r4 : Int32, v = some (.int r4) ∧ i_P i_MT i_AT L xs 103 58 [some (.ref x0), some (.ref x1), some (.int x2)] [.int r4] h3 0 0 Q))) ∧ (¬ (¬ v2 = 0) → Q (some (.int 1)) h))))) : i_P i_MT i_AT L xs 103 42 [some (.ref x0), some (.ref x1), some (.int x2)] [] h 0 0 Q := by
  have hk := i_k103
  refine g_s1 (pc2 := 43) hk rfl rfl rfl rfl rfl ?_
  obtain ⟨v1, ev1, H⟩ := H
  refine g_step (pc2 := 46) hk rfl rfl rfl (s_get ev1) ?_
  obtain ⟨v2, ev2, H⟩ := H
  refine g_step (pc2 := 49) hk rfl rfl rfl (s_get ev2) ?_
  refine g_if_ne hk rfl (fun hc => ?_) (fun hc => ?_)
  · have H := H.1 hc
    refine g_s1 (pc2 := 55) hk rfl rfl rfl rfl rfl ?_
    obtain ⟨ho, H⟩ := H
    refine g_call hk rfl rfl i_k105.1 ⟨rfl, rfl⟩ rfl (i_rcv_v ho rfl (by decide)) rfl ?_
    exact H.mono (fun v h2 q => by obtain ⟨r, rfl, q⟩ := q; exact q)
  · have H := H.2 hc
    refine g_s1 (pc2 := 53) (st2 := [.int (1 : Int32)]) hk rfl rfl rfl rfl rfl ?_
    exact g_ireturn hk rfl (by decide) (by decide) rfl H
theorem b103_58 {x0 : Nat} {x1 : Nat} {x2 : Int32} {s0 : Int32} {h : iH} {Q : Option Value → iH → Prop} (H : ((¬ s0 = 0 → i_P i_MT i_AT L xs 103 28 [some (.ref x0), some (.ref x1), some (.int (x2 + 1))] [] h 0 0 Q) ∧ (¬ (¬ s0 = 0) → Q (some (.int 0)) h))) : i_P i_MT i_AT L xs 103 58 [some (.ref x0), some (.ref x1), some (.int x2)] [.int s0] h 0 0 Q := by
  have hk := i_k103
  refine g_if_ne hk rfl (fun hc => ?_) (fun hc => ?_)
  · have H := H.1 hc
    refine g_s1 (pc2 := 66) (lo2 := [some (.ref x0), some (.ref x1), some (.int (x2 + 1))]) hk rfl rfl rfl rfl rfl ?_
    refine g_s1 (pc2 := 28) hk rfl rfl rfl rfl rfl ?_
    exact H
  · have H := H.2 hc
    refine g_s1 (pc2 := 62) (st2 := [.int (0 : Int32)]) hk rfl rfl rfl rfl rfl ?_
    exact g_ireturn hk rfl (by decide) (by decide) rfl H
theorem b103_76 {x0 : Nat} {x1 : Nat} {x2 : Int32} {s0 : Int32} {h : iH} {Q : Option Value → iH → Prop} (H : (i_ret (some .boolean) s0 = true ∧ Q (some (.int s0)) h)) : i_P i_MT i_AT L xs 103 76 [some (.ref x0), some (.ref x1), some (.int x2)] [.int s0] h 0 0 Q := by
  have hk := i_k103
  exact g_ireturn hk rfl (by decide) (by decide) H.1 H.2
/-! StillTown$TownReader.readSize()Z -/
theorem e104 {x0 : Nat} {h : iH} {Q : Option Value → iH → Prop} (H : i_P i_MT i_AT L xs 104 0 [some (.ref x0)] [] h 0 0 Q) : i_C i_MT i_AT L xs 104 [.ref x0] h Q := ⟨i_m104, i_k104.1, Nat.le_of_ble_eq_true rfl, H⟩
theorem b104_0 {x0 : Nat} {h : iH} {Q : Option Value → iH → Prop} (H : (∃ v1 : Nat, i_fld h x0 9 0 = some (.ref v1) ∧ (i_obj? h v1 7 ∧ i_C i_MT i_AT L xs 91 [.ref v1, .int (8 : Int32)] h (fun v h2 => ∃ r3 : Int32, v = some (.int r3) ∧ i_P i_MT i_AT L xs 104 9 [some (.ref x0)] [.int r3] h2 0 0 Q)))) : i_P i_MT i_AT L xs 104 0 [some (.ref x0)] [] h 0 0 Q := by
  have hk := i_k104
  refine g_s1 (pc2 := 1) hk rfl rfl rfl rfl rfl ?_
  obtain ⟨v1, ev1, H⟩ := H
  refine g_step (pc2 := 4) hk rfl rfl rfl (s_get ev1) ?_
  refine g_s1 (pc2 := 6) (st2 := [.int (8 : Int32), .ref v1]) hk rfl rfl rfl rfl rfl ?_
  obtain ⟨ho, H⟩ := H
  refine g_call hk rfl rfl i_k91.1 ⟨rfl, rfl⟩ rfl (i_rcv_v ho rfl (by decide)) rfl ?_
  exact H.mono (fun v h2 q => by obtain ⟨r, rfl, q⟩ := q; exact q)
theorem b104_9 {x0 : Nat} {s0 : Int32} {h : iH} {Q : Option Value → iH → Prop} (H : ((s0 = 0 → i_P i_MT i_AT L xs 104 25 [some (.ref x0)] [] h 0 0 Q) ∧ (¬ (s0 = 0) → (∃ v1 : Nat, i_fld h x0 9 0 = some (.ref v1) ∧ (i_obj? h v1 7 ∧ i_C i_MT i_AT L xs 95 [.ref v1, .int (2 : Int32), .int (8 : Int32)] h (fun v h2 => ∃ r3 : Int32, v = some (.int r3) ∧ i_P i_MT i_AT L xs 104 22 [some (.ref x0)] [.int r3] h2 0 0 Q)))))) : i_P i_MT i_AT L xs 104 9 [some (.ref x0)] [.int s0] h 0 0 Q := by
  have hk := i_k104
  refine g_if_eq hk rfl (fun hc => ?_) (fun hc => ?_)
  · have H := H.1 hc
    exact H
  · have H := H.2 hc
    refine g_s1 (pc2 := 13) hk rfl rfl rfl rfl rfl ?_
    obtain ⟨v1, ev1, H⟩ := H
    refine g_step (pc2 := 16) hk rfl rfl rfl (s_get ev1) ?_
    refine g_s1 (pc2 := 17) (st2 := [.int (2 : Int32), .ref v1]) hk rfl rfl rfl rfl rfl ?_
    refine g_s1 (pc2 := 19) (st2 := [.int (8 : Int32), .int (2 : Int32), .ref v1]) hk rfl rfl rfl rfl rfl ?_
    obtain ⟨ho, H⟩ := H
    refine g_call hk rfl rfl i_k95.1 ⟨rfl, rfl⟩ rfl (i_rcv_v ho rfl (by decide)) rfl ?_
    exact H.mono (fun v h2 q => by obtain ⟨r, rfl, q⟩ := q; exact q)
theorem b104_22 {x0 : Nat} {s0 : Int32} {h : iH} {Q : Option Value → iH → Prop} (H : ((¬ s0 = 0 → (∃ v1 : Nat, i_fld h x0 9 1 = some (.ref v1) ∧ (∃ v2 : Nat, i_fld h x0 9 0 = some (.ref v2) ∧ (∃ v3 : Int32, i_fld h v2 7 8 = some (.int v3) ∧ ((∃ o, i_fld h v1 8 0 = some o) ∧ i_P i_MT i_AT L xs 104 41 [some (.ref x0)] [] (i_sf h v1 0 (.int v3)) 0 0 Q))))) ∧ (¬ (¬ s0 = 0) → i_P i_MT i_AT L xs 104 25 [some (.ref x0)] [] h 0 0 Q))) : i_P i_MT i_AT L xs 104 22 [some (.ref x0)] [.int s0] h 0 0 Q := by
  have hk := i_k104
  refine g_if_ne hk rfl (fun hc => ?_) (fun hc => ?_)
  · have H := H.1 hc
    refine g_s1 (pc2 := 28) hk rfl rfl rfl rfl rfl ?_
    obtain ⟨v1, ev1, H⟩ := H
    refine g_step (pc2 := 31) hk rfl rfl rfl (s_get ev1) ?_
    refine g_s1 (pc2 := 32) hk rfl rfl rfl rfl rfl ?_
    obtain ⟨v2, ev2, H⟩ := H
    refine g_step (pc2 := 35) hk rfl rfl rfl (s_get ev2) ?_
    obtain ⟨v3, ev3, H⟩ := H
    refine g_step (pc2 := 38) hk rfl rfl rfl (s_get ev3) ?_
    obtain ⟨⟨o, ho⟩, H⟩ := H
    refine g_step (pc2 := 41) hk rfl rfl rfl (s_put ho rfl) ?_
    exact H
  · have H := H.2 hc
    exact H
theorem b104_25 {x0 : Nat} {h : iH} {Q : Option Value → iH → Prop} (H : Q (some (.int 0)) h) : i_P i_MT i_AT L xs 104 25 [some (.ref x0)] [] h 0 0 Q := by
  have hk := i_k104
  refine g_s1 (pc2 := 26) (st2 := [.int (0 : Int32)]) hk rfl rfl rfl rfl rfl ?_
  exact g_ireturn hk rfl (by decide) (by decide) rfl H
theorem b104_41 {x0 : Nat} {h : iH} {Q : Option Value → iH → Prop} (H : (∃ v1 : Nat, i_fld h x0 9 0 = some (.ref v1) ∧ (i_obj? h v1 7 ∧ i_C i_MT i_AT L xs 95 [.ref v1, .int (2 : Int32), .int (6 : Int32)] h (fun v h2 => ∃ r3 : Int32, v = some (.int r3) ∧ i_P i_MT i_AT L xs 104 51 [some (.ref x0)] [.int r3] h2 0 0 Q)))) : i_P i_MT i_AT L xs 104 41 [some (.ref x0)] [] h 0 0 Q := by
  have hk := i_k104
  refine g_s1 (pc2 := 42) hk rfl rfl rfl rfl rfl ?_
  obtain ⟨v1, ev1, H⟩ := H
  refine g_step (pc2 := 45) hk rfl rfl rfl (s_get ev1) ?_
  refine g_s1 (pc2 := 46) (st2 := [.int (2 : Int32), .ref v1]) hk rfl rfl rfl rfl rfl ?_
  refine g_s1 (pc2 := 48) (st2 := [.int (6 : Int32), .int (2 : Int32), .ref v1]) hk rfl rfl rfl rfl rfl ?_
  obtain ⟨ho, H⟩ := H
  refine g_call hk rfl rfl i_k95.1 ⟨rfl, rfl⟩ rfl (i_rcv_v ho rfl (by decide)) rfl ?_
  exact H.mono (fun v h2 q => by obtain ⟨r, rfl, q⟩ := q; exact q)
theorem b104_51 {x0 : Nat} {s0 : Int32} {h : iH} {Q : Option Value → iH → Prop} (H : ((¬ s0 = 0 → (∃ v1 : Nat, i_fld h x0 9 1 = some (.ref v1) ∧ (∃ v2 : Nat, i_fld h x0 9 0 = some (.ref v2) ∧ (∃ v3 : Int32, i_fld h v2 7 8 = some (.int v3) ∧ ((∃ o, i_fld h v1 8 1 = some o) ∧ i_P i_MT i_AT L xs 104 70 [some (.ref x0)] [] (i_sf h v1 1 (.int v3)) 0 0 Q))))) ∧ (¬ (¬ s0 = 0) → Q (some (.int 0)) h))) : i_P i_MT i_AT L xs 104 51 [some (.ref x0)] [.int s0] h 0 0 Q := by
  have hk := i_k104
  refine g_if_ne hk rfl (fun hc => ?_) (fun hc => ?_)
  · have H := H.1 hc
    refine g_s1 (pc2 := 57) hk rfl rfl rfl rfl rfl ?_
    obtain ⟨v1, ev1, H⟩ := H
    refine g_step (pc2 := 60) hk rfl rfl rfl (s_get ev1) ?_
    refine g_s1 (pc2 := 61) hk rfl rfl rfl rfl rfl ?_
    obtain ⟨v2, ev2, H⟩ := H
    refine g_step (pc2 := 64) hk rfl rfl rfl (s_get ev2) ?_
    obtain ⟨v3, ev3, H⟩ := H
    refine g_step (pc2 := 67) hk rfl rfl rfl (s_get ev3) ?_
    obtain ⟨⟨o, ho⟩, H⟩ := H
    refine g_step (pc2 := 70) hk rfl rfl rfl (s_put ho rfl) ?_
    exact H
  · have H := H.2 hc
    refine g_s1 (pc2 := 55) (st2 := [.int (0 : Int32)]) hk rfl rfl rfl rfl rfl ?_
    exact g_ireturn hk rfl (by decide) (by decide) rfl H
theorem b104_70 {x0 : Nat} {h : iH} {Q : Option Value → iH → Prop} (H : (∃ v1 : Nat, i_fld h x0 9 0 = some (.ref v1) ∧ (i_obj? h v1 7 ∧ i_C i_MT i_AT L xs 94 [.ref v1] h (fun v h2 => ∃ r3 : Int32, v = some (.int r3) ∧ i_P i_MT i_AT L xs 104 77 [some (.ref x0)] [.int r3] h2 0 0 Q)))) : i_P i_MT i_AT L xs 104 70 [some (.ref x0)] [] h 0 0 Q := by
  have hk := i_k104
  refine g_s1 (pc2 := 71) hk rfl rfl rfl rfl rfl ?_
  obtain ⟨v1, ev1, H⟩ := H
  refine g_step (pc2 := 74) hk rfl rfl rfl (s_get ev1) ?_
  obtain ⟨ho, H⟩ := H
  refine g_call hk rfl rfl i_k94.1 ⟨rfl, rfl⟩ rfl (i_rcv_v ho rfl (by decide)) rfl ?_
  exact H.mono (fun v h2 q => by obtain ⟨r, rfl, q⟩ := q; exact q)
theorem b104_77 {x0 : Nat} {s0 : Int32} {h : iH} {Q : Option Value → iH → Prop} (H : (i_ret (some .boolean) s0 = true ∧ Q (some (.int s0)) h)) : i_P i_MT i_AT L xs 104 77 [some (.ref x0)] [.int s0] h 0 0 Q := by
  have hk := i_k104
  exact g_ireturn hk rfl (by decide) (by decide) H.1 H.2
/-! StillTown$TownReader.readPart()Z -/
theorem e105 {x0 : Nat} {h : iH} {Q : Option Value → iH → Prop} (H : i_P i_MT i_AT L xs 105 0 [some (.ref x0)] [] h 0 0 Q) : i_C i_MT i_AT L xs 105 [.ref x0] h Q := ⟨i_m105, i_k105.1, Nat.le_of_ble_eq_true rfl, H⟩
theorem b105_0 {x0 : Nat} {h : iH} {Q : Option Value → iH → Prop} (H : (∃ v1 : Nat, i_fld h x0 9 0 = some (.ref v1) ∧ (∃ v2 : Int32, i_fld h v1 7 10 = some (.int v2) ∧ ((v2.toInt < 9 ∨ 23 < v2.toInt → (∃ v3 : Nat, i_fld h x0 9 0 = some (.ref v3) ∧ (i_obj? h v3 7 ∧ i_C i_MT i_AT L xs 87 [.ref v3] h (fun v h4 => ∃ r5 : Int32, v = some (.int r5) ∧ i_P i_MT i_AT L xs 105 151 [some (.ref x0)] [.int r5] h4 0 0 Q)))) ∧ (v2.toInt = 9 → (i_obj? h x0 9 ∧ i_C i_MT i_AT L xs 108 [.ref x0] h (fun v h6 => ∃ r7 : Int32, v = some (.int r7) ∧ i_P i_MT i_AT L xs 105 84 [some (.ref x0)] [.int r7] h6 0 0 Q))) ∧ (v2.toInt = 10 → (∃ v8 : Nat, i_fld h x0 9 0 = some (.ref v8) ∧ (i_obj? h v8 7 ∧ i_C i_MT i_AT L xs 87 [.ref v8] h (fun v h9 => ∃ r10 : Int32, v = some (.int r10) ∧ i_P i_MT i_AT L xs 105 151 [some (.ref x0)] [.int r10] h9 0 0 Q)))) ∧ (v2.toInt = 11 → (i_obj? h x0 9 ∧ i_C i_MT i_AT L xs 109 [.ref x0] h (fun v h11 => ∃ r12 : Int32, v = some (.int r12) ∧ i_P i_MT i_AT L xs 105 89 [some (.ref x0)] [.int r12] h11 0 0 Q))) ∧ (v2.toInt = 12 → (∃ v13 : Nat, i_fld h x0 9 0 = some (.ref v13) ∧ (i_obj? h v13 7 ∧ i_C i_MT i_AT L xs 87 [.ref v13] h (fun v h14 => ∃ r15 : Int32, v = some (.int r15) ∧ i_P i_MT i_AT L xs 105 151 [some (.ref x0)] [.int r15] h14 0 0 Q)))) ∧ (v2.toInt = 13 → (i_obj? h x0 9 ∧ i_C i_MT i_AT L xs 110 [.ref x0] h (fun v h16 => ∃ r17 : Int32, v = some (.int r17) ∧ i_P i_MT i_AT L xs 105 94 [some (.ref x0)] [.int r17] h16 0 0 Q))) ∧ (v2.toInt = 14 → (∃ v18 : Nat, i_fld h x0 9 0 = some (.ref v18) ∧ (i_obj? h v18 7 ∧ i_C i_MT i_AT L xs 87 [.ref v18] h (fun v h19 => ∃ r20 : Int32, v = some (.int r20) ∧ i_P i_MT i_AT L xs 105 151 [some (.ref x0)] [.int r20] h19 0 0 Q)))) ∧ (v2.toInt = 15 → (i_obj? h x0 9 ∧ i_C i_MT i_AT L xs 111 [.ref x0] h (fun v h21 => ∃ r22 : Int32, v = some (.int r22) ∧ i_P i_MT i_AT L xs 105 99 [some (.ref x0)] [.int r22] h21 0 0 Q))) ∧ (v2.toInt = 16 → (i_obj? h x0 9 ∧ i_C i_MT i_AT L xs 112 [.ref x0] h (fun v h23 => ∃ r24 : Int32, v = some (.int r24) ∧ i_P i_MT i_AT L xs 105 104 [some (.ref x0)] [.int r24] h23 0 0 Q))) ∧ (v2.toInt = 17 → (∃ v25 : Nat, i_fld h x0 9 0 = some (.ref v25) ∧ (i_obj? h v25 7 ∧ i_C i_MT i_AT L xs 87 [.ref v25] h (fun v h26 => ∃ r27 : Int32, v = some (.int r27) ∧ i_P i_MT i_AT L xs 105 151 [some (.ref x0)] [.int r27] h26 0 0 Q)))) ∧ (v2.toInt = 18 → (∃ v28 : Nat, i_fld h x0 9 0 = some (.ref v28) ∧ (i_obj? h v28 7 ∧ i_C i_MT i_AT L xs 87 [.ref v28] h (fun v h29 => ∃ r30 : Int32, v = some (.int r30) ∧ i_P i_MT i_AT L xs 105 151 [some (.ref x0)] [.int r30] h29 0 0 Q)))) ∧ (v2.toInt = 19 → (∃ v31 : Nat, i_fld h x0 9 0 = some (.ref v31) ∧ (i_obj? h v31 7 ∧ i_C i_MT i_AT L xs 87 [.ref v31] h (fun v h32 => ∃ r33 : Int32, v = some (.int r33) ∧ i_P i_MT i_AT L xs 105 151 [some (.ref x0)] [.int r33] h32 0 0 Q)))) ∧ (v2.toInt = 20 → (∃ v34 : Nat, i_fld h x0 9 1 = some (.ref v34) ∧ (∃ v35 : Nat, i_fld h v34 8 12 = some (.ref v35) ∧ (∃ v36 : Nat, i_fld h v35 3 5 = some (.ref v36) ∧ (i_obj? h x0 9 ∧ i_C i_MT i_AT L xs 113 [.ref x0, .int (21 : Int32), .ref v36] h (fun v h37 => ∃ r38 : Int32, v = some (.int r38) ∧ i_P i_MT i_AT L xs 105 121 [some (.ref x0)] [.int r38] h37 0 0 Q)))))) ∧ (v2.toInt = 21 → (∃ v39 : Nat, i_fld h x0 9 0 = some (.ref v39) ∧ (i_obj? h v39 7 ∧ i_C i_MT i_AT L xs 87 [.ref v39] h (fun v h40 => ∃ r41 : Int32, v = some (.int r41) ∧ i_P i_MT i_AT L xs 105 151 [some (.ref x0)] [.int r41] h40 0 0 Q)))) ∧ (v2.toInt = 22 → (∃ v42 : Nat, i_fld h x0 9 1 = some (.ref v42) ∧ (∃ v43 : Nat, i_fld h v42 8 12 = some (.ref v43) ∧ (∃ v44 : Nat, i_fld h v43 3 6 = some (.ref v44) ∧ (i_obj? h x0 9 ∧ i_C i_MT i_AT L xs 113 [.ref x0, .int (10 : Int32), .ref v44] h (fun v h45 => ∃ r46 : Int32, v = some (.int r46) ∧ i_P i_MT i_AT L xs 105 138 [some (.ref x0)] [.int r46] h45 0 0 Q)))))) ∧ (v2.toInt = 23 → (i_obj? h x0 9 ∧ i_C i_MT i_AT L xs 115 [.ref x0] h (fun v h47 => ∃ r48 : Int32, v = some (.int r48) ∧ i_P i_MT i_AT L xs 105 143 [some (.ref x0)] [.int r48] h47 0 0 Q))))))) : i_P i_MT i_AT L xs 105 0 [some (.ref x0)] [] h 0 0 Q := by
  have hk := i_k105
  refine g_s1 (pc2 := 1) hk rfl rfl rfl rfl rfl ?_
  obtain ⟨v1, ev1, H⟩ := H
  refine g_step (pc2 := 4) hk rfl rfl rfl (s_get ev1) ?_
  obtain ⟨v2, ev2, H⟩ := H
  refine g_step (pc2 := 7) hk rfl rfl rfl (s_get ev2) ?_
  rcases (show (v2.toInt < 9 ∨ 23 < v2.toInt) ∨ v2.toInt = 9 ∨ v2.toInt = 10 ∨ v2.toInt = 11 ∨ v2.toInt = 12 ∨ v2.toInt = 13 ∨ v2.toInt = 14 ∨ v2.toInt = 15 ∨ v2.toInt = 16 ∨ v2.toInt = 17 ∨ v2.toInt = 18 ∨ v2.toInt = 19 ∨ v2.toInt = 20 ∨ v2.toInt = 21 ∨ v2.toInt = 22 ∨ v2.toInt = 23 by omega) with hx | hx | hx | hx | hx | hx | hx | hx | hx | hx | hx | hx | hx | hx | hx | hx
  · refine g_sw (t := 144) hk rfl (by unfold i_swt; rw [if_pos hx]; rfl) ?_
    have H := H.1 hx
    refine g_s1 (pc2 := 145) hk rfl rfl rfl rfl rfl ?_
    obtain ⟨v3, ev3, H⟩ := H
    refine g_step (pc2 := 148) hk rfl rfl rfl (s_get ev3) ?_
    obtain ⟨ho, H⟩ := H
    refine g_call hk rfl rfl i_k87.1 ⟨rfl, rfl⟩ rfl (i_rcv_v ho rfl (by decide)) rfl ?_
    exact H.mono (fun v h2 q => by obtain ⟨r, rfl, q⟩ := q; exact q)
  · refine g_sw (t := 80) hk rfl (by rw [hx]; rfl) ?_
    have H := H.2.1 hx
    refine g_s1 (pc2 := 81) hk rfl rfl rfl rfl rfl ?_
    obtain ⟨ho, H⟩ := H
    refine g_call hk rfl rfl i_k108.1 ⟨rfl, rfl⟩ rfl (i_rcv_v ho rfl (by decide)) rfl ?_
    exact H.mono (fun v h2 q => by obtain ⟨r, rfl, q⟩ := q; exact q)
  · refine g_sw (t := 144) hk rfl (by rw [hx]; rfl) ?_
    have H := H.2.2.1 hx
    refine g_s1 (pc2 := 145) hk rfl rfl rfl rfl rfl ?_
    obtain ⟨v8, ev8, H⟩ := H
    refine g_step (pc2 := 148) hk rfl rfl rfl (s_get ev8) ?_
    obtain ⟨ho, H⟩ := H
    refine g_call hk rfl rfl i_k87.1 ⟨rfl, rfl⟩ rfl (i_rcv_v ho rfl (by decide)) rfl ?_
    exact H.mono (fun v h2 q => by obtain ⟨r, rfl, q⟩ := q; exact q)
  · refine g_sw (t := 85) hk rfl (by rw [hx]; rfl) ?_
    have H := H.2.2.2.1 hx
    refine g_s1 (pc2 := 86) hk rfl rfl rfl rfl rfl ?_
    obtain ⟨ho, H⟩ := H
    refine g_call hk rfl rfl i_k109.1 ⟨rfl, rfl⟩ rfl (i_rcv_v ho rfl (by decide)) rfl ?_
    exact H.mono (fun v h2 q => by obtain ⟨r, rfl, q⟩ := q; exact q)
  · refine g_sw (t := 144) hk rfl (by rw [hx]; rfl) ?_
    have H := H.2.2.2.2.1 hx
    refine g_s1 (pc2 := 145) hk rfl rfl rfl rfl rfl ?_
    obtain ⟨v13, ev13, H⟩ := H
    refine g_step (pc2 := 148) hk rfl rfl rfl (s_get ev13) ?_
    obtain ⟨ho, H⟩ := H
    refine g_call hk rfl rfl i_k87.1 ⟨rfl, rfl⟩ rfl (i_rcv_v ho rfl (by decide)) rfl ?_
    exact H.mono (fun v h2 q => by obtain ⟨r, rfl, q⟩ := q; exact q)
  · refine g_sw (t := 90) hk rfl (by rw [hx]; rfl) ?_
    have H := H.2.2.2.2.2.1 hx
    refine g_s1 (pc2 := 91) hk rfl rfl rfl rfl rfl ?_
    obtain ⟨ho, H⟩ := H
    refine g_call hk rfl rfl i_k110.1 ⟨rfl, rfl⟩ rfl (i_rcv_v ho rfl (by decide)) rfl ?_
    exact H.mono (fun v h2 q => by obtain ⟨r, rfl, q⟩ := q; exact q)
  · refine g_sw (t := 144) hk rfl (by rw [hx]; rfl) ?_
    have H := H.2.2.2.2.2.2.1 hx
    refine g_s1 (pc2 := 145) hk rfl rfl rfl rfl rfl ?_
    obtain ⟨v18, ev18, H⟩ := H
    refine g_step (pc2 := 148) hk rfl rfl rfl (s_get ev18) ?_
    obtain ⟨ho, H⟩ := H
    refine g_call hk rfl rfl i_k87.1 ⟨rfl, rfl⟩ rfl (i_rcv_v ho rfl (by decide)) rfl ?_
    exact H.mono (fun v h2 q => by obtain ⟨r, rfl, q⟩ := q; exact q)
  · refine g_sw (t := 95) hk rfl (by rw [hx]; rfl) ?_
    have H := H.2.2.2.2.2.2.2.1 hx
    refine g_s1 (pc2 := 96) hk rfl rfl rfl rfl rfl ?_
    obtain ⟨ho, H⟩ := H
    refine g_call hk rfl rfl i_k111.1 ⟨rfl, rfl⟩ rfl (i_rcv_v ho rfl (by decide)) rfl ?_
    exact H.mono (fun v h2 q => by obtain ⟨r, rfl, q⟩ := q; exact q)
  · refine g_sw (t := 100) hk rfl (by rw [hx]; rfl) ?_
    have H := H.2.2.2.2.2.2.2.2.1 hx
    refine g_s1 (pc2 := 101) hk rfl rfl rfl rfl rfl ?_
    obtain ⟨ho, H⟩ := H
    refine g_call hk rfl rfl i_k112.1 ⟨rfl, rfl⟩ rfl (i_rcv_v ho rfl (by decide)) rfl ?_
    exact H.mono (fun v h2 q => by obtain ⟨r, rfl, q⟩ := q; exact q)
  · refine g_sw (t := 144) hk rfl (by rw [hx]; rfl) ?_
    have H := H.2.2.2.2.2.2.2.2.2.1 hx
    refine g_s1 (pc2 := 145) hk rfl rfl rfl rfl rfl ?_
    obtain ⟨v25, ev25, H⟩ := H
    refine g_step (pc2 := 148) hk rfl rfl rfl (s_get ev25) ?_
    obtain ⟨ho, H⟩ := H
    refine g_call hk rfl rfl i_k87.1 ⟨rfl, rfl⟩ rfl (i_rcv_v ho rfl (by decide)) rfl ?_
    exact H.mono (fun v h2 q => by obtain ⟨r, rfl, q⟩ := q; exact q)
  · refine g_sw (t := 144) hk rfl (by rw [hx]; rfl) ?_
    have H := H.2.2.2.2.2.2.2.2.2.2.1 hx
    refine g_s1 (pc2 := 145) hk rfl rfl rfl rfl rfl ?_
    obtain ⟨v28, ev28, H⟩ := H
    refine g_step (pc2 := 148) hk rfl rfl rfl (s_get ev28) ?_
    obtain ⟨ho, H⟩ := H
    refine g_call hk rfl rfl i_k87.1 ⟨rfl, rfl⟩ rfl (i_rcv_v ho rfl (by decide)) rfl ?_
    exact H.mono (fun v h2 q => by obtain ⟨r, rfl, q⟩ := q; exact q)
  · refine g_sw (t := 144) hk rfl (by rw [hx]; rfl) ?_
    have H := H.2.2.2.2.2.2.2.2.2.2.2.1 hx
    refine g_s1 (pc2 := 145) hk rfl rfl rfl rfl rfl ?_
    obtain ⟨v31, ev31, H⟩ := H
    refine g_step (pc2 := 148) hk rfl rfl rfl (s_get ev31) ?_
    obtain ⟨ho, H⟩ := H
    refine g_call hk rfl rfl i_k87.1 ⟨rfl, rfl⟩ rfl (i_rcv_v ho rfl (by decide)) rfl ?_
    exact H.mono (fun v h2 q => by obtain ⟨r, rfl, q⟩ := q; exact q)
  · refine g_sw (t := 105) hk rfl (by rw [hx]; rfl) ?_
    have H := H.2.2.2.2.2.2.2.2.2.2.2.2.1 hx
    refine g_s1 (pc2 := 106) hk rfl rfl rfl rfl rfl ?_
    refine g_s1 (pc2 := 108) (st2 := [.int (21 : Int32), .ref x0]) hk rfl rfl rfl rfl rfl ?_
    refine g_s1 (pc2 := 109) hk rfl rfl rfl rfl rfl ?_
    obtain ⟨v34, ev34, H⟩ := H
    refine g_step (pc2 := 112) hk rfl rfl rfl (s_get ev34) ?_
    obtain ⟨v35, ev35, H⟩ := H
    refine g_step (pc2 := 115) hk rfl rfl rfl (s_get ev35) ?_
    obtain ⟨v36, ev36, H⟩ := H
    refine g_step (pc2 := 118) hk rfl rfl rfl (s_get ev36) ?_
    obtain ⟨ho, H⟩ := H
    refine g_call hk rfl rfl i_k113.1 ⟨rfl, rfl⟩ rfl (i_rcv_v ho rfl (by decide)) rfl ?_
    exact H.mono (fun v h2 q => by obtain ⟨r, rfl, q⟩ := q; exact q)
  · refine g_sw (t := 144) hk rfl (by rw [hx]; rfl) ?_
    have H := H.2.2.2.2.2.2.2.2.2.2.2.2.2.1 hx
    refine g_s1 (pc2 := 145) hk rfl rfl rfl rfl rfl ?_
    obtain ⟨v39, ev39, H⟩ := H
    refine g_step (pc2 := 148) hk rfl rfl rfl (s_get ev39) ?_
    obtain ⟨ho, H⟩ := H
    refine g_call hk rfl rfl i_k87.1 ⟨rfl, rfl⟩ rfl (i_rcv_v ho rfl (by decide)) rfl ?_
    exact H.mono (fun v h2 q => by obtain ⟨r, rfl, q⟩ := q; exact q)
  · refine g_sw (t := 122) hk rfl (by rw [hx]; rfl) ?_
    have H := H.2.2.2.2.2.2.2.2.2.2.2.2.2.2.1 hx
    refine g_s1 (pc2 := 123) hk rfl rfl rfl rfl rfl ?_
    refine g_s1 (pc2 := 125) (st2 := [.int (10 : Int32), .ref x0]) hk rfl rfl rfl rfl rfl ?_
    refine g_s1 (pc2 := 126) hk rfl rfl rfl rfl rfl ?_
    obtain ⟨v42, ev42, H⟩ := H
    refine g_step (pc2 := 129) hk rfl rfl rfl (s_get ev42) ?_
    obtain ⟨v43, ev43, H⟩ := H
    refine g_step (pc2 := 132) hk rfl rfl rfl (s_get ev43) ?_
    obtain ⟨v44, ev44, H⟩ := H
    refine g_step (pc2 := 135) hk rfl rfl rfl (s_get ev44) ?_
    obtain ⟨ho, H⟩ := H
    refine g_call hk rfl rfl i_k113.1 ⟨rfl, rfl⟩ rfl (i_rcv_v ho rfl (by decide)) rfl ?_
    exact H.mono (fun v h2 q => by obtain ⟨r, rfl, q⟩ := q; exact q)
  · refine g_sw (t := 139) hk rfl (by rw [hx]; rfl) ?_
    have H := H.2.2.2.2.2.2.2.2.2.2.2.2.2.2.2 hx
    refine g_s1 (pc2 := 140) hk rfl rfl rfl rfl rfl ?_
    obtain ⟨ho, H⟩ := H
    refine g_call hk rfl rfl i_k115.1 ⟨rfl, rfl⟩ rfl (i_rcv_v ho rfl (by decide)) rfl ?_
    exact H.mono (fun v h2 q => by obtain ⟨r, rfl, q⟩ := q; exact q)
theorem b105_84 {x0 : Nat} {s0 : Int32} {h : iH} {Q : Option Value → iH → Prop} (H : (i_ret (some .boolean) s0 = true ∧ Q (some (.int s0)) h)) : i_P i_MT i_AT L xs 105 84 [some (.ref x0)] [.int s0] h 0 0 Q := by
  have hk := i_k105
  exact g_ireturn hk rfl (by decide) (by decide) H.1 H.2
theorem b105_89 {x0 : Nat} {s0 : Int32} {h : iH} {Q : Option Value → iH → Prop} (H : (i_ret (some .boolean) s0 = true ∧ Q (some (.int s0)) h)) : i_P i_MT i_AT L xs 105 89 [some (.ref x0)] [.int s0] h 0 0 Q := by
  have hk := i_k105
  exact g_ireturn hk rfl (by decide) (by decide) H.1 H.2
theorem b105_94 {x0 : Nat} {s0 : Int32} {h : iH} {Q : Option Value → iH → Prop} (H : (i_ret (some .boolean) s0 = true ∧ Q (some (.int s0)) h)) : i_P i_MT i_AT L xs 105 94 [some (.ref x0)] [.int s0] h 0 0 Q := by
  have hk := i_k105
  exact g_ireturn hk rfl (by decide) (by decide) H.1 H.2
theorem b105_99 {x0 : Nat} {s0 : Int32} {h : iH} {Q : Option Value → iH → Prop} (H : (i_ret (some .boolean) s0 = true ∧ Q (some (.int s0)) h)) : i_P i_MT i_AT L xs 105 99 [some (.ref x0)] [.int s0] h 0 0 Q := by
  have hk := i_k105
  exact g_ireturn hk rfl (by decide) (by decide) H.1 H.2
theorem b105_104 {x0 : Nat} {s0 : Int32} {h : iH} {Q : Option Value → iH → Prop} (H : (i_ret (some .boolean) s0 = true ∧ Q (some (.int s0)) h)) : i_P i_MT i_AT L xs 105 104 [some (.ref x0)] [.int s0] h 0 0 Q := by
  have hk := i_k105
  exact g_ireturn hk rfl (by decide) (by decide) H.1 H.2
theorem b105_121 {x0 : Nat} {s0 : Int32} {h : iH} {Q : Option Value → iH → Prop} (H : (i_ret (some .boolean) s0 = true ∧ Q (some (.int s0)) h)) : i_P i_MT i_AT L xs 105 121 [some (.ref x0)] [.int s0] h 0 0 Q := by
  have hk := i_k105
  exact g_ireturn hk rfl (by decide) (by decide) H.1 H.2
theorem b105_138 {x0 : Nat} {s0 : Int32} {h : iH} {Q : Option Value → iH → Prop} (H : (i_ret (some .boolean) s0 = true ∧ Q (some (.int s0)) h)) : i_P i_MT i_AT L xs 105 138 [some (.ref x0)] [.int s0] h 0 0 Q := by
  have hk := i_k105
  exact g_ireturn hk rfl (by decide) (by decide) H.1 H.2
theorem b105_143 {x0 : Nat} {s0 : Int32} {h : iH} {Q : Option Value → iH → Prop} (H : (i_ret (some .boolean) s0 = true ∧ Q (some (.int s0)) h)) : i_P i_MT i_AT L xs 105 143 [some (.ref x0)] [.int s0] h 0 0 Q := by
  have hk := i_k105
  exact g_ireturn hk rfl (by decide) (by decide) H.1 H.2
theorem b105_151 {x0 : Nat} {s0 : Int32} {h : iH} {Q : Option Value → iH → Prop} (H : (i_ret (some .boolean) s0 = true ∧ Q (some (.int s0)) h)) : i_P i_MT i_AT L xs 105 151 [some (.ref x0)] [.int s0] h 0 0 Q := by
  have hk := i_k105
  exact g_ireturn hk rfl (by decide) (by decide) H.1 H.2
/-! StillTown$TownReader.readCell(II)Z -/
theorem e106 {x0 : Nat} {x1 : Int32} {x2 : Int32} {h : iH} {Q : Option Value → iH → Prop} (H : i_P i_MT i_AT L xs 106 0 [some (.ref x0), some (.int x1), some (.int x2)] [] h 0 0 Q) : i_C i_MT i_AT L xs 106 [.ref x0, .int x1, .int x2] h Q := ⟨i_m106, i_k106.1, Nat.le_of_ble_eq_true rfl, H⟩
theorem b106_0 {x0 : Nat} {x1 : Int32} {x2 : Int32} {h : iH} {Q : Option Value → iH → Prop} (H : (∃ v1 : Nat, i_fld h x0 9 0 = some (.ref v1) ∧ (∃ v2 : Nat, i_fld h x0 9 1 = some (.ref v2) ∧ (∃ v3 : Int32, i_fld h v2 8 0 = some (.int v3) ∧ (i_obj? h v1 7 ∧ i_C i_MT i_AT L xs 95 [.ref v1, .int x1, .int (v3 - (1 : Int32))] h (fun v h4 => ∃ r5 : Int32, v = some (.int r5) ∧ i_P i_MT i_AT L xs 106 17 [some (.ref x0), some (.int x1), some (.int x2)] [.int r5] h4 0 0 Q)))))) : i_P i_MT i_AT L xs 106 0 [some (.ref x0), some (.int x1), some (.int x2)] [] h 0 0 Q := by
  have hk := i_k106
  refine g_s1 (pc2 := 1) hk rfl rfl rfl rfl rfl ?_
  obtain ⟨v1, ev1, H⟩ := H
  refine g_step (pc2 := 4) hk rfl rfl rfl (s_get ev1) ?_
  refine g_s1 (pc2 := 5) hk rfl rfl rfl rfl rfl ?_
  refine g_s1 (pc2 := 6) hk rfl rfl rfl rfl rfl ?_
  obtain ⟨v2, ev2, H⟩ := H
  refine g_step (pc2 := 9) hk rfl rfl rfl (s_get ev2) ?_
  obtain ⟨v3, ev3, H⟩ := H
  refine g_step (pc2 := 12) hk rfl rfl rfl (s_get ev3) ?_
  refine g_s1 (pc2 := 13) (st2 := [.int (1 : Int32), .int v3, .int x1, .ref v1]) hk rfl rfl rfl rfl rfl ?_
  refine g_s1 (pc2 := 14) hk rfl rfl rfl rfl rfl ?_
  obtain ⟨ho, H⟩ := H
  refine g_call hk rfl rfl i_k95.1 ⟨rfl, rfl⟩ rfl (i_rcv_v ho rfl (by decide)) rfl ?_
  exact H.mono (fun v h2 q => by obtain ⟨r, rfl, q⟩ := q; exact q)
theorem b106_17 {x0 : Nat} {x1 : Int32} {x2 : Int32} {s0 : Int32} {h : iH} {Q : Option Value → iH → Prop} (H : ((¬ s0 = 0 → (∃ v1 : Nat, i_fld h x0 9 0 = some (.ref v1) ∧ (∃ v2 : Int32, i_fld h v1 7 8 = some (.int v2) ∧ ((∃ o, i_fld h x0 9 2 = some o) ∧ i_P i_MT i_AT L xs 106 33 [some (.ref x0), some (.int x1), some (.int x2)] [] (i_sf h x0 2 (.int v2)) 0 0 Q)))) ∧ (¬ (¬ s0 = 0) → Q (some (.int 0)) h))) : i_P i_MT i_AT L xs 106 17 [some (.ref x0), some (.int x1), some (.int x2)] [.int s0] h 0 0 Q := by
  have hk := i_k106
  refine g_if_ne hk rfl (fun hc => ?_) (fun hc => ?_)
  · have H := H.1 hc
    refine g_s1 (pc2 := 23) hk rfl rfl rfl rfl rfl ?_
    refine g_s1 (pc2 := 24) hk rfl rfl rfl rfl rfl ?_
    obtain ⟨v1, ev1, H⟩ := H
    refine g_step (pc2 := 27) hk rfl rfl rfl (s_get ev1) ?_
    obtain ⟨v2, ev2, H⟩ := H
    refine g_step (pc2 := 30) hk rfl rfl rfl (s_get ev2) ?_
    obtain ⟨⟨o, ho⟩, H⟩ := H
    refine g_step (pc2 := 33) hk rfl rfl rfl (s_put ho rfl) ?_
    exact H
  · have H := H.2 hc
    refine g_s1 (pc2 := 21) (st2 := [.int (0 : Int32)]) hk rfl rfl rfl rfl rfl ?_
    exact g_ireturn hk rfl (by decide) (by decide) rfl H
theorem b106_33 {x0 : Nat} {x1 : Int32} {x2 : Int32} {h : iH} {Q : Option Value → iH → Prop} (H : (∃ v1 : Nat, i_fld h x0 9 0 = some (.ref v1) ∧ (∃ v2 : Nat, i_fld h x0 9 1 = some (.ref v2) ∧ (∃ v3 : Int32, i_fld h v2 8 1 = some (.int v3) ∧ (i_obj? h v1 7 ∧ i_C i_MT i_AT L xs 95 [.ref v1, .int x2, .int (v3 - (1 : Int32))] h (fun v h4 => ∃ r5 : Int32, v = some (.int r5) ∧ i_P i_MT i_AT L xs 106 50 [some (.ref x0), some (.int x1), some (.int x2)] [.int r5] h4 0 0 Q)))))) : i_P i_MT i_AT L xs 106 33 [some (.ref x0), some (.int x1), some (.int x2)] [] h 0 0 Q := by
  have hk := i_k106
  refine g_s1 (pc2 := 34) hk rfl rfl rfl rfl rfl ?_
  obtain ⟨v1, ev1, H⟩ := H
  refine g_step (pc2 := 37) hk rfl rfl rfl (s_get ev1) ?_
  refine g_s1 (pc2 := 38) hk rfl rfl rfl rfl rfl ?_
  refine g_s1 (pc2 := 39) hk rfl rfl rfl rfl rfl ?_
  obtain ⟨v2, ev2, H⟩ := H
  refine g_step (pc2 := 42) hk rfl rfl rfl (s_get ev2) ?_
  obtain ⟨v3, ev3, H⟩ := H
  refine g_step (pc2 := 45) hk rfl rfl rfl (s_get ev3) ?_
  refine g_s1 (pc2 := 46) (st2 := [.int (1 : Int32), .int v3, .int x2, .ref v1]) hk rfl rfl rfl rfl rfl ?_
  refine g_s1 (pc2 := 47) hk rfl rfl rfl rfl rfl ?_
  obtain ⟨ho, H⟩ := H
  refine g_call hk rfl rfl i_k95.1 ⟨rfl, rfl⟩ rfl (i_rcv_v ho rfl (by decide)) rfl ?_
  exact H.mono (fun v h2 q => by obtain ⟨r, rfl, q⟩ := q; exact q)
theorem b106_50 {x0 : Nat} {x1 : Int32} {x2 : Int32} {s0 : Int32} {h : iH} {Q : Option Value → iH → Prop} (H : ((¬ s0 = 0 → (∃ v1 : Nat, i_fld h x0 9 0 = some (.ref v1) ∧ (∃ v2 : Int32, i_fld h v1 7 8 = some (.int v2) ∧ ((∃ o, i_fld h x0 9 3 = some o) ∧ i_P i_MT i_AT L xs 106 66 [some (.ref x0), some (.int x1), some (.int x2)] [] (i_sf h x0 3 (.int v2)) 0 0 Q)))) ∧ (¬ (¬ s0 = 0) → Q (some (.int 0)) h))) : i_P i_MT i_AT L xs 106 50 [some (.ref x0), some (.int x1), some (.int x2)] [.int s0] h 0 0 Q := by
  have hk := i_k106
  refine g_if_ne hk rfl (fun hc => ?_) (fun hc => ?_)
  · have H := H.1 hc
    refine g_s1 (pc2 := 56) hk rfl rfl rfl rfl rfl ?_
    refine g_s1 (pc2 := 57) hk rfl rfl rfl rfl rfl ?_
    obtain ⟨v1, ev1, H⟩ := H
    refine g_step (pc2 := 60) hk rfl rfl rfl (s_get ev1) ?_
    obtain ⟨v2, ev2, H⟩ := H
    refine g_step (pc2 := 63) hk rfl rfl rfl (s_get ev2) ?_
    obtain ⟨⟨o, ho⟩, H⟩ := H
    refine g_step (pc2 := 66) hk rfl rfl rfl (s_put ho rfl) ?_
    exact H
  · have H := H.2 hc
    refine g_s1 (pc2 := 54) (st2 := [.int (0 : Int32)]) hk rfl rfl rfl rfl rfl ?_
    exact g_ireturn hk rfl (by decide) (by decide) rfl H
theorem b106_66 {x0 : Nat} {x1 : Int32} {x2 : Int32} {h : iH} {Q : Option Value → iH → Prop} (H : Q (some (.int 1)) h) : i_P i_MT i_AT L xs 106 66 [some (.ref x0), some (.int x1), some (.int x2)] [] h 0 0 Q := by
  have hk := i_k106
  refine g_s1 (pc2 := 67) (st2 := [.int (1 : Int32)]) hk rfl rfl rfl rfl rfl ?_
  exact g_ireturn hk rfl (by decide) (by decide) rfl H
/-! StillTown$TownReader.cell()I -/
theorem e107 {x0 : Nat} {h : iH} {Q : Option Value → iH → Prop} (H : i_P i_MT i_AT L xs 107 0 [some (.ref x0)] [] h 0 0 Q) : i_C i_MT i_AT L xs 107 [.ref x0] h Q := ⟨i_m107, i_k107.1, Nat.le_of_ble_eq_true rfl, H⟩
theorem b107_0 {x0 : Nat} {h : iH} {Q : Option Value → iH → Prop} (H : (∃ v1 : Int32, i_fld h x0 9 3 = some (.int v1) ∧ (∃ v2 : Nat, i_fld h x0 9 1 = some (.ref v2) ∧ (∃ v3 : Int32, i_fld h v2 8 0 = some (.int v3) ∧ (∃ v4 : Int32, i_fld h x0 9 2 = some (.int v4) ∧ Q (some (.int ((v1 * v3) + v4))) h))))) : i_P i_MT i_AT L xs 107 0 [some (.ref x0)] [] h 0 0 Q := by
  have hk := i_k107
  refine g_s1 (pc2 := 1) hk rfl rfl rfl rfl rfl ?_
  obtain ⟨v1, ev1, H⟩ := H
  refine g_step (pc2 := 4) hk rfl rfl rfl (s_get ev1) ?_
  refine g_s1 (pc2 := 5) hk rfl rfl rfl rfl rfl ?_
  obtain ⟨v2, ev2, H⟩ := H
  refine g_step (pc2 := 8) hk rfl rfl rfl (s_get ev2) ?_
  obtain ⟨v3, ev3, H⟩ := H
  refine g_step (pc2 := 11) hk rfl rfl rfl (s_get ev3) ?_
  refine g_s1 (pc2 := 12) hk rfl rfl rfl rfl rfl ?_
  refine g_s1 (pc2 := 13) hk rfl rfl rfl rfl rfl ?_
  obtain ⟨v4, ev4, H⟩ := H
  refine g_step (pc2 := 16) hk rfl rfl rfl (s_get ev4) ?_
  refine g_s1 (pc2 := 17) hk rfl rfl rfl rfl rfl ?_
  exact g_ireturn hk rfl (by decide) (by decide) rfl H
/-! StillTown$TownReader.readWall()Z -/
theorem e108 {x0 : Nat} {h : iH} {Q : Option Value → iH → Prop} (H : i_P i_MT i_AT L xs 108 0 [some (.ref x0), none, none, none, none, none, none] [] h 0 0 Q) : i_C i_MT i_AT L xs 108 [.ref x0] h Q := ⟨i_m108, i_k108.1, Nat.le_of_ble_eq_true rfl, H⟩
theorem b108_0 {x0 : Nat} {x1 : Option Value} {x2 : Option Value} {x3 : Option Value} {x4 : Option Value} {x5 : Option Value} {x6 : Option Value} {h : iH} {Q : Option Value → iH → Prop} (H : (i_obj? h x0 9 ∧ i_C i_MT i_AT L xs 106 [.ref x0, .int (0 : Int32), .int (0 : Int32)] h (fun v h1 => ∃ r2 : Int32, v = some (.int r2) ∧ i_P i_MT i_AT L xs 108 6 [some (.ref x0), x1, x2, x3, x4, x5, x6] [.int r2] h1 0 0 Q))) : i_P i_MT i_AT L xs 108 0 [some (.ref x0), x1, x2, x3, x4, x5, x6] [] h 0 0 Q := by
  have hk := i_k108
  refine g_s1 (pc2 := 1) hk rfl rfl rfl rfl rfl ?_
  refine g_s1 (pc2 := 2) (st2 := [.int (0 : Int32), .ref x0]) hk rfl rfl rfl rfl rfl ?_
  refine g_s1 (pc2 := 3) (st2 := [.int (0 : Int32), .int (0 : Int32), .ref x0]) hk rfl rfl rfl rfl rfl ?_
  obtain ⟨ho, H⟩ := H
  refine g_call hk rfl rfl i_k106.1 ⟨rfl, rfl⟩ rfl (i_rcv_v ho rfl (by decide)) rfl ?_
  exact H.mono (fun v h2 q => by obtain ⟨r, rfl, q⟩ := q; exact q)
theorem b108_6 {x0 : Nat} {x1 : Option Value} {x2 : Option Value} {x3 : Option Value} {x4 : Option Value} {x5 : Option Value} {x6 : Option Value} {s0 : Int32} {h : iH} {Q : Option Value → iH → Prop} (H : ((¬ s0 = 0 → (∃ v1 : Int32, i_fld h x0 9 2 = some (.int v1) ∧ (∃ v2 : Int32, i_fld h x0 9 3 = some (.int v2) ∧ (∃ v3 : Nat, i_fld h x0 9 0 = some (.ref v3) ∧ (i_obj? h v3 7 ∧ i_C i_MT i_AT L xs 91 [.ref v3, .int (10 : Int32)] h (fun v h4 => ∃ r5 : Int32, v = some (.int r5) ∧ i_P i_MT i_AT L xs 108 30 [some (.ref x0), some (.int v1), some (.int v2), x3, x4, x5, x6] [.int r5] h4 0 0 Q)))))) ∧ (¬ (¬ s0 = 0) → Q (some (.int 0)) h))) : i_P i_MT i_AT L xs 108 6 [some (.ref x0), x1, x2, x3, x4, x5, x6] [.int s0] h 0 0 Q := by
  have hk := i_k108
  refine g_if_ne hk rfl (fun hc => ?_) (fun hc => ?_)
  · have H := H.1 hc
    refine g_s1 (pc2 := 12) hk rfl rfl rfl rfl rfl ?_
    obtain ⟨v1, ev1, H⟩ := H
    refine g_step (pc2 := 15) hk rfl rfl rfl (s_get ev1) ?_
    refine g_s1 (pc2 := 16) (lo2 := [some (.ref x0), some (.int v1), x2, x3, x4, x5, x6]) hk rfl rfl rfl rfl rfl ?_
    refine g_s1 (pc2 := 17) hk rfl rfl rfl rfl rfl ?_
    obtain ⟨v2, ev2, H⟩ := H
    refine g_step (pc2 := 20) hk rfl rfl rfl (s_get ev2) ?_
    refine g_s1 (pc2 := 21) (lo2 := [some (.ref x0), some (.int v1), some (.int v2), x3, x4, x5, x6]) hk rfl rfl rfl rfl rfl ?_
    refine g_s1 (pc2 := 22) hk rfl rfl rfl rfl rfl ?_
    obtain ⟨v3, ev3, H⟩ := H
    refine g_step (pc2 := 25) hk rfl rfl rfl (s_get ev3) ?_
    refine g_s1 (pc2 := 27) (st2 := [.int (10 : Int32), .ref v3]) hk rfl rfl rfl rfl rfl ?_
    obtain ⟨ho, H⟩ := H
    refine g_call hk rfl rfl i_k91.1 ⟨rfl, rfl⟩ rfl (i_rcv_v ho rfl (by decide)) rfl ?_
    exact H.mono (fun v h2 q => by obtain ⟨r, rfl, q⟩ := q; exact q)
  · have H := H.2 hc
    refine g_s1 (pc2 := 10) (st2 := [.int (0 : Int32)]) hk rfl rfl rfl rfl rfl ?_
    exact g_ireturn hk rfl (by decide) (by decide) rfl H
theorem b108_30 {x0 : Nat} {x1 : Int32} {x2 : Int32} {x3 : Option Value} {x4 : Option Value} {x5 : Option Value} {x6 : Option Value} {s0 : Int32} {h : iH} {Q : Option Value → iH → Prop} (H : ((s0 = 0 → i_P i_MT i_AT L xs 108 42 [some (.ref x0), some (.int x1), some (.int x2), x3, x4, x5, x6] [] h 0 0 Q) ∧ (¬ (s0 = 0) → (i_obj? h x0 9 ∧ i_C i_MT i_AT L xs 106 [.ref x0, .int x1, .int x2] h (fun v h1 => ∃ r2 : Int32, v = some (.int r2) ∧ i_P i_MT i_AT L xs 108 39 [some (.ref x0), some (.int x1), some (.int x2), x3, x4, x5, x6] [.int r2] h1 0 0 Q))))) : i_P i_MT i_AT L xs 108 30 [some (.ref x0), some (.int x1), some (.int x2), x3, x4, x5, x6] [.int s0] h 0 0 Q := by
  have hk := i_k108
  refine g_if_eq hk rfl (fun hc => ?_) (fun hc => ?_)
  · have H := H.1 hc
    exact H
  · have H := H.2 hc
    refine g_s1 (pc2 := 34) hk rfl rfl rfl rfl rfl ?_
    refine g_s1 (pc2 := 35) hk rfl rfl rfl rfl rfl ?_
    refine g_s1 (pc2 := 36) hk rfl rfl rfl rfl rfl ?_
    obtain ⟨ho, H⟩ := H
    refine g_call hk rfl rfl i_k106.1 ⟨rfl, rfl⟩ rfl (i_rcv_v ho rfl (by decide)) rfl ?_
    exact H.mono (fun v h2 q => by obtain ⟨r, rfl, q⟩ := q; exact q)
theorem b108_39 {x0 : Nat} {x1 : Int32} {x2 : Int32} {x3 : Option Value} {x4 : Option Value} {x5 : Option Value} {x6 : Option Value} {s0 : Int32} {h : iH} {Q : Option Value → iH → Prop} (H : ((¬ s0 = 0 → i_P i_MT i_AT L xs 108 49 [some (.ref x0), some (.int x1), some (.int x2), some (.long (0 : Int64)), none, some (.int x2), x6] [] h 0 0 Q) ∧ (¬ (¬ s0 = 0) → i_P i_MT i_AT L xs 108 42 [some (.ref x0), some (.int x1), some (.int x2), x3, x4, x5, x6] [] h 0 0 Q))) : i_P i_MT i_AT L xs 108 39 [some (.ref x0), some (.int x1), some (.int x2), x3, x4, x5, x6] [.int s0] h 0 0 Q := by
  have hk := i_k108
  refine g_if_ne hk rfl (fun hc => ?_) (fun hc => ?_)
  · have H := H.1 hc
    refine g_s1 (pc2 := 45) (st2 := [.long (0 : Int64)]) hk rfl rfl rfl rfl rfl ?_
    refine g_s1 (pc2 := 46) (lo2 := [some (.ref x0), some (.int x1), some (.int x2), some (.long (0 : Int64)), none, x5, x6]) hk rfl rfl rfl rfl rfl ?_
    refine g_s1 (pc2 := 47) hk rfl rfl rfl rfl rfl ?_
    refine g_s1 (pc2 := 49) (lo2 := [some (.ref x0), some (.int x1), some (.int x2), some (.long (0 : Int64)), none, some (.int x2), x6]) hk rfl rfl rfl rfl rfl ?_
    exact H
  · have H := H.2 hc
    exact H
theorem b108_42 {x0 : Nat} {x1 : Int32} {x2 : Int32} {x3 : Option Value} {x4 : Option Value} {x5 : Option Value} {x6 : Option Value} {h : iH} {Q : Option Value → iH → Prop} (H : Q (some (.int 0)) h) : i_P i_MT i_AT L xs 108 42 [some (.ref x0), some (.int x1), some (.int x2), x3, x4, x5, x6] [] h 0 0 Q := by
  have hk := i_k108
  refine g_s1 (pc2 := 43) (st2 := [.int (0 : Int32)]) hk rfl rfl rfl rfl rfl ?_
  exact g_ireturn hk rfl (by decide) (by decide) rfl H
theorem b108_49 {x0 : Nat} {x1 : Int32} {x2 : Int32} {x3 : Int64} {x5 : Int32} {x6 : Option Value} {h : iH} {Q : Option Value → iH → Prop} (H : (∃ v1 : Int32, i_fld h x0 9 3 = some (.int v1) ∧ ((v1 < x5 → (∃ v2 : Nat, i_fld h x0 9 1 = some (.ref v2) ∧ (∃ v3 : Int64, i_fld h v2 8 3 = some (.long v3) ∧ ((¬ (lg_cmp (x3 &&& v3) (0 : Int64)) = 0 → i_P i_MT i_AT L xs 108 139 [some (.ref x0), some (.int x1), some (.int x2), some (.long x3), none, some (.int x5), x6] [] h 0 0 Q) ∧ (¬ (¬ (lg_cmp (x3 &&& v3) (0 : Int64)) = 0) → (∃ v4 : Nat, i_fld h x0 9 1 = some (.ref v4) ∧ (i_obj? h v4 8 ∧ i_C i_MT i_AT L xs 100 [.ref v4, .long x3] h (fun v h5 => ∃ r6 : Int32, v = some (.int r6) ∧ i_P i_MT i_AT L xs 108 122 [some (.ref x0), some (.int x1), some (.int x2), some (.long x3), none, some (.int x5), x6] [.int r6] h5 0 0 Q)))))))) ∧ (¬ (v1 < x5) → i_P i_MT i_AT L xs 108 61 [some (.ref x0), some (.int x1), some (.int x2), some (.long x3), none, some (.int x5), some (.int x1)] [] h 0 0 Q)))) : i_P i_MT i_AT L xs 108 49 [some (.ref x0), some (.int x1), some (.int x2), some (.long x3), none, some (.int x5), x6] [] h 0 0 Q := by
  have hk := i_k108
  refine g_s1 (pc2 := 51) hk rfl rfl rfl rfl rfl ?_
  refine g_s1 (pc2 := 52) hk rfl rfl rfl rfl rfl ?_
  obtain ⟨v1, ev1, H⟩ := H
  refine g_step (pc2 := 55) hk rfl rfl rfl (s_get ev1) ?_
  refine g_icmp_gt hk rfl (fun hc => ?_) (fun hc => ?_)
  · have H := H.1 hc
    refine g_s1 (pc2 := 101) hk rfl rfl rfl rfl rfl ?_
    refine g_s1 (pc2 := 102) hk rfl rfl rfl rfl rfl ?_
    obtain ⟨v2, ev2, H⟩ := H
    refine g_step (pc2 := 105) hk rfl rfl rfl (s_get ev2) ?_
    obtain ⟨v3, ev3, H⟩ := H
    refine g_step (pc2 := 108) hk rfl rfl rfl (s_get ev3) ?_
    refine g_s1 (pc2 := 109) hk rfl rfl rfl rfl rfl ?_
    refine g_s1 (pc2 := 110) (st2 := [.long (0 : Int64), .long (x3 &&& v3)]) hk rfl rfl rfl rfl rfl ?_
    refine g_s1 (pc2 := 111) hk rfl rfl rfl rfl rfl ?_
    refine g_if_ne hk rfl (fun hc => ?_) (fun hc => ?_)
    · have H := H.1 hc
      exact H
    · have H := H.2 hc
      refine g_s1 (pc2 := 115) hk rfl rfl rfl rfl rfl ?_
      obtain ⟨v4, ev4, H⟩ := H
      refine g_step (pc2 := 118) hk rfl rfl rfl (s_get ev4) ?_
      refine g_s1 (pc2 := 119) hk rfl rfl rfl rfl rfl ?_
      obtain ⟨ho, H⟩ := H
      refine g_call hk rfl rfl i_k100.1 ⟨rfl, rfl⟩ rfl (i_rcv_v ho rfl (by decide)) rfl ?_
      exact H.mono (fun v h2 q => by obtain ⟨r, rfl, q⟩ := q; exact q)
  · have H := H.2 hc
    refine g_s1 (pc2 := 59) hk rfl rfl rfl rfl rfl ?_
    refine g_s1 (pc2 := 61) (lo2 := [some (.ref x0), some (.int x1), some (.int x2), some (.long x3), none, some (.int x5), some (.int x1)]) hk rfl rfl rfl rfl rfl ?_
    exact H
theorem b108_61 {x0 : Nat} {x1 : Int32} {x2 : Int32} {x3 : Int64} {x5 : Int32} {x6 : Int32} {h : iH} {Q : Option Value → iH → Prop} (H : (∃ v1 : Int32, i_fld h x0 9 2 = some (.int v1) ∧ ((v1 < x6 → i_P i_MT i_AT L xs 108 49 [some (.ref x0), some (.int x1), some (.int x2), some (.long x3), none, some (.int (x5 + 1)), some (.int x6)] [] h 0 0 Q) ∧ (¬ (v1 < x6) → (∃ v2 : Nat, i_fld h x0 9 1 = some (.ref v2) ∧ (∃ v3 : Int32, i_fld h v2 8 0 = some (.int v3) ∧ i_P i_MT i_AT L xs 108 61 [some (.ref x0), some (.int x1), some (.int x2), some (.long (x3 ||| ((1 : Int64) <<< (((x5 * v3) + x6).toInt64 &&& 63)))), none, some (.int x5), some (.int (x6 + 1))] [] h 0 0 Q)))))) : i_P i_MT i_AT L xs 108 61 [some (.ref x0), some (.int x1), some (.int x2), some (.long x3), none, some (.int x5), some (.int x6)] [] h 0 0 Q := by
  have hk := i_k108
  refine g_s1 (pc2 := 63) hk rfl rfl rfl rfl rfl ?_
  refine g_s1 (pc2 := 64) hk rfl rfl rfl rfl rfl ?_
  obtain ⟨v1, ev1, H⟩ := H
  refine g_step (pc2 := 67) hk rfl rfl rfl (s_get ev1) ?_
  refine g_icmp_gt hk rfl (fun hc => ?_) (fun hc => ?_)
  · have H := H.1 hc
    refine g_s1 (pc2 := 97) (lo2 := [some (.ref x0), some (.int x1), some (.int x2), some (.long x3), none, some (.int (x5 + 1)), some (.int x6)]) hk rfl rfl rfl rfl rfl ?_
    refine g_s1 (pc2 := 49) hk rfl rfl rfl rfl rfl ?_
    exact H
  · have H := H.2 hc
    refine g_s1 (pc2 := 71) hk rfl rfl rfl rfl rfl ?_
    refine g_s1 (pc2 := 72) (st2 := [.long (1 : Int64), .long x3]) hk rfl rfl rfl rfl rfl ?_
    refine g_s1 (pc2 := 74) hk rfl rfl rfl rfl rfl ?_
    refine g_s1 (pc2 := 75) hk rfl rfl rfl rfl rfl ?_
    obtain ⟨v2, ev2, H⟩ := H
    refine g_step (pc2 := 78) hk rfl rfl rfl (s_get ev2) ?_
    obtain ⟨v3, ev3, H⟩ := H
    refine g_step (pc2 := 81) hk rfl rfl rfl (s_get ev3) ?_
    refine g_s1 (pc2 := 82) hk rfl rfl rfl rfl rfl ?_
    refine g_s1 (pc2 := 84) hk rfl rfl rfl rfl rfl ?_
    refine g_s1 (pc2 := 85) hk rfl rfl rfl rfl rfl ?_
    refine g_s1 (pc2 := 86) hk rfl rfl rfl rfl rfl ?_
    refine g_s1 (pc2 := 87) hk rfl rfl rfl rfl rfl ?_
    refine g_s1 (pc2 := 88) (lo2 := [some (.ref x0), some (.int x1), some (.int x2), some (.long (x3 ||| ((1 : Int64) <<< (((x5 * v3) + x6).toInt64 &&& 63)))), none, some (.int x5), some (.int x6)]) hk rfl rfl rfl rfl rfl ?_
    refine g_s1 (pc2 := 91) (lo2 := [some (.ref x0), some (.int x1), some (.int x2), some (.long (x3 ||| ((1 : Int64) <<< (((x5 * v3) + x6).toInt64 &&& 63)))), none, some (.int x5), some (.int (x6 + 1))]) hk rfl rfl rfl rfl rfl ?_
    refine g_s1 (pc2 := 61) hk rfl rfl rfl rfl rfl ?_
    exact H
theorem b108_122 {x0 : Nat} {x1 : Int32} {x2 : Int32} {x3 : Int64} {x5 : Int32} {x6 : Option Value} {s0 : Int32} {h : iH} {Q : Option Value → iH → Prop} (H : ((¬ s0 = 0 → i_P i_MT i_AT L xs 108 139 [some (.ref x0), some (.int x1), some (.int x2), some (.long x3), none, some (.int x5), x6] [] h 0 0 Q) ∧ (¬ (¬ s0 = 0) → (∃ v1 : Nat, i_fld h x0 9 1 = some (.ref v1) ∧ (∃ v2 : Nat, i_fld h v1 8 12 = some (.ref v2) ∧ (i_obj? h v2 3 ∧ i_C i_MT i_AT L xs 36 [.ref v2, .long x3] h (fun v h3 => ∃ r4 : Int32, v = some (.int r4) ∧ i_P i_MT i_AT L xs 108 136 [some (.ref x0), some (.int x1), some (.int x2), some (.long x3), none, some (.int x5), x6] [.int r4] h3 0 0 Q))))))) : i_P i_MT i_AT L xs 108 122 [some (.ref x0), some (.int x1), some (.int x2), some (.long x3), none, some (.int x5), x6] [.int s0] h 0 0 Q := by
  have hk := i_k108
  refine g_if_ne hk rfl (fun hc => ?_) (fun hc => ?_)
  · have H := H.1 hc
    exact H
  · have H := H.2 hc
    refine g_s1 (pc2 := 126) hk rfl rfl rfl rfl rfl ?_
    obtain ⟨v1, ev1, H⟩ := H
    refine g_step (pc2 := 129) hk rfl rfl rfl (s_get ev1) ?_
    obtain ⟨v2, ev2, H⟩ := H
    refine g_step (pc2 := 132) hk rfl rfl rfl (s_get ev2) ?_
    refine g_s1 (pc2 := 133) hk rfl rfl rfl rfl rfl ?_
    obtain ⟨ho, H⟩ := H
    refine g_call hk rfl rfl i_k36.1 ⟨rfl, rfl⟩ rfl (i_rcv_v ho rfl (by decide)) rfl ?_
    exact H.mono (fun v h2 q => by obtain ⟨r, rfl, q⟩ := q; exact q)
theorem b108_136 {x0 : Nat} {x1 : Int32} {x2 : Int32} {x3 : Int64} {x5 : Int32} {x6 : Option Value} {s0 : Int32} {h : iH} {Q : Option Value → iH → Prop} (H : ((s0 = 0 → (∃ v1 : Nat, i_fld h x0 9 1 = some (.ref v1) ∧ (∃ v2 : Int64, i_fld h v1 8 2 = some (.long v2) ∧ ((∃ o, i_fld h v1 8 2 = some o) ∧ i_P i_MT i_AT L xs 108 161 [some (.ref x0), some (.int x1), some (.int x2), some (.long x3), none, some (.int x5), x6] [] (i_sf h v1 2 (.long (v2 ||| x3))) 0 0 Q)))) ∧ (¬ (s0 = 0) → i_P i_MT i_AT L xs 108 139 [some (.ref x0), some (.int x1), some (.int x2), some (.long x3), none, some (.int x5), x6] [] h 0 0 Q))) : i_P i_MT i_AT L xs 108 136 [some (.ref x0), some (.int x1), some (.int x2), some (.long x3), none, some (.int x5), x6] [.int s0] h 0 0 Q := by
  have hk := i_k108
  refine g_if_eq hk rfl (fun hc => ?_) (fun hc => ?_)
  · have H := H.1 hc
    refine g_s1 (pc2 := 149) hk rfl rfl rfl rfl rfl ?_
    obtain ⟨v1, ev1, H⟩ := H
    refine g_step (pc2 := 152) hk rfl rfl rfl (s_get ev1) ?_
    refine g_s1 (pc2 := 153) hk rfl rfl rfl rfl rfl ?_
    obtain ⟨v2, ev2, H⟩ := H
    refine g_step (pc2 := 156) hk rfl rfl rfl (s_get ev2) ?_
    refine g_s1 (pc2 := 157) hk rfl rfl rfl rfl rfl ?_
    refine g_s1 (pc2 := 158) hk rfl rfl rfl rfl rfl ?_
    obtain ⟨⟨o, ho⟩, H⟩ := H
    refine g_step (pc2 := 161) hk rfl rfl rfl (s_put ho rfl) ?_
    exact H
  · have H := H.2 hc
    exact H
theorem b108_139 {x0 : Nat} {x1 : Int32} {x2 : Int32} {x3 : Int64} {x5 : Int32} {x6 : Option Value} {h : iH} {Q : Option Value → iH → Prop} (H : (∃ v1 : Nat, i_fld h x0 9 0 = some (.ref v1) ∧ (i_obj? h v1 7 ∧ i_C i_MT i_AT L xs 86 [.ref v1, .int (5 : Int32)] h (fun v h2 => ∃ r3 : Int32, v = some (.int r3) ∧ i_P i_MT i_AT L xs 108 147 [some (.ref x0), some (.int x1), some (.int x2), some (.long x3), none, some (.int x5), x6] [.int r3] h2 0 0 Q)))) : i_P i_MT i_AT L xs 108 139 [some (.ref x0), some (.int x1), some (.int x2), some (.long x3), none, some (.int x5), x6] [] h 0 0 Q := by
  have hk := i_k108
  refine g_s1 (pc2 := 140) hk rfl rfl rfl rfl rfl ?_
  obtain ⟨v1, ev1, H⟩ := H
  refine g_step (pc2 := 143) hk rfl rfl rfl (s_get ev1) ?_
  refine g_s1 (pc2 := 144) (st2 := [.int (5 : Int32), .ref v1]) hk rfl rfl rfl rfl rfl ?_
  obtain ⟨ho, H⟩ := H
  refine g_call hk rfl rfl i_k86.1 ⟨rfl, rfl⟩ rfl (i_rcv_v ho rfl (by decide)) rfl ?_
  exact H.mono (fun v h2 q => by obtain ⟨r, rfl, q⟩ := q; exact q)
theorem b108_147 {x0 : Nat} {x1 : Int32} {x2 : Int32} {x3 : Int64} {x5 : Int32} {x6 : Option Value} {s0 : Int32} {h : iH} {Q : Option Value → iH → Prop} (H : (i_ret (some .boolean) s0 = true ∧ Q (some (.int s0)) h)) : i_P i_MT i_AT L xs 108 147 [some (.ref x0), some (.int x1), some (.int x2), some (.long x3), none, some (.int x5), x6] [.int s0] h 0 0 Q := by
  have hk := i_k108
  exact g_ireturn hk rfl (by decide) (by decide) H.1 H.2
theorem b108_161 {x0 : Nat} {x1 : Int32} {x2 : Int32} {x3 : Int64} {x5 : Int32} {x6 : Option Value} {h : iH} {Q : Option Value → iH → Prop} (H : (∃ v1 : Nat, i_fld h x0 9 0 = some (.ref v1) ∧ (i_obj? h v1 7 ∧ i_C i_MT i_AT L xs 94 [.ref v1] h (fun v h2 => ∃ r3 : Int32, v = some (.int r3) ∧ i_P i_MT i_AT L xs 108 168 [some (.ref x0), some (.int x1), some (.int x2), some (.long x3), none, some (.int x5), x6] [.int r3] h2 0 0 Q)))) : i_P i_MT i_AT L xs 108 161 [some (.ref x0), some (.int x1), some (.int x2), some (.long x3), none, some (.int x5), x6] [] h 0 0 Q := by
  have hk := i_k108
  refine g_s1 (pc2 := 162) hk rfl rfl rfl rfl rfl ?_
  obtain ⟨v1, ev1, H⟩ := H
  refine g_step (pc2 := 165) hk rfl rfl rfl (s_get ev1) ?_
  obtain ⟨ho, H⟩ := H
  refine g_call hk rfl rfl i_k94.1 ⟨rfl, rfl⟩ rfl (i_rcv_v ho rfl (by decide)) rfl ?_
  exact H.mono (fun v h2 q => by obtain ⟨r, rfl, q⟩ := q; exact q)
theorem b108_168 {x0 : Nat} {x1 : Int32} {x2 : Int32} {x3 : Int64} {x5 : Int32} {x6 : Option Value} {s0 : Int32} {h : iH} {Q : Option Value → iH → Prop} (H : (i_ret (some .boolean) s0 = true ∧ Q (some (.int s0)) h)) : i_P i_MT i_AT L xs 108 168 [some (.ref x0), some (.int x1), some (.int x2), some (.long x3), none, some (.int x5), x6] [.int s0] h 0 0 Q := by
  have hk := i_k108
  exact g_ireturn hk rfl (by decide) (by decide) H.1 H.2
/-! StillTown$TownReader.readTree()Z -/
theorem e109 {x0 : Nat} {h : iH} {Q : Option Value → iH → Prop} (H : i_P i_MT i_AT L xs 109 0 [some (.ref x0)] [] h 0 0 Q) : i_C i_MT i_AT L xs 109 [.ref x0] h Q := ⟨i_m109, i_k109.1, Nat.le_of_ble_eq_true rfl, H⟩
theorem b109_0 {x0 : Nat} {h : iH} {Q : Option Value → iH → Prop} (H : (∃ v1 : Nat, i_fld h x0 9 1 = some (.ref v1) ∧ (∃ v2 : Int64, i_fld h v1 8 3 = some (.long v2) ∧ (i_C i_MT i_AT L xs 334 [.long v2] h (fun v h3 => ∃ r4 : Int32, v = some (.int r4) ∧ i_P i_MT i_AT L xs 109 10 [some (.ref x0)] [.int r4] h3 0 0 Q))))) : i_P i_MT i_AT L xs 109 0 [some (.ref x0)] [] h 0 0 Q := by
  have hk := i_k109
  refine g_s1 (pc2 := 1) hk rfl rfl rfl rfl rfl ?_
  obtain ⟨v1, ev1, H⟩ := H
  refine g_step (pc2 := 4) hk rfl rfl rfl (s_get ev1) ?_
  obtain ⟨v2, ev2, H⟩ := H
  refine g_step (pc2 := 7) hk rfl rfl rfl (s_get ev2) ?_
  refine g_call hk rfl rfl i_k334.1 ⟨rfl, rfl⟩ rfl (i_rcv_0 rfl) rfl ?_
  exact H.mono (fun v h2 q => by obtain ⟨r, rfl, q⟩ := q; exact q)
theorem b109_10 {x0 : Nat} {s0 : Int32} {h : iH} {Q : Option Value → iH → Prop} (H : ((s0 < (8 : Int32) → (i_obj? h x0 9 ∧ i_C i_MT i_AT L xs 106 [.ref x0, .int (0 : Int32), .int (0 : Int32)] h (fun v h1 => ∃ r2 : Int32, v = some (.int r2) ∧ i_P i_MT i_AT L xs 109 31 [some (.ref x0)] [.int r2] h1 0 0 Q))) ∧ (¬ (s0 < (8 : Int32)) → (∃ v3 : Nat, i_fld h x0 9 0 = some (.ref v3) ∧ (i_obj? h v3 7 ∧ i_C i_MT i_AT L xs 86 [.ref v3, .int (6 : Int32)] h (fun v h4 => ∃ r5 : Int32, v = some (.int r5) ∧ i_P i_MT i_AT L xs 109 24 [some (.ref x0)] [.int r5] h4 0 0 Q)))))) : i_P i_MT i_AT L xs 109 10 [some (.ref x0)] [.int s0] h 0 0 Q := by
  have hk := i_k109
  refine g_s1 (pc2 := 12) (st2 := [.int (8 : Int32), .int s0]) hk rfl rfl rfl rfl rfl ?_
  refine g_icmp_lt hk rfl (fun hc => ?_) (fun hc => ?_)
  · have H := H.1 hc
    refine g_s1 (pc2 := 26) hk rfl rfl rfl rfl rfl ?_
    refine g_s1 (pc2 := 27) (st2 := [.int (0 : Int32), .ref x0]) hk rfl rfl rfl rfl rfl ?_
    refine g_s1 (pc2 := 28) (st2 := [.int (0 : Int32), .int (0 : Int32), .ref x0]) hk rfl rfl rfl rfl rfl ?_
    obtain ⟨ho, H⟩ := H
    refine g_call hk rfl rfl i_k106.1 ⟨rfl, rfl⟩ rfl (i_rcv_v ho rfl (by decide)) rfl ?_
    exact H.mono (fun v h2 q => by obtain ⟨r, rfl, q⟩ := q; exact q)
  · have H := H.2 hc
    refine g_s1 (pc2 := 16) hk rfl rfl rfl rfl rfl ?_
    obtain ⟨v3, ev3, H⟩ := H
    refine g_step (pc2 := 19) hk rfl rfl rfl (s_get ev3) ?_
    refine g_s1 (pc2 := 21) (st2 := [.int (6 : Int32), .ref v3]) hk rfl rfl rfl rfl rfl ?_
    obtain ⟨ho, H⟩ := H
    refine g_call hk rfl rfl i_k86.1 ⟨rfl, rfl⟩ rfl (i_rcv_v ho rfl (by decide)) rfl ?_
    exact H.mono (fun v h2 q => by obtain ⟨r, rfl, q⟩ := q; exact q)
theorem b109_24 {x0 : Nat} {s0 : Int32} {h : iH} {Q : Option Value → iH → Prop} (H : (i_ret (some .boolean) s0 = true ∧ Q (some (.int s0)) h)) : i_P i_MT i_AT L xs 109 24 [some (.ref x0)] [.int s0] h 0 0 Q := by
  have hk := i_k109
  exact g_ireturn hk rfl (by decide) (by decide) H.1 H.2
theorem b109_31 {x0 : Nat} {s0 : Int32} {h : iH} {Q : Option Value → iH → Prop} (H : ((¬ s0 = 0 → (∃ v1 : Nat, i_fld h x0 9 1 = some (.ref v1) ∧ (∃ v2 : Int64, i_fld h v1 8 2 = some (.long v2) ∧ (∃ v3 : Nat, i_fld h x0 9 1 = some (.ref v3) ∧ (∃ v4 : Int64, i_fld h v3 8 3 = some (.long v4) ∧ (i_obj? h x0 9 ∧ i_C i_MT i_AT L xs 107 [.ref x0] h (fun v h5 => ∃ r6 : Int32, v = some (.int r6) ∧ i_P i_MT i_AT L xs 109 55 [some (.ref x0)] [.int r6, .long (v2 ||| v4)] h5 0 0 Q))))))) ∧ (¬ (¬ s0 = 0) → Q (some (.int 0)) h))) : i_P i_MT i_AT L xs 109 31 [some (.ref x0)] [.int s0] h 0 0 Q := by
  have hk := i_k109
  refine g_if_ne hk rfl (fun hc => ?_) (fun hc => ?_)
  · have H := H.1 hc
    refine g_s1 (pc2 := 37) hk rfl rfl rfl rfl rfl ?_
    obtain ⟨v1, ev1, H⟩ := H
    refine g_step (pc2 := 40) hk rfl rfl rfl (s_get ev1) ?_
    obtain ⟨v2, ev2, H⟩ := H
    refine g_step (pc2 := 43) hk rfl rfl rfl (s_get ev2) ?_
    refine g_s1 (pc2 := 44) hk rfl rfl rfl rfl rfl ?_
    obtain ⟨v3, ev3, H⟩ := H
    refine g_step (pc2 := 47) hk rfl rfl rfl (s_get ev3) ?_
    obtain ⟨v4, ev4, H⟩ := H
    refine g_step (pc2 := 50) hk rfl rfl rfl (s_get ev4) ?_
    refine g_s1 (pc2 := 51) hk rfl rfl rfl rfl rfl ?_
    refine g_s1 (pc2 := 52) hk rfl rfl rfl rfl rfl ?_
    obtain ⟨ho, H⟩ := H
    refine g_call hk rfl rfl i_k107.1 ⟨rfl, rfl⟩ rfl (i_rcv_v ho rfl (by decide)) rfl ?_
    exact H.mono (fun v h2 q => by obtain ⟨r, rfl, q⟩ := q; exact q)
  · have H := H.2 hc
    refine g_s1 (pc2 := 35) (st2 := [.int (0 : Int32)]) hk rfl rfl rfl rfl rfl ?_
    exact g_ireturn hk rfl (by decide) (by decide) rfl H
theorem b109_55 {x0 : Nat} {s0 : Int64} {s1 : Int32} {h : iH} {Q : Option Value → iH → Prop} (H : (i_C i_MT i_AT L xs 193 [.long s0, .int s1] h (fun v h1 => ∃ r2 : Int32, v = some (.int r2) ∧ i_P i_MT i_AT L xs 109 58 [some (.ref x0)] [.int r2] h1 0 0 Q))) : i_P i_MT i_AT L xs 109 55 [some (.ref x0)] [.int s1, .long s0] h 0 0 Q := by
  have hk := i_k109
  refine g_call hk rfl rfl i_k193.1 ⟨rfl, rfl⟩ rfl (i_rcv_0 rfl) rfl ?_
  exact H.mono (fun v h2 q => by obtain ⟨r, rfl, q⟩ := q; exact q)
theorem b109_58 {x0 : Nat} {s0 : Int32} {h : iH} {Q : Option Value → iH → Prop} (H : ((s0 = 0 → (∃ v1 : Nat, i_fld h x0 9 0 = some (.ref v1) ∧ (i_obj? h v1 7 ∧ i_C i_MT i_AT L xs 91 [.ref v1, .int (12 : Int32)] h (fun v h2 => ∃ r3 : Int32, v = some (.int r3) ∧ i_P i_MT i_AT L xs 109 79 [some (.ref x0)] [.int r3] h2 0 0 Q)))) ∧ (¬ (s0 = 0) → (∃ v4 : Nat, i_fld h x0 9 0 = some (.ref v4) ∧ (i_obj? h v4 7 ∧ i_C i_MT i_AT L xs 86 [.ref v4, .int (5 : Int32)] h (fun v h5 => ∃ r6 : Int32, v = some (.int r6) ∧ i_P i_MT i_AT L xs 109 69 [some (.ref x0)] [.int r6] h5 0 0 Q)))))) : i_P i_MT i_AT L xs 109 58 [some (.ref x0)] [.int s0] h 0 0 Q := by
  have hk := i_k109
  refine g_if_eq hk rfl (fun hc => ?_) (fun hc => ?_)
  · have H := H.1 hc
    refine g_s1 (pc2 := 71) hk rfl rfl rfl rfl rfl ?_
    obtain ⟨v1, ev1, H⟩ := H
    refine g_step (pc2 := 74) hk rfl rfl rfl (s_get ev1) ?_
    refine g_s1 (pc2 := 76) (st2 := [.int (12 : Int32), .ref v1]) hk rfl rfl rfl rfl rfl ?_
    obtain ⟨ho, H⟩ := H
    refine g_call hk rfl rfl i_k91.1 ⟨rfl, rfl⟩ rfl (i_rcv_v ho rfl (by decide)) rfl ?_
    exact H.mono (fun v h2 q => by obtain ⟨r, rfl, q⟩ := q; exact q)
  · have H := H.2 hc
    refine g_s1 (pc2 := 62) hk rfl rfl rfl rfl rfl ?_
    obtain ⟨v4, ev4, H⟩ := H
    refine g_step (pc2 := 65) hk rfl rfl rfl (s_get ev4) ?_
    refine g_s1 (pc2 := 66) (st2 := [.int (5 : Int32), .ref v4]) hk rfl rfl rfl rfl rfl ?_
    obtain ⟨ho, H⟩ := H
    refine g_call hk rfl rfl i_k86.1 ⟨rfl, rfl⟩ rfl (i_rcv_v ho rfl (by decide)) rfl ?_
    exact H.mono (fun v h2 q => by obtain ⟨r, rfl, q⟩ := q; exact q)
theorem b109_69 {x0 : Nat} {s0 : Int32} {h : iH} {Q : Option Value → iH → Prop} (H : (i_ret (some .boolean) s0 = true ∧ Q (some (.int s0)) h)) : i_P i_MT i_AT L xs 109 69 [some (.ref x0)] [.int s0] h 0 0 Q := by
  have hk := i_k109
  exact g_ireturn hk rfl (by decide) (by decide) H.1 H.2
theorem b109_79 {x0 : Nat} {s0 : Int32} {h : iH} {Q : Option Value → iH → Prop} (H : ((s0 = 0 → i_P i_MT i_AT L xs 109 95 [some (.ref x0)] [] h 0 0 Q) ∧ (¬ (s0 = 0) → (∃ v1 : Nat, i_fld h x0 9 0 = some (.ref v1) ∧ (i_obj? h v1 7 ∧ i_C i_MT i_AT L xs 95 [.ref v1, .int (0 : Int32), .int (16 : Int32)] h (fun v h2 => ∃ r3 : Int32, v = some (.int r3) ∧ i_P i_MT i_AT L xs 109 92 [some (.ref x0)] [.int r3] h2 0 0 Q)))))) : i_P i_MT i_AT L xs 109 79 [some (.ref x0)] [.int s0] h 0 0 Q := by
  have hk := i_k109
  refine g_if_eq hk rfl (fun hc => ?_) (fun hc => ?_)
  · have H := H.1 hc
    exact H
  · have H := H.2 hc
    refine g_s1 (pc2 := 83) hk rfl rfl rfl rfl rfl ?_
    obtain ⟨v1, ev1, H⟩ := H
    refine g_step (pc2 := 86) hk rfl rfl rfl (s_get ev1) ?_
    refine g_s1 (pc2 := 87) (st2 := [.int (0 : Int32), .ref v1]) hk rfl rfl rfl rfl rfl ?_
    refine g_s1 (pc2 := 89) (st2 := [.int (16 : Int32), .int (0 : Int32), .ref v1]) hk rfl rfl rfl rfl rfl ?_
    obtain ⟨ho, H⟩ := H
    refine g_call hk rfl rfl i_k95.1 ⟨rfl, rfl⟩ rfl (i_rcv_v ho rfl (by decide)) rfl ?_
    exact H.mono (fun v h2 q => by obtain ⟨r, rfl, q⟩ := q; exact q)
theorem b109_92 {x0 : Nat} {s0 : Int32} {h : iH} {Q : Option Value → iH → Prop} (H : ((¬ s0 = 0 → (∃ v1 : Nat, i_fld h x0 9 1 = some (.ref v1) ∧ (∃ v2 : Int64, i_fld h v1 8 3 = some (.long v2) ∧ (i_obj? h x0 9 ∧ i_C i_MT i_AT L xs 107 [.ref x0] h (fun v h3 => ∃ r4 : Int32, v = some (.int r4) ∧ i_P i_MT i_AT L xs 109 110 [some (.ref x0)] [.int r4, .long (1 : Int64), .long v2, .ref v1] h3 0 0 Q))))) ∧ (¬ (¬ s0 = 0) → i_P i_MT i_AT L xs 109 95 [some (.ref x0)] [] h 0 0 Q))) : i_P i_MT i_AT L xs 109 92 [some (.ref x0)] [.int s0] h 0 0 Q := by
  have hk := i_k109
  refine g_if_ne hk rfl (fun hc => ?_) (fun hc => ?_)
  · have H := H.1 hc
    refine g_s1 (pc2 := 98) hk rfl rfl rfl rfl rfl ?_
    obtain ⟨v1, ev1, H⟩ := H
    refine g_step (pc2 := 101) hk rfl rfl rfl (s_get ev1) ?_
    refine g_s1 (pc2 := 102) hk rfl rfl rfl rfl rfl ?_
    obtain ⟨v2, ev2, H⟩ := H
    refine g_step (pc2 := 105) hk rfl rfl rfl (s_get ev2) ?_
    refine g_s1 (pc2 := 106) (st2 := [.long (1 : Int64), .long v2, .ref v1]) hk rfl rfl rfl rfl rfl ?_
    refine g_s1 (pc2 := 107) hk rfl rfl rfl rfl rfl ?_
    obtain ⟨ho, H⟩ := H
    refine g_call hk rfl rfl i_k107.1 ⟨rfl, rfl⟩ rfl (i_rcv_v ho rfl (by decide)) rfl ?_
    exact H.mono (fun v h2 q => by obtain ⟨r, rfl, q⟩ := q; exact q)
  · have H := H.2 hc
    exact H
theorem b109_95 {x0 : Nat} {h : iH} {Q : Option Value → iH → Prop} (H : Q (some (.int 0)) h) : i_P i_MT i_AT L xs 109 95 [some (.ref x0)] [] h 0 0 Q := by
  have hk := i_k109
  refine g_s1 (pc2 := 96) (st2 := [.int (0 : Int32)]) hk rfl rfl rfl rfl rfl ?_
  exact g_ireturn hk rfl (by decide) (by decide) rfl H
theorem b109_110 {x0 : Nat} {s0 : Nat} {s1 : Int64} {s2 : Int64} {s3 : Int32} {h : iH} {Q : Option Value → iH → Prop} (H : ((∃ o, i_fld h s0 8 3 = some o) ∧ i_P i_MT i_AT L xs 109 115 [some (.ref x0)] [] (i_sf h s0 3 (.long (s1 ||| (s2 <<< (s3.toInt64 &&& 63))))) 0 0 Q)) : i_P i_MT i_AT L xs 109 110 [some (.ref x0)] [.int s3, .long s2, .long s1, .ref s0] h 0 0 Q := by
  have hk := i_k109
  refine g_s1 (pc2 := 111) hk rfl rfl rfl rfl rfl ?_
  refine g_s1 (pc2 := 112) hk rfl rfl rfl rfl rfl ?_
  obtain ⟨⟨o, ho⟩, H⟩ := H
  refine g_step (pc2 := 115) hk rfl rfl rfl (s_put ho rfl) ?_
  exact H
theorem b109_115 {x0 : Nat} {h : iH} {Q : Option Value → iH → Prop} (H : (∃ v1 : Nat, i_fld h x0 9 1 = some (.ref v1) ∧ (∃ v2 : Nat, i_fld h v1 8 4 = some (.ref v2) ∧ (i_obj? h x0 9 ∧ i_C i_MT i_AT L xs 107 [.ref x0] h (fun v h3 => ∃ r4 : Int32, v = some (.int r4) ∧ i_P i_MT i_AT L xs 109 126 [some (.ref x0)] [.int r4, .ref v2] h3 0 0 Q))))) : i_P i_MT i_AT L xs 109 115 [some (.ref x0)] [] h 0 0 Q := by
  have hk := i_k109
  refine g_s1 (pc2 := 116) hk rfl rfl rfl rfl rfl ?_
  obtain ⟨v1, ev1, H⟩ := H
  refine g_step (pc2 := 119) hk rfl rfl rfl (s_get ev1) ?_
  obtain ⟨v2, ev2, H⟩ := H
  refine g_step (pc2 := 122) hk rfl rfl rfl (s_get ev2) ?_
  refine g_s1 (pc2 := 123) hk rfl rfl rfl rfl rfl ?_
  obtain ⟨ho, H⟩ := H
  refine g_call hk rfl rfl i_k107.1 ⟨rfl, rfl⟩ rfl (i_rcv_v ho rfl (by decide)) rfl ?_
  exact H.mono (fun v h2 q => by obtain ⟨r, rfl, q⟩ := q; exact q)
theorem b109_126 {x0 : Nat} {s0 : Nat} {s1 : Int32} {h : iH} {Q : Option Value → iH → Prop} (H : (∃ v1 : Nat, i_fld h x0 9 0 = some (.ref v1) ∧ (∃ v2 : Int32, i_fld h v1 7 8 = some (.int v2) ∧ (∃ (n3 : Nat) (f4 : Nat → Int32), i_arI h 0 s0 = some (n3, f4) ∧ ¬ (s1 < 0 ∨ n3 ≤ s1.toNatClampNeg) ∧ i_P i_MT i_AT L xs 109 134 [some (.ref x0)] [] (i_siI h s0 s1.toNatClampNeg v2) 0 0 Q)))) : i_P i_MT i_AT L xs 109 126 [some (.ref x0)] [.int s1, .ref s0] h 0 0 Q := by
  have hk := i_k109
  refine g_s1 (pc2 := 127) hk rfl rfl rfl rfl rfl ?_
  obtain ⟨v1, ev1, H⟩ := H
  refine g_step (pc2 := 130) hk rfl rfl rfl (s_get ev1) ?_
  obtain ⟨v2, ev2, H⟩ := H
  refine g_step (pc2 := 133) hk rfl rfl rfl (s_get ev2) ?_
  obtain ⟨n3, f4, ef4, hi, H⟩ := H
  refine g_step (pc2 := 134) hk rfl rfl rfl (s_aput ef4 hi) ?_
  exact H
theorem b109_134 {x0 : Nat} {h : iH} {Q : Option Value → iH → Prop} (H : (∃ v1 : Nat, i_fld h x0 9 0 = some (.ref v1) ∧ (i_obj? h v1 7 ∧ i_C i_MT i_AT L xs 94 [.ref v1] h (fun v h2 => ∃ r3 : Int32, v = some (.int r3) ∧ i_P i_MT i_AT L xs 109 141 [some (.ref x0)] [.int r3] h2 0 0 Q)))) : i_P i_MT i_AT L xs 109 134 [some (.ref x0)] [] h 0 0 Q := by
  have hk := i_k109
  refine g_s1 (pc2 := 135) hk rfl rfl rfl rfl rfl ?_
  obtain ⟨v1, ev1, H⟩ := H
  refine g_step (pc2 := 138) hk rfl rfl rfl (s_get ev1) ?_
  obtain ⟨ho, H⟩ := H
  refine g_call hk rfl rfl i_k94.1 ⟨rfl, rfl⟩ rfl (i_rcv_v ho rfl (by decide)) rfl ?_
  exact H.mono (fun v h2 q => by obtain ⟨r, rfl, q⟩ := q; exact q)
theorem b109_141 {x0 : Nat} {s0 : Int32} {h : iH} {Q : Option Value → iH → Prop} (H : (i_ret (some .boolean) s0 = true ∧ Q (some (.int s0)) h)) : i_P i_MT i_AT L xs 109 141 [some (.ref x0)] [.int s0] h 0 0 Q := by
  have hk := i_k109
  exact g_ireturn hk rfl (by decide) (by decide) H.1 H.2
/-! StillTown$TownReader.readCart()Z -/
theorem e110 {x0 : Nat} {h : iH} {Q : Option Value → iH → Prop} (H : i_P i_MT i_AT L xs 110 0 [some (.ref x0), none, none] [] h 0 0 Q) : i_C i_MT i_AT L xs 110 [.ref x0] h Q := ⟨i_m110, i_k110.1, Nat.le_of_ble_eq_true rfl, H⟩
theorem b110_0 {x0 : Nat} {x1 : Option Value} {x2 : Option Value} {h : iH} {Q : Option Value → iH → Prop} (H : (∃ v1 : Nat, i_fld h x0 9 1 = some (.ref v1) ∧ (∃ v2 : Int32, i_fld h v1 8 5 = some (.int v2) ∧ ((v2 < (4 : Int32) → (i_obj? h x0 9 ∧ i_C i_MT i_AT L xs 106 [.ref x0, .int (0 : Int32), .int (0 : Int32)] h (fun v h3 => ∃ r4 : Int32, v = some (.int r4) ∧ i_P i_MT i_AT L xs 110 29 [some (.ref x0), some (.int v2), x2] [.int r4] h3 0 0 Q))) ∧ (¬ (v2 < (4 : Int32)) → (∃ v5 : Nat, i_fld h x0 9 0 = some (.ref v5) ∧ (i_obj? h v5 7 ∧ i_C i_MT i_AT L xs 86 [.ref v5, .int (6 : Int32)] h (fun v h6 => ∃ r7 : Int32, v = some (.int r7) ∧ i_P i_MT i_AT L xs 110 22 [some (.ref x0), some (.int v2), x2] [.int r7] h6 0 0 Q)))))))) : i_P i_MT i_AT L xs 110 0 [some (.ref x0), x1, x2] [] h 0 0 Q := by
  have hk := i_k110
  refine g_s1 (pc2 := 1) hk rfl rfl rfl rfl rfl ?_
  obtain ⟨v1, ev1, H⟩ := H
  refine g_step (pc2 := 4) hk rfl rfl rfl (s_get ev1) ?_
  obtain ⟨v2, ev2, H⟩ := H
  refine g_step (pc2 := 7) hk rfl rfl rfl (s_get ev2) ?_
  refine g_s1 (pc2 := 8) (lo2 := [some (.ref x0), some (.int v2), x2]) hk rfl rfl rfl rfl rfl ?_
  refine g_s1 (pc2 := 9) hk rfl rfl rfl rfl rfl ?_
  refine g_s1 (pc2 := 10) (st2 := [.int (4 : Int32), .int v2]) hk rfl rfl rfl rfl rfl ?_
  refine g_icmp_lt hk rfl (fun hc => ?_) (fun hc => ?_)
  · have H := H.1 hc
    refine g_s1 (pc2 := 24) hk rfl rfl rfl rfl rfl ?_
    refine g_s1 (pc2 := 25) (st2 := [.int (0 : Int32), .ref x0]) hk rfl rfl rfl rfl rfl ?_
    refine g_s1 (pc2 := 26) (st2 := [.int (0 : Int32), .int (0 : Int32), .ref x0]) hk rfl rfl rfl rfl rfl ?_
    obtain ⟨ho, H⟩ := H
    refine g_call hk rfl rfl i_k106.1 ⟨rfl, rfl⟩ rfl (i_rcv_v ho rfl (by decide)) rfl ?_
    exact H.mono (fun v h2 q => by obtain ⟨r, rfl, q⟩ := q; exact q)
  · have H := H.2 hc
    refine g_s1 (pc2 := 14) hk rfl rfl rfl rfl rfl ?_
    obtain ⟨v5, ev5, H⟩ := H
    refine g_step (pc2 := 17) hk rfl rfl rfl (s_get ev5) ?_
    refine g_s1 (pc2 := 19) (st2 := [.int (6 : Int32), .ref v5]) hk rfl rfl rfl rfl rfl ?_
    obtain ⟨ho, H⟩ := H
    refine g_call hk rfl rfl i_k86.1 ⟨rfl, rfl⟩ rfl (i_rcv_v ho rfl (by decide)) rfl ?_
    exact H.mono (fun v h2 q => by obtain ⟨r, rfl, q⟩ := q; exact q)
theorem b110_22 {x0 : Nat} {x1 : Int32} {x2 : Option Value} {s0 : Int32} {h : iH} {Q : Option Value → iH → Prop} (H : (i_ret (some .boolean) s0 = true ∧ Q (some (.int s0)) h)) : i_P i_MT i_AT L xs 110 22 [some (.ref x0), some (.int x1), x2] [.int s0] h 0 0 Q := by
  have hk := i_k110
  exact g_ireturn hk rfl (by decide) (by decide) H.1 H.2
theorem b110_29 {x0 : Nat} {x1 : Int32} {x2 : Option Value} {s0 : Int32} {h : iH} {Q : Option Value → iH → Prop} (H : ((s0 = 0 → i_P i_MT i_AT L xs 110 54 [some (.ref x0), some (.int x1), x2] [] h 0 0 Q) ∧ (¬ (s0 = 0) → (∃ v1 : Nat, i_fld h x0 9 0 = some (.ref v1) ∧ (i_obj? h v1 7 ∧ i_C i_MT i_AT L xs 91 [.ref v1, .int (14 : Int32)] h (fun v h2 => ∃ r3 : Int32, v = some (.int r3) ∧ i_P i_MT i_AT L xs 110 41 [some (.ref x0), some (.int x1), x2] [.int r3] h2 0 0 Q)))))) : i_P i_MT i_AT L xs 110 29 [some (.ref x0), some (.int x1), x2] [.int s0] h 0 0 Q := by
  have hk := i_k110
  refine g_if_eq hk rfl (fun hc => ?_) (fun hc => ?_)
  · have H := H.1 hc
    exact H
  · have H := H.2 hc
    refine g_s1 (pc2 := 33) hk rfl rfl rfl rfl rfl ?_
    obtain ⟨v1, ev1, H⟩ := H
    refine g_step (pc2 := 36) hk rfl rfl rfl (s_get ev1) ?_
    refine g_s1 (pc2 := 38) (st2 := [.int (14 : Int32), .ref v1]) hk rfl rfl rfl rfl rfl ?_
    obtain ⟨ho, H⟩ := H
    refine g_call hk rfl rfl i_k91.1 ⟨rfl, rfl⟩ rfl (i_rcv_v ho rfl (by decide)) rfl ?_
    exact H.mono (fun v h2 q => by obtain ⟨r, rfl, q⟩ := q; exact q)
theorem b110_41 {x0 : Nat} {x1 : Int32} {x2 : Option Value} {s0 : Int32} {h : iH} {Q : Option Value → iH → Prop} (H : ((s0 = 0 → i_P i_MT i_AT L xs 110 54 [some (.ref x0), some (.int x1), x2] [] h 0 0 Q) ∧ (¬ (s0 = 0) → (∃ v1 : Nat, i_fld h x0 9 0 = some (.ref v1) ∧ (i_obj? h v1 7 ∧ i_C i_MT i_AT L xs 92 [.ref v1] h (fun v h2 => ∃ r3 : Int32, v = some (.int r3) ∧ i_P i_MT i_AT L xs 110 51 [some (.ref x0), some (.int x1), x2] [.int r3] h2 0 0 Q)))))) : i_P i_MT i_AT L xs 110 41 [some (.ref x0), some (.int x1), x2] [.int s0] h 0 0 Q := by
  have hk := i_k110
  refine g_if_eq hk rfl (fun hc => ?_) (fun hc => ?_)
  · have H := H.1 hc
    exact H
  · have H := H.2 hc
    refine g_s1 (pc2 := 45) hk rfl rfl rfl rfl rfl ?_
    obtain ⟨v1, ev1, H⟩ := H
    refine g_step (pc2 := 48) hk rfl rfl rfl (s_get ev1) ?_
    obtain ⟨ho, H⟩ := H
    refine g_call hk rfl rfl i_k92.1 ⟨rfl, rfl⟩ rfl (i_rcv_v ho rfl (by decide)) rfl ?_
    exact H.mono (fun v h2 q => by obtain ⟨r, rfl, q⟩ := q; exact q)
theorem b110_51 {x0 : Nat} {x1 : Int32} {x2 : Option Value} {s0 : Int32} {h : iH} {Q : Option Value → iH → Prop} (H : ((¬ s0 = 0 → (∃ v1 : Nat, i_fld h x0 9 1 = some (.ref v1) ∧ (∃ v2 : Nat, i_fld h v1 8 6 = some (.ref v2) ∧ (i_obj? h x0 9 ∧ i_C i_MT i_AT L xs 107 [.ref x0] h (fun v h3 => ∃ r4 : Int32, v = some (.int r4) ∧ i_P i_MT i_AT L xs 110 68 [some (.ref x0), some (.int x1), x2] [.int r4, .int x1, .ref v2] h3 0 0 Q))))) ∧ (¬ (¬ s0 = 0) → i_P i_MT i_AT L xs 110 54 [some (.ref x0), some (.int x1), x2] [] h 0 0 Q))) : i_P i_MT i_AT L xs 110 51 [some (.ref x0), some (.int x1), x2] [.int s0] h 0 0 Q := by
  have hk := i_k110
  refine g_if_ne hk rfl (fun hc => ?_) (fun hc => ?_)
  · have H := H.1 hc
    refine g_s1 (pc2 := 57) hk rfl rfl rfl rfl rfl ?_
    obtain ⟨v1, ev1, H⟩ := H
    refine g_step (pc2 := 60) hk rfl rfl rfl (s_get ev1) ?_
    obtain ⟨v2, ev2, H⟩ := H
    refine g_step (pc2 := 63) hk rfl rfl rfl (s_get ev2) ?_
    refine g_s1 (pc2 := 64) hk rfl rfl rfl rfl rfl ?_
    refine g_s1 (pc2 := 65) hk rfl rfl rfl rfl rfl ?_
    obtain ⟨ho, H⟩ := H
    refine g_call hk rfl rfl i_k107.1 ⟨rfl, rfl⟩ rfl (i_rcv_v ho rfl (by decide)) rfl ?_
    exact H.mono (fun v h2 q => by obtain ⟨r, rfl, q⟩ := q; exact q)
  · have H := H.2 hc
    exact H
theorem b110_54 {x0 : Nat} {x1 : Int32} {x2 : Option Value} {h : iH} {Q : Option Value → iH → Prop} (H : Q (some (.int 0)) h) : i_P i_MT i_AT L xs 110 54 [some (.ref x0), some (.int x1), x2] [] h 0 0 Q := by
  have hk := i_k110
  refine g_s1 (pc2 := 55) (st2 := [.int (0 : Int32)]) hk rfl rfl rfl rfl rfl ?_
  exact g_ireturn hk rfl (by decide) (by decide) rfl H
theorem b110_68 {x0 : Nat} {x1 : Int32} {x2 : Option Value} {s0 : Nat} {s1 : Int32} {s2 : Int32} {h : iH} {Q : Option Value → iH → Prop} (H : (∃ (n1 : Nat) (f2 : Nat → Int32), i_arI h 0 s0 = some (n1, f2) ∧ ¬ (s1 < 0 ∨ n1 ≤ s1.toNatClampNeg) ∧ i_P i_MT i_AT L xs 110 69 [some (.ref x0), some (.int x1), x2] [] (i_siI h s0 s1.toNatClampNeg s2) 0 0 Q)) : i_P i_MT i_AT L xs 110 68 [some (.ref x0), some (.int x1), x2] [.int s2, .int s1, .ref s0] h 0 0 Q := by
  have hk := i_k110
  obtain ⟨n1, f2, ef2, hi, H⟩ := H
  refine g_step (pc2 := 69) hk rfl rfl rfl (s_aput ef2 hi) ?_
  exact H
theorem b110_69 {x0 : Nat} {x1 : Int32} {x2 : Option Value} {h : iH} {Q : Option Value → iH → Prop} (H : i_P i_MT i_AT L xs 110 71 [some (.ref x0), some (.int x1), some (.int (0 : Int32))] [] h 0 0 Q) : i_P i_MT i_AT L xs 110 69 [some (.ref x0), some (.int x1), x2] [] h 0 0 Q := by
  have hk := i_k110
  refine g_s1 (pc2 := 70) (st2 := [.int (0 : Int32)]) hk rfl rfl rfl rfl rfl ?_
  refine g_s1 (pc2 := 71) (lo2 := [some (.ref x0), some (.int x1), some (.int (0 : Int32))]) hk rfl rfl rfl rfl rfl ?_
  exact H
theorem b110_71 {x0 : Nat} {x1 : Int32} {x2 : Int32} {h : iH} {Q : Option Value → iH → Prop} (H : (((8 : Int32) ≤ x2 → (∃ v1 : Nat, i_fld h x0 9 0 = some (.ref v1) ∧ (i_obj? h v1 7 ∧ i_C i_MT i_AT L xs 86 [.ref v1, .int (6 : Int32)] h (fun v h2 => ∃ r3 : Int32, v = some (.int r3) ∧ i_P i_MT i_AT L xs 110 176 [some (.ref x0), some (.int x1), some (.int x2)] [.int r3] h2 0 0 Q)))) ∧ (¬ ((8 : Int32) ≤ x2) → (∃ v4 : Nat, i_fld h x0 9 1 = some (.ref v4) ∧ (∃ v5 : Nat, i_fld h v4 8 8 = some (.ref v5) ∧ (∃ v6 : Nat, i_fld h x0 9 0 = some (.ref v6) ∧ (∃ v7 : Int32, i_fld h v6 7 10 = some (.int v7) ∧ (∃ (n8 : Nat) (f9 : Nat → Int32), i_arI h 0 v5 = some (n8, f9) ∧ ¬ (((x1 * (8 : Int32)) + x2) < 0 ∨ n8 ≤ ((x1 * (8 : Int32)) + x2).toNatClampNeg) ∧ i_P i_MT i_AT L xs 110 98 [some (.ref x0), some (.int x1), some (.int x2)] [] (i_siI h v5 ((x1 * (8 : Int32)) + x2).toNatClampNeg v7) 0 0 Q)))))))) : i_P i_MT i_AT L xs 110 71 [some (.ref x0), some (.int x1), some (.int x2)] [] h 0 0 Q := by
  have hk := i_k110
  refine g_s1 (pc2 := 72) hk rfl rfl rfl rfl rfl ?_
  refine g_s1 (pc2 := 74) (st2 := [.int (8 : Int32), .int x2]) hk rfl rfl rfl rfl rfl ?_
  refine g_icmp_ge hk rfl (fun hc => ?_) (fun hc => ?_)
  · have H := H.1 hc
    refine g_s1 (pc2 := 168) hk rfl rfl rfl rfl rfl ?_
    obtain ⟨v1, ev1, H⟩ := H
    refine g_step (pc2 := 171) hk rfl rfl rfl (s_get ev1) ?_
    refine g_s1 (pc2 := 173) (st2 := [.int (6 : Int32), .ref v1]) hk rfl rfl rfl rfl rfl ?_
    obtain ⟨ho, H⟩ := H
    refine g_call hk rfl rfl i_k86.1 ⟨rfl, rfl⟩ rfl (i_rcv_v ho rfl (by decide)) rfl ?_
    exact H.mono (fun v h2 q => by obtain ⟨r, rfl, q⟩ := q; exact q)
  · have H := H.2 hc
    refine g_s1 (pc2 := 78) hk rfl rfl rfl rfl rfl ?_
    obtain ⟨v4, ev4, H⟩ := H
    refine g_step (pc2 := 81) hk rfl rfl rfl (s_get ev4) ?_
    obtain ⟨v5, ev5, H⟩ := H
    refine g_step (pc2 := 84) hk rfl rfl rfl (s_get ev5) ?_
    refine g_s1 (pc2 := 85) hk rfl rfl rfl rfl rfl ?_
    refine g_s1 (pc2 := 87) (st2 := [.int (8 : Int32), .int x1, .ref v5]) hk rfl rfl rfl rfl rfl ?_
    refine g_s1 (pc2 := 88) hk rfl rfl rfl rfl rfl ?_
    refine g_s1 (pc2 := 89) hk rfl rfl rfl rfl rfl ?_
    refine g_s1 (pc2 := 90) hk rfl rfl rfl rfl rfl ?_
    refine g_s1 (pc2 := 91) hk rfl rfl rfl rfl rfl ?_
    obtain ⟨v6, ev6, H⟩ := H
    refine g_step (pc2 := 94) hk rfl rfl rfl (s_get ev6) ?_
    obtain ⟨v7, ev7, H⟩ := H
    refine g_step (pc2 := 97) hk rfl rfl rfl (s_get ev7) ?_
    obtain ⟨n8, f9, ef9, hi, H⟩ := H
    refine g_step (pc2 := 98) hk rfl rfl rfl (s_aput ef9 hi) ?_
    exact H
theorem b110_98 {x0 : Nat} {x1 : Int32} {x2 : Int32} {h : iH} {Q : Option Value → iH → Prop} (H : (∃ v1 : Nat, i_fld h x0 9 0 = some (.ref v1) ∧ (i_obj? h v1 7 ∧ i_C i_MT i_AT L xs 88 [.ref v1] h (fun v h2 => v = none ∧ i_P i_MT i_AT L xs 110 105 [some (.ref x0), some (.int x1), some (.int x2)] [] h2 0 0 Q)))) : i_P i_MT i_AT L xs 110 98 [some (.ref x0), some (.int x1), some (.int x2)] [] h 0 0 Q := by
  have hk := i_k110
  refine g_s1 (pc2 := 99) hk rfl rfl rfl rfl rfl ?_
  obtain ⟨v1, ev1, H⟩ := H
  refine g_step (pc2 := 102) hk rfl rfl rfl (s_get ev1) ?_
  obtain ⟨ho, H⟩ := H
  refine g_call hk rfl rfl i_k88.1 ⟨rfl, rfl⟩ rfl (i_rcv_v ho rfl (by decide)) rfl ?_
  exact H.mono (fun v h2 q => by obtain ⟨rfl, q⟩ := q; exact q)
theorem b110_105 {x0 : Nat} {x1 : Int32} {x2 : Int32} {h : iH} {Q : Option Value → iH → Prop} (H : (∃ v1 : Nat, i_fld h x0 9 0 = some (.ref v1) ∧ (∃ v2 : Int32, i_fld h v1 7 6 = some (.int v2) ∧ ((¬ v2 = (3 : Int32) → (∃ v3 : Nat, i_fld h x0 9 0 = some (.ref v3) ∧ (i_obj? h v3 7 ∧ i_C i_MT i_AT L xs 89 [.ref v3] h (fun v h4 => ∃ r5 : Int32, v = some (.int r5) ∧ i_P i_MT i_AT L xs 110 150 [some (.ref x0), some (.int x1), some (.int x2)] [.int r5] h4 0 0 Q)))) ∧ (¬ (¬ v2 = (3 : Int32)) → (∃ v6 : Nat, i_fld h x0 9 1 = some (.ref v6) ∧ (∃ v7 : Nat, i_fld h v6 8 7 = some (.ref v7) ∧ (∃ (n8 : Nat) (f9 : Nat → Int32), i_arI h 0 v7 = some (n8, f9) ∧ ¬ (x1 < 0 ∨ n8 ≤ x1.toNatClampNeg) ∧ i_P i_MT i_AT L xs 110 128 [some (.ref x0), some (.int x1), some (.int x2)] [] (i_siI h v7 x1.toNatClampNeg (x2 + (1 : Int32))) 0 0 Q)))))))) : i_P i_MT i_AT L xs 110 105 [some (.ref x0), some (.int x1), some (.int x2)] [] h 0 0 Q := by
  have hk := i_k110
  refine g_s1 (pc2 := 106) hk rfl rfl rfl rfl rfl ?_
  obtain ⟨v1, ev1, H⟩ := H
  refine g_step (pc2 := 109) hk rfl rfl rfl (s_get ev1) ?_
  obtain ⟨v2, ev2, H⟩ := H
  refine g_step (pc2 := 112) hk rfl rfl rfl (s_get ev2) ?_
  refine g_s1 (pc2 := 113) (st2 := [.int (3 : Int32), .int v2]) hk rfl rfl rfl rfl rfl ?_
  refine g_icmp_ne hk rfl (fun hc => ?_) (fun hc => ?_)
  · have H := H.1 hc
    refine g_s1 (pc2 := 144) hk rfl rfl rfl rfl rfl ?_
    obtain ⟨v3, ev3, H⟩ := H
    refine g_step (pc2 := 147) hk rfl rfl rfl (s_get ev3) ?_
    obtain ⟨ho, H⟩ := H
    refine g_call hk rfl rfl i_k89.1 ⟨rfl, rfl⟩ rfl (i_rcv_v ho rfl (by decide)) rfl ?_
    exact H.mono (fun v h2 q => by obtain ⟨r, rfl, q⟩ := q; exact q)
  · have H := H.2 hc
    refine g_s1 (pc2 := 117) hk rfl rfl rfl rfl rfl ?_
    obtain ⟨v6, ev6, H⟩ := H
    refine g_step (pc2 := 120) hk rfl rfl rfl (s_get ev6) ?_
    obtain ⟨v7, ev7, H⟩ := H
    refine g_step (pc2 := 123) hk rfl rfl rfl (s_get ev7) ?_
    refine g_s1 (pc2 := 124) hk rfl rfl rfl rfl rfl ?_
    refine g_s1 (pc2 := 125) hk rfl rfl rfl rfl rfl ?_
    refine g_s1 (pc2 := 126) (st2 := [.int (1 : Int32), .int x2, .int x1, .ref v7]) hk rfl rfl rfl rfl rfl ?_
    refine g_s1 (pc2 := 127) hk rfl rfl rfl rfl rfl ?_
    obtain ⟨n8, f9, ef9, hi, H⟩ := H
    refine g_step (pc2 := 128) hk rfl rfl rfl (s_aput ef9 hi) ?_
    exact H
theorem b110_128 {x0 : Nat} {x1 : Int32} {x2 : Int32} {h : iH} {Q : Option Value → iH → Prop} (H : (∃ v1 : Nat, i_fld h x0 9 1 = some (.ref v1) ∧ (∃ v2 : Int32, i_fld h v1 8 5 = some (.int v2) ∧ ((∃ o, i_fld h v1 8 5 = some o) ∧ i_P i_MT i_AT L xs 110 141 [some (.ref x0), some (.int x1), some (.int x2)] [] (i_sf h v1 5 (.int (v2 + (1 : Int32)))) 0 0 Q)))) : i_P i_MT i_AT L xs 110 128 [some (.ref x0), some (.int x1), some (.int x2)] [] h 0 0 Q := by
  have hk := i_k110
  refine g_s1 (pc2 := 129) hk rfl rfl rfl rfl rfl ?_
  obtain ⟨v1, ev1, H⟩ := H
  refine g_step (pc2 := 132) hk rfl rfl rfl (s_get ev1) ?_
  refine g_s1 (pc2 := 133) hk rfl rfl rfl rfl rfl ?_
  obtain ⟨v2, ev2, H⟩ := H
  refine g_step (pc2 := 136) hk rfl rfl rfl (s_get ev2) ?_
  refine g_s1 (pc2 := 137) (st2 := [.int (1 : Int32), .int v2, .ref v1]) hk rfl rfl rfl rfl rfl ?_
  refine g_s1 (pc2 := 138) hk rfl rfl rfl rfl rfl ?_
  obtain ⟨⟨o, ho⟩, H⟩ := H
  refine g_step (pc2 := 141) hk rfl rfl rfl (s_put ho rfl) ?_
  exact H
theorem b110_141 {x0 : Nat} {x1 : Int32} {x2 : Int32} {h : iH} {Q : Option Value → iH → Prop} (H : Q (some (.int 1)) h) : i_P i_MT i_AT L xs 110 141 [some (.ref x0), some (.int x1), some (.int x2)] [] h 0 0 Q := by
  have hk := i_k110
  refine g_s1 (pc2 := 142) (st2 := [.int (1 : Int32)]) hk rfl rfl rfl rfl rfl ?_
  exact g_ireturn hk rfl (by decide) (by decide) rfl H
theorem b110_150 {x0 : Nat} {x1 : Int32} {x2 : Int32} {s0 : Int32} {h : iH} {Q : Option Value → iH → Prop} (H : ((¬ s0 = 0 → i_P i_MT i_AT L xs 110 71 [some (.ref x0), some (.int x1), some (.int (x2 + 1))] [] h 0 0 Q) ∧ (¬ (¬ s0 = 0) → (∃ v1 : Nat, i_fld h x0 9 0 = some (.ref v1) ∧ (i_obj? h v1 7 ∧ i_C i_MT i_AT L xs 87 [.ref v1] h (fun v h2 => ∃ r3 : Int32, v = some (.int r3) ∧ i_P i_MT i_AT L xs 110 160 [some (.ref x0), some (.int x1), some (.int x2)] [.int r3] h2 0 0 Q)))))) : i_P i_MT i_AT L xs 110 150 [some (.ref x0), some (.int x1), some (.int x2)] [.int s0] h 0 0 Q := by
  have hk := i_k110
  refine g_if_ne hk rfl (fun hc => ?_) (fun hc => ?_)
  · have H := H.1 hc
    refine g_s1 (pc2 := 164) (lo2 := [some (.ref x0), some (.int x1), some (.int (x2 + 1))]) hk rfl rfl rfl rfl rfl ?_
    refine g_s1 (pc2 := 71) hk rfl rfl rfl rfl rfl ?_
    exact H
  · have H := H.2 hc
    refine g_s1 (pc2 := 154) hk rfl rfl rfl rfl rfl ?_
    obtain ⟨v1, ev1, H⟩ := H
    refine g_step (pc2 := 157) hk rfl rfl rfl (s_get ev1) ?_
    obtain ⟨ho, H⟩ := H
    refine g_call hk rfl rfl i_k87.1 ⟨rfl, rfl⟩ rfl (i_rcv_v ho rfl (by decide)) rfl ?_
    exact H.mono (fun v h2 q => by obtain ⟨r, rfl, q⟩ := q; exact q)
theorem b110_160 {x0 : Nat} {x1 : Int32} {x2 : Int32} {s0 : Int32} {h : iH} {Q : Option Value → iH → Prop} (H : (i_ret (some .boolean) s0 = true ∧ Q (some (.int s0)) h)) : i_P i_MT i_AT L xs 110 160 [some (.ref x0), some (.int x1), some (.int x2)] [.int s0] h 0 0 Q := by
  have hk := i_k110
  exact g_ireturn hk rfl (by decide) (by decide) H.1 H.2
theorem b110_176 {x0 : Nat} {x1 : Int32} {x2 : Int32} {s0 : Int32} {h : iH} {Q : Option Value → iH → Prop} (H : (i_ret (some .boolean) s0 = true ∧ Q (some (.int s0)) h)) : i_P i_MT i_AT L xs 110 176 [some (.ref x0), some (.int x1), some (.int x2)] [.int s0] h 0 0 Q := by
  have hk := i_k110
  exact g_ireturn hk rfl (by decide) (by decide) H.1 H.2
/-! StillTown$TownReader.readLamp()Z -/
theorem e111 {x0 : Nat} {h : iH} {Q : Option Value → iH → Prop} (H : i_P i_MT i_AT L xs 111 0 [some (.ref x0)] [] h 0 0 Q) : i_C i_MT i_AT L xs 111 [.ref x0] h Q := ⟨i_m111, i_k111.1, Nat.le_of_ble_eq_true rfl, H⟩
theorem b111_0 {x0 : Nat} {h : iH} {Q : Option Value → iH → Prop} (H : (∃ v1 : Nat, i_fld h x0 9 1 = some (.ref v1) ∧ (∃ v2 : Int32, i_fld h v1 8 9 = some (.int v2) ∧ ((v2 < (8 : Int32) → (i_obj? h x0 9 ∧ i_C i_MT i_AT L xs 106 [.ref x0, .int (0 : Int32), .int (0 : Int32)] h (fun v h3 => ∃ r4 : Int32, v = some (.int r4) ∧ i_P i_MT i_AT L xs 111 28 [some (.ref x0)] [.int r4] h3 0 0 Q))) ∧ (¬ (v2 < (8 : Int32)) → (∃ v5 : Nat, i_fld h x0 9 0 = some (.ref v5) ∧ (i_obj? h v5 7 ∧ i_C i_MT i_AT L xs 86 [.ref v5, .int (6 : Int32)] h (fun v h6 => ∃ r7 : Int32, v = some (.int r7) ∧ i_P i_MT i_AT L xs 111 21 [some (.ref x0)] [.int r7] h6 0 0 Q)))))))) : i_P i_MT i_AT L xs 111 0 [some (.ref x0)] [] h 0 0 Q := by
  have hk := i_k111
  refine g_s1 (pc2 := 1) hk rfl rfl rfl rfl rfl ?_
  obtain ⟨v1, ev1, H⟩ := H
  refine g_step (pc2 := 4) hk rfl rfl rfl (s_get ev1) ?_
  obtain ⟨v2, ev2, H⟩ := H
  refine g_step (pc2 := 7) hk rfl rfl rfl (s_get ev2) ?_
  refine g_s1 (pc2 := 9) (st2 := [.int (8 : Int32), .int v2]) hk rfl rfl rfl rfl rfl ?_
  refine g_icmp_lt hk rfl (fun hc => ?_) (fun hc => ?_)
  · have H := H.1 hc
    refine g_s1 (pc2 := 23) hk rfl rfl rfl rfl rfl ?_
    refine g_s1 (pc2 := 24) (st2 := [.int (0 : Int32), .ref x0]) hk rfl rfl rfl rfl rfl ?_
    refine g_s1 (pc2 := 25) (st2 := [.int (0 : Int32), .int (0 : Int32), .ref x0]) hk rfl rfl rfl rfl rfl ?_
    obtain ⟨ho, H⟩ := H
    refine g_call hk rfl rfl i_k106.1 ⟨rfl, rfl⟩ rfl (i_rcv_v ho rfl (by decide)) rfl ?_
    exact H.mono (fun v h2 q => by obtain ⟨r, rfl, q⟩ := q; exact q)
  · have H := H.2 hc
    refine g_s1 (pc2 := 13) hk rfl rfl rfl rfl rfl ?_
    obtain ⟨v5, ev5, H⟩ := H
    refine g_step (pc2 := 16) hk rfl rfl rfl (s_get ev5) ?_
    refine g_s1 (pc2 := 18) (st2 := [.int (6 : Int32), .ref v5]) hk rfl rfl rfl rfl rfl ?_
    obtain ⟨ho, H⟩ := H
    refine g_call hk rfl rfl i_k86.1 ⟨rfl, rfl⟩ rfl (i_rcv_v ho rfl (by decide)) rfl ?_
    exact H.mono (fun v h2 q => by obtain ⟨r, rfl, q⟩ := q; exact q)
theorem b111_21 {x0 : Nat} {s0 : Int32} {h : iH} {Q : Option Value → iH → Prop} (H : (i_ret (some .boolean) s0 = true ∧ Q (some (.int s0)) h)) : i_P i_MT i_AT L xs 111 21 [some (.ref x0)] [.int s0] h 0 0 Q := by
  have hk := i_k111
  exact g_ireturn hk rfl (by decide) (by decide) H.1 H.2
theorem b111_28 {x0 : Nat} {s0 : Int32} {h : iH} {Q : Option Value → iH → Prop} (H : ((¬ s0 = 0 → (∃ v1 : Nat, i_fld h x0 9 1 = some (.ref v1) ∧ (∃ v2 : Int64, i_fld h v1 8 2 = some (.long v2) ∧ (i_obj? h x0 9 ∧ i_C i_MT i_AT L xs 107 [.ref x0] h (fun v h3 => ∃ r4 : Int32, v = some (.int r4) ∧ i_P i_MT i_AT L xs 111 44 [some (.ref x0)] [.int r4, .long v2] h3 0 0 Q))))) ∧ (¬ (¬ s0 = 0) → Q (some (.int 0)) h))) : i_P i_MT i_AT L xs 111 28 [some (.ref x0)] [.int s0] h 0 0 Q := by
  have hk := i_k111
  refine g_if_ne hk rfl (fun hc => ?_) (fun hc => ?_)
  · have H := H.1 hc
    refine g_s1 (pc2 := 34) hk rfl rfl rfl rfl rfl ?_
    obtain ⟨v1, ev1, H⟩ := H
    refine g_step (pc2 := 37) hk rfl rfl rfl (s_get ev1) ?_
    obtain ⟨v2, ev2, H⟩ := H
    refine g_step (pc2 := 40) hk rfl rfl rfl (s_get ev2) ?_
    refine g_s1 (pc2 := 41) hk rfl rfl rfl rfl rfl ?_
    obtain ⟨ho, H⟩ := H
    refine g_call hk rfl rfl i_k107.1 ⟨rfl, rfl⟩ rfl (i_rcv_v ho rfl (by decide)) rfl ?_
    exact H.mono (fun v h2 q => by obtain ⟨r, rfl, q⟩ := q; exact q)
  · have H := H.2 hc
    refine g_s1 (pc2 := 32) (st2 := [.int (0 : Int32)]) hk rfl rfl rfl rfl rfl ?_
    exact g_ireturn hk rfl (by decide) (by decide) rfl H
theorem b111_44 {x0 : Nat} {s0 : Int64} {s1 : Int32} {h : iH} {Q : Option Value → iH → Prop} (H : (i_C i_MT i_AT L xs 193 [.long s0, .int s1] h (fun v h1 => ∃ r2 : Int32, v = some (.int r2) ∧ i_P i_MT i_AT L xs 111 47 [some (.ref x0)] [.int r2] h1 0 0 Q))) : i_P i_MT i_AT L xs 111 44 [some (.ref x0)] [.int s1, .long s0] h 0 0 Q := by
  have hk := i_k111
  refine g_call hk rfl rfl i_k193.1 ⟨rfl, rfl⟩ rfl (i_rcv_0 rfl) rfl ?_
  exact H.mono (fun v h2 q => by obtain ⟨r, rfl, q⟩ := q; exact q)
theorem b111_47 {x0 : Nat} {s0 : Int32} {h : iH} {Q : Option Value → iH → Prop} (H : ((¬ s0 = 0 → i_P i_MT i_AT L xs 111 66 [some (.ref x0)] [] h 0 0 Q) ∧ (¬ (¬ s0 = 0) → (∃ v1 : Nat, i_fld h x0 9 1 = some (.ref v1) ∧ (i_obj? h x0 9 ∧ i_C i_MT i_AT L xs 107 [.ref x0] h (fun v h2 => ∃ r3 : Int32, v = some (.int r3) ∧ i_P i_MT i_AT L xs 111 59 [some (.ref x0)] [.int r3, .long (1 : Int64), .ref v1] h2 0 0 Q)))))) : i_P i_MT i_AT L xs 111 47 [some (.ref x0)] [.int s0] h 0 0 Q := by
  have hk := i_k111
  refine g_if_ne hk rfl (fun hc => ?_) (fun hc => ?_)
  · have H := H.1 hc
    exact H
  · have H := H.2 hc
    refine g_s1 (pc2 := 51) hk rfl rfl rfl rfl rfl ?_
    obtain ⟨v1, ev1, H⟩ := H
    refine g_step (pc2 := 54) hk rfl rfl rfl (s_get ev1) ?_
    refine g_s1 (pc2 := 55) (st2 := [.long (1 : Int64), .ref v1]) hk rfl rfl rfl rfl rfl ?_
    refine g_s1 (pc2 := 56) hk rfl rfl rfl rfl rfl ?_
    obtain ⟨ho, H⟩ := H
    refine g_call hk rfl rfl i_k107.1 ⟨rfl, rfl⟩ rfl (i_rcv_v ho rfl (by decide)) rfl ?_
    exact H.mono (fun v h2 q => by obtain ⟨r, rfl, q⟩ := q; exact q)
theorem b111_59 {x0 : Nat} {s0 : Nat} {s1 : Int64} {s2 : Int32} {h : iH} {Q : Option Value → iH → Prop} (H : (i_obj? h s0 8 ∧ i_C i_MT i_AT L xs 100 [.ref s0, .long (s1 <<< (s2.toInt64 &&& 63))] h (fun v h1 => ∃ r2 : Int32, v = some (.int r2) ∧ i_P i_MT i_AT L xs 111 63 [some (.ref x0)] [.int r2] h1 0 0 Q))) : i_P i_MT i_AT L xs 111 59 [some (.ref x0)] [.int s2, .long s1, .ref s0] h 0 0 Q := by
  have hk := i_k111
  refine g_s1 (pc2 := 60) hk rfl rfl rfl rfl rfl ?_
  obtain ⟨ho, H⟩ := H
  refine g_call hk rfl rfl i_k100.1 ⟨rfl, rfl⟩ rfl (i_rcv_v ho rfl (by decide)) rfl ?_
  exact H.mono (fun v h2 q => by obtain ⟨r, rfl, q⟩ := q; exact q)
theorem b111_63 {x0 : Nat} {s0 : Int32} {h : iH} {Q : Option Value → iH → Prop} (H : ((s0 = 0 → (∃ v1 : Nat, i_fld h x0 9 1 = some (.ref v1) ∧ (∃ v2 : Nat, i_fld h v1 8 10 = some (.ref v2) ∧ (∃ v3 : Nat, i_fld h x0 9 1 = some (.ref v3) ∧ (∃ v4 : Int32, i_fld h v3 8 9 = some (.int v4) ∧ ((∃ o, i_fld h v3 8 9 = some o) ∧ i_P i_MT i_AT L xs 111 96 [some (.ref x0)] [.int v4, .ref v2] (i_sf h v3 9 (.int (v4 + (1 : Int32)))) 0 0 Q)))))) ∧ (¬ (s0 = 0) → i_P i_MT i_AT L xs 111 66 [some (.ref x0)] [] h 0 0 Q))) : i_P i_MT i_AT L xs 111 63 [some (.ref x0)] [.int s0] h 0 0 Q := by
  have hk := i_k111
  refine g_if_eq hk rfl (fun hc => ?_) (fun hc => ?_)
  · have H := H.1 hc
    refine g_s1 (pc2 := 76) hk rfl rfl rfl rfl rfl ?_
    obtain ⟨v1, ev1, H⟩ := H
    refine g_step (pc2 := 79) hk rfl rfl rfl (s_get ev1) ?_
    obtain ⟨v2, ev2, H⟩ := H
    refine g_step (pc2 := 82) hk rfl rfl rfl (s_get ev2) ?_
    refine g_s1 (pc2 := 83) hk rfl rfl rfl rfl rfl ?_
    obtain ⟨v3, ev3, H⟩ := H
    refine g_step (pc2 := 86) hk rfl rfl rfl (s_get ev3) ?_
    refine g_s1 (pc2 := 87) hk rfl rfl rfl rfl rfl ?_
    obtain ⟨v4, ev4, H⟩ := H
    refine g_step (pc2 := 90) hk rfl rfl rfl (s_get ev4) ?_
    refine g_s1 (pc2 := 91) hk rfl rfl rfl rfl rfl ?_
    refine g_s1 (pc2 := 92) (st2 := [.int (1 : Int32), .int v4, .ref v3, .int v4, .ref v2]) hk rfl rfl rfl rfl rfl ?_
    refine g_s1 (pc2 := 93) hk rfl rfl rfl rfl rfl ?_
    obtain ⟨⟨o, ho⟩, H⟩ := H
    refine g_step (pc2 := 96) hk rfl rfl rfl (s_put ho rfl) ?_
    exact H
  · have H := H.2 hc
    exact H
theorem b111_66 {x0 : Nat} {h : iH} {Q : Option Value → iH → Prop} (H : (∃ v1 : Nat, i_fld h x0 9 0 = some (.ref v1) ∧ (i_obj? h v1 7 ∧ i_C i_MT i_AT L xs 86 [.ref v1, .int (5 : Int32)] h (fun v h2 => ∃ r3 : Int32, v = some (.int r3) ∧ i_P i_MT i_AT L xs 111 74 [some (.ref x0)] [.int r3] h2 0 0 Q)))) : i_P i_MT i_AT L xs 111 66 [some (.ref x0)] [] h 0 0 Q := by
  have hk := i_k111
  refine g_s1 (pc2 := 67) hk rfl rfl rfl rfl rfl ?_
  obtain ⟨v1, ev1, H⟩ := H
  refine g_step (pc2 := 70) hk rfl rfl rfl (s_get ev1) ?_
  refine g_s1 (pc2 := 71) (st2 := [.int (5 : Int32), .ref v1]) hk rfl rfl rfl rfl rfl ?_
  obtain ⟨ho, H⟩ := H
  refine g_call hk rfl rfl i_k86.1 ⟨rfl, rfl⟩ rfl (i_rcv_v ho rfl (by decide)) rfl ?_
  exact H.mono (fun v h2 q => by obtain ⟨r, rfl, q⟩ := q; exact q)
theorem b111_74 {x0 : Nat} {s0 : Int32} {h : iH} {Q : Option Value → iH → Prop} (H : (i_ret (some .boolean) s0 = true ∧ Q (some (.int s0)) h)) : i_P i_MT i_AT L xs 111 74 [some (.ref x0)] [.int s0] h 0 0 Q := by
  have hk := i_k111
  exact g_ireturn hk rfl (by decide) (by decide) H.1 H.2
theorem b111_96 {x0 : Nat} {s0 : Nat} {s1 : Int32} {h : iH} {Q : Option Value → iH → Prop} (H : (i_obj? h x0 9 ∧ i_C i_MT i_AT L xs 107 [.ref x0] h (fun v h1 => ∃ r2 : Int32, v = some (.int r2) ∧ i_P i_MT i_AT L xs 111 100 [some (.ref x0)] [.int r2, .int s1, .ref s0] h1 0 0 Q))) : i_P i_MT i_AT L xs 111 96 [some (.ref x0)] [.int s1, .ref s0] h 0 0 Q := by
  have hk := i_k111
  refine g_s1 (pc2 := 97) hk rfl rfl rfl rfl rfl ?_
  obtain ⟨ho, H⟩ := H
  refine g_call hk rfl rfl i_k107.1 ⟨rfl, rfl⟩ rfl (i_rcv_v ho rfl (by decide)) rfl ?_
  exact H.mono (fun v h2 q => by obtain ⟨r, rfl, q⟩ := q; exact q)
theorem b111_100 {x0 : Nat} {s0 : Nat} {s1 : Int32} {s2 : Int32} {h : iH} {Q : Option Value → iH → Prop} (H : (∃ (n1 : Nat) (f2 : Nat → Int32), i_arI h 0 s0 = some (n1, f2) ∧ ¬ (s1 < 0 ∨ n1 ≤ s1.toNatClampNeg) ∧ i_P i_MT i_AT L xs 111 101 [some (.ref x0)] [] (i_siI h s0 s1.toNatClampNeg s2) 0 0 Q)) : i_P i_MT i_AT L xs 111 100 [some (.ref x0)] [.int s2, .int s1, .ref s0] h 0 0 Q := by
  have hk := i_k111
  obtain ⟨n1, f2, ef2, hi, H⟩ := H
  refine g_step (pc2 := 101) hk rfl rfl rfl (s_aput ef2 hi) ?_
  exact H
theorem b111_101 {x0 : Nat} {h : iH} {Q : Option Value → iH → Prop} (H : (∃ v1 : Nat, i_fld h x0 9 0 = some (.ref v1) ∧ (i_obj? h v1 7 ∧ i_C i_MT i_AT L xs 94 [.ref v1] h (fun v h2 => ∃ r3 : Int32, v = some (.int r3) ∧ i_P i_MT i_AT L xs 111 108 [some (.ref x0)] [.int r3] h2 0 0 Q)))) : i_P i_MT i_AT L xs 111 101 [some (.ref x0)] [] h 0 0 Q := by
  have hk := i_k111
  refine g_s1 (pc2 := 102) hk rfl rfl rfl rfl rfl ?_
  obtain ⟨v1, ev1, H⟩ := H
  refine g_step (pc2 := 105) hk rfl rfl rfl (s_get ev1) ?_
  obtain ⟨ho, H⟩ := H
  refine g_call hk rfl rfl i_k94.1 ⟨rfl, rfl⟩ rfl (i_rcv_v ho rfl (by decide)) rfl ?_
  exact H.mono (fun v h2 q => by obtain ⟨r, rfl, q⟩ := q; exact q)
theorem b111_108 {x0 : Nat} {s0 : Int32} {h : iH} {Q : Option Value → iH → Prop} (H : (i_ret (some .boolean) s0 = true ∧ Q (some (.int s0)) h)) : i_P i_MT i_AT L xs 111 108 [some (.ref x0)] [.int s0] h 0 0 Q := by
  have hk := i_k111
  exact g_ireturn hk rfl (by decide) (by decide) H.1 H.2
/-! StillTown$TownReader.readPerson()Z -/
theorem e112 {x0 : Nat} {h : iH} {Q : Option Value → iH → Prop} (H : i_P i_MT i_AT L xs 112 0 [some (.ref x0), none, none, none] [] h 0 0 Q) : i_C i_MT i_AT L xs 112 [.ref x0] h Q := ⟨i_m112, i_k112.1, Nat.le_of_ble_eq_true rfl, H⟩
theorem b112_0 {x0 : Nat} {x1 : Option Value} {x2 : Option Value} {x3 : Option Value} {h : iH} {Q : Option Value → iH → Prop} (H : (∃ v1 : Nat, i_fld h x0 9 1 = some (.ref v1) ∧ (∃ v2 : Nat, i_fld h v1 8 12 = some (.ref v2) ∧ (∃ v3 : Int32, i_fld h v2 3 0 = some (.int v3) ∧ ((v3 < (8 : Int32) → (∃ v4 : Nat, i_fld h x0 9 0 = some (.ref v4) ∧ (i_obj? h v4 7 ∧ i_C i_MT i_AT L xs 93 [.ref v4] h (fun v h5 => ∃ r6 : Int32, v = some (.int r6) ∧ i_P i_MT i_AT L xs 112 32 [some (.ref x0), x1, x2, x3] [.int r6] h5 0 0 Q)))) ∧ (¬ (v3 < (8 : Int32)) → (∃ v7 : Nat, i_fld h x0 9 0 = some (.ref v7) ∧ (i_obj? h v7 7 ∧ i_C i_MT i_AT L xs 86 [.ref v7, .int (6 : Int32)] h (fun v h8 => ∃ r9 : Int32, v = some (.int r9) ∧ i_P i_MT i_AT L xs 112 24 [some (.ref x0), x1, x2, x3] [.int r9] h8 0 0 Q))))))))) : i_P i_MT i_AT L xs 112 0 [some (.ref x0), x1, x2, x3] [] h 0 0 Q := by
  have hk := i_k112
  refine g_s1 (pc2 := 1) hk rfl rfl rfl rfl rfl ?_
  obtain ⟨v1, ev1, H⟩ := H
  refine g_step (pc2 := 4) hk rfl rfl rfl (s_get ev1) ?_
  obtain ⟨v2, ev2, H⟩ := H
  refine g_step (pc2 := 7) hk rfl rfl rfl (s_get ev2) ?_
  obtain ⟨v3, ev3, H⟩ := H
  refine g_step (pc2 := 10) hk rfl rfl rfl (s_get ev3) ?_
  refine g_s1 (pc2 := 12) (st2 := [.int (8 : Int32), .int v3]) hk rfl rfl rfl rfl rfl ?_
  refine g_icmp_lt hk rfl (fun hc => ?_) (fun hc => ?_)
  · have H := H.1 hc
    refine g_s1 (pc2 := 26) hk rfl rfl rfl rfl rfl ?_
    obtain ⟨v4, ev4, H⟩ := H
    refine g_step (pc2 := 29) hk rfl rfl rfl (s_get ev4) ?_
    obtain ⟨ho, H⟩ := H
    refine g_call hk rfl rfl i_k93.1 ⟨rfl, rfl⟩ rfl (i_rcv_v ho rfl (by decide)) rfl ?_
    exact H.mono (fun v h2 q => by obtain ⟨r, rfl, q⟩ := q; exact q)
  · have H := H.2 hc
    refine g_s1 (pc2 := 16) hk rfl rfl rfl rfl rfl ?_
    obtain ⟨v7, ev7, H⟩ := H
    refine g_step (pc2 := 19) hk rfl rfl rfl (s_get ev7) ?_
    refine g_s1 (pc2 := 21) (st2 := [.int (6 : Int32), .ref v7]) hk rfl rfl rfl rfl rfl ?_
    obtain ⟨ho, H⟩ := H
    refine g_call hk rfl rfl i_k86.1 ⟨rfl, rfl⟩ rfl (i_rcv_v ho rfl (by decide)) rfl ?_
    exact H.mono (fun v h2 q => by obtain ⟨r, rfl, q⟩ := q; exact q)
theorem b112_24 {x0 : Nat} {x1 : Option Value} {x2 : Option Value} {x3 : Option Value} {s0 : Int32} {h : iH} {Q : Option Value → iH → Prop} (H : (i_ret (some .boolean) s0 = true ∧ Q (some (.int s0)) h)) : i_P i_MT i_AT L xs 112 24 [some (.ref x0), x1, x2, x3] [.int s0] h 0 0 Q := by
  have hk := i_k112
  exact g_ireturn hk rfl (by decide) (by decide) H.1 H.2
theorem b112_32 {x0 : Nat} {x1 : Option Value} {x2 : Option Value} {x3 : Option Value} {s0 : Int32} {h : iH} {Q : Option Value → iH → Prop} (H : ((¬ s0 = 0 → (∃ v1 : Nat, i_fld h x0 9 0 = some (.ref v1) ∧ (∃ v2 : Int64, i_fld h v1 7 9 = some (.long v2) ∧ (∃ v3 : Nat, i_fld h x0 9 1 = some (.ref v3) ∧ (∃ v4 : Nat, i_fld h v3 8 12 = some (.ref v4) ∧ (i_obj? h v4 3 ∧ i_C i_MT i_AT L xs 34 [.ref v4, .long v2] h (fun v h5 => ∃ r6 : Int32, v = some (.int r6) ∧ i_P i_MT i_AT L xs 112 56 [some (.ref x0), some (.long v2), none, x3] [.int r6] h5 0 0 Q))))))) ∧ (¬ (¬ s0 = 0) → Q (some (.int 0)) h))) : i_P i_MT i_AT L xs 112 32 [some (.ref x0), x1, x2, x3] [.int s0] h 0 0 Q := by
  have hk := i_k112
  refine g_if_ne hk rfl (fun hc => ?_) (fun hc => ?_)
  · have H := H.1 hc
    refine g_s1 (pc2 := 38) hk rfl rfl rfl rfl rfl ?_
    obtain ⟨v1, ev1, H⟩ := H
    refine g_step (pc2 := 41) hk rfl rfl rfl (s_get ev1) ?_
    obtain ⟨v2, ev2, H⟩ := H
    refine g_step (pc2 := 44) hk rfl rfl rfl (s_get ev2) ?_
    refine g_s1 (pc2 := 45) (lo2 := [some (.ref x0), some (.long v2), none, x3]) hk rfl rfl rfl rfl rfl ?_
    refine g_s1 (pc2 := 46) hk rfl rfl rfl rfl rfl ?_
    obtain ⟨v3, ev3, H⟩ := H
    refine g_step (pc2 := 49) hk rfl rfl rfl (s_get ev3) ?_
    obtain ⟨v4, ev4, H⟩ := H
    refine g_step (pc2 := 52) hk rfl rfl rfl (s_get ev4) ?_
    refine g_s1 (pc2 := 53) hk rfl rfl rfl rfl rfl ?_
    obtain ⟨ho, H⟩ := H
    refine g_call hk rfl rfl i_k34.1 ⟨rfl, rfl⟩ rfl (i_rcv_v ho rfl (by decide)) rfl ?_
    exact H.mono (fun v h2 q => by obtain ⟨r, rfl, q⟩ := q; exact q)
  · have H := H.2 hc
    refine g_s1 (pc2 := 36) (st2 := [.int (0 : Int32)]) hk rfl rfl rfl rfl rfl ?_
    exact g_ireturn hk rfl (by decide) (by decide) rfl H
theorem b112_56 {x0 : Nat} {x1 : Int64} {x3 : Option Value} {s0 : Int32} {h : iH} {Q : Option Value → iH → Prop} (H : ((s0 = (-1 : Int32) → (∃ v1 : Nat, i_fld h x0 9 0 = some (.ref v1) ∧ (i_obj? h v1 7 ∧ i_C i_MT i_AT L xs 91 [.ref v1, .int (17 : Int32)] h (fun v h2 => ∃ r3 : Int32, v = some (.int r3) ∧ i_P i_MT i_AT L xs 112 78 [some (.ref x0), some (.long x1), none, x3] [.int r3] h2 0 0 Q)))) ∧ (¬ (s0 = (-1 : Int32)) → (∃ v4 : Nat, i_fld h x0 9 0 = some (.ref v4) ∧ (i_obj? h v4 7 ∧ i_C i_MT i_AT L xs 86 [.ref v4, .int (3 : Int32)] h (fun v h5 => ∃ r6 : Int32, v = some (.int r6) ∧ i_P i_MT i_AT L xs 112 68 [some (.ref x0), some (.long x1), none, x3] [.int r6] h5 0 0 Q)))))) : i_P i_MT i_AT L xs 112 56 [some (.ref x0), some (.long x1), none, x3] [.int s0] h 0 0 Q := by
  have hk := i_k112
  refine g_s1 (pc2 := 57) (st2 := [.int (-1 : Int32), .int s0]) hk rfl rfl rfl rfl rfl ?_
  refine g_icmp_eq hk rfl (fun hc => ?_) (fun hc => ?_)
  · have H := H.1 hc
    refine g_s1 (pc2 := 70) hk rfl rfl rfl rfl rfl ?_
    obtain ⟨v1, ev1, H⟩ := H
    refine g_step (pc2 := 73) hk rfl rfl rfl (s_get ev1) ?_
    refine g_s1 (pc2 := 75) (st2 := [.int (17 : Int32), .ref v1]) hk rfl rfl rfl rfl rfl ?_
    obtain ⟨ho, H⟩ := H
    refine g_call hk rfl rfl i_k91.1 ⟨rfl, rfl⟩ rfl (i_rcv_v ho rfl (by decide)) rfl ?_
    exact H.mono (fun v h2 q => by obtain ⟨r, rfl, q⟩ := q; exact q)
  · have H := H.2 hc
    refine g_s1 (pc2 := 61) hk rfl rfl rfl rfl rfl ?_
    obtain ⟨v4, ev4, H⟩ := H
    refine g_step (pc2 := 64) hk rfl rfl rfl (s_get ev4) ?_
    refine g_s1 (pc2 := 65) (st2 := [.int (3 : Int32), .ref v4]) hk rfl rfl rfl rfl rfl ?_
    obtain ⟨ho, H⟩ := H
    refine g_call hk rfl rfl i_k86.1 ⟨rfl, rfl⟩ rfl (i_rcv_v ho rfl (by decide)) rfl ?_
    exact H.mono (fun v h2 q => by obtain ⟨r, rfl, q⟩ := q; exact q)
theorem b112_68 {x0 : Nat} {x1 : Int64} {x3 : Option Value} {s0 : Int32} {h : iH} {Q : Option Value → iH → Prop} (H : (i_ret (some .boolean) s0 = true ∧ Q (some (.int s0)) h)) : i_P i_MT i_AT L xs 112 68 [some (.ref x0), some (.long x1), none, x3] [.int s0] h 0 0 Q := by
  have hk := i_k112
  exact g_ireturn hk rfl (by decide) (by decide) H.1 H.2
theorem b112_78 {x0 : Nat} {x1 : Int64} {x3 : Option Value} {s0 : Int32} {h : iH} {Q : Option Value → iH → Prop} (H : ((s0 = 0 → i_P i_MT i_AT L xs 112 90 [some (.ref x0), some (.long x1), none, x3] [] h 0 0 Q) ∧ (¬ (s0 = 0) → (i_obj? h x0 9 ∧ i_C i_MT i_AT L xs 106 [.ref x0, .int (0 : Int32), .int (0 : Int32)] h (fun v h1 => ∃ r2 : Int32, v = some (.int r2) ∧ i_P i_MT i_AT L xs 112 87 [some (.ref x0), some (.long x1), none, x3] [.int r2] h1 0 0 Q))))) : i_P i_MT i_AT L xs 112 78 [some (.ref x0), some (.long x1), none, x3] [.int s0] h 0 0 Q := by
  have hk := i_k112
  refine g_if_eq hk rfl (fun hc => ?_) (fun hc => ?_)
  · have H := H.1 hc
    exact H
  · have H := H.2 hc
    refine g_s1 (pc2 := 82) hk rfl rfl rfl rfl rfl ?_
    refine g_s1 (pc2 := 83) (st2 := [.int (0 : Int32), .ref x0]) hk rfl rfl rfl rfl rfl ?_
    refine g_s1 (pc2 := 84) (st2 := [.int (0 : Int32), .int (0 : Int32), .ref x0]) hk rfl rfl rfl rfl rfl ?_
    obtain ⟨ho, H⟩ := H
    refine g_call hk rfl rfl i_k106.1 ⟨rfl, rfl⟩ rfl (i_rcv_v ho rfl (by decide)) rfl ?_
    exact H.mono (fun v h2 q => by obtain ⟨r, rfl, q⟩ := q; exact q)
theorem b112_87 {x0 : Nat} {x1 : Int64} {x3 : Option Value} {s0 : Int32} {h : iH} {Q : Option Value → iH → Prop} (H : ((¬ s0 = 0 → (∃ v1 : Nat, i_fld h x0 9 1 = some (.ref v1) ∧ (∃ v2 : Int64, i_fld h v1 8 2 = some (.long v2) ∧ (i_obj? h x0 9 ∧ i_C i_MT i_AT L xs 107 [.ref x0] h (fun v h3 => ∃ r4 : Int32, v = some (.int r4) ∧ i_P i_MT i_AT L xs 112 103 [some (.ref x0), some (.long x1), none, x3] [.int r4, .long v2] h3 0 0 Q))))) ∧ (¬ (¬ s0 = 0) → i_P i_MT i_AT L xs 112 90 [some (.ref x0), some (.long x1), none, x3] [] h 0 0 Q))) : i_P i_MT i_AT L xs 112 87 [some (.ref x0), some (.long x1), none, x3] [.int s0] h 0 0 Q := by
  have hk := i_k112
  refine g_if_ne hk rfl (fun hc => ?_) (fun hc => ?_)
  · have H := H.1 hc
    refine g_s1 (pc2 := 93) hk rfl rfl rfl rfl rfl ?_
    obtain ⟨v1, ev1, H⟩ := H
    refine g_step (pc2 := 96) hk rfl rfl rfl (s_get ev1) ?_
    obtain ⟨v2, ev2, H⟩ := H
    refine g_step (pc2 := 99) hk rfl rfl rfl (s_get ev2) ?_
    refine g_s1 (pc2 := 100) hk rfl rfl rfl rfl rfl ?_
    obtain ⟨ho, H⟩ := H
    refine g_call hk rfl rfl i_k107.1 ⟨rfl, rfl⟩ rfl (i_rcv_v ho rfl (by decide)) rfl ?_
    exact H.mono (fun v h2 q => by obtain ⟨r, rfl, q⟩ := q; exact q)
  · have H := H.2 hc
    exact H
theorem b112_90 {x0 : Nat} {x1 : Int64} {x3 : Option Value} {h : iH} {Q : Option Value → iH → Prop} (H : Q (some (.int 0)) h) : i_P i_MT i_AT L xs 112 90 [some (.ref x0), some (.long x1), none, x3] [] h 0 0 Q := by
  have hk := i_k112
  refine g_s1 (pc2 := 91) (st2 := [.int (0 : Int32)]) hk rfl rfl rfl rfl rfl ?_
  exact g_ireturn hk rfl (by decide) (by decide) rfl H
theorem b112_103 {x0 : Nat} {x1 : Int64} {x3 : Option Value} {s0 : Int64} {s1 : Int32} {h : iH} {Q : Option Value → iH → Prop} (H : (i_C i_MT i_AT L xs 193 [.long s0, .int s1] h (fun v h1 => ∃ r2 : Int32, v = some (.int r2) ∧ i_P i_MT i_AT L xs 112 106 [some (.ref x0), some (.long x1), none, x3] [.int r2] h1 0 0 Q))) : i_P i_MT i_AT L xs 112 103 [some (.ref x0), some (.long x1), none, x3] [.int s1, .long s0] h 0 0 Q := by
  have hk := i_k112
  refine g_call hk rfl rfl i_k193.1 ⟨rfl, rfl⟩ rfl (i_rcv_0 rfl) rfl ?_
  exact H.mono (fun v h2 q => by obtain ⟨r, rfl, q⟩ := q; exact q)
theorem b112_106 {x0 : Nat} {x1 : Int64} {x3 : Option Value} {s0 : Int32} {h : iH} {Q : Option Value → iH → Prop} (H : ((s0 = 0 → (∃ v1 : Nat, i_fld h x0 9 0 = some (.ref v1) ∧ (i_obj? h v1 7 ∧ i_C i_MT i_AT L xs 91 [.ref v1, .int (18 : Int32)] h (fun v h2 => ∃ r3 : Int32, v = some (.int r3) ∧ i_P i_MT i_AT L xs 112 127 [some (.ref x0), some (.long x1), none, x3] [.int r3] h2 0 0 Q)))) ∧ (¬ (s0 = 0) → (∃ v4 : Nat, i_fld h x0 9 0 = some (.ref v4) ∧ (i_obj? h v4 7 ∧ i_C i_MT i_AT L xs 86 [.ref v4, .int (5 : Int32)] h (fun v h5 => ∃ r6 : Int32, v = some (.int r6) ∧ i_P i_MT i_AT L xs 112 117 [some (.ref x0), some (.long x1), none, x3] [.int r6] h5 0 0 Q)))))) : i_P i_MT i_AT L xs 112 106 [some (.ref x0), some (.long x1), none, x3] [.int s0] h 0 0 Q := by
  have hk := i_k112
  refine g_if_eq hk rfl (fun hc => ?_) (fun hc => ?_)
  · have H := H.1 hc
    refine g_s1 (pc2 := 119) hk rfl rfl rfl rfl rfl ?_
    obtain ⟨v1, ev1, H⟩ := H
    refine g_step (pc2 := 122) hk rfl rfl rfl (s_get ev1) ?_
    refine g_s1 (pc2 := 124) (st2 := [.int (18 : Int32), .ref v1]) hk rfl rfl rfl rfl rfl ?_
    obtain ⟨ho, H⟩ := H
    refine g_call hk rfl rfl i_k91.1 ⟨rfl, rfl⟩ rfl (i_rcv_v ho rfl (by decide)) rfl ?_
    exact H.mono (fun v h2 q => by obtain ⟨r, rfl, q⟩ := q; exact q)
  · have H := H.2 hc
    refine g_s1 (pc2 := 110) hk rfl rfl rfl rfl rfl ?_
    obtain ⟨v4, ev4, H⟩ := H
    refine g_step (pc2 := 113) hk rfl rfl rfl (s_get ev4) ?_
    refine g_s1 (pc2 := 114) (st2 := [.int (5 : Int32), .ref v4]) hk rfl rfl rfl rfl rfl ?_
    obtain ⟨ho, H⟩ := H
    refine g_call hk rfl rfl i_k86.1 ⟨rfl, rfl⟩ rfl (i_rcv_v ho rfl (by decide)) rfl ?_
    exact H.mono (fun v h2 q => by obtain ⟨r, rfl, q⟩ := q; exact q)
theorem b112_117 {x0 : Nat} {x1 : Int64} {x3 : Option Value} {s0 : Int32} {h : iH} {Q : Option Value → iH → Prop} (H : (i_ret (some .boolean) s0 = true ∧ Q (some (.int s0)) h)) : i_P i_MT i_AT L xs 112 117 [some (.ref x0), some (.long x1), none, x3] [.int s0] h 0 0 Q := by
  have hk := i_k112
  exact g_ireturn hk rfl (by decide) (by decide) H.1 H.2
theorem b112_127 {x0 : Nat} {x1 : Int64} {x3 : Option Value} {s0 : Int32} {h : iH} {Q : Option Value → iH → Prop} (H : ((s0 = 0 → i_P i_MT i_AT L xs 112 140 [some (.ref x0), some (.long x1), none, x3] [] h 0 0 Q) ∧ (¬ (s0 = 0) → (∃ v1 : Nat, i_fld h x0 9 0 = some (.ref v1) ∧ (i_obj? h v1 7 ∧ i_C i_MT i_AT L xs 92 [.ref v1] h (fun v h2 => ∃ r3 : Int32, v = some (.int r3) ∧ i_P i_MT i_AT L xs 112 137 [some (.ref x0), some (.long x1), none, x3] [.int r3] h2 0 0 Q)))))) : i_P i_MT i_AT L xs 112 127 [some (.ref x0), some (.long x1), none, x3] [.int s0] h 0 0 Q := by
  have hk := i_k112
  refine g_if_eq hk rfl (fun hc => ?_) (fun hc => ?_)
  · have H := H.1 hc
    exact H
  · have H := H.2 hc
    refine g_s1 (pc2 := 131) hk rfl rfl rfl rfl rfl ?_
    obtain ⟨v1, ev1, H⟩ := H
    refine g_step (pc2 := 134) hk rfl rfl rfl (s_get ev1) ?_
    obtain ⟨ho, H⟩ := H
    refine g_call hk rfl rfl i_k92.1 ⟨rfl, rfl⟩ rfl (i_rcv_v ho rfl (by decide)) rfl ?_
    exact H.mono (fun v h2 q => by obtain ⟨r, rfl, q⟩ := q; exact q)
theorem b112_137 {x0 : Nat} {x1 : Int64} {x3 : Option Value} {s0 : Int32} {h : iH} {Q : Option Value → iH → Prop} (H : ((¬ s0 = 0 → (∃ v1 : Nat, i_fld h x0 9 0 = some (.ref v1) ∧ (∃ v2 : Int32, i_fld h v1 7 10 = some (.int v2) ∧ (∃ v3 : Nat, i_fld h x0 9 0 = some (.ref v3) ∧ (i_obj? h v3 7 ∧ i_C i_MT i_AT L xs 91 [.ref v3, .int (19 : Int32)] h (fun v h4 => ∃ r5 : Int32, v = some (.int r5) ∧ i_P i_MT i_AT L xs 112 159 [some (.ref x0), some (.long x1), none, some (.int v2)] [.int r5] h4 0 0 Q)))))) ∧ (¬ (¬ s0 = 0) → i_P i_MT i_AT L xs 112 140 [some (.ref x0), some (.long x1), none, x3] [] h 0 0 Q))) : i_P i_MT i_AT L xs 112 137 [some (.ref x0), some (.long x1), none, x3] [.int s0] h 0 0 Q := by
  have hk := i_k112
  refine g_if_ne hk rfl (fun hc => ?_) (fun hc => ?_)
  · have H := H.1 hc
    refine g_s1 (pc2 := 143) hk rfl rfl rfl rfl rfl ?_
    obtain ⟨v1, ev1, H⟩ := H
    refine g_step (pc2 := 146) hk rfl rfl rfl (s_get ev1) ?_
    obtain ⟨v2, ev2, H⟩ := H
    refine g_step (pc2 := 149) hk rfl rfl rfl (s_get ev2) ?_
    refine g_s1 (pc2 := 150) (lo2 := [some (.ref x0), some (.long x1), none, some (.int v2)]) hk rfl rfl rfl rfl rfl ?_
    refine g_s1 (pc2 := 151) hk rfl rfl rfl rfl rfl ?_
    obtain ⟨v3, ev3, H⟩ := H
    refine g_step (pc2 := 154) hk rfl rfl rfl (s_get ev3) ?_
    refine g_s1 (pc2 := 156) (st2 := [.int (19 : Int32), .ref v3]) hk rfl rfl rfl rfl rfl ?_
    obtain ⟨ho, H⟩ := H
    refine g_call hk rfl rfl i_k91.1 ⟨rfl, rfl⟩ rfl (i_rcv_v ho rfl (by decide)) rfl ?_
    exact H.mono (fun v h2 q => by obtain ⟨r, rfl, q⟩ := q; exact q)
  · have H := H.2 hc
    exact H
theorem b112_140 {x0 : Nat} {x1 : Int64} {x3 : Option Value} {h : iH} {Q : Option Value → iH → Prop} (H : Q (some (.int 0)) h) : i_P i_MT i_AT L xs 112 140 [some (.ref x0), some (.long x1), none, x3] [] h 0 0 Q := by
  have hk := i_k112
  refine g_s1 (pc2 := 141) (st2 := [.int (0 : Int32)]) hk rfl rfl rfl rfl rfl ?_
  exact g_ireturn hk rfl (by decide) (by decide) rfl H
theorem b112_159 {x0 : Nat} {x1 : Int64} {x3 : Int32} {s0 : Int32} {h : iH} {Q : Option Value → iH → Prop} (H : ((s0 = 0 → i_P i_MT i_AT L xs 112 175 [some (.ref x0), some (.long x1), none, some (.int x3)] [] h 0 0 Q) ∧ (¬ (s0 = 0) → (∃ v1 : Nat, i_fld h x0 9 0 = some (.ref v1) ∧ (i_obj? h v1 7 ∧ i_C i_MT i_AT L xs 95 [.ref v1, .int (1 : Int32), .int (9 : Int32)] h (fun v h2 => ∃ r3 : Int32, v = some (.int r3) ∧ i_P i_MT i_AT L xs 112 172 [some (.ref x0), some (.long x1), none, some (.int x3)] [.int r3] h2 0 0 Q)))))) : i_P i_MT i_AT L xs 112 159 [some (.ref x0), some (.long x1), none, some (.int x3)] [.int s0] h 0 0 Q := by
  have hk := i_k112
  refine g_if_eq hk rfl (fun hc => ?_) (fun hc => ?_)
  · have H := H.1 hc
    exact H
  · have H := H.2 hc
    refine g_s1 (pc2 := 163) hk rfl rfl rfl rfl rfl ?_
    obtain ⟨v1, ev1, H⟩ := H
    refine g_step (pc2 := 166) hk rfl rfl rfl (s_get ev1) ?_
    refine g_s1 (pc2 := 167) (st2 := [.int (1 : Int32), .ref v1]) hk rfl rfl rfl rfl rfl ?_
    refine g_s1 (pc2 := 169) (st2 := [.int (9 : Int32), .int (1 : Int32), .ref v1]) hk rfl rfl rfl rfl rfl ?_
    obtain ⟨ho, H⟩ := H
    refine g_call hk rfl rfl i_k95.1 ⟨rfl, rfl⟩ rfl (i_rcv_v ho rfl (by decide)) rfl ?_
    exact H.mono (fun v h2 q => by obtain ⟨r, rfl, q⟩ := q; exact q)
theorem b112_172 {x0 : Nat} {x1 : Int64} {x3 : Int32} {s0 : Int32} {h : iH} {Q : Option Value → iH → Prop} (H : ((¬ s0 = 0 → (∃ v1 : Nat, i_fld h x0 9 1 = some (.ref v1) ∧ (∃ v2 : Nat, i_fld h v1 8 12 = some (.ref v2) ∧ (i_obj? h x0 9 ∧ i_C i_MT i_AT L xs 107 [.ref x0] h (fun v h3 => ∃ r4 : Int32, v = some (.int r4) ∧ i_P i_MT i_AT L xs 112 189 [some (.ref x0), some (.long x1), none, some (.int x3)] [.int r4, .long x1, .ref v2] h3 0 0 Q))))) ∧ (¬ (¬ s0 = 0) → i_P i_MT i_AT L xs 112 175 [some (.ref x0), some (.long x1), none, some (.int x3)] [] h 0 0 Q))) : i_P i_MT i_AT L xs 112 172 [some (.ref x0), some (.long x1), none, some (.int x3)] [.int s0] h 0 0 Q := by
  have hk := i_k112
  refine g_if_ne hk rfl (fun hc => ?_) (fun hc => ?_)
  · have H := H.1 hc
    refine g_s1 (pc2 := 178) hk rfl rfl rfl rfl rfl ?_
    obtain ⟨v1, ev1, H⟩ := H
    refine g_step (pc2 := 181) hk rfl rfl rfl (s_get ev1) ?_
    obtain ⟨v2, ev2, H⟩ := H
    refine g_step (pc2 := 184) hk rfl rfl rfl (s_get ev2) ?_
    refine g_s1 (pc2 := 185) hk rfl rfl rfl rfl rfl ?_
    refine g_s1 (pc2 := 186) hk rfl rfl rfl rfl rfl ?_
    obtain ⟨ho, H⟩ := H
    refine g_call hk rfl rfl i_k107.1 ⟨rfl, rfl⟩ rfl (i_rcv_v ho rfl (by decide)) rfl ?_
    exact H.mono (fun v h2 q => by obtain ⟨r, rfl, q⟩ := q; exact q)
  · have H := H.2 hc
    exact H
theorem b112_175 {x0 : Nat} {x1 : Int64} {x3 : Int32} {h : iH} {Q : Option Value → iH → Prop} (H : Q (some (.int 0)) h) : i_P i_MT i_AT L xs 112 175 [some (.ref x0), some (.long x1), none, some (.int x3)] [] h 0 0 Q := by
  have hk := i_k112
  refine g_s1 (pc2 := 176) (st2 := [.int (0 : Int32)]) hk rfl rfl rfl rfl rfl ?_
  exact g_ireturn hk rfl (by decide) (by decide) rfl H
theorem b112_189 {x0 : Nat} {x1 : Int64} {x3 : Int32} {s0 : Nat} {s1 : Int64} {s2 : Int32} {h : iH} {Q : Option Value → iH → Prop} (H : (∃ v1 : Nat, i_fld h x0 9 0 = some (.ref v1) ∧ (∃ v2 : Int32, i_fld h v1 7 8 = some (.int v2) ∧ (i_obj? h s0 3 ∧ i_C i_MT i_AT L xs 35 [.ref s0, .long s1, .int s2, .int x3, .int v2] h (fun v h3 => v = none ∧ i_P i_MT i_AT L xs 112 200 [some (.ref x0), some (.long x1), none, some (.int x3)] [] h3 0 0 Q))))) : i_P i_MT i_AT L xs 112 189 [some (.ref x0), some (.long x1), none, some (.int x3)] [.int s2, .long s1, .ref s0] h 0 0 Q := by
  have hk := i_k112
  refine g_s1 (pc2 := 190) hk rfl rfl rfl rfl rfl ?_
  refine g_s1 (pc2 := 191) hk rfl rfl rfl rfl rfl ?_
  obtain ⟨v1, ev1, H⟩ := H
  refine g_step (pc2 := 194) hk rfl rfl rfl (s_get ev1) ?_
  obtain ⟨v2, ev2, H⟩ := H
  refine g_step (pc2 := 197) hk rfl rfl rfl (s_get ev2) ?_
  obtain ⟨ho, H⟩ := H
  refine g_call hk rfl rfl i_k35.1 ⟨rfl, rfl⟩ rfl (i_rcv_v ho rfl (by decide)) rfl ?_
  exact H.mono (fun v h2 q => by obtain ⟨rfl, q⟩ := q; exact q)
theorem b112_200 {x0 : Nat} {x1 : Int64} {x3 : Int32} {h : iH} {Q : Option Value → iH → Prop} (H : (∃ v1 : Nat, i_fld h x0 9 0 = some (.ref v1) ∧ (i_obj? h v1 7 ∧ i_C i_MT i_AT L xs 94 [.ref v1] h (fun v h2 => ∃ r3 : Int32, v = some (.int r3) ∧ i_P i_MT i_AT L xs 112 207 [some (.ref x0), some (.long x1), none, some (.int x3)] [.int r3] h2 0 0 Q)))) : i_P i_MT i_AT L xs 112 200 [some (.ref x0), some (.long x1), none, some (.int x3)] [] h 0 0 Q := by
  have hk := i_k112
  refine g_s1 (pc2 := 201) hk rfl rfl rfl rfl rfl ?_
  obtain ⟨v1, ev1, H⟩ := H
  refine g_step (pc2 := 204) hk rfl rfl rfl (s_get ev1) ?_
  obtain ⟨ho, H⟩ := H
  refine g_call hk rfl rfl i_k94.1 ⟨rfl, rfl⟩ rfl (i_rcv_v ho rfl (by decide)) rfl ?_
  exact H.mono (fun v h2 q => by obtain ⟨r, rfl, q⟩ := q; exact q)
theorem b112_207 {x0 : Nat} {x1 : Int64} {x3 : Int32} {s0 : Int32} {h : iH} {Q : Option Value → iH → Prop} (H : (i_ret (some .boolean) s0 = true ∧ Q (some (.int s0)) h)) : i_P i_MT i_AT L xs 112 207 [some (.ref x0), some (.long x1), none, some (.int x3)] [.int s0] h 0 0 Q := by
  have hk := i_k112
  exact g_ireturn hk rfl (by decide) (by decide) H.1 H.2
/-! StillTown$TownReader.readPair(I[I)Z -/
theorem e113 {x0 : Nat} {x1 : Int32} {x2 : Nat} {h : iH} {Q : Option Value → iH → Prop} (H : i_P i_MT i_AT L xs 113 0 [some (.ref x0), some (.int x1), some (.ref x2), none, none] [] h 0 0 Q) : i_C i_MT i_AT L xs 113 [.ref x0, .int x1, .ref x2] h Q := ⟨i_m113, i_k113.1, Nat.le_of_ble_eq_true rfl, H⟩
theorem b113_0 {x0 : Nat} {x1 : Int32} {x2 : Nat} {x3 : Option Value} {x4 : Option Value} {h : iH} {Q : Option Value → iH → Prop} (H : (i_obj? h x0 9 ∧ i_C i_MT i_AT L xs 114 [.ref x0] h (fun v h1 => ∃ r2 : Int32, v = some (.int r2) ∧ i_P i_MT i_AT L xs 113 4 [some (.ref x0), some (.int x1), some (.ref x2), x3, x4] [.int r2] h1 0 0 Q))) : i_P i_MT i_AT L xs 113 0 [some (.ref x0), some (.int x1), some (.ref x2), x3, x4] [] h 0 0 Q := by
  have hk := i_k113
  refine g_s1 (pc2 := 1) hk rfl rfl rfl rfl rfl ?_
  obtain ⟨ho, H⟩ := H
  refine g_call hk rfl rfl i_k114.1 ⟨rfl, rfl⟩ rfl (i_rcv_v ho rfl (by decide)) rfl ?_
  exact H.mono (fun v h2 q => by obtain ⟨r, rfl, q⟩ := q; exact q)
theorem b113_4 {x0 : Nat} {x1 : Int32} {x2 : Nat} {x3 : Option Value} {x4 : Option Value} {s0 : Int32} {h : iH} {Q : Option Value → iH → Prop} (H : ((s0 = (-1 : Int32) → i_P i_MT i_AT L xs 113 21 [some (.ref x0), some (.int x1), some (.ref x2), some (.int s0), x4] [] h 0 0 Q) ∧ (¬ (s0 = (-1 : Int32)) → (∃ v1 : Nat, i_fld h x0 9 0 = some (.ref v1) ∧ (i_obj? h v1 7 ∧ i_C i_MT i_AT L xs 91 [.ref v1, .int x1] h (fun v h2 => ∃ r3 : Int32, v = some (.int r3) ∧ i_P i_MT i_AT L xs 113 18 [some (.ref x0), some (.int x1), some (.ref x2), some (.int s0), x4] [.int r3] h2 0 0 Q)))))) : i_P i_MT i_AT L xs 113 4 [some (.ref x0), some (.int x1), some (.ref x2), x3, x4] [.int s0] h 0 0 Q := by
  have hk := i_k113
  refine g_s1 (pc2 := 5) (lo2 := [some (.ref x0), some (.int x1), some (.ref x2), some (.int s0), x4]) hk rfl rfl rfl rfl rfl ?_
  refine g_s1 (pc2 := 6) hk rfl rfl rfl rfl rfl ?_
  refine g_s1 (pc2 := 7) (st2 := [.int (-1 : Int32), .int s0]) hk rfl rfl rfl rfl rfl ?_
  refine g_icmp_eq hk rfl (fun hc => ?_) (fun hc => ?_)
  · have H := H.1 hc
    exact H
  · have H := H.2 hc
    refine g_s1 (pc2 := 11) hk rfl rfl rfl rfl rfl ?_
    obtain ⟨v1, ev1, H⟩ := H
    refine g_step (pc2 := 14) hk rfl rfl rfl (s_get ev1) ?_
    refine g_s1 (pc2 := 15) hk rfl rfl rfl rfl rfl ?_
    obtain ⟨ho, H⟩ := H
    refine g_call hk rfl rfl i_k91.1 ⟨rfl, rfl⟩ rfl (i_rcv_v ho rfl (by decide)) rfl ?_
    exact H.mono (fun v h2 q => by obtain ⟨r, rfl, q⟩ := q; exact q)
theorem b113_18 {x0 : Nat} {x1 : Int32} {x2 : Nat} {x3 : Int32} {x4 : Option Value} {s0 : Int32} {h : iH} {Q : Option Value → iH → Prop} (H : ((¬ s0 = 0 → (i_obj? h x0 9 ∧ i_C i_MT i_AT L xs 114 [.ref x0] h (fun v h1 => ∃ r2 : Int32, v = some (.int r2) ∧ i_P i_MT i_AT L xs 113 27 [some (.ref x0), some (.int x1), some (.ref x2), some (.int x3), x4] [.int r2] h1 0 0 Q))) ∧ (¬ (¬ s0 = 0) → i_P i_MT i_AT L xs 113 21 [some (.ref x0), some (.int x1), some (.ref x2), some (.int x3), x4] [] h 0 0 Q))) : i_P i_MT i_AT L xs 113 18 [some (.ref x0), some (.int x1), some (.ref x2), some (.int x3), x4] [.int s0] h 0 0 Q := by
  have hk := i_k113
  refine g_if_ne hk rfl (fun hc => ?_) (fun hc => ?_)
  · have H := H.1 hc
    refine g_s1 (pc2 := 24) hk rfl rfl rfl rfl rfl ?_
    obtain ⟨ho, H⟩ := H
    refine g_call hk rfl rfl i_k114.1 ⟨rfl, rfl⟩ rfl (i_rcv_v ho rfl (by decide)) rfl ?_
    exact H.mono (fun v h2 q => by obtain ⟨r, rfl, q⟩ := q; exact q)
  · have H := H.2 hc
    exact H
theorem b113_21 {x0 : Nat} {x1 : Int32} {x2 : Nat} {x3 : Int32} {x4 : Option Value} {h : iH} {Q : Option Value → iH → Prop} (H : Q (some (.int 0)) h) : i_P i_MT i_AT L xs 113 21 [some (.ref x0), some (.int x1), some (.ref x2), some (.int x3), x4] [] h 0 0 Q := by
  have hk := i_k113
  refine g_s1 (pc2 := 22) (st2 := [.int (0 : Int32)]) hk rfl rfl rfl rfl rfl ?_
  exact g_ireturn hk rfl (by decide) (by decide) rfl H
theorem b113_27 {x0 : Nat} {x1 : Int32} {x2 : Nat} {x3 : Int32} {x4 : Option Value} {s0 : Int32} {h : iH} {Q : Option Value → iH → Prop} (H : ((¬ s0 = (-1 : Int32) → ((¬ s0 = x3 → (∃ (n1 : Nat) (f2 : Nat → Int32), i_arI h 0 x2 = some (n1, f2) ∧ ¬ (x3 < 0 ∨ n1 ≤ x3.toNatClampNeg) ∧ (∃ (n3 : Nat) (f4 : Nat → Int32), i_arI h 0 x2 = some (n3, f4) ∧ ¬ (x3 < 0 ∨ n3 ≤ x3.toNatClampNeg) ∧ i_P i_MT i_AT L xs 113 62 [some (.ref x0), some (.int x1), some (.ref x2), some (.int x3), some (.int s0)] [] (i_siI h x2 x3.toNatClampNeg ((f2 x3.toNatClampNeg) ||| ((1 : Int32) <<< (s0 &&& 31)))) 0 0 Q))) ∧ (¬ (¬ s0 = x3) → (∃ v5 : Nat, i_fld h x0 9 0 = some (.ref v5) ∧ (i_obj? h v5 7 ∧ i_C i_MT i_AT L xs 86 [.ref v5, .int (5 : Int32)] h (fun v h6 => ∃ r7 : Int32, v = some (.int r7) ∧ i_P i_MT i_AT L xs 113 51 [some (.ref x0), some (.int x1), some (.ref x2), some (.int x3), some (.int s0)] [.int r7] h6 0 0 Q)))))) ∧ (¬ (¬ s0 = (-1 : Int32)) → Q (some (.int 0)) h))) : i_P i_MT i_AT L xs 113 27 [some (.ref x0), some (.int x1), some (.ref x2), some (.int x3), x4] [.int s0] h 0 0 Q := by
  have hk := i_k113
  refine g_s1 (pc2 := 29) (lo2 := [some (.ref x0), some (.int x1), some (.ref x2), some (.int x3), some (.int s0)]) hk rfl rfl rfl rfl rfl ?_
  refine g_s1 (pc2 := 31) hk rfl rfl rfl rfl rfl ?_
  refine g_s1 (pc2 := 32) (st2 := [.int (-1 : Int32), .int s0]) hk rfl rfl rfl rfl rfl ?_
  refine g_icmp_ne hk rfl (fun hc => ?_) (fun hc => ?_)
  · have H := H.1 hc
    refine g_s1 (pc2 := 39) hk rfl rfl rfl rfl rfl ?_
    refine g_s1 (pc2 := 40) hk rfl rfl rfl rfl rfl ?_
    refine g_icmp_ne hk rfl (fun hc => ?_) (fun hc => ?_)
    · have H := H.1 hc
      refine g_s1 (pc2 := 53) hk rfl rfl rfl rfl rfl ?_
      refine g_s1 (pc2 := 54) hk rfl rfl rfl rfl rfl ?_
      refine g_s1 (pc2 := 55) hk rfl rfl rfl rfl rfl ?_
      obtain ⟨n1, f2, ef2, hi, H⟩ := H
      refine g_step (pc2 := 56) hk rfl rfl rfl (s_aget (L := L) (xs := xs) ef2 hi) ?_
      refine g_s1 (pc2 := 57) (st2 := [.int (1 : Int32), .int (f2 x3.toNatClampNeg), .int x3, .ref x2]) hk rfl rfl rfl rfl rfl ?_
      refine g_s1 (pc2 := 59) hk rfl rfl rfl rfl rfl ?_
      refine g_s1 (pc2 := 60) hk rfl rfl rfl rfl rfl ?_
      refine g_s1 (pc2 := 61) hk rfl rfl rfl rfl rfl ?_
      obtain ⟨n3, f4, ef4, hi, H⟩ := H
      refine g_step (pc2 := 62) hk rfl rfl rfl (s_aput ef4 hi) ?_
      exact H
    · have H := H.2 hc
      refine g_s1 (pc2 := 44) hk rfl rfl rfl rfl rfl ?_
      obtain ⟨v5, ev5, H⟩ := H
      refine g_step (pc2 := 47) hk rfl rfl rfl (s_get ev5) ?_
      refine g_s1 (pc2 := 48) (st2 := [.int (5 : Int32), .ref v5]) hk rfl rfl rfl rfl rfl ?_
      obtain ⟨ho, H⟩ := H
      refine g_call hk rfl rfl i_k86.1 ⟨rfl, rfl⟩ rfl (i_rcv_v ho rfl (by decide)) rfl ?_
      exact H.mono (fun v h2 q => by obtain ⟨r, rfl, q⟩ := q; exact q)
  · have H := H.2 hc
    refine g_s1 (pc2 := 36) (st2 := [.int (0 : Int32)]) hk rfl rfl rfl rfl rfl ?_
    exact g_ireturn hk rfl (by decide) (by decide) rfl H
theorem b113_51 {x0 : Nat} {x1 : Int32} {x2 : Nat} {x3 : Int32} {x4 : Int32} {s0 : Int32} {h : iH} {Q : Option Value → iH → Prop} (H : (i_ret (some .boolean) s0 = true ∧ Q (some (.int s0)) h)) : i_P i_MT i_AT L xs 113 51 [some (.ref x0), some (.int x1), some (.ref x2), some (.int x3), some (.int x4)] [.int s0] h 0 0 Q := by
  have hk := i_k113
  exact g_ireturn hk rfl (by decide) (by decide) H.1 H.2
theorem b113_62 {x0 : Nat} {x1 : Int32} {x2 : Nat} {x3 : Int32} {x4 : Int32} {h : iH} {Q : Option Value → iH → Prop} (H : (∃ v1 : Nat, i_fld h x0 9 0 = some (.ref v1) ∧ (i_obj? h v1 7 ∧ i_C i_MT i_AT L xs 94 [.ref v1] h (fun v h2 => ∃ r3 : Int32, v = some (.int r3) ∧ i_P i_MT i_AT L xs 113 69 [some (.ref x0), some (.int x1), some (.ref x2), some (.int x3), some (.int x4)] [.int r3] h2 0 0 Q)))) : i_P i_MT i_AT L xs 113 62 [some (.ref x0), some (.int x1), some (.ref x2), some (.int x3), some (.int x4)] [] h 0 0 Q := by
  have hk := i_k113
  refine g_s1 (pc2 := 63) hk rfl rfl rfl rfl rfl ?_
  obtain ⟨v1, ev1, H⟩ := H
  refine g_step (pc2 := 66) hk rfl rfl rfl (s_get ev1) ?_
  obtain ⟨ho, H⟩ := H
  refine g_call hk rfl rfl i_k94.1 ⟨rfl, rfl⟩ rfl (i_rcv_v ho rfl (by decide)) rfl ?_
  exact H.mono (fun v h2 q => by obtain ⟨r, rfl, q⟩ := q; exact q)
theorem b113_69 {x0 : Nat} {x1 : Int32} {x2 : Nat} {x3 : Int32} {x4 : Int32} {s0 : Int32} {h : iH} {Q : Option Value → iH → Prop} (H : (i_ret (some .boolean) s0 = true ∧ Q (some (.int s0)) h)) : i_P i_MT i_AT L xs 113 69 [some (.ref x0), some (.int x1), some (.ref x2), some (.int x3), some (.int x4)] [.int s0] h 0 0 Q := by
  have hk := i_k113
  exact g_ireturn hk rfl (by decide) (by decide) H.1 H.2
/-! StillTown$TownReader.readKnown()I -/
theorem e114 {x0 : Nat} {h : iH} {Q : Option Value → iH → Prop} (H : i_P i_MT i_AT L xs 114 0 [some (.ref x0), none] [] h 0 0 Q) : i_C i_MT i_AT L xs 114 [.ref x0] h Q := ⟨i_m114, i_k114.1, Nat.le_of_ble_eq_true rfl, H⟩
theorem b114_0 {x0 : Nat} {x1 : Option Value} {h : iH} {Q : Option Value → iH → Prop} (H : (∃ v1 : Nat, i_fld h x0 9 0 = some (.ref v1) ∧ (i_obj? h v1 7 ∧ i_C i_MT i_AT L xs 93 [.ref v1] h (fun v h2 => ∃ r3 : Int32, v = some (.int r3) ∧ i_P i_MT i_AT L xs 114 7 [some (.ref x0), x1] [.int r3] h2 0 0 Q)))) : i_P i_MT i_AT L xs 114 0 [some (.ref x0), x1] [] h 0 0 Q := by
  have hk := i_k114
  refine g_s1 (pc2 := 1) hk rfl rfl rfl rfl rfl ?_
  obtain ⟨v1, ev1, H⟩ := H
  refine g_step (pc2 := 4) hk rfl rfl rfl (s_get ev1) ?_
  obtain ⟨ho, H⟩ := H
  refine g_call hk rfl rfl i_k93.1 ⟨rfl, rfl⟩ rfl (i_rcv_v ho rfl (by decide)) rfl ?_
  exact H.mono (fun v h2 q => by obtain ⟨r, rfl, q⟩ := q; exact q)
theorem b114_7 {x0 : Nat} {x1 : Option Value} {s0 : Int32} {h : iH} {Q : Option Value → iH → Prop} (H : ((¬ s0 = 0 → (∃ v1 : Nat, i_fld h x0 9 1 = some (.ref v1) ∧ (∃ v2 : Nat, i_fld h v1 8 12 = some (.ref v2) ∧ (∃ v3 : Nat, i_fld h x0 9 0 = some (.ref v3) ∧ (∃ v4 : Int64, i_fld h v3 7 9 = some (.long v4) ∧ (i_obj? h v2 3 ∧ i_C i_MT i_AT L xs 34 [.ref v2, .long v4] h (fun v h5 => ∃ r6 : Int32, v = some (.int r6) ∧ i_P i_MT i_AT L xs 114 29 [some (.ref x0), x1] [.int r6] h5 0 0 Q))))))) ∧ (¬ (¬ s0 = 0) → Q (some (.int (-1 : Int32))) h))) : i_P i_MT i_AT L xs 114 7 [some (.ref x0), x1] [.int s0] h 0 0 Q := by
  have hk := i_k114
  refine g_if_ne hk rfl (fun hc => ?_) (fun hc => ?_)
  · have H := H.1 hc
    refine g_s1 (pc2 := 13) hk rfl rfl rfl rfl rfl ?_
    obtain ⟨v1, ev1, H⟩ := H
    refine g_step (pc2 := 16) hk rfl rfl rfl (s_get ev1) ?_
    obtain ⟨v2, ev2, H⟩ := H
    refine g_step (pc2 := 19) hk rfl rfl rfl (s_get ev2) ?_
    refine g_s1 (pc2 := 20) hk rfl rfl rfl rfl rfl ?_
    obtain ⟨v3, ev3, H⟩ := H
    refine g_step (pc2 := 23) hk rfl rfl rfl (s_get ev3) ?_
    obtain ⟨v4, ev4, H⟩ := H
    refine g_step (pc2 := 26) hk rfl rfl rfl (s_get ev4) ?_
    obtain ⟨ho, H⟩ := H
    refine g_call hk rfl rfl i_k34.1 ⟨rfl, rfl⟩ rfl (i_rcv_v ho rfl (by decide)) rfl ?_
    exact H.mono (fun v h2 q => by obtain ⟨r, rfl, q⟩ := q; exact q)
  · have H := H.2 hc
    refine g_s1 (pc2 := 11) (st2 := [.int (-1 : Int32)]) hk rfl rfl rfl rfl rfl ?_
    exact g_ireturn hk rfl (by decide) (by decide) rfl H
theorem b114_29 {x0 : Nat} {x1 : Option Value} {s0 : Int32} {h : iH} {Q : Option Value → iH → Prop} (H : ((¬ s0 = (-1 : Int32) → i_P i_MT i_AT L xs 114 44 [some (.ref x0), some (.int s0)] [] h 0 0 Q) ∧ (¬ (¬ s0 = (-1 : Int32)) → (∃ v1 : Nat, i_fld h x0 9 0 = some (.ref v1) ∧ (i_obj? h v1 7 ∧ i_C i_MT i_AT L xs 86 [.ref v1, .int (3 : Int32)] h (fun v h2 => ∃ r3 : Int32, v = some (.int r3) ∧ i_P i_MT i_AT L xs 114 43 [some (.ref x0), some (.int s0)] [.int r3] h2 0 0 Q)))))) : i_P i_MT i_AT L xs 114 29 [some (.ref x0), x1] [.int s0] h 0 0 Q := by
  have hk := i_k114
  refine g_s1 (pc2 := 30) (lo2 := [some (.ref x0), some (.int s0)]) hk rfl rfl rfl rfl rfl ?_
  refine g_s1 (pc2 := 31) hk rfl rfl rfl rfl rfl ?_
  refine g_s1 (pc2 := 32) (st2 := [.int (-1 : Int32), .int s0]) hk rfl rfl rfl rfl rfl ?_
  refine g_icmp_ne hk rfl (fun hc => ?_) (fun hc => ?_)
  · have H := H.1 hc
    exact H
  · have H := H.2 hc
    refine g_s1 (pc2 := 36) hk rfl rfl rfl rfl rfl ?_
    obtain ⟨v1, ev1, H⟩ := H
    refine g_step (pc2 := 39) hk rfl rfl rfl (s_get ev1) ?_
    refine g_s1 (pc2 := 40) (st2 := [.int (3 : Int32), .ref v1]) hk rfl rfl rfl rfl rfl ?_
    obtain ⟨ho, H⟩ := H
    refine g_call hk rfl rfl i_k86.1 ⟨rfl, rfl⟩ rfl (i_rcv_v ho rfl (by decide)) rfl ?_
    exact H.mono (fun v h2 q => by obtain ⟨r, rfl, q⟩ := q; exact q)
theorem b114_43 {x0 : Nat} {x1 : Int32} {s0 : Int32} {h : iH} {Q : Option Value → iH → Prop} (H : i_P i_MT i_AT L xs 114 44 [some (.ref x0), some (.int x1)] [] h 0 0 Q) : i_P i_MT i_AT L xs 114 43 [some (.ref x0), some (.int x1)] [.int s0] h 0 0 Q := by
  have hk := i_k114
  refine g_s1 (pc2 := 44) hk rfl rfl rfl rfl rfl ?_
  exact H
theorem b114_44 {x0 : Nat} {x1 : Int32} {h : iH} {Q : Option Value → iH → Prop} (H : Q (some (.int x1)) h) : i_P i_MT i_AT L xs 114 44 [some (.ref x0), some (.int x1)] [] h 0 0 Q := by
  have hk := i_k114
  refine g_s1 (pc2 := 45) hk rfl rfl rfl rfl rfl ?_
  exact g_ireturn hk rfl (by decide) (by decide) rfl H
/-! StillTown$TownReader.readSeen()Z -/
theorem e115 {x0 : Nat} {h : iH} {Q : Option Value → iH → Prop} (H : i_P i_MT i_AT L xs 115 0 [some (.ref x0), none] [] h 0 0 Q) : i_C i_MT i_AT L xs 115 [.ref x0] h Q := ⟨i_m115, i_k115.1, Nat.le_of_ble_eq_true rfl, H⟩
theorem b115_0 {x0 : Nat} {x1 : Option Value} {h : iH} {Q : Option Value → iH → Prop} (H : (∃ v1 : Int32, i_fld h x0 9 4 = some (.int v1) ∧ ((v1 = 0 → ((∃ o, i_fld h x0 9 4 = some o) ∧ ((1 : Int32) == 0 || (1 : Int32) == 1) = true ∧ i_P i_MT i_AT L xs 115 21 [some (.ref x0), x1] [] (i_sf h x0 4 (.int (1 : Int32))) 0 0 Q)) ∧ (¬ (v1 = 0) → (∃ v2 : Nat, i_fld h x0 9 0 = some (.ref v2) ∧ (i_obj? h v2 7 ∧ i_C i_MT i_AT L xs 86 [.ref v2, .int (5 : Int32)] h (fun v h3 => ∃ r4 : Int32, v = some (.int r4) ∧ i_P i_MT i_AT L xs 115 15 [some (.ref x0), x1] [.int r4] h3 0 0 Q))))))) : i_P i_MT i_AT L xs 115 0 [some (.ref x0), x1] [] h 0 0 Q := by
  have hk := i_k115
  refine g_s1 (pc2 := 1) hk rfl rfl rfl rfl rfl ?_
  obtain ⟨v1, ev1, H⟩ := H
  refine g_step (pc2 := 4) hk rfl rfl rfl (s_get ev1) ?_
  refine g_if_eq hk rfl (fun hc => ?_) (fun hc => ?_)
  · have H := H.1 hc
    refine g_s1 (pc2 := 17) hk rfl rfl rfl rfl rfl ?_
    refine g_s1 (pc2 := 18) (st2 := [.int (1 : Int32), .ref x0]) hk rfl rfl rfl rfl rfl ?_
    obtain ⟨⟨o, ho⟩, hf, H⟩ := H
    refine g_step (pc2 := 21) hk rfl rfl rfl (s_put ho hf) ?_
    exact H
  · have H := H.2 hc
    refine g_s1 (pc2 := 8) hk rfl rfl rfl rfl rfl ?_
    obtain ⟨v2, ev2, H⟩ := H
    refine g_step (pc2 := 11) hk rfl rfl rfl (s_get ev2) ?_
    refine g_s1 (pc2 := 12) (st2 := [.int (5 : Int32), .ref v2]) hk rfl rfl rfl rfl rfl ?_
    obtain ⟨ho, H⟩ := H
    refine g_call hk rfl rfl i_k86.1 ⟨rfl, rfl⟩ rfl (i_rcv_v ho rfl (by decide)) rfl ?_
    exact H.mono (fun v h2 q => by obtain ⟨r, rfl, q⟩ := q; exact q)
theorem b115_15 {x0 : Nat} {x1 : Option Value} {s0 : Int32} {h : iH} {Q : Option Value → iH → Prop} (H : (i_ret (some .boolean) s0 = true ∧ Q (some (.int s0)) h)) : i_P i_MT i_AT L xs 115 15 [some (.ref x0), x1] [.int s0] h 0 0 Q := by
  have hk := i_k115
  exact g_ireturn hk rfl (by decide) (by decide) H.1 H.2
theorem b115_21 {x0 : Nat} {x1 : Option Value} {h : iH} {Q : Option Value → iH → Prop} (H : i_P i_MT i_AT L xs 115 23 [some (.ref x0), some (.int (0 : Int32))] [] h 0 0 Q) : i_P i_MT i_AT L xs 115 21 [some (.ref x0), x1] [] h 0 0 Q := by
  have hk := i_k115
  refine g_s1 (pc2 := 22) (st2 := [.int (0 : Int32)]) hk rfl rfl rfl rfl rfl ?_
  refine g_s1 (pc2 := 23) (lo2 := [some (.ref x0), some (.int (0 : Int32))]) hk rfl rfl rfl rfl rfl ?_
  exact H
theorem b115_23 {x0 : Nat} {x1 : Int32} {h : iH} {Q : Option Value → iH → Prop} (H : (((4 : Int32) ≤ x1 → (∃ v1 : Nat, i_fld h x0 9 0 = some (.ref v1) ∧ (i_obj? h v1 7 ∧ i_C i_MT i_AT L xs 94 [.ref v1] h (fun v h2 => ∃ r3 : Int32, v = some (.int r3) ∧ i_P i_MT i_AT L xs 115 86 [some (.ref x0), some (.int x1)] [.int r3] h2 0 0 Q)))) ∧ (¬ ((4 : Int32) ≤ x1) → (∃ v4 : Nat, i_fld h x0 9 0 = some (.ref v4) ∧ (i_obj? h v4 7 ∧ i_C i_MT i_AT L xs 91 [.ref v4, .int ((24 : Int32) + x1)] h (fun v h5 => ∃ r6 : Int32, v = some (.int r6) ∧ i_P i_MT i_AT L xs 115 39 [some (.ref x0), some (.int x1)] [.int r6] h5 0 0 Q)))))) : i_P i_MT i_AT L xs 115 23 [some (.ref x0), some (.int x1)] [] h 0 0 Q := by
  have hk := i_k115
  refine g_s1 (pc2 := 24) hk rfl rfl rfl rfl rfl ?_
  refine g_s1 (pc2 := 25) (st2 := [.int (4 : Int32), .int x1]) hk rfl rfl rfl rfl rfl ?_
  refine g_icmp_ge hk rfl (fun hc => ?_) (fun hc => ?_)
  · have H := H.1 hc
    refine g_s1 (pc2 := 80) hk rfl rfl rfl rfl rfl ?_
    obtain ⟨v1, ev1, H⟩ := H
    refine g_step (pc2 := 83) hk rfl rfl rfl (s_get ev1) ?_
    obtain ⟨ho, H⟩ := H
    refine g_call hk rfl rfl i_k94.1 ⟨rfl, rfl⟩ rfl (i_rcv_v ho rfl (by decide)) rfl ?_
    exact H.mono (fun v h2 q => by obtain ⟨r, rfl, q⟩ := q; exact q)
  · have H := H.2 hc
    refine g_s1 (pc2 := 29) hk rfl rfl rfl rfl rfl ?_
    obtain ⟨v4, ev4, H⟩ := H
    refine g_step (pc2 := 32) hk rfl rfl rfl (s_get ev4) ?_
    refine g_s1 (pc2 := 34) (st2 := [.int (24 : Int32), .ref v4]) hk rfl rfl rfl rfl rfl ?_
    refine g_s1 (pc2 := 35) hk rfl rfl rfl rfl rfl ?_
    refine g_s1 (pc2 := 36) hk rfl rfl rfl rfl rfl ?_
    obtain ⟨ho, H⟩ := H
    refine g_call hk rfl rfl i_k91.1 ⟨rfl, rfl⟩ rfl (i_rcv_v ho rfl (by decide)) rfl ?_
    exact H.mono (fun v h2 q => by obtain ⟨r, rfl, q⟩ := q; exact q)
theorem b115_39 {x0 : Nat} {x1 : Int32} {s0 : Int32} {h : iH} {Q : Option Value → iH → Prop} (H : ((s0 = 0 → i_P i_MT i_AT L xs 115 55 [some (.ref x0), some (.int x1)] [] h 0 0 Q) ∧ (¬ (s0 = 0) → (∃ v1 : Nat, i_fld h x0 9 0 = some (.ref v1) ∧ (i_obj? h v1 7 ∧ i_C i_MT i_AT L xs 95 [.ref v1, .int (0 : Int32), .int (16 : Int32)] h (fun v h2 => ∃ r3 : Int32, v = some (.int r3) ∧ i_P i_MT i_AT L xs 115 52 [some (.ref x0), some (.int x1)] [.int r3] h2 0 0 Q)))))) : i_P i_MT i_AT L xs 115 39 [some (.ref x0), some (.int x1)] [.int s0] h 0 0 Q := by
  have hk := i_k115
  refine g_if_eq hk rfl (fun hc => ?_) (fun hc => ?_)
  · have H := H.1 hc
    exact H
  · have H := H.2 hc
    refine g_s1 (pc2 := 43) hk rfl rfl rfl rfl rfl ?_
    obtain ⟨v1, ev1, H⟩ := H
    refine g_step (pc2 := 46) hk rfl rfl rfl (s_get ev1) ?_
    refine g_s1 (pc2 := 47) (st2 := [.int (0 : Int32), .ref v1]) hk rfl rfl rfl rfl rfl ?_
    refine g_s1 (pc2 := 49) (st2 := [.int (16 : Int32), .int (0 : Int32), .ref v1]) hk rfl rfl rfl rfl rfl ?_
    obtain ⟨ho, H⟩ := H
    refine g_call hk rfl rfl i_k95.1 ⟨rfl, rfl⟩ rfl (i_rcv_v ho rfl (by decide)) rfl ?_
    exact H.mono (fun v h2 q => by obtain ⟨r, rfl, q⟩ := q; exact q)
theorem b115_52 {x0 : Nat} {x1 : Int32} {s0 : Int32} {h : iH} {Q : Option Value → iH → Prop} (H : ((¬ s0 = 0 → (∃ v1 : Nat, i_fld h x0 9 1 = some (.ref v1) ∧ (∃ v2 : Nat, i_fld h v1 8 11 = some (.ref v2) ∧ (∃ v3 : Nat, i_fld h x0 9 0 = some (.ref v3) ∧ (∃ v4 : Int32, i_fld h v3 7 8 = some (.int v4) ∧ (∃ (n5 : Nat) (f6 : Nat → Int32), i_arI h 0 v2 = some (n5, f6) ∧ ¬ (x1 < 0 ∨ n5 ≤ x1.toNatClampNeg) ∧ i_P i_MT i_AT L xs 115 73 [some (.ref x0), some (.int x1)] [] (i_siI h v2 x1.toNatClampNeg v4) 0 0 Q)))))) ∧ (¬ (¬ s0 = 0) → i_P i_MT i_AT L xs 115 55 [some (.ref x0), some (.int x1)] [] h 0 0 Q))) : i_P i_MT i_AT L xs 115 52 [some (.ref x0), some (.int x1)] [.int s0] h 0 0 Q := by
  have hk := i_k115
  refine g_if_ne hk rfl (fun hc => ?_) (fun hc => ?_)
  · have H := H.1 hc
    refine g_s1 (pc2 := 58) hk rfl rfl rfl rfl rfl ?_
    obtain ⟨v1, ev1, H⟩ := H
    refine g_step (pc2 := 61) hk rfl rfl rfl (s_get ev1) ?_
    obtain ⟨v2, ev2, H⟩ := H
    refine g_step (pc2 := 64) hk rfl rfl rfl (s_get ev2) ?_
    refine g_s1 (pc2 := 65) hk rfl rfl rfl rfl rfl ?_
    refine g_s1 (pc2 := 66) hk rfl rfl rfl rfl rfl ?_
    obtain ⟨v3, ev3, H⟩ := H
    refine g_step (pc2 := 69) hk rfl rfl rfl (s_get ev3) ?_
    obtain ⟨v4, ev4, H⟩ := H
    refine g_step (pc2 := 72) hk rfl rfl rfl (s_get ev4) ?_
    obtain ⟨n5, f6, ef6, hi, H⟩ := H
    refine g_step (pc2 := 73) hk rfl rfl rfl (s_aput ef6 hi) ?_
    exact H
  · have H := H.2 hc
    exact H
theorem b115_55 {x0 : Nat} {x1 : Int32} {h : iH} {Q : Option Value → iH → Prop} (H : Q (some (.int 0)) h) : i_P i_MT i_AT L xs 115 55 [some (.ref x0), some (.int x1)] [] h 0 0 Q := by
  have hk := i_k115
  refine g_s1 (pc2 := 56) (st2 := [.int (0 : Int32)]) hk rfl rfl rfl rfl rfl ?_
  exact g_ireturn hk rfl (by decide) (by decide) rfl H
theorem b115_73 {x0 : Nat} {x1 : Int32} {h : iH} {Q : Option Value → iH → Prop} (H : i_P i_MT i_AT L xs 115 23 [some (.ref x0), some (.int (x1 + 1))] [] h 0 0 Q) : i_P i_MT i_AT L xs 115 73 [some (.ref x0), some (.int x1)] [] h 0 0 Q := by
  have hk := i_k115
  refine g_s1 (pc2 := 76) (lo2 := [some (.ref x0), some (.int (x1 + 1))]) hk rfl rfl rfl rfl rfl ?_
  refine g_s1 (pc2 := 23) hk rfl rfl rfl rfl rfl ?_
  exact H
theorem b115_86 {x0 : Nat} {x1 : Int32} {s0 : Int32} {h : iH} {Q : Option Value → iH → Prop} (H : (i_ret (some .boolean) s0 = true ∧ Q (some (.int s0)) h)) : i_P i_MT i_AT L xs 115 86 [some (.ref x0), some (.int x1)] [.int s0] h 0 0 Q := by
  have hk := i_k115
  exact g_ireturn hk rfl (by decide) (by decide) H.1 H.2
/-! StillTown$Trays.isTray(I)Z -/
theorem e117 {x0 : Int32} {h : iH} {Q : Option Value → iH → Prop} (H : i_P i_MT i_AT L xs 117 0 [some (.int x0)] [] h 0 0 Q) : i_C i_MT i_AT L xs 117 [.int x0] h Q := ⟨i_m117, i_k117.1, Nat.le_of_ble_eq_true rfl, H⟩
theorem b117_0 {x0 : Int32} {h : iH} {Q : Option Value → iH → Prop} (H : ((x0 < 0 → i_P i_MT i_AT L xs 117 13 [some (.int x0)] [] h 0 0 Q) ∧ (¬ (x0 < 0) → (((4 : Int32) ≤ x0 → i_P i_MT i_AT L xs 117 13 [some (.int x0)] [] h 0 0 Q) ∧ (¬ ((4 : Int32) ≤ x0) → i_P i_MT i_AT L xs 117 14 [some (.int x0)] [.int (1 : Int32)] h 0 0 Q))))) : i_P i_MT i_AT L xs 117 0 [some (.int x0)] [] h 0 0 Q := by
  have hk := i_k117
  refine g_s1 (pc2 := 1) hk rfl rfl rfl rfl rfl ?_
  refine g_if_lt hk rfl (fun hc => ?_) (fun hc => ?_)
  · have H := H.1 hc
    exact H
  · have H := H.2 hc
    refine g_s1 (pc2 := 5) hk rfl rfl rfl rfl rfl ?_
    refine g_s1 (pc2 := 6) (st2 := [.int (4 : Int32), .int x0]) hk rfl rfl rfl rfl rfl ?_
    refine g_icmp_ge hk rfl (fun hc => ?_) (fun hc => ?_)
    · have H := H.1 hc
      exact H
    · have H := H.2 hc
      refine g_s1 (pc2 := 10) (st2 := [.int (1 : Int32)]) hk rfl rfl rfl rfl rfl ?_
      refine g_s1 (pc2 := 14) hk rfl rfl rfl rfl rfl ?_
      exact H
theorem b117_13 {x0 : Int32} {h : iH} {Q : Option Value → iH → Prop} (H : i_P i_MT i_AT L xs 117 14 [some (.int x0)] [.int (0 : Int32)] h 0 0 Q) : i_P i_MT i_AT L xs 117 13 [some (.int x0)] [] h 0 0 Q := by
  have hk := i_k117
  refine g_s1 (pc2 := 14) (st2 := [.int (0 : Int32)]) hk rfl rfl rfl rfl rfl ?_
  exact H
theorem b117_14 {x0 : Int32} {s0 : Int32} {h : iH} {Q : Option Value → iH → Prop} (H : (i_ret (some .boolean) s0 = true ∧ Q (some (.int s0)) h)) : i_P i_MT i_AT L xs 117 14 [some (.int x0)] [.int s0] h 0 0 Q := by
  have hk := i_k117
  exact g_ireturn hk rfl (by decide) (by decide) H.1 H.2
/-! StillTown$Trays.isMissing(I)Z -/
theorem e118 {x0 : Nat} {x1 : Int32} {h : iH} {Q : Option Value → iH → Prop} (H : i_P i_MT i_AT L xs 118 0 [some (.ref x0), some (.int x1)] [] h 0 0 Q) : i_C i_MT i_AT L xs 118 [.ref x0, .int x1] h Q := ⟨i_m118, i_k118.1, Nat.le_of_ble_eq_true rfl, H⟩
theorem b118_0 {x0 : Nat} {x1 : Int32} {h : iH} {Q : Option Value → iH → Prop} (H : (∃ v1 : Nat, i_fld h x0 10 2 = some (.ref v1) ∧ (∃ (n2 : Nat) (f3 : Nat → Int32), i_arI h 0 v1 = some (n2, f3) ∧ ¬ (x1 < 0 ∨ n2 ≤ x1.toNatClampNeg) ∧ ((¬ (f3 x1.toNatClampNeg) = (-1 : Int32) → i_P i_MT i_AT L xs 118 15 [some (.ref x0), some (.int x1)] [.int (0 : Int32)] h 0 0 Q) ∧ (¬ (¬ (f3 x1.toNatClampNeg) = (-1 : Int32)) → i_P i_MT i_AT L xs 118 15 [some (.ref x0), some (.int x1)] [.int (1 : Int32)] h 0 0 Q))))) : i_P i_MT i_AT L xs 118 0 [some (.ref x0), some (.int x1)] [] h 0 0 Q := by
  have hk := i_k118
  refine g_s1 (pc2 := 1) hk rfl rfl rfl rfl rfl ?_
  obtain ⟨v1, ev1, H⟩ := H
  refine g_step (pc2 := 4) hk rfl rfl rfl (s_get ev1) ?_
  refine g_s1 (pc2 := 5) hk rfl rfl rfl rfl rfl ?_
  obtain ⟨n2, f3, ef3, hi, H⟩ := H
  refine g_step (pc2 := 6) hk rfl rfl rfl (s_aget (L := L) (xs := xs) ef3 hi) ?_
  refine g_s1 (pc2 := 7) (st2 := [.int (-1 : Int32), .int (f3 x1.toNatClampNeg)]) hk rfl rfl rfl rfl rfl ?_
  refine g_icmp_ne hk rfl (fun hc => ?_) (fun hc => ?_)
  · have H := H.1 hc
    refine g_s1 (pc2 := 15) (st2 := [.int (0 : Int32)]) hk rfl rfl rfl rfl rfl ?_
    exact H
  · have H := H.2 hc
    refine g_s1 (pc2 := 11) (st2 := [.int (1 : Int32)]) hk rfl rfl rfl rfl rfl ?_
    refine g_s1 (pc2 := 15) hk rfl rfl rfl rfl rfl ?_
    exact H
theorem b118_15 {x0 : Nat} {x1 : Int32} {s0 : Int32} {h : iH} {Q : Option Value → iH → Prop} (H : (i_ret (some .boolean) s0 = true ∧ Q (some (.int s0)) h)) : i_P i_MT i_AT L xs 118 15 [some (.ref x0), some (.int x1)] [.int s0] h 0 0 Q := by
  have hk := i_k118
  exact g_ireturn hk rfl (by decide) (by decide) H.1 H.2
/-! StillTown$Trays.lay(III)V -/
theorem e119 {x0 : Nat} {x1 : Int32} {x2 : Int32} {x3 : Int32} {h : iH} {Q : Option Value → iH → Prop} (H : i_P i_MT i_AT L xs 119 0 [some (.ref x0), some (.int x1), some (.int x2), some (.int x3)] [] h 0 0 Q) : i_C i_MT i_AT L xs 119 [.ref x0, .int x1, .int x2, .int x3] h Q := ⟨i_m119, i_k119.1, Nat.le_of_ble_eq_true rfl, H⟩
theorem b119_0 {x0 : Nat} {x1 : Int32} {x2 : Int32} {x3 : Int32} {h : iH} {Q : Option Value → iH → Prop} (H : (∃ v1 : Nat, i_fld h x0 10 0 = some (.ref v1) ∧ (∃ (n2 : Nat) (f3 : Nat → Option Nat) (v4 : Nat), i_arR h 4 v1 = some (n2, f3) ∧ ¬ (x1 < 0 ∨ n2 ≤ x1.toNatClampNeg) ∧ f3 x1.toNatClampNeg = some v4 ∧ (i_C i_MT i_AT L xs 348 [.ref v4, .long (0 : Int64)] h (fun v h5 => v = none ∧ i_P i_MT i_AT L xs 119 10 [some (.ref x0), some (.int x1), some (.int x2), some (.int x3)] [] h5 0 0 Q))))) : i_P i_MT i_AT L xs 119 0 [some (.ref x0), some (.int x1), some (.int x2), some (.int x3)] [] h 0 0 Q := by
  have hk := i_k119
  refine g_s1 (pc2 := 1) hk rfl rfl rfl rfl rfl ?_
  obtain ⟨v1, ev1, H⟩ := H
  refine g_step (pc2 := 4) hk rfl rfl rfl (s_get ev1) ?_
  refine g_s1 (pc2 := 5) hk rfl rfl rfl rfl rfl ?_
  obtain ⟨n2, f3, v4, ef3, hi, hv, H⟩ := H
  refine g_step (pc2 := 6) hk rfl rfl rfl (s_rget (t := 4) (by decide) ef3 hi hv) ?_
  refine g_s1 (pc2 := 7) (st2 := [.long (0 : Int64), .ref v4]) hk rfl rfl rfl rfl rfl ?_
  refine g_call hk rfl rfl i_k348.1 ⟨rfl, rfl⟩ rfl (i_rcv_0 rfl) rfl ?_
  exact H.mono (fun v h2 q => by obtain ⟨rfl, q⟩ := q; exact q)
theorem b119_10 {x0 : Nat} {x1 : Int32} {x2 : Int32} {x3 : Int32} {h : iH} {Q : Option Value → iH → Prop} (H : (∃ v1 : Nat, i_fld h x0 10 1 = some (.ref v1) ∧ (∃ (n2 : Nat) (f3 : Nat → Int32), i_arI h 0 v1 = some (n2, f3) ∧ ¬ (x1 < 0 ∨ n2 ≤ x1.toNatClampNeg) ∧ i_P i_MT i_AT L xs 119 17 [some (.ref x0), some (.int x1), some (.int x2), some (.int x3)] [] (i_siI h v1 x1.toNatClampNeg x2) 0 0 Q))) : i_P i_MT i_AT L xs 119 10 [some (.ref x0), some (.int x1), some (.int x2), some (.int x3)] [] h 0 0 Q := by
  have hk := i_k119
  refine g_s1 (pc2 := 11) hk rfl rfl rfl rfl rfl ?_
  obtain ⟨v1, ev1, H⟩ := H
  refine g_step (pc2 := 14) hk rfl rfl rfl (s_get ev1) ?_
  refine g_s1 (pc2 := 15) hk rfl rfl rfl rfl rfl ?_
  refine g_s1 (pc2 := 16) hk rfl rfl rfl rfl rfl ?_
  obtain ⟨n2, f3, ef3, hi, H⟩ := H
  refine g_step (pc2 := 17) hk rfl rfl rfl (s_aput ef3 hi) ?_
  exact H
theorem b119_17 {x0 : Nat} {x1 : Int32} {x2 : Int32} {x3 : Int32} {h : iH} {Q : Option Value → iH → Prop} (H : (∃ v1 : Nat, i_fld h x0 10 2 = some (.ref v1) ∧ (∃ (n2 : Nat) (f3 : Nat → Int32), i_arI h 0 v1 = some (n2, f3) ∧ ¬ (x1 < 0 ∨ n2 ≤ x1.toNatClampNeg) ∧ i_P i_MT i_AT L xs 119 24 [some (.ref x0), some (.int x1), some (.int x2), some (.int x3)] [] (i_siI h v1 x1.toNatClampNeg x3) 0 0 Q))) : i_P i_MT i_AT L xs 119 17 [some (.ref x0), some (.int x1), some (.int x2), some (.int x3)] [] h 0 0 Q := by
  have hk := i_k119
  refine g_s1 (pc2 := 18) hk rfl rfl rfl rfl rfl ?_
  obtain ⟨v1, ev1, H⟩ := H
  refine g_step (pc2 := 21) hk rfl rfl rfl (s_get ev1) ?_
  refine g_s1 (pc2 := 22) hk rfl rfl rfl rfl rfl ?_
  refine g_s1 (pc2 := 23) hk rfl rfl rfl rfl rfl ?_
  obtain ⟨n2, f3, ef3, hi, H⟩ := H
  refine g_step (pc2 := 24) hk rfl rfl rfl (s_aput ef3 hi) ?_
  exact H
theorem b119_24 {x0 : Nat} {x1 : Int32} {x2 : Int32} {x3 : Int32} {h : iH} {Q : Option Value → iH → Prop} (H : Q none h) : i_P i_MT i_AT L xs 119 24 [some (.ref x0), some (.int x1), some (.int x2), some (.int x3)] [] h 0 0 Q := by
  have hk := i_k119
  exact g_return hk rfl (by decide) (by decide) rfl H
/-! StillTown$Trays.placeStatus(II)I -/
theorem e120 {x0 : Nat} {x1 : Int32} {x2 : Int32} {h : iH} {Q : Option Value → iH → Prop} (H : i_P i_MT i_AT L xs 120 0 [some (.ref x0), some (.int x1), some (.int x2)] [] h 0 0 Q) : i_C i_MT i_AT L xs 120 [.ref x0, .int x1, .int x2] h Q := ⟨i_m120, i_k120.1, Nat.le_of_ble_eq_true rfl, H⟩
theorem b120_0 {x0 : Nat} {x1 : Int32} {x2 : Int32} {h : iH} {Q : Option Value → iH → Prop} (H : (i_C i_MT i_AT L xs 117 [.int x1] h (fun v h1 => ∃ r2 : Int32, v = some (.int r2) ∧ i_P i_MT i_AT L xs 120 4 [some (.ref x0), some (.int x1), some (.int x2)] [.int r2] h1 0 0 Q))) : i_P i_MT i_AT L xs 120 0 [some (.ref x0), some (.int x1), some (.int x2)] [] h 0 0 Q := by
  have hk := i_k120
  refine g_s1 (pc2 := 1) hk rfl rfl rfl rfl rfl ?_
  refine g_call hk rfl rfl i_k117.1 ⟨rfl, rfl⟩ rfl (i_rcv_0 rfl) rfl ?_
  exact H.mono (fun v h2 q => by obtain ⟨r, rfl, q⟩ := q; exact q)
theorem b120_4 {x0 : Nat} {x1 : Int32} {x2 : Int32} {s0 : Int32} {h : iH} {Q : Option Value → iH → Prop} (H : ((¬ s0 = 0 → (i_obj? h x0 10 ∧ i_C i_MT i_AT L xs 118 [.ref x0, .int x1] h (fun v h1 => ∃ r2 : Int32, v = some (.int r2) ∧ i_P i_MT i_AT L xs 120 14 [some (.ref x0), some (.int x1), some (.int x2)] [.int r2] h1 0 0 Q))) ∧ (¬ (¬ s0 = 0) → Q (some (.int (1 : Int32))) h))) : i_P i_MT i_AT L xs 120 4 [some (.ref x0), some (.int x1), some (.int x2)] [.int s0] h 0 0 Q := by
  have hk := i_k120
  refine g_if_ne hk rfl (fun hc => ?_) (fun hc => ?_)
  · have H := H.1 hc
    refine g_s1 (pc2 := 10) hk rfl rfl rfl rfl rfl ?_
    refine g_s1 (pc2 := 11) hk rfl rfl rfl rfl rfl ?_
    obtain ⟨ho, H⟩ := H
    refine g_call hk rfl rfl i_k118.1 ⟨rfl, rfl⟩ rfl (i_rcv_v ho rfl (by decide)) rfl ?_
    exact H.mono (fun v h2 q => by obtain ⟨r, rfl, q⟩ := q; exact q)
  · have H := H.2 hc
    refine g_s1 (pc2 := 8) (st2 := [.int (1 : Int32)]) hk rfl rfl rfl rfl rfl ?_
    exact g_ireturn hk rfl (by decide) (by decide) rfl H
theorem b120_14 {x0 : Nat} {x1 : Int32} {x2 : Int32} {s0 : Int32} {h : iH} {Q : Option Value → iH → Prop} (H : ((s0 = 0 → ((x2 < 0 → i_P i_MT i_AT L xs 120 37 [some (.ref x0), some (.int x1), some (.int x2)] [] h 0 0 Q) ∧ (¬ (x2 < 0) → (∃ v1 : Nat, i_fld h x0 10 2 = some (.ref v1) ∧ (∃ (n2 : Nat) (f3 : Nat → Int32), i_arI h 0 v1 = some (n2, f3) ∧ ¬ (x1 < 0 ∨ n2 ≤ x1.toNatClampNeg) ∧ (((f3 x1.toNatClampNeg) ≤ x2 → i_P i_MT i_AT L xs 120 37 [some (.ref x0), some (.int x1), some (.int x2)] [] h 0 0 Q) ∧ (¬ ((f3 x1.toNatClampNeg) ≤ x2) → i_P i_MT i_AT L xs 120 38 [some (.ref x0), some (.int x1), some (.int x2)] [.int (0 : Int32)] h 0 0 Q))))))) ∧ (¬ (s0 = 0) → Q (some (.int (2 : Int32))) h))) : i_P i_MT i_AT L xs 120 14 [some (.ref x0), some (.int x1), some (.int x2)] [.int s0] h 0 0 Q := by
  have hk := i_k120
  refine g_if_eq hk rfl (fun hc => ?_) (fun hc => ?_)
  · have H := H.1 hc
    refine g_s1 (pc2 := 20) hk rfl rfl rfl rfl rfl ?_
    refine g_if_lt hk rfl (fun hc => ?_) (fun hc => ?_)
    · have H := H.1 hc
      exact H
    · have H := H.2 hc
      refine g_s1 (pc2 := 24) hk rfl rfl rfl rfl rfl ?_
      refine g_s1 (pc2 := 25) hk rfl rfl rfl rfl rfl ?_
      obtain ⟨v1, ev1, H⟩ := H
      refine g_step (pc2 := 28) hk rfl rfl rfl (s_get ev1) ?_
      refine g_s1 (pc2 := 29) hk rfl rfl rfl rfl rfl ?_
      obtain ⟨n2, f3, ef3, hi, H⟩ := H
      refine g_step (pc2 := 30) hk rfl rfl rfl (s_aget (L := L) (xs := xs) ef3 hi) ?_
      refine g_icmp_ge hk rfl (fun hc => ?_) (fun hc => ?_)
      · have H := H.1 hc
        exact H
      · have H := H.2 hc
        refine g_s1 (pc2 := 34) (st2 := [.int (0 : Int32)]) hk rfl rfl rfl rfl rfl ?_
        refine g_s1 (pc2 := 38) hk rfl rfl rfl rfl rfl ?_
        exact H
  · have H := H.2 hc
    refine g_s1 (pc2 := 18) (st2 := [.int (2 : Int32)]) hk rfl rfl rfl rfl rfl ?_
    exact g_ireturn hk rfl (by decide) (by decide) rfl H
theorem b120_37 {x0 : Nat} {x1 : Int32} {x2 : Int32} {h : iH} {Q : Option Value → iH → Prop} (H : i_P i_MT i_AT L xs 120 38 [some (.ref x0), some (.int x1), some (.int x2)] [.int (3 : Int32)] h 0 0 Q) : i_P i_MT i_AT L xs 120 37 [some (.ref x0), some (.int x1), some (.int x2)] [] h 0 0 Q := by
  have hk := i_k120
  refine g_s1 (pc2 := 38) (st2 := [.int (3 : Int32)]) hk rfl rfl rfl rfl rfl ?_
  exact H
theorem b120_38 {x0 : Nat} {x1 : Int32} {x2 : Int32} {s0 : Int32} {h : iH} {Q : Option Value → iH → Prop} (H : Q (some (.int s0)) h) : i_P i_MT i_AT L xs 120 38 [some (.ref x0), some (.int x1), some (.int x2)] [.int s0] h 0 0 Q := by
  have hk := i_k120
  exact g_ireturn hk rfl (by decide) (by decide) rfl H
/-! StillTown$Trays.put(IIJ)V -/
theorem e121 {x0 : Nat} {x1 : Int32} {x2 : Int32} {x3 : Int64} {h : iH} {Q : Option Value → iH → Prop} (H : i_P i_MT i_AT L xs 121 0 [some (.ref x0), some (.int x1), some (.int x2), some (.long x3), none] [] h 0 0 Q) : i_C i_MT i_AT L xs 121 [.ref x0, .int x1, .int x2, .long x3] h Q := ⟨i_m121, i_k121.1, Nat.le_of_ble_eq_true rfl, H⟩
theorem b121_0 {x0 : Nat} {x1 : Int32} {x2 : Int32} {x3 : Int64} {h : iH} {Q : Option Value → iH → Prop} (H : (∃ v1 : Nat, i_fld h x0 10 1 = some (.ref v1) ∧ (∃ (n2 : Nat) (f3 : Nat → Int32), i_arI h 0 v1 = some (n2, f3) ∧ ¬ (x1 < 0 ∨ n2 ≤ x1.toNatClampNeg) ∧ (((f3 x1.toNatClampNeg).toInt < 0 ∨ 2 < (f3 x1.toNatClampNeg).toInt → (∃ v4 : Nat, i_fld h x0 10 0 = some (.ref v4) ∧ (∃ (n5 : Nat) (f6 : Nat → Option Nat) (v7 : Nat), i_arR h 4 v4 = some (n5, f6) ∧ ¬ (x1 < 0 ∨ n5 ≤ x1.toNatClampNeg) ∧ f6 x1.toNatClampNeg = some v7 ∧ (∃ (n8 : Nat) (f9 : Nat → Int64), i_arJ h v7 = some (n8, f9) ∧ ¬ (x2 < 0 ∨ n8 ≤ x2.toNatClampNeg) ∧ i_P i_MT i_AT L xs 121 85 [some (.ref x0), some (.int x1), some (.int x2), some (.long x3), none] [] (i_siJ h v7 x2.toNatClampNeg x3) 0 0 Q)))) ∧ ((f3 x1.toNatClampNeg).toInt = 0 → (∃ v10 : Nat, i_fld h x0 10 0 = some (.ref v10) ∧ (∃ (n11 : Nat) (f12 : Nat → Option Nat) (v13 : Nat), i_arR h 4 v10 = some (n11, f12) ∧ ¬ (x1 < 0 ∨ n11 ≤ x1.toNatClampNeg) ∧ f12 x1.toNatClampNeg = some v13 ∧ (∃ (n14 : Nat) (f15 : Nat → Int64), i_arJ h v13 = some (n14, f15) ∧ ¬ (x2 < 0 ∨ n14 ≤ x2.toNatClampNeg) ∧ i_P i_MT i_AT L xs 121 44 [some (.ref x0), some (.int x1), some (.int x2), some (.long x3), none] [] (i_siJ h v13 x2.toNatClampNeg (((x3.toInt32).toInt8.toInt32).toInt64)) 0 0 Q)))) ∧ ((f3 x1.toNatClampNeg).toInt = 1 → (∃ v16 : Nat, i_fld h x0 10 0 = some (.ref v16) ∧ (∃ (n17 : Nat) (f18 : Nat → Option Nat) (v19 : Nat), i_arR h 4 v16 = some (n17, f18) ∧ ¬ (x1 < 0 ∨ n17 ≤ x1.toNatClampNeg) ∧ f18 x1.toNatClampNeg = some v19 ∧ (∃ (n20 : Nat) (f21 : Nat → Int64), i_arJ h v19 = some (n20, f21) ∧ ¬ (x2 < 0 ∨ n20 ≤ x2.toNatClampNeg) ∧ i_P i_MT i_AT L xs 121 59 [some (.ref x0), some (.int x1), some (.int x2), some (.long x3), none] [] (i_siJ h v19 x2.toNatClampNeg (((x3.toInt32).toInt16.toInt32).toInt64)) 0 0 Q)))) ∧ ((f3 x1.toNatClampNeg).toInt = 2 → (∃ v22 : Nat, i_fld h x0 10 0 = some (.ref v22) ∧ (∃ (n23 : Nat) (f24 : Nat → Option Nat) (v25 : Nat), i_arR h 4 v22 = some (n23, f24) ∧ ¬ (x1 < 0 ∨ n23 ≤ x1.toNatClampNeg) ∧ f24 x1.toNatClampNeg = some v25 ∧ (∃ (n26 : Nat) (f27 : Nat → Int64), i_arJ h v25 = some (n26, f27) ∧ ¬ (x2 < 0 ∨ n26 ≤ x2.toNatClampNeg) ∧ i_P i_MT i_AT L xs 121 73 [some (.ref x0), some (.int x1), some (.int x2), some (.long x3), none] [] (i_siJ h v25 x2.toNatClampNeg ((x3.toInt32).toInt64)) 0 0 Q)))))))) : i_P i_MT i_AT L xs 121 0 [some (.ref x0), some (.int x1), some (.int x2), some (.long x3), none] [] h 0 0 Q := by
  have hk := i_k121
  refine g_s1 (pc2 := 1) hk rfl rfl rfl rfl rfl ?_
  obtain ⟨v1, ev1, H⟩ := H
  refine g_step (pc2 := 4) hk rfl rfl rfl (s_get ev1) ?_
  refine g_s1 (pc2 := 5) hk rfl rfl rfl rfl rfl ?_
  obtain ⟨n2, f3, ef3, hi, H⟩ := H
  refine g_step (pc2 := 6) hk rfl rfl rfl (s_aget (L := L) (xs := xs) ef3 hi) ?_
  rcases (show ((f3 x1.toNatClampNeg).toInt < 0 ∨ 2 < (f3 x1.toNatClampNeg).toInt) ∨ (f3 x1.toNatClampNeg).toInt = 0 ∨ (f3 x1.toNatClampNeg).toInt = 1 ∨ (f3 x1.toNatClampNeg).toInt = 2 by omega) with hx | hx | hx | hx
  · refine g_sw (t := 76) hk rfl (by unfold i_swt; rw [if_pos hx]; rfl) ?_
    have H := H.1 hx
    refine g_s1 (pc2 := 77) hk rfl rfl rfl rfl rfl ?_
    obtain ⟨v4, ev4, H⟩ := H
    refine g_step (pc2 := 80) hk rfl rfl rfl (s_get ev4) ?_
    refine g_s1 (pc2 := 81) hk rfl rfl rfl rfl rfl ?_
    obtain ⟨n5, f6, v7, ef6, hi, hv, H⟩ := H
    refine g_step (pc2 := 82) hk rfl rfl rfl (s_rget (t := 4) (by decide) ef6 hi hv) ?_
    refine g_s1 (pc2 := 83) hk rfl rfl rfl rfl rfl ?_
    refine g_s1 (pc2 := 84) hk rfl rfl rfl rfl rfl ?_
    obtain ⟨n8, f9, ef9, hi, H⟩ := H
    refine g_step (pc2 := 85) hk rfl rfl rfl (s_lput ef9 hi) ?_
    exact H
  · refine g_sw (t := 32) hk rfl (by rw [hx]; rfl) ?_
    have H := H.2.1 hx
    refine g_s1 (pc2 := 33) hk rfl rfl rfl rfl rfl ?_
    obtain ⟨v10, ev10, H⟩ := H
    refine g_step (pc2 := 36) hk rfl rfl rfl (s_get ev10) ?_
    refine g_s1 (pc2 := 37) hk rfl rfl rfl rfl rfl ?_
    obtain ⟨n11, f12, v13, ef12, hi, hv, H⟩ := H
    refine g_step (pc2 := 38) hk rfl rfl rfl (s_rget (t := 4) (by decide) ef12 hi hv) ?_
    refine g_s1 (pc2 := 39) hk rfl rfl rfl rfl rfl ?_
    refine g_s1 (pc2 := 40) hk rfl rfl rfl rfl rfl ?_
    refine g_s1 (pc2 := 41) hk rfl rfl rfl rfl rfl ?_
    refine g_s1 (pc2 := 42) hk rfl rfl rfl rfl rfl ?_
    refine g_s1 (pc2 := 43) hk rfl rfl rfl rfl rfl ?_
    obtain ⟨n14, f15, ef15, hi, H⟩ := H
    refine g_step (pc2 := 44) hk rfl rfl rfl (s_lput ef15 hi) ?_
    exact H
  · refine g_sw (t := 47) hk rfl (by rw [hx]; rfl) ?_
    have H := H.2.2.1 hx
    refine g_s1 (pc2 := 48) hk rfl rfl rfl rfl rfl ?_
    obtain ⟨v16, ev16, H⟩ := H
    refine g_step (pc2 := 51) hk rfl rfl rfl (s_get ev16) ?_
    refine g_s1 (pc2 := 52) hk rfl rfl rfl rfl rfl ?_
    obtain ⟨n17, f18, v19, ef18, hi, hv, H⟩ := H
    refine g_step (pc2 := 53) hk rfl rfl rfl (s_rget (t := 4) (by decide) ef18 hi hv) ?_
    refine g_s1 (pc2 := 54) hk rfl rfl rfl rfl rfl ?_
    refine g_s1 (pc2 := 55) hk rfl rfl rfl rfl rfl ?_
    refine g_s1 (pc2 := 56) hk rfl rfl rfl rfl rfl ?_
    refine g_s1 (pc2 := 57) hk rfl rfl rfl rfl rfl ?_
    refine g_s1 (pc2 := 58) hk rfl rfl rfl rfl rfl ?_
    obtain ⟨n20, f21, ef21, hi, H⟩ := H
    refine g_step (pc2 := 59) hk rfl rfl rfl (s_lput ef21 hi) ?_
    exact H
  · refine g_sw (t := 62) hk rfl (by rw [hx]; rfl) ?_
    have H := H.2.2.2 hx
    refine g_s1 (pc2 := 63) hk rfl rfl rfl rfl rfl ?_
    obtain ⟨v22, ev22, H⟩ := H
    refine g_step (pc2 := 66) hk rfl rfl rfl (s_get ev22) ?_
    refine g_s1 (pc2 := 67) hk rfl rfl rfl rfl rfl ?_
    obtain ⟨n23, f24, v25, ef24, hi, hv, H⟩ := H
    refine g_step (pc2 := 68) hk rfl rfl rfl (s_rget (t := 4) (by decide) ef24 hi hv) ?_
    refine g_s1 (pc2 := 69) hk rfl rfl rfl rfl rfl ?_
    refine g_s1 (pc2 := 70) hk rfl rfl rfl rfl rfl ?_
    refine g_s1 (pc2 := 71) hk rfl rfl rfl rfl rfl ?_
    refine g_s1 (pc2 := 72) hk rfl rfl rfl rfl rfl ?_
    obtain ⟨n26, f27, ef27, hi, H⟩ := H
    refine g_step (pc2 := 73) hk rfl rfl rfl (s_lput ef27 hi) ?_
    exact H
theorem b121_44 {x0 : Nat} {x1 : Int32} {x2 : Int32} {x3 : Int64} {h : iH} {Q : Option Value → iH → Prop} (H : i_P i_MT i_AT L xs 121 85 [some (.ref x0), some (.int x1), some (.int x2), some (.long x3), none] [] h 0 0 Q) : i_P i_MT i_AT L xs 121 44 [some (.ref x0), some (.int x1), some (.int x2), some (.long x3), none] [] h 0 0 Q := by
  have hk := i_k121
  refine g_s1 (pc2 := 85) hk rfl rfl rfl rfl rfl ?_
  exact H
theorem b121_59 {x0 : Nat} {x1 : Int32} {x2 : Int32} {x3 : Int64} {h : iH} {Q : Option Value → iH → Prop} (H : i_P i_MT i_AT L xs 121 85 [some (.ref x0), some (.int x1), some (.int x2), some (.long x3), none] [] h 0 0 Q) : i_P i_MT i_AT L xs 121 59 [some (.ref x0), some (.int x1), some (.int x2), some (.long x3), none] [] h 0 0 Q := by
  have hk := i_k121
  refine g_s1 (pc2 := 85) hk rfl rfl rfl rfl rfl ?_
  exact H
theorem b121_73 {x0 : Nat} {x1 : Int32} {x2 : Int32} {x3 : Int64} {h : iH} {Q : Option Value → iH → Prop} (H : i_P i_MT i_AT L xs 121 85 [some (.ref x0), some (.int x1), some (.int x2), some (.long x3), none] [] h 0 0 Q) : i_P i_MT i_AT L xs 121 73 [some (.ref x0), some (.int x1), some (.int x2), some (.long x3), none] [] h 0 0 Q := by
  have hk := i_k121
  refine g_s1 (pc2 := 85) hk rfl rfl rfl rfl rfl ?_
  exact H
theorem b121_85 {x0 : Nat} {x1 : Int32} {x2 : Int32} {x3 : Int64} {h : iH} {Q : Option Value → iH → Prop} (H : Q none h) : i_P i_MT i_AT L xs 121 85 [some (.ref x0), some (.int x1), some (.int x2), some (.long x3), none] [] h 0 0 Q := by
  have hk := i_k121
  exact g_return hk rfl (by decide) (by decide) rfl H
/-! StillTown$Trays.take(II)J -/
theorem e122 {x0 : Nat} {x1 : Int32} {x2 : Int32} {h : iH} {Q : Option Value → iH → Prop} (H : i_P i_MT i_AT L xs 122 0 [some (.ref x0), some (.int x1), some (.int x2)] [] h 0 0 Q) : i_C i_MT i_AT L xs 122 [.ref x0, .int x1, .int x2] h Q := ⟨i_m122, i_k122.1, Nat.le_of_ble_eq_true rfl, H⟩
theorem b122_0 {x0 : Nat} {x1 : Int32} {x2 : Int32} {h : iH} {Q : Option Value → iH → Prop} (H : (∃ v1 : Nat, i_fld h x0 10 0 = some (.ref v1) ∧ (∃ (n2 : Nat) (f3 : Nat → Option Nat) (v4 : Nat), i_arR h 4 v1 = some (n2, f3) ∧ ¬ (x1 < 0 ∨ n2 ≤ x1.toNatClampNeg) ∧ f3 x1.toNatClampNeg = some v4 ∧ (∃ (n5 : Nat) (f6 : Nat → Int64), i_arJ h v4 = some (n5, f6) ∧ ¬ (x2 < 0 ∨ n5 ≤ x2.toNatClampNeg) ∧ Q (some (.long (f6 x2.toNatClampNeg))) h)))) : i_P i_MT i_AT L xs 122 0 [some (.ref x0), some (.int x1), some (.int x2)] [] h 0 0 Q := by
  have hk := i_k122
  refine g_s1 (pc2 := 1) hk rfl rfl rfl rfl rfl ?_
  obtain ⟨v1, ev1, H⟩ := H
  refine g_step (pc2 := 4) hk rfl rfl rfl (s_get ev1) ?_
  refine g_s1 (pc2 := 5) hk rfl rfl rfl rfl rfl ?_
  obtain ⟨n2, f3, v4, ef3, hi, hv, H⟩ := H
  refine g_step (pc2 := 6) hk rfl rfl rfl (s_rget (t := 4) (by decide) ef3 hi hv) ?_
  refine g_s1 (pc2 := 7) hk rfl rfl rfl rfl rfl ?_
  obtain ⟨n5, f6, ef6, hi, H⟩ := H
  refine g_step (pc2 := 8) hk rfl rfl rfl (s_lget ef6 hi) ?_
  exact g_lreturn hk rfl (by decide) (by decide) rfl H
/-! StillTown$Trays.pourStatus(IIIII)I -/
theorem e123 {x0 : Nat} {x1 : Int32} {x2 : Int32} {x3 : Int32} {x4 : Int32} {x5 : Int32} {h : iH} {Q : Option Value → iH → Prop} (H : i_P i_MT i_AT L xs 123 0 [some (.ref x0), some (.int x1), some (.int x2), some (.int x3), some (.int x4), some (.int x5)] [] h 0 0 Q) : i_C i_MT i_AT L xs 123 [.ref x0, .int x1, .int x2, .int x3, .int x4, .int x5] h Q := ⟨i_m123, i_k123.1, Nat.le_of_ble_eq_true rfl, H⟩
theorem b123_0 {x0 : Nat} {x1 : Int32} {x2 : Int32} {x3 : Int32} {x4 : Int32} {x5 : Int32} {h : iH} {Q : Option Value → iH → Prop} (H : (i_C i_MT i_AT L xs 117 [.int x1] h (fun v h1 => ∃ r2 : Int32, v = some (.int r2) ∧ i_P i_MT i_AT L xs 123 4 [some (.ref x0), some (.int x1), some (.int x2), some (.int x3), some (.int x4), some (.int x5)] [.int r2] h1 0 0 Q))) : i_P i_MT i_AT L xs 123 0 [some (.ref x0), some (.int x1), some (.int x2), some (.int x3), some (.int x4), some (.int x5)] [] h 0 0 Q := by
  have hk := i_k123
  refine g_s1 (pc2 := 1) hk rfl rfl rfl rfl rfl ?_
  refine g_call hk rfl rfl i_k117.1 ⟨rfl, rfl⟩ rfl (i_rcv_0 rfl) rfl ?_
  exact H.mono (fun v h2 q => by obtain ⟨r, rfl, q⟩ := q; exact q)
theorem b123_4 {x0 : Nat} {x1 : Int32} {x2 : Int32} {x3 : Int32} {x4 : Int32} {x5 : Int32} {s0 : Int32} {h : iH} {Q : Option Value → iH → Prop} (H : ((s0 = 0 → i_P i_MT i_AT L xs 123 28 [some (.ref x0), some (.int x1), some (.int x2), some (.int x3), some (.int x4), some (.int x5)] [] h 0 0 Q) ∧ (¬ (s0 = 0) → (i_C i_MT i_AT L xs 117 [.int x3] h (fun v h1 => ∃ r2 : Int32, v = some (.int r2) ∧ i_P i_MT i_AT L xs 123 11 [some (.ref x0), some (.int x1), some (.int x2), some (.int x3), some (.int x4), some (.int x5)] [.int r2] h1 0 0 Q))))) : i_P i_MT i_AT L xs 123 4 [some (.ref x0), some (.int x1), some (.int x2), some (.int x3), some (.int x4), some (.int x5)] [.int s0] h 0 0 Q := by
  have hk := i_k123
  refine g_if_eq hk rfl (fun hc => ?_) (fun hc => ?_)
  · have H := H.1 hc
    exact H
  · have H := H.2 hc
    refine g_s1 (pc2 := 8) hk rfl rfl rfl rfl rfl ?_
    refine g_call hk rfl rfl i_k117.1 ⟨rfl, rfl⟩ rfl (i_rcv_0 rfl) rfl ?_
    exact H.mono (fun v h2 q => by obtain ⟨r, rfl, q⟩ := q; exact q)
theorem b123_11 {x0 : Nat} {x1 : Int32} {x2 : Int32} {x3 : Int32} {x4 : Int32} {x5 : Int32} {s0 : Int32} {h : iH} {Q : Option Value → iH → Prop} (H : ((s0 = 0 → i_P i_MT i_AT L xs 123 28 [some (.ref x0), some (.int x1), some (.int x2), some (.int x3), some (.int x4), some (.int x5)] [] h 0 0 Q) ∧ (¬ (s0 = 0) → ((x2 < 0 → i_P i_MT i_AT L xs 123 28 [some (.ref x0), some (.int x1), some (.int x2), some (.int x3), some (.int x4), some (.int x5)] [] h 0 0 Q) ∧ (¬ (x2 < 0) → ((x4 < 0 → i_P i_MT i_AT L xs 123 28 [some (.ref x0), some (.int x1), some (.int x2), some (.int x3), some (.int x4), some (.int x5)] [] h 0 0 Q) ∧ (¬ (x4 < 0) → ((0 ≤ x5 → (i_obj? h x0 10 ∧ i_C i_MT i_AT L xs 118 [.ref x0, .int x1] h (fun v h1 => ∃ r2 : Int32, v = some (.int r2) ∧ i_P i_MT i_AT L xs 123 35 [some (.ref x0), some (.int x1), some (.int x2), some (.int x3), some (.int x4), some (.int x5)] [.int r2] h1 0 0 Q))) ∧ (¬ (0 ≤ x5) → i_P i_MT i_AT L xs 123 28 [some (.ref x0), some (.int x1), some (.int x2), some (.int x3), some (.int x4), some (.int x5)] [] h 0 0 Q))))))))) : i_P i_MT i_AT L xs 123 11 [some (.ref x0), some (.int x1), some (.int x2), some (.int x3), some (.int x4), some (.int x5)] [.int s0] h 0 0 Q := by
  have hk := i_k123
  refine g_if_eq hk rfl (fun hc => ?_) (fun hc => ?_)
  · have H := H.1 hc
    exact H
  · have H := H.2 hc
    refine g_s1 (pc2 := 15) hk rfl rfl rfl rfl rfl ?_
    refine g_if_lt hk rfl (fun hc => ?_) (fun hc => ?_)
    · have H := H.1 hc
      exact H
    · have H := H.2 hc
      refine g_s1 (pc2 := 20) hk rfl rfl rfl rfl rfl ?_
      refine g_if_lt hk rfl (fun hc => ?_) (fun hc => ?_)
      · have H := H.1 hc
        exact H
      · have H := H.2 hc
        refine g_s1 (pc2 := 25) hk rfl rfl rfl rfl rfl ?_
        refine g_if_ge hk rfl (fun hc => ?_) (fun hc => ?_)
        · have H := H.1 hc
          refine g_s1 (pc2 := 31) hk rfl rfl rfl rfl rfl ?_
          refine g_s1 (pc2 := 32) hk rfl rfl rfl rfl rfl ?_
          obtain ⟨ho, H⟩ := H
          refine g_call hk rfl rfl i_k118.1 ⟨rfl, rfl⟩ rfl (i_rcv_v ho rfl (by decide)) rfl ?_
          exact H.mono (fun v h2 q => by obtain ⟨r, rfl, q⟩ := q; exact q)
        · have H := H.2 hc
          exact H
theorem b123_28 {x0 : Nat} {x1 : Int32} {x2 : Int32} {x3 : Int32} {x4 : Int32} {x5 : Int32} {h : iH} {Q : Option Value → iH → Prop} (H : Q (some (.int (1 : Int32))) h) : i_P i_MT i_AT L xs 123 28 [some (.ref x0), some (.int x1), some (.int x2), some (.int x3), some (.int x4), some (.int x5)] [] h 0 0 Q := by
  have hk := i_k123
  refine g_s1 (pc2 := 29) (st2 := [.int (1 : Int32)]) hk rfl rfl rfl rfl rfl ?_
  exact g_ireturn hk rfl (by decide) (by decide) rfl H
theorem b123_35 {x0 : Nat} {x1 : Int32} {x2 : Int32} {x3 : Int32} {x4 : Int32} {x5 : Int32} {s0 : Int32} {h : iH} {Q : Option Value → iH → Prop} (H : ((¬ s0 = 0 → i_P i_MT i_AT L xs 123 46 [some (.ref x0), some (.int x1), some (.int x2), some (.int x3), some (.int x4), some (.int x5)] [] h 0 0 Q) ∧ (¬ (¬ s0 = 0) → (i_obj? h x0 10 ∧ i_C i_MT i_AT L xs 118 [.ref x0, .int x3] h (fun v h1 => ∃ r2 : Int32, v = some (.int r2) ∧ i_P i_MT i_AT L xs 123 43 [some (.ref x0), some (.int x1), some (.int x2), some (.int x3), some (.int x4), some (.int x5)] [.int r2] h1 0 0 Q))))) : i_P i_MT i_AT L xs 123 35 [some (.ref x0), some (.int x1), some (.int x2), some (.int x3), some (.int x4), some (.int x5)] [.int s0] h 0 0 Q := by
  have hk := i_k123
  refine g_if_ne hk rfl (fun hc => ?_) (fun hc => ?_)
  · have H := H.1 hc
    exact H
  · have H := H.2 hc
    refine g_s1 (pc2 := 39) hk rfl rfl rfl rfl rfl ?_
    refine g_s1 (pc2 := 40) hk rfl rfl rfl rfl rfl ?_
    obtain ⟨ho, H⟩ := H
    refine g_call hk rfl rfl i_k118.1 ⟨rfl, rfl⟩ rfl (i_rcv_v ho rfl (by decide)) rfl ?_
    exact H.mono (fun v h2 q => by obtain ⟨r, rfl, q⟩ := q; exact q)
theorem b123_43 {x0 : Nat} {x1 : Int32} {x2 : Int32} {x3 : Int32} {x4 : Int32} {x5 : Int32} {s0 : Int32} {h : iH} {Q : Option Value → iH → Prop} (H : ((s0 = 0 → (∃ v1 : Nat, i_fld h x0 10 1 = some (.ref v1) ∧ (∃ (n2 : Nat) (f3 : Nat → Int32), i_arI h 0 v1 = some (n2, f3) ∧ ¬ (x1 < 0 ∨ n2 ≤ x1.toNatClampNeg) ∧ (∃ v4 : Nat, i_fld h x0 10 1 = some (.ref v4) ∧ (∃ (n5 : Nat) (f6 : Nat → Int32), i_arI h 0 v4 = some (n5, f6) ∧ ¬ (x3 < 0 ∨ n5 ≤ x3.toNatClampNeg) ∧ (((f3 x1.toNatClampNeg) = (f6 x3.toNatClampNeg) → (∃ v7 : Nat, i_fld h x0 10 2 = some (.ref v7) ∧ (∃ (n8 : Nat) (f9 : Nat → Int32), i_arI h 0 v7 = some (n8, f9) ∧ ¬ (x1 < 0 ∨ n8 ≤ x1.toNatClampNeg) ∧ ((((f9 x1.toNatClampNeg) - x5) < x2 → i_P i_MT i_AT L xs 123 97 [some (.ref x0), some (.int x1), some (.int x2), some (.int x3), some (.int x4), some (.int x5)] [] h 0 0 Q) ∧ (¬ (((f9 x1.toNatClampNeg) - x5) < x2) → (∃ v10 : Nat, i_fld h x0 10 2 = some (.ref v10) ∧ (∃ (n11 : Nat) (f12 : Nat → Int32), i_arI h 0 v10 = some (n11, f12) ∧ ¬ (x3 < 0 ∨ n11 ≤ x3.toNatClampNeg) ∧ ((((f12 x3.toNatClampNeg) - x5) < x4 → i_P i_MT i_AT L xs 123 97 [some (.ref x0), some (.int x1), some (.int x2), some (.int x3), some (.int x4), some (.int x5)] [] h 0 0 Q) ∧ (¬ (((f12 x3.toNatClampNeg) - x5) < x4) → i_P i_MT i_AT L xs 123 98 [some (.ref x0), some (.int x1), some (.int x2), some (.int x3), some (.int x4), some (.int x5)] [.int (0 : Int32)] h 0 0 Q))))))))) ∧ (¬ ((f3 x1.toNatClampNeg) = (f6 x3.toNatClampNeg)) → Q (some (.int (8 : Int32))) h))))))) ∧ (¬ (s0 = 0) → i_P i_MT i_AT L xs 123 46 [some (.ref x0), some (.int x1), some (.int x2), some (.int x3), some (.int x4), some (.int x5)] [] h 0 0 Q))) : i_P i_MT i_AT L xs 123 43 [some (.ref x0), some (.int x1), some (.int x2), some (.int x3), some (.int x4), some (.int x5)] [.int s0] h 0 0 Q := by
  have hk := i_k123
  refine g_if_eq hk rfl (fun hc => ?_) (fun hc => ?_)
  · have H := H.1 hc
    refine g_s1 (pc2 := 49) hk rfl rfl rfl rfl rfl ?_
    obtain ⟨v1, ev1, H⟩ := H
    refine g_step (pc2 := 52) hk rfl rfl rfl (s_get ev1) ?_
    refine g_s1 (pc2 := 53) hk rfl rfl rfl rfl rfl ?_
    obtain ⟨n2, f3, ef3, hi, H⟩ := H
    refine g_step (pc2 := 54) hk rfl rfl rfl (s_aget (L := L) (xs := xs) ef3 hi) ?_
    refine g_s1 (pc2 := 55) hk rfl rfl rfl rfl rfl ?_
    obtain ⟨v4, ev4, H⟩ := H
    refine g_step (pc2 := 58) hk rfl rfl rfl (s_get ev4) ?_
    refine g_s1 (pc2 := 59) hk rfl rfl rfl rfl rfl ?_
    obtain ⟨n5, f6, ef6, hi, H⟩ := H
    refine g_step (pc2 := 60) hk rfl rfl rfl (s_aget (L := L) (xs := xs) ef6 hi) ?_
    refine g_icmp_eq hk rfl (fun hc => ?_) (fun hc => ?_)
    · have H := H.1 hc
      refine g_s1 (pc2 := 67) hk rfl rfl rfl rfl rfl ?_
      refine g_s1 (pc2 := 68) hk rfl rfl rfl rfl rfl ?_
      obtain ⟨v7, ev7, H⟩ := H
      refine g_step (pc2 := 71) hk rfl rfl rfl (s_get ev7) ?_
      refine g_s1 (pc2 := 72) hk rfl rfl rfl rfl rfl ?_
      obtain ⟨n8, f9, ef9, hi, H⟩ := H
      refine g_step (pc2 := 73) hk rfl rfl rfl (s_aget (L := L) (xs := xs) ef9 hi) ?_
      refine g_s1 (pc2 := 75) hk rfl rfl rfl rfl rfl ?_
      refine g_s1 (pc2 := 76) hk rfl rfl rfl rfl rfl ?_
      refine g_icmp_gt hk rfl (fun hc => ?_) (fun hc => ?_)
      · have H := H.1 hc
        exact H
      · have H := H.2 hc
        refine g_s1 (pc2 := 81) hk rfl rfl rfl rfl rfl ?_
        refine g_s1 (pc2 := 82) hk rfl rfl rfl rfl rfl ?_
        obtain ⟨v10, ev10, H⟩ := H
        refine g_step (pc2 := 85) hk rfl rfl rfl (s_get ev10) ?_
        refine g_s1 (pc2 := 86) hk rfl rfl rfl rfl rfl ?_
        obtain ⟨n11, f12, ef12, hi, H⟩ := H
        refine g_step (pc2 := 87) hk rfl rfl rfl (s_aget (L := L) (xs := xs) ef12 hi) ?_
        refine g_s1 (pc2 := 89) hk rfl rfl rfl rfl rfl ?_
        refine g_s1 (pc2 := 90) hk rfl rfl rfl rfl rfl ?_
        refine g_icmp_gt hk rfl (fun hc => ?_) (fun hc => ?_)
        · have H := H.1 hc
          exact H
        · have H := H.2 hc
          refine g_s1 (pc2 := 94) (st2 := [.int (0 : Int32)]) hk rfl rfl rfl rfl rfl ?_
          refine g_s1 (pc2 := 98) hk rfl rfl rfl rfl rfl ?_
          exact H
    · have H := H.2 hc
      refine g_s1 (pc2 := 65) (st2 := [.int (8 : Int32)]) hk rfl rfl rfl rfl rfl ?_
      exact g_ireturn hk rfl (by decide) (by decide) rfl H
  · have H := H.2 hc
    exact H
theorem b123_46 {x0 : Nat} {x1 : Int32} {x2 : Int32} {x3 : Int32} {x4 : Int32} {x5 : Int32} {h : iH} {Q : Option Value → iH → Prop} (H : Q (some (.int (2 : Int32))) h) : i_P i_MT i_AT L xs 123 46 [some (.ref x0), some (.int x1), some (.int x2), some (.int x3), some (.int x4), some (.int x5)] [] h 0 0 Q := by
  have hk := i_k123
  refine g_s1 (pc2 := 47) (st2 := [.int (2 : Int32)]) hk rfl rfl rfl rfl rfl ?_
  exact g_ireturn hk rfl (by decide) (by decide) rfl H
theorem b123_97 {x0 : Nat} {x1 : Int32} {x2 : Int32} {x3 : Int32} {x4 : Int32} {x5 : Int32} {h : iH} {Q : Option Value → iH → Prop} (H : i_P i_MT i_AT L xs 123 98 [some (.ref x0), some (.int x1), some (.int x2), some (.int x3), some (.int x4), some (.int x5)] [.int (3 : Int32)] h 0 0 Q) : i_P i_MT i_AT L xs 123 97 [some (.ref x0), some (.int x1), some (.int x2), some (.int x3), some (.int x4), some (.int x5)] [] h 0 0 Q := by
  have hk := i_k123
  refine g_s1 (pc2 := 98) (st2 := [.int (3 : Int32)]) hk rfl rfl rfl rfl rfl ?_
  exact H
theorem b123_98 {x0 : Nat} {x1 : Int32} {x2 : Int32} {x3 : Int32} {x4 : Int32} {x5 : Int32} {s0 : Int32} {h : iH} {Q : Option Value → iH → Prop} (H : Q (some (.int s0)) h) : i_P i_MT i_AT L xs 123 98 [some (.ref x0), some (.int x1), some (.int x2), some (.int x3), some (.int x4), some (.int x5)] [.int s0] h 0 0 Q := by
  have hk := i_k123
  exact g_ireturn hk rfl (by decide) (by decide) rfl H
/-! StillTown$Trays.shift(IIIII)V -/
theorem e124 {x0 : Nat} {x1 : Int32} {x2 : Int32} {x3 : Int32} {x4 : Int32} {x5 : Int32} {h : iH} {Q : Option Value → iH → Prop} (H : i_P i_MT i_AT L xs 124 0 [some (.ref x0), some (.int x1), some (.int x2), some (.int x3), some (.int x4), some (.int x5)] [] h 0 0 Q) : i_C i_MT i_AT L xs 124 [.ref x0, .int x1, .int x2, .int x3, .int x4, .int x5] h Q := ⟨i_m124, i_k124.1, Nat.le_of_ble_eq_true rfl, H⟩
theorem b124_0 {x0 : Nat} {x1 : Int32} {x2 : Int32} {x3 : Int32} {x4 : Int32} {x5 : Int32} {h : iH} {Q : Option Value → iH → Prop} (H : (∃ v1 : Nat, i_fld h x0 10 0 = some (.ref v1) ∧ (∃ (n2 : Nat) (f3 : Nat → Option Nat) (v4 : Nat), i_arR h 4 v1 = some (n2, f3) ∧ ¬ (x1 < 0 ∨ n2 ≤ x1.toNatClampNeg) ∧ f3 x1.toNatClampNeg = some v4 ∧ (∃ v5 : Nat, i_fld h x0 10 0 = some (.ref v5) ∧ (∃ (n6 : Nat) (f7 : Nat → Option Nat) (v8 : Nat), i_arR h 4 v5 = some (n6, f7) ∧ ¬ (x3 < 0 ∨ n6 ≤ x3.toNatClampNeg) ∧ f7 x3.toNatClampNeg = some v8 ∧ (∃ (n9 : Nat) (f10 : Nat → Int64) (n11 : Nat) (g12 : Nat → Int64), i_arJ h v4 = some (n9, f10) ∧ i_arJ h v8 = some (n11, g12) ∧ ¬ x2 < 0 ∧ ¬ x4 < 0 ∧ ¬ x5 < 0 ∧ x2.toNatClampNeg + x5.toNatClampNeg ≤ n9 ∧ x4.toNatClampNeg + x5.toNatClampNeg ≤ n11 ∧ i_P i_MT i_AT L xs 124 20 [some (.ref x0), some (.int x1), some (.int x2), some (.int x3), some (.int x4), some (.int x5)] [] (h.set v8 (.inl (1, n11, .inr (.inl (va_cpy f10 g12 x2.toNatClampNeg x4.toNatClampNeg x5.toNatClampNeg))))) 0 0 Q)))))) : i_P i_MT i_AT L xs 124 0 [some (.ref x0), some (.int x1), some (.int x2), some (.int x3), some (.int x4), some (.int x5)] [] h 0 0 Q := by
  have hk := i_k124
  refine g_s1 (pc2 := 1) hk rfl rfl rfl rfl rfl ?_
  obtain ⟨v1, ev1, H⟩ := H
  refine g_step (pc2 := 4) hk rfl rfl rfl (s_get ev1) ?_
  refine g_s1 (pc2 := 5) hk rfl rfl rfl rfl rfl ?_
  obtain ⟨n2, f3, v4, ef3, hi, hv, H⟩ := H
  refine g_step (pc2 := 6) hk rfl rfl rfl (s_rget (t := 4) (by decide) ef3 hi hv) ?_
  refine g_s1 (pc2 := 7) hk rfl rfl rfl rfl rfl ?_
  refine g_s1 (pc2 := 8) hk rfl rfl rfl rfl rfl ?_
  obtain ⟨v5, ev5, H⟩ := H
  refine g_step (pc2 := 11) hk rfl rfl rfl (s_get ev5) ?_
  refine g_s1 (pc2 := 12) hk rfl rfl rfl rfl rfl ?_
  obtain ⟨n6, f7, v8, ef7, hi, hv, H⟩ := H
  refine g_step (pc2 := 13) hk rfl rfl rfl (s_rget (t := 4) (by decide) ef7 hi hv) ?_
  refine g_s1 (pc2 := 15) hk rfl rfl rfl rfl rfl ?_
  refine g_s1 (pc2 := 17) hk rfl rfl rfl rfl rfl ?_
  obtain ⟨n9, f10, n11, g12, ef10, eg12, h1, h2, h3, h4, h5, H⟩ := H
  refine g_step (pc2 := 20) hk rfl rfl rfl (s_copyJ (L := L) (xs := xs) ef10 eg12 h1 h2 h3 h4 h5 (by decide)) ?_
  exact H
theorem b124_20 {x0 : Nat} {x1 : Int32} {x2 : Int32} {x3 : Int32} {x4 : Int32} {x5 : Int32} {h : iH} {Q : Option Value → iH → Prop} (H : Q none h) : i_P i_MT i_AT L xs 124 20 [some (.ref x0), some (.int x1), some (.int x2), some (.int x3), some (.int x4), some (.int x5)] [] h 0 0 Q := by
  have hk := i_k124
  exact g_return hk rfl (by decide) (by decide) rfl H
/-! StillTown$Trays.wordsStatus(III)I -/
theorem e125 {x0 : Nat} {x1 : Int32} {x2 : Int32} {x3 : Int32} {h : iH} {Q : Option Value → iH → Prop} (H : i_P i_MT i_AT L xs 125 0 [some (.ref x0), some (.int x1), some (.int x2), some (.int x3), none] [] h 0 0 Q) : i_C i_MT i_AT L xs 125 [.ref x0, .int x1, .int x2, .int x3] h Q := ⟨i_m125, i_k125.1, Nat.le_of_ble_eq_true rfl, H⟩
theorem b125_0 {x0 : Nat} {x1 : Int32} {x2 : Int32} {x3 : Int32} {x4 : Option Value} {h : iH} {Q : Option Value → iH → Prop} (H : (i_C i_MT i_AT L xs 117 [.int x1] h (fun v h1 => ∃ r2 : Int32, v = some (.int r2) ∧ i_P i_MT i_AT L xs 125 4 [some (.ref x0), some (.int x1), some (.int x2), some (.int x3), x4] [.int r2] h1 0 0 Q))) : i_P i_MT i_AT L xs 125 0 [some (.ref x0), some (.int x1), some (.int x2), some (.int x3), x4] [] h 0 0 Q := by
  have hk := i_k125
  refine g_s1 (pc2 := 1) hk rfl rfl rfl rfl rfl ?_
  refine g_call hk rfl rfl i_k117.1 ⟨rfl, rfl⟩ rfl (i_rcv_0 rfl) rfl ?_
  exact H.mono (fun v h2 q => by obtain ⟨r, rfl, q⟩ := q; exact q)
theorem b125_4 {x0 : Nat} {x1 : Int32} {x2 : Int32} {x3 : Int32} {x4 : Option Value} {s0 : Int32} {h : iH} {Q : Option Value → iH → Prop} (H : ((s0 = 0 → i_P i_MT i_AT L xs 125 27 [some (.ref x0), some (.int x1), some (.int x2), some (.int x3), x4] [] h 0 0 Q) ∧ (¬ (s0 = 0) → (i_C i_MT i_AT L xs 192 [.int x2, .int (2 : Int32), .int (20 : Int32)] h (fun v h1 => ∃ r2 : Int32, v = some (.int r2) ∧ i_P i_MT i_AT L xs 125 14 [some (.ref x0), some (.int x1), some (.int x2), some (.int x3), x4] [.int r2] h1 0 0 Q))))) : i_P i_MT i_AT L xs 125 4 [some (.ref x0), some (.int x1), some (.int x2), some (.int x3), x4] [.int s0] h 0 0 Q := by
  have hk := i_k125
  refine g_if_eq hk rfl (fun hc => ?_) (fun hc => ?_)
  · have H := H.1 hc
    exact H
  · have H := H.2 hc
    refine g_s1 (pc2 := 8) hk rfl rfl rfl rfl rfl ?_
    refine g_s1 (pc2 := 9) (st2 := [.int (2 : Int32), .int x2]) hk rfl rfl rfl rfl rfl ?_
    refine g_s1 (pc2 := 11) (st2 := [.int (20 : Int32), .int (2 : Int32), .int x2]) hk rfl rfl rfl rfl rfl ?_
    refine g_call hk rfl rfl i_k192.1 ⟨rfl, rfl⟩ rfl (i_rcv_0 rfl) rfl ?_
    exact H.mono (fun v h2 q => by obtain ⟨r, rfl, q⟩ := q; exact q)
theorem b125_14 {x0 : Nat} {x1 : Int32} {x2 : Int32} {x3 : Int32} {x4 : Option Value} {s0 : Int32} {h : iH} {Q : Option Value → iH → Prop} (H : ((s0 = 0 → i_P i_MT i_AT L xs 125 27 [some (.ref x0), some (.int x1), some (.int x2), some (.int x3), x4] [] h 0 0 Q) ∧ (¬ (s0 = 0) → (i_C i_MT i_AT L xs 192 [.int x3, .int (2 : Int32), .int (8 : Int32)] h (fun v h1 => ∃ r2 : Int32, v = some (.int r2) ∧ i_P i_MT i_AT L xs 125 24 [some (.ref x0), some (.int x1), some (.int x2), some (.int x3), x4] [.int r2] h1 0 0 Q))))) : i_P i_MT i_AT L xs 125 14 [some (.ref x0), some (.int x1), some (.int x2), some (.int x3), x4] [.int s0] h 0 0 Q := by
  have hk := i_k125
  refine g_if_eq hk rfl (fun hc => ?_) (fun hc => ?_)
  · have H := H.1 hc
    exact H
  · have H := H.2 hc
    refine g_s1 (pc2 := 18) hk rfl rfl rfl rfl rfl ?_
    refine g_s1 (pc2 := 19) (st2 := [.int (2 : Int32), .int x3]) hk rfl rfl rfl rfl rfl ?_
    refine g_s1 (pc2 := 21) (st2 := [.int (8 : Int32), .int (2 : Int32), .int x3]) hk rfl rfl rfl rfl rfl ?_
    refine g_call hk rfl rfl i_k192.1 ⟨rfl, rfl⟩ rfl (i_rcv_0 rfl) rfl ?_
    exact H.mono (fun v h2 q => by obtain ⟨r, rfl, q⟩ := q; exact q)
theorem b125_24 {x0 : Nat} {x1 : Int32} {x2 : Int32} {x3 : Int32} {x4 : Option Value} {s0 : Int32} {h : iH} {Q : Option Value → iH → Prop} (H : ((¬ s0 = 0 → (i_obj? h x0 10 ∧ i_C i_MT i_AT L xs 118 [.ref x0, .int x1] h (fun v h1 => ∃ r2 : Int32, v = some (.int r2) ∧ i_P i_MT i_AT L xs 125 34 [some (.ref x0), some (.int x1), some (.int x2), some (.int x3), x4] [.int r2] h1 0 0 Q))) ∧ (¬ (¬ s0 = 0) → i_P i_MT i_AT L xs 125 27 [some (.ref x0), some (.int x1), some (.int x2), some (.int x3), x4] [] h 0 0 Q))) : i_P i_MT i_AT L xs 125 24 [some (.ref x0), some (.int x1), some (.int x2), some (.int x3), x4] [.int s0] h 0 0 Q := by
  have hk := i_k125
  refine g_if_ne hk rfl (fun hc => ?_) (fun hc => ?_)
  · have H := H.1 hc
    refine g_s1 (pc2 := 30) hk rfl rfl rfl rfl rfl ?_
    refine g_s1 (pc2 := 31) hk rfl rfl rfl rfl rfl ?_
    obtain ⟨ho, H⟩ := H
    refine g_call hk rfl rfl i_k118.1 ⟨rfl, rfl⟩ rfl (i_rcv_v ho rfl (by decide)) rfl ?_
    exact H.mono (fun v h2 q => by obtain ⟨r, rfl, q⟩ := q; exact q)
  · have H := H.2 hc
    exact H
theorem b125_27 {x0 : Nat} {x1 : Int32} {x2 : Int32} {x3 : Int32} {x4 : Option Value} {h : iH} {Q : Option Value → iH → Prop} (H : Q (some (.int (1 : Int32))) h) : i_P i_MT i_AT L xs 125 27 [some (.ref x0), some (.int x1), some (.int x2), some (.int x3), x4] [] h 0 0 Q := by
  have hk := i_k125
  refine g_s1 (pc2 := 28) (st2 := [.int (1 : Int32)]) hk rfl rfl rfl rfl rfl ?_
  exact g_ireturn hk rfl (by decide) (by decide) rfl H
theorem b125_34 {x0 : Nat} {x1 : Int32} {x2 : Int32} {x3 : Int32} {x4 : Option Value} {s0 : Int32} {h : iH} {Q : Option Value → iH → Prop} (H : ((s0 = 0 → (∃ v1 : Nat, i_fld h x0 10 2 = some (.ref v1) ∧ (∃ (n2 : Nat) (f3 : Nat → Int32), i_arI h 0 v1 = some (n2, f3) ∧ ¬ (x1 < 0 ∨ n2 ≤ x1.toNatClampNeg) ∧ ((x2 ≤ (f3 x1.toNatClampNeg) → i_P i_MT i_AT L xs 125 54 [some (.ref x0), some (.int x1), some (.int x2), some (.int x3), some (.int (0 : Int32))] [] h 0 0 Q) ∧ (¬ (x2 ≤ (f3 x1.toNatClampNeg)) → Q (some (.int (3 : Int32))) h))))) ∧ (¬ (s0 = 0) → Q (some (.int (2 : Int32))) h))) : i_P i_MT i_AT L xs 125 34 [some (.ref x0), some (.int x1), some (.int x2), some (.int x3), x4] [.int s0] h 0 0 Q := by
  have hk := i_k125
  refine g_if_eq hk rfl (fun hc => ?_) (fun hc => ?_)
  · have H := H.1 hc
    refine g_s1 (pc2 := 40) hk rfl rfl rfl rfl rfl ?_
    obtain ⟨v1, ev1, H⟩ := H
    refine g_step (pc2 := 43) hk rfl rfl rfl (s_get ev1) ?_
    refine g_s1 (pc2 := 44) hk rfl rfl rfl rfl rfl ?_
    obtain ⟨n2, f3, ef3, hi, H⟩ := H
    refine g_step (pc2 := 45) hk rfl rfl rfl (s_aget (L := L) (xs := xs) ef3 hi) ?_
    refine g_s1 (pc2 := 46) hk rfl rfl rfl rfl rfl ?_
    refine g_icmp_ge hk rfl (fun hc => ?_) (fun hc => ?_)
    · have H := H.1 hc
      refine g_s1 (pc2 := 52) (st2 := [.int (0 : Int32)]) hk rfl rfl rfl rfl rfl ?_
      refine g_s1 (pc2 := 54) (lo2 := [some (.ref x0), some (.int x1), some (.int x2), some (.int x3), some (.int (0 : Int32))]) hk rfl rfl rfl rfl rfl ?_
      exact H
    · have H := H.2 hc
      refine g_s1 (pc2 := 50) (st2 := [.int (3 : Int32)]) hk rfl rfl rfl rfl rfl ?_
      exact g_ireturn hk rfl (by decide) (by decide) rfl H
  · have H := H.2 hc
    refine g_s1 (pc2 := 38) (st2 := [.int (2 : Int32)]) hk rfl rfl rfl rfl rfl ?_
    exact g_ireturn hk rfl (by decide) (by decide) rfl H
theorem b125_54 {x0 : Nat} {x1 : Int32} {x2 : Int32} {x3 : Int32} {x4 : Int32} {h : iH} {Q : Option Value → iH → Prop} (H : ((x2 ≤ x4 → Q (some (.int (0 : Int32))) h) ∧ (¬ (x2 ≤ x4) → (∃ v1 : Nat, i_fld h x0 10 0 = some (.ref v1) ∧ (∃ (n2 : Nat) (f3 : Nat → Option Nat) (v4 : Nat), i_arR h 4 v1 = some (n2, f3) ∧ ¬ (x1 < 0 ∨ n2 ≤ x1.toNatClampNeg) ∧ f3 x1.toNatClampNeg = some v4 ∧ (∃ (n5 : Nat) (f6 : Nat → Int64), i_arJ h v4 = some (n5, f6) ∧ ¬ (x4 < 0 ∨ n5 ≤ x4.toNatClampNeg) ∧ (((lg_cmp (f6 x4.toNatClampNeg) (0 : Int64)) < 0 → i_P i_MT i_AT L xs 125 90 [some (.ref x0), some (.int x1), some (.int x2), some (.int x3), some (.int x4)] [] h 0 0 Q) ∧ (¬ ((lg_cmp (f6 x4.toNatClampNeg) (0 : Int64)) < 0) → (∃ v7 : Nat, i_fld h x0 10 0 = some (.ref v7) ∧ (∃ (n8 : Nat) (f9 : Nat → Option Nat) (v10 : Nat), i_arR h 4 v7 = some (n8, f9) ∧ ¬ (x1 < 0 ∨ n8 ≤ x1.toNatClampNeg) ∧ f9 x1.toNatClampNeg = some v10 ∧ (∃ (n11 : Nat) (f12 : Nat → Int64), i_arJ h v10 = some (n11, f12) ∧ ¬ (x4 < 0 ∨ n11 ≤ x4.toNatClampNeg) ∧ (((lg_cmp (f12 x4.toNatClampNeg) (9999 : Int64)) ≤ 0 → i_P i_MT i_AT L xs 125 54 [some (.ref x0), some (.int x1), some (.int x2), some (.int x3), some (.int (x4 + 1))] [] h 0 0 Q) ∧ (¬ ((lg_cmp (f12 x4.toNatClampNeg) (9999 : Int64)) ≤ 0) → i_P i_MT i_AT L xs 125 90 [some (.ref x0), some (.int x1), some (.int x2), some (.int x3), some (.int x4)] [] h 0 0 Q))))))))))))) : i_P i_MT i_AT L xs 125 54 [some (.ref x0), some (.int x1), some (.int x2), some (.int x3), some (.int x4)] [] h 0 0 Q := by
  have hk := i_k125
  refine g_s1 (pc2 := 56) hk rfl rfl rfl rfl rfl ?_
  refine g_s1 (pc2 := 57) hk rfl rfl rfl rfl rfl ?_
  refine g_icmp_ge hk rfl (fun hc => ?_) (fun hc => ?_)
  · have H := H.1 hc
    refine g_s1 (pc2 := 99) (st2 := [.int (0 : Int32)]) hk rfl rfl rfl rfl rfl ?_
    exact g_ireturn hk rfl (by decide) (by decide) rfl H
  · have H := H.2 hc
    refine g_s1 (pc2 := 61) hk rfl rfl rfl rfl rfl ?_
    obtain ⟨v1, ev1, H⟩ := H
    refine g_step (pc2 := 64) hk rfl rfl rfl (s_get ev1) ?_
    refine g_s1 (pc2 := 65) hk rfl rfl rfl rfl rfl ?_
    obtain ⟨n2, f3, v4, ef3, hi, hv, H⟩ := H
    refine g_step (pc2 := 66) hk rfl rfl rfl (s_rget (t := 4) (by decide) ef3 hi hv) ?_
    refine g_s1 (pc2 := 68) hk rfl rfl rfl rfl rfl ?_
    obtain ⟨n5, f6, ef6, hi, H⟩ := H
    refine g_step (pc2 := 69) hk rfl rfl rfl (s_lget ef6 hi) ?_
    refine g_s1 (pc2 := 70) (st2 := [.long (0 : Int64), .long (f6 x4.toNatClampNeg)]) hk rfl rfl rfl rfl rfl ?_
    refine g_s1 (pc2 := 71) hk rfl rfl rfl rfl rfl ?_
    refine g_if_lt hk rfl (fun hc => ?_) (fun hc => ?_)
    · have H := H.1 hc
      exact H
    · have H := H.2 hc
      refine g_s1 (pc2 := 75) hk rfl rfl rfl rfl rfl ?_
      obtain ⟨v7, ev7, H⟩ := H
      refine g_step (pc2 := 78) hk rfl rfl rfl (s_get ev7) ?_
      refine g_s1 (pc2 := 79) hk rfl rfl rfl rfl rfl ?_
      obtain ⟨n8, f9, v10, ef9, hi, hv, H⟩ := H
      refine g_step (pc2 := 80) hk rfl rfl rfl (s_rget (t := 4) (by decide) ef9 hi hv) ?_
      refine g_s1 (pc2 := 82) hk rfl rfl rfl rfl rfl ?_
      obtain ⟨n11, f12, ef12, hi, H⟩ := H
      refine g_step (pc2 := 83) hk rfl rfl rfl (s_lget ef12 hi) ?_
      refine g_step (pc2 := 86) (st2 := [.long (9999 : Int64), .long (f12 x4.toNatClampNeg)]) hk rfl rfl rfl rfl ?_
      refine g_s1 (pc2 := 87) hk rfl rfl rfl rfl rfl ?_
      refine g_if_le hk rfl (fun hc => ?_) (fun hc => ?_)
      · have H := H.1 hc
        refine g_s1 (pc2 := 95) (lo2 := [some (.ref x0), some (.int x1), some (.int x2), some (.int x3), some (.int (x4 + 1))]) hk rfl rfl rfl rfl rfl ?_
        refine g_s1 (pc2 := 54) hk rfl rfl rfl rfl rfl ?_
        exact H
      · have H := H.2 hc
        exact H
theorem b125_90 {x0 : Nat} {x1 : Int32} {x2 : Int32} {x3 : Int32} {x4 : Int32} {h : iH} {Q : Option Value → iH → Prop} (H : Q (some (.int (5 : Int32))) h) : i_P i_MT i_AT L xs 125 90 [some (.ref x0), some (.int x1), some (.int x2), some (.int x3), some (.int x4)] [] h 0 0 Q := by
  have hk := i_k125
  refine g_s1 (pc2 := 91) (st2 := [.int (5 : Int32)]) hk rfl rfl rfl rfl rfl ?_
  exact g_ireturn hk rfl (by decide) (by decide) rfl H
/-! StillTown$Trays.fewestMoves(III)I -/
theorem e126 {x0 : Nat} {x1 : Int32} {x2 : Int32} {x3 : Int32} {h : iH} {Q : Option Value → iH → Prop} (H : i_P i_MT i_AT L xs 126 0 [some (.ref x0), some (.int x1), some (.int x2), some (.int x3), none, none, none, none, none] [] h 0 0 Q) : i_C i_MT i_AT L xs 126 [.ref x0, .int x1, .int x2, .int x3] h Q := ⟨i_m126, i_k126.1, Nat.le_of_ble_eq_true rfl, H⟩
theorem b126_0 {x0 : Nat} {x1 : Int32} {x2 : Int32} {x3 : Int32} {x4 : Option Value} {x5 : Option Value} {x6 : Option Value} {x7 : Option Value} {x8 : Option Value} {h : iH} {Q : Option Value → iH → Prop} (H : i_P i_MT i_AT L xs 126 6 [some (.ref x0), some (.int x1), some (.int x2), some (.int x3), some (.int (0 : Int32)), some (.int (0 : Int32)), x6, x7, x8] [] h 0 0 Q) : i_P i_MT i_AT L xs 126 0 [some (.ref x0), some (.int x1), some (.int x2), some (.int x3), x4, x5, x6, x7, x8] [] h 0 0 Q := by
  have hk := i_k126
  refine g_s1 (pc2 := 1) (st2 := [.int (0 : Int32)]) hk rfl rfl rfl rfl rfl ?_
  refine g_s1 (pc2 := 3) (lo2 := [some (.ref x0), some (.int x1), some (.int x2), some (.int x3), some (.int (0 : Int32)), x5, x6, x7, x8]) hk rfl rfl rfl rfl rfl ?_
  refine g_s1 (pc2 := 4) (st2 := [.int (0 : Int32)]) hk rfl rfl rfl rfl rfl ?_
  refine g_s1 (pc2 := 6) (lo2 := [some (.ref x0), some (.int x1), some (.int x2), some (.int x3), some (.int (0 : Int32)), some (.int (0 : Int32)), x6, x7, x8]) hk rfl rfl rfl rfl rfl ?_
  exact H
theorem b126_6 {x0 : Nat} {x1 : Int32} {x2 : Int32} {x3 : Int32} {x4 : Int32} {x5 : Int32} {x6 : Option Value} {x7 : Option Value} {x8 : Option Value} {h : iH} {Q : Option Value → iH → Prop} (H : ((x2 ≤ x5 → i_P i_MT i_AT L xs 126 41 [some (.ref x0), some (.int x1), some (.int x2), some (.int x3), some (.int x4), some (.int (0 : Int32)), x6, x7, x8] [] h 0 0 Q) ∧ (¬ (x2 ≤ x5) → (∃ v1 : Nat, i_fld h x0 10 3 = some (.ref v1) ∧ (∃ v2 : Nat, i_fld h x0 10 0 = some (.ref v2) ∧ (∃ (n3 : Nat) (f4 : Nat → Option Nat) (v5 : Nat), i_arR h 4 v2 = some (n3, f4) ∧ ¬ (x1 < 0 ∨ n3 ≤ x1.toNatClampNeg) ∧ f4 x1.toNatClampNeg = some v5 ∧ (∃ (n6 : Nat) (f7 : Nat → Int64), i_arJ h v5 = some (n6, f7) ∧ ¬ (x5 < 0 ∨ n6 ≤ x5.toNatClampNeg) ∧ (∃ (n8 : Nat) (f9 : Nat → Int32), i_arI h 0 v1 = some (n8, f9) ∧ ¬ (x4 < 0 ∨ n8 ≤ x4.toNatClampNeg) ∧ i_P i_MT i_AT L xs 126 32 [some (.ref x0), some (.int x1), some (.int x2), some (.int x3), some (.int (x4 + 1)), some (.int x5), x6, x7, x8] [] (i_siI h v1 x4.toNatClampNeg ((f7 x5.toNatClampNeg).toInt32)) 0 0 Q)))))))) : i_P i_MT i_AT L xs 126 6 [some (.ref x0), some (.int x1), some (.int x2), some (.int x3), some (.int x4), some (.int x5), x6, x7, x8] [] h 0 0 Q := by
  have hk := i_k126
  refine g_s1 (pc2 := 8) hk rfl rfl rfl rfl rfl ?_
  refine g_s1 (pc2 := 9) hk rfl rfl rfl rfl rfl ?_
  refine g_icmp_ge hk rfl (fun hc => ?_) (fun hc => ?_)
  · have H := H.1 hc
    refine g_s1 (pc2 := 39) (st2 := [.int (0 : Int32)]) hk rfl rfl rfl rfl rfl ?_
    refine g_s1 (pc2 := 41) (lo2 := [some (.ref x0), some (.int x1), some (.int x2), some (.int x3), some (.int x4), some (.int (0 : Int32)), x6, x7, x8]) hk rfl rfl rfl rfl rfl ?_
    exact H
  · have H := H.2 hc
    refine g_s1 (pc2 := 13) hk rfl rfl rfl rfl rfl ?_
    obtain ⟨v1, ev1, H⟩ := H
    refine g_step (pc2 := 16) hk rfl rfl rfl (s_get ev1) ?_
    refine g_s1 (pc2 := 18) hk rfl rfl rfl rfl rfl ?_
    refine g_s1 (pc2 := 21) (lo2 := [some (.ref x0), some (.int x1), some (.int x2), some (.int x3), some (.int (x4 + 1)), some (.int x5), x6, x7, x8]) hk rfl rfl rfl rfl rfl ?_
    refine g_s1 (pc2 := 22) hk rfl rfl rfl rfl rfl ?_
    obtain ⟨v2, ev2, H⟩ := H
    refine g_step (pc2 := 25) hk rfl rfl rfl (s_get ev2) ?_
    refine g_s1 (pc2 := 26) hk rfl rfl rfl rfl rfl ?_
    obtain ⟨n3, f4, v5, ef4, hi, hv, H⟩ := H
    refine g_step (pc2 := 27) hk rfl rfl rfl (s_rget (t := 4) (by decide) ef4 hi hv) ?_
    refine g_s1 (pc2 := 29) hk rfl rfl rfl rfl rfl ?_
    obtain ⟨n6, f7, ef7, hi, H⟩ := H
    refine g_step (pc2 := 30) hk rfl rfl rfl (s_lget ef7 hi) ?_
    refine g_s1 (pc2 := 31) hk rfl rfl rfl rfl rfl ?_
    obtain ⟨n8, f9, ef9, hi, H⟩ := H
    refine g_step (pc2 := 32) hk rfl rfl rfl (s_aput ef9 hi) ?_
    exact H
theorem b126_32 {x0 : Nat} {x1 : Int32} {x2 : Int32} {x3 : Int32} {x4 : Int32} {x5 : Int32} {x6 : Option Value} {x7 : Option Value} {x8 : Option Value} {h : iH} {Q : Option Value → iH → Prop} (H : i_P i_MT i_AT L xs 126 6 [some (.ref x0), some (.int x1), some (.int x2), some (.int x3), some (.int x4), some (.int (x5 + 1)), x6, x7, x8] [] h 0 0 Q) : i_P i_MT i_AT L xs 126 32 [some (.ref x0), some (.int x1), some (.int x2), some (.int x3), some (.int x4), some (.int x5), x6, x7, x8] [] h 0 0 Q := by
  have hk := i_k126
  refine g_s1 (pc2 := 35) (lo2 := [some (.ref x0), some (.int x1), some (.int x2), some (.int x3), some (.int x4), some (.int (x5 + 1)), x6, x7, x8]) hk rfl rfl rfl rfl rfl ?_
  refine g_s1 (pc2 := 6) hk rfl rfl rfl rfl rfl ?_
  exact H
theorem b126_41 {x0 : Nat} {x1 : Int32} {x2 : Int32} {x3 : Int32} {x4 : Int32} {x5 : Int32} {x6 : Option Value} {x7 : Option Value} {x8 : Option Value} {h : iH} {Q : Option Value → iH → Prop} (H : (((8 : Int32) ≤ x5 → i_P i_MT i_AT L xs 126 76 [some (.ref x0), some (.int x1), some (.int x2), some (.int x3), some (.int x4), some (.int x5), x6, x7, x8] [] h 0 0 Q) ∧ (¬ ((8 : Int32) ≤ x5) → (¬ (x3 - (1 : Int32)) = 0 ∧ ((((x4 - (1 : Int32)) - (x4 - (1 : Int32)) / (x3 - (1 : Int32)) * (x3 - (1 : Int32))) = 0 → i_P i_MT i_AT L xs 126 76 [some (.ref x0), some (.int x1), some (.int x2), some (.int x3), some (.int x4), some (.int x5), x6, x7, x8] [] h 0 0 Q) ∧ (¬ (((x4 - (1 : Int32)) - (x4 - (1 : Int32)) / (x3 - (1 : Int32)) * (x3 - (1 : Int32))) = 0) → (∃ v1 : Nat, i_fld h x0 10 3 = some (.ref v1) ∧ (∃ (n2 : Nat) (f3 : Nat → Int32), i_arI h 0 v1 = some (n2, f3) ∧ ¬ (x4 < 0 ∨ n2 ≤ x4.toNatClampNeg) ∧ i_P i_MT i_AT L xs 126 70 [some (.ref x0), some (.int x1), some (.int x2), some (.int x3), some (.int (x4 + 1)), some (.int x5), x6, x7, x8] [] (i_siI h v1 x4.toNatClampNeg (0 : Int32)) 0 0 Q)))))))) : i_P i_MT i_AT L xs 126 41 [some (.ref x0), some (.int x1), some (.int x2), some (.int x3), some (.int x4), some (.int x5), x6, x7, x8] [] h 0 0 Q := by
  have hk := i_k126
  refine g_s1 (pc2 := 43) hk rfl rfl rfl rfl rfl ?_
  refine g_s1 (pc2 := 45) (st2 := [.int (8 : Int32), .int x5]) hk rfl rfl rfl rfl rfl ?_
  refine g_icmp_ge hk rfl (fun hc => ?_) (fun hc => ?_)
  · have H := H.1 hc
    exact H
  · have H := H.2 hc
    refine g_s1 (pc2 := 50) hk rfl rfl rfl rfl rfl ?_
    refine g_s1 (pc2 := 51) (st2 := [.int (1 : Int32), .int x4]) hk rfl rfl rfl rfl rfl ?_
    refine g_s1 (pc2 := 52) hk rfl rfl rfl rfl rfl ?_
    refine g_s1 (pc2 := 53) hk rfl rfl rfl rfl rfl ?_
    refine g_s1 (pc2 := 54) (st2 := [.int (1 : Int32), .int x3, .int (x4 - (1 : Int32))]) hk rfl rfl rfl rfl rfl ?_
    refine g_s1 (pc2 := 55) hk rfl rfl rfl rfl rfl ?_
    obtain ⟨hz, H⟩ := H
    refine g_s1 (pc2 := 56) hk rfl rfl rfl rfl (s_if hz) ?_
    refine g_if_eq hk rfl (fun hc => ?_) (fun hc => ?_)
    · have H := H.1 hc
      exact H
    · have H := H.2 hc
      refine g_s1 (pc2 := 60) hk rfl rfl rfl rfl rfl ?_
      obtain ⟨v1, ev1, H⟩ := H
      refine g_step (pc2 := 63) hk rfl rfl rfl (s_get ev1) ?_
      refine g_s1 (pc2 := 65) hk rfl rfl rfl rfl rfl ?_
      refine g_s1 (pc2 := 68) (lo2 := [some (.ref x0), some (.int x1), some (.int x2), some (.int x3), some (.int (x4 + 1)), some (.int x5), x6, x7, x8]) hk rfl rfl rfl rfl rfl ?_
      refine g_s1 (pc2 := 69) (st2 := [.int (0 : Int32), .int x4, .ref v1]) hk rfl rfl rfl rfl rfl ?_
      obtain ⟨n2, f3, ef3, hi, H⟩ := H
      refine g_step (pc2 := 70) hk rfl rfl rfl (s_aput ef3 hi) ?_
      exact H
theorem b126_70 {x0 : Nat} {x1 : Int32} {x2 : Int32} {x3 : Int32} {x4 : Int32} {x5 : Int32} {x6 : Option Value} {x7 : Option Value} {x8 : Option Value} {h : iH} {Q : Option Value → iH → Prop} (H : i_P i_MT i_AT L xs 126 41 [some (.ref x0), some (.int x1), some (.int x2), some (.int x3), some (.int x4), some (.int (x5 + 1)), x6, x7, x8] [] h 0 0 Q) : i_P i_MT i_AT L xs 126 70 [some (.ref x0), some (.int x1), some (.int x2), some (.int x3), some (.int x4), some (.int x5), x6, x7, x8] [] h 0 0 Q := by
  have hk := i_k126
  refine g_s1 (pc2 := 73) (lo2 := [some (.ref x0), some (.int x1), some (.int x2), some (.int x3), some (.int x4), some (.int (x5 + 1)), x6, x7, x8]) hk rfl rfl rfl rfl rfl ?_
  refine g_s1 (pc2 := 41) hk rfl rfl rfl rfl rfl ?_
  exact H
theorem b126_76 {x0 : Nat} {x1 : Int32} {x2 : Int32} {x3 : Int32} {x4 : Int32} {x5 : Int32} {x6 : Option Value} {x7 : Option Value} {x8 : Option Value} {h : iH} {Q : Option Value → iH → Prop} (H : i_P i_MT i_AT L xs 126 82 [some (.ref x0), some (.int x1), some (.int x2), some (.int x3), some (.int x4), some (.int (0 : Int32)), some (.int (0 : Int32)), x7, x8] [] h 0 0 Q) : i_P i_MT i_AT L xs 126 76 [some (.ref x0), some (.int x1), some (.int x2), some (.int x3), some (.int x4), some (.int x5), x6, x7, x8] [] h 0 0 Q := by
  have hk := i_k126
  refine g_s1 (pc2 := 77) (st2 := [.int (0 : Int32)]) hk rfl rfl rfl rfl rfl ?_
  refine g_s1 (pc2 := 79) (lo2 := [some (.ref x0), some (.int x1), some (.int x2), some (.int x3), some (.int x4), some (.int (0 : Int32)), x6, x7, x8]) hk rfl rfl rfl rfl rfl ?_
  refine g_s1 (pc2 := 80) (st2 := [.int (0 : Int32)]) hk rfl rfl rfl rfl rfl ?_
  refine g_s1 (pc2 := 82) (lo2 := [some (.ref x0), some (.int x1), some (.int x2), some (.int x3), some (.int x4), some (.int (0 : Int32)), some (.int (0 : Int32)), x7, x8]) hk rfl rfl rfl rfl rfl ?_
  exact H
theorem b126_82 {x0 : Nat} {x1 : Int32} {x2 : Int32} {x3 : Int32} {x4 : Int32} {x5 : Int32} {x6 : Int32} {x7 : Option Value} {x8 : Option Value} {h : iH} {Q : Option Value → iH → Prop} (H : (((20 : Int32) ≤ x6 → i_P i_MT i_AT L xs 126 152 [some (.ref x0), some (.int x1), some (.int x2), some (.int x3), some (.int x4), some (.int x5), some (.int x6), x7, x8] [] h 0 0 Q) ∧ (¬ ((20 : Int32) ≤ x6) → ((x4 ≤ (1 : Int32) → i_P i_MT i_AT L xs 126 152 [some (.ref x0), some (.int x1), some (.int x2), some (.int x3), some (.int x4), some (.int x5), some (.int x6), x7, x8] [] h 0 0 Q) ∧ (¬ (x4 ≤ (1 : Int32)) → i_P i_MT i_AT L xs 126 101 [some (.ref x0), some (.int x1), some (.int x2), some (.int x3), some (.int x4), some (.int x5), some (.int x6), some (.int (0 : Int32)), some (.int (0 : Int32))] [] h 0 0 Q))))) : i_P i_MT i_AT L xs 126 82 [some (.ref x0), some (.int x1), some (.int x2), some (.int x3), some (.int x4), some (.int x5), some (.int x6), x7, x8] [] h 0 0 Q := by
  have hk := i_k126
  refine g_s1 (pc2 := 84) hk rfl rfl rfl rfl rfl ?_
  refine g_s1 (pc2 := 86) (st2 := [.int (20 : Int32), .int x6]) hk rfl rfl rfl rfl rfl ?_
  refine g_icmp_ge hk rfl (fun hc => ?_) (fun hc => ?_)
  · have H := H.1 hc
    exact H
  · have H := H.2 hc
    refine g_s1 (pc2 := 91) hk rfl rfl rfl rfl rfl ?_
    refine g_s1 (pc2 := 92) (st2 := [.int (1 : Int32), .int x4]) hk rfl rfl rfl rfl rfl ?_
    refine g_icmp_le hk rfl (fun hc => ?_) (fun hc => ?_)
    · have H := H.1 hc
      exact H
    · have H := H.2 hc
      refine g_s1 (pc2 := 96) (st2 := [.int (0 : Int32)]) hk rfl rfl rfl rfl rfl ?_
      refine g_s1 (pc2 := 98) (lo2 := [some (.ref x0), some (.int x1), some (.int x2), some (.int x3), some (.int x4), some (.int x5), some (.int x6), some (.int (0 : Int32)), x8]) hk rfl rfl rfl rfl rfl ?_
      refine g_s1 (pc2 := 99) (st2 := [.int (0 : Int32)]) hk rfl rfl rfl rfl rfl ?_
      refine g_s1 (pc2 := 101) (lo2 := [some (.ref x0), some (.int x1), some (.int x2), some (.int x3), some (.int x4), some (.int x5), some (.int x6), some (.int (0 : Int32)), some (.int (0 : Int32))]) hk rfl rfl rfl rfl rfl ?_
      exact H
theorem b126_101 {x0 : Nat} {x1 : Int32} {x2 : Int32} {x3 : Int32} {x4 : Int32} {x5 : Int32} {x6 : Int32} {x7 : Int32} {x8 : Int32} {h : iH} {Q : Option Value → iH → Prop} (H : ((x3 ≤ x8 → (∃ v1 : Nat, i_fld h x0 10 3 = some (.ref v1) ∧ (∃ (n2 : Nat) (f3 : Nat → Int32), i_arI h 0 v1 = some (n2, f3) ∧ ¬ (x4 < 0 ∨ n2 ≤ x4.toNatClampNeg) ∧ i_P i_MT i_AT L xs 126 139 [some (.ref x0), some (.int x1), some (.int x2), some (.int x3), some (.int (x4 + 1)), some (.int x5), some (.int x6), some (.int x7), some (.int x8)] [] (i_siI h v1 x4.toNatClampNeg x7) 0 0 Q))) ∧ (¬ (x3 ≤ x8) → (i_obj? h x0 10 ∧ i_C i_MT i_AT L xs 127 [.ref x0, .int x4] h (fun v h4 => ∃ r5 : Int32, v = some (.int r5) ∧ i_P i_MT i_AT L xs 126 118 [some (.ref x0), some (.int x1), some (.int x2), some (.int x3), some (.int (x4 + (-1))), some (.int x5), some (.int x6), some (.int x7), some (.int x8)] [.int r5, .int x7] h4 0 0 Q))))) : i_P i_MT i_AT L xs 126 101 [some (.ref x0), some (.int x1), some (.int x2), some (.int x3), some (.int x4), some (.int x5), some (.int x6), some (.int x7), some (.int x8)] [] h 0 0 Q := by
  have hk := i_k126
  refine g_s1 (pc2 := 103) hk rfl rfl rfl rfl rfl ?_
  refine g_s1 (pc2 := 104) hk rfl rfl rfl rfl rfl ?_
  refine g_icmp_ge hk rfl (fun hc => ?_) (fun hc => ?_)
  · have H := H.1 hc
    refine g_s1 (pc2 := 128) hk rfl rfl rfl rfl rfl ?_
    obtain ⟨v1, ev1, H⟩ := H
    refine g_step (pc2 := 131) hk rfl rfl rfl (s_get ev1) ?_
    refine g_s1 (pc2 := 133) hk rfl rfl rfl rfl rfl ?_
    refine g_s1 (pc2 := 136) (lo2 := [some (.ref x0), some (.int x1), some (.int x2), some (.int x3), some (.int (x4 + 1)), some (.int x5), some (.int x6), some (.int x7), some (.int x8)]) hk rfl rfl rfl rfl rfl ?_
    refine g_s1 (pc2 := 138) hk rfl rfl rfl rfl rfl ?_
    obtain ⟨n2, f3, ef3, hi, H⟩ := H
    refine g_step (pc2 := 139) hk rfl rfl rfl (s_aput ef3 hi) ?_
    exact H
  · have H := H.2 hc
    refine g_s1 (pc2 := 109) hk rfl rfl rfl rfl rfl ?_
    refine g_s1 (pc2 := 110) hk rfl rfl rfl rfl rfl ?_
    refine g_s1 (pc2 := 112) hk rfl rfl rfl rfl rfl ?_
    refine g_s1 (pc2 := 115) (lo2 := [some (.ref x0), some (.int x1), some (.int x2), some (.int x3), some (.int (x4 + (-1))), some (.int x5), some (.int x6), some (.int x7), some (.int x8)]) hk rfl rfl rfl rfl rfl ?_
    obtain ⟨ho, H⟩ := H
    refine g_call hk rfl rfl i_k127.1 ⟨rfl, rfl⟩ rfl (i_rcv_v ho rfl (by decide)) rfl ?_
    exact H.mono (fun v h2 q => by obtain ⟨r, rfl, q⟩ := q; exact q)
theorem b126_118 {x0 : Nat} {x1 : Int32} {x2 : Int32} {x3 : Int32} {x4 : Int32} {x5 : Int32} {x6 : Int32} {x7 : Int32} {x8 : Int32} {s0 : Int32} {s1 : Int32} {h : iH} {Q : Option Value → iH → Prop} (H : i_P i_MT i_AT L xs 126 101 [some (.ref x0), some (.int x1), some (.int x2), some (.int x3), some (.int x4), some (.int x5), some (.int x6), some (.int (s0 + s1)), some (.int (x8 + 1))] [] h 0 0 Q) : i_P i_MT i_AT L xs 126 118 [some (.ref x0), some (.int x1), some (.int x2), some (.int x3), some (.int x4), some (.int x5), some (.int x6), some (.int x7), some (.int x8)] [.int s1, .int s0] h 0 0 Q := by
  have hk := i_k126
  refine g_s1 (pc2 := 119) hk rfl rfl rfl rfl rfl ?_
  refine g_s1 (pc2 := 121) (lo2 := [some (.ref x0), some (.int x1), some (.int x2), some (.int x3), some (.int x4), some (.int x5), some (.int x6), some (.int (s0 + s1)), some (.int x8)]) hk rfl rfl rfl rfl rfl ?_
  refine g_s1 (pc2 := 124) (lo2 := [some (.ref x0), some (.int x1), some (.int x2), some (.int x3), some (.int x4), some (.int x5), some (.int x6), some (.int (s0 + s1)), some (.int (x8 + 1))]) hk rfl rfl rfl rfl rfl ?_
  refine g_s1 (pc2 := 101) hk rfl rfl rfl rfl rfl ?_
  exact H
theorem b126_139 {x0 : Nat} {x1 : Int32} {x2 : Int32} {x3 : Int32} {x4 : Int32} {x5 : Int32} {x6 : Int32} {x7 : Int32} {x8 : Int32} {h : iH} {Q : Option Value → iH → Prop} (H : i_P i_MT i_AT L xs 126 82 [some (.ref x0), some (.int x1), some (.int x2), some (.int x3), some (.int x4), some (.int (x5 + x7)), some (.int (x6 + 1)), some (.int x7), some (.int x8)] [] h 0 0 Q) : i_P i_MT i_AT L xs 126 139 [some (.ref x0), some (.int x1), some (.int x2), some (.int x3), some (.int x4), some (.int x5), some (.int x6), some (.int x7), some (.int x8)] [] h 0 0 Q := by
  have hk := i_k126
  refine g_s1 (pc2 := 141) hk rfl rfl rfl rfl rfl ?_
  refine g_s1 (pc2 := 143) hk rfl rfl rfl rfl rfl ?_
  refine g_s1 (pc2 := 144) hk rfl rfl rfl rfl rfl ?_
  refine g_s1 (pc2 := 146) (lo2 := [some (.ref x0), some (.int x1), some (.int x2), some (.int x3), some (.int x4), some (.int (x5 + x7)), some (.int x6), some (.int x7), some (.int x8)]) hk rfl rfl rfl rfl rfl ?_
  refine g_s1 (pc2 := 149) (lo2 := [some (.ref x0), some (.int x1), some (.int x2), some (.int x3), some (.int x4), some (.int (x5 + x7)), some (.int (x6 + 1)), some (.int x7), some (.int x8)]) hk rfl rfl rfl rfl rfl ?_
  refine g_s1 (pc2 := 82) hk rfl rfl rfl rfl rfl ?_
  exact H
theorem b126_152 {x0 : Nat} {x1 : Int32} {x2 : Int32} {x3 : Int32} {x4 : Int32} {x5 : Int32} {x6 : Int32} {x7 : Option Value} {x8 : Option Value} {h : iH} {Q : Option Value → iH → Prop} (H : Q (some (.int x5)) h) : i_P i_MT i_AT L xs 126 152 [some (.ref x0), some (.int x1), some (.int x2), some (.int x3), some (.int x4), some (.int x5), some (.int x6), x7, x8] [] h 0 0 Q := by
  have hk := i_k126
  refine g_s1 (pc2 := 154) hk rfl rfl rfl rfl rfl ?_
  exact g_ireturn hk rfl (by decide) (by decide) rfl H
/-! StillTown$Trays.takeLeast(I)I -/
theorem e127 {x0 : Nat} {x1 : Int32} {h : iH} {Q : Option Value → iH → Prop} (H : i_P i_MT i_AT L xs 127 0 [some (.ref x0), some (.int x1), none, none] [] h 0 0 Q) : i_C i_MT i_AT L xs 127 [.ref x0, .int x1] h Q := ⟨i_m127, i_k127.1, Nat.le_of_ble_eq_true rfl, H⟩
theorem b127_0 {x0 : Nat} {x1 : Int32} {x2 : Option Value} {x3 : Option Value} {h : iH} {Q : Option Value → iH → Prop} (H : i_P i_MT i_AT L xs 127 4 [some (.ref x0), some (.int x1), some (.int (0 : Int32)), some (.int (1 : Int32))] [] h 0 0 Q) : i_P i_MT i_AT L xs 127 0 [some (.ref x0), some (.int x1), x2, x3] [] h 0 0 Q := by
  have hk := i_k127
  refine g_s1 (pc2 := 1) (st2 := [.int (0 : Int32)]) hk rfl rfl rfl rfl rfl ?_
  refine g_s1 (pc2 := 2) (lo2 := [some (.ref x0), some (.int x1), some (.int (0 : Int32)), x3]) hk rfl rfl rfl rfl rfl ?_
  refine g_s1 (pc2 := 3) (st2 := [.int (1 : Int32)]) hk rfl rfl rfl rfl rfl ?_
  refine g_s1 (pc2 := 4) (lo2 := [some (.ref x0), some (.int x1), some (.int (0 : Int32)), some (.int (1 : Int32))]) hk rfl rfl rfl rfl rfl ?_
  exact H
theorem b127_4 {x0 : Nat} {x1 : Int32} {x2 : Int32} {x3 : Int32} {h : iH} {Q : Option Value → iH → Prop} (H : ((x1 ≤ x3 → (∃ v1 : Nat, i_fld h x0 10 3 = some (.ref v1) ∧ (∃ (n2 : Nat) (f3 : Nat → Int32), i_arI h 0 v1 = some (n2, f3) ∧ ¬ (x2 < 0 ∨ n2 ≤ x2.toNatClampNeg) ∧ (∃ v4 : Nat, i_fld h x0 10 3 = some (.ref v4) ∧ (∃ v5 : Nat, i_fld h x0 10 3 = some (.ref v5) ∧ (∃ (n6 : Nat) (f7 : Nat → Int32), i_arI h 0 v5 = some (n6, f7) ∧ ¬ ((x1 - (1 : Int32)) < 0 ∨ n6 ≤ (x1 - (1 : Int32)).toNatClampNeg) ∧ (∃ (n8 : Nat) (f9 : Nat → Int32), i_arI h 0 v4 = some (n8, f9) ∧ ¬ (x2 < 0 ∨ n8 ≤ x2.toNatClampNeg) ∧ i_P i_MT i_AT L xs 127 53 [some (.ref x0), some (.int x1), some (.int x2), some (.int (f3 x2.toNatClampNeg))] [] (i_siI h v4 x2.toNatClampNeg (f7 (x1 - (1 : Int32)).toNatClampNeg)) 0 0 Q))))))) ∧ (¬ (x1 ≤ x3) → (∃ v10 : Nat, i_fld h x0 10 3 = some (.ref v10) ∧ (∃ (n11 : Nat) (f12 : Nat → Int32), i_arI h 0 v10 = some (n11, f12) ∧ ¬ (x3 < 0 ∨ n11 ≤ x3.toNatClampNeg) ∧ (∃ v13 : Nat, i_fld h x0 10 3 = some (.ref v13) ∧ (∃ (n14 : Nat) (f15 : Nat → Int32), i_arI h 0 v13 = some (n14, f15) ∧ ¬ (x2 < 0 ∨ n14 ≤ x2.toNatClampNeg) ∧ (((f15 x2.toNatClampNeg) ≤ (f12 x3.toNatClampNeg) → i_P i_MT i_AT L xs 127 26 [some (.ref x0), some (.int x1), some (.int x2), some (.int x3)] [] h 0 0 Q) ∧ (¬ ((f15 x2.toNatClampNeg) ≤ (f12 x3.toNatClampNeg)) → i_P i_MT i_AT L xs 127 26 [some (.ref x0), some (.int x1), some (.int x3), some (.int x3)] [] h 0 0 Q))))))))) : i_P i_MT i_AT L xs 127 4 [some (.ref x0), some (.int x1), some (.int x2), some (.int x3)] [] h 0 0 Q := by
  have hk := i_k127
  refine g_s1 (pc2 := 5) hk rfl rfl rfl rfl rfl ?_
  refine g_s1 (pc2 := 6) hk rfl rfl rfl rfl rfl ?_
  refine g_icmp_ge hk rfl (fun hc => ?_) (fun hc => ?_)
  · have H := H.1 hc
    refine g_s1 (pc2 := 33) hk rfl rfl rfl rfl rfl ?_
    obtain ⟨v1, ev1, H⟩ := H
    refine g_step (pc2 := 36) hk rfl rfl rfl (s_get ev1) ?_
    refine g_s1 (pc2 := 37) hk rfl rfl rfl rfl rfl ?_
    obtain ⟨n2, f3, ef3, hi, H⟩ := H
    refine g_step (pc2 := 38) hk rfl rfl rfl (s_aget (L := L) (xs := xs) ef3 hi) ?_
    refine g_s1 (pc2 := 39) (lo2 := [some (.ref x0), some (.int x1), some (.int x2), some (.int (f3 x2.toNatClampNeg))]) hk rfl rfl rfl rfl rfl ?_
    refine g_s1 (pc2 := 40) hk rfl rfl rfl rfl rfl ?_
    obtain ⟨v4, ev4, H⟩ := H
    refine g_step (pc2 := 43) hk rfl rfl rfl (s_get ev4) ?_
    refine g_s1 (pc2 := 44) hk rfl rfl rfl rfl rfl ?_
    refine g_s1 (pc2 := 45) hk rfl rfl rfl rfl rfl ?_
    obtain ⟨v5, ev5, H⟩ := H
    refine g_step (pc2 := 48) hk rfl rfl rfl (s_get ev5) ?_
    refine g_s1 (pc2 := 49) hk rfl rfl rfl rfl rfl ?_
    refine g_s1 (pc2 := 50) (st2 := [.int (1 : Int32), .int x1, .ref v5, .int x2, .ref v4]) hk rfl rfl rfl rfl rfl ?_
    refine g_s1 (pc2 := 51) hk rfl rfl rfl rfl rfl ?_
    obtain ⟨n6, f7, ef7, hi, H⟩ := H
    refine g_step (pc2 := 52) hk rfl rfl rfl (s_aget (L := L) (xs := xs) ef7 hi) ?_
    obtain ⟨n8, f9, ef9, hi, H⟩ := H
    refine g_step (pc2 := 53) hk rfl rfl rfl (s_aput ef9 hi) ?_
    exact H
  · have H := H.2 hc
    refine g_s1 (pc2 := 10) hk rfl rfl rfl rfl rfl ?_
    obtain ⟨v10, ev10, H⟩ := H
    refine g_step (pc2 := 13) hk rfl rfl rfl (s_get ev10) ?_
    refine g_s1 (pc2 := 14) hk rfl rfl rfl rfl rfl ?_
    obtain ⟨n11, f12, ef12, hi, H⟩ := H
    refine g_step (pc2 := 15) hk rfl rfl rfl (s_aget (L := L) (xs := xs) ef12 hi) ?_
    refine g_s1 (pc2 := 16) hk rfl rfl rfl rfl rfl ?_
    obtain ⟨v13, ev13, H⟩ := H
    refine g_step (pc2 := 19) hk rfl rfl rfl (s_get ev13) ?_
    refine g_s1 (pc2 := 20) hk rfl rfl rfl rfl rfl ?_
    obtain ⟨n14, f15, ef15, hi, H⟩ := H
    refine g_step (pc2 := 21) hk rfl rfl rfl (s_aget (L := L) (xs := xs) ef15 hi) ?_
    refine g_icmp_ge hk rfl (fun hc => ?_) (fun hc => ?_)
    · have H := H.1 hc
      exact H
    · have H := H.2 hc
      refine g_s1 (pc2 := 25) hk rfl rfl rfl rfl rfl ?_
      refine g_s1 (pc2 := 26) (lo2 := [some (.ref x0), some (.int x1), some (.int x3), some (.int x3)]) hk rfl rfl rfl rfl rfl ?_
      exact H
theorem b127_26 {x0 : Nat} {x1 : Int32} {x2 : Int32} {x3 : Int32} {h : iH} {Q : Option Value → iH → Prop} (H : i_P i_MT i_AT L xs 127 4 [some (.ref x0), some (.int x1), some (.int x2), some (.int (x3 + 1))] [] h 0 0 Q) : i_P i_MT i_AT L xs 127 26 [some (.ref x0), some (.int x1), some (.int x2), some (.int x3)] [] h 0 0 Q := by
  have hk := i_k127
  refine g_s1 (pc2 := 29) (lo2 := [some (.ref x0), some (.int x1), some (.int x2), some (.int (x3 + 1))]) hk rfl rfl rfl rfl rfl ?_
  refine g_s1 (pc2 := 4) hk rfl rfl rfl rfl rfl ?_
  exact H
theorem b127_53 {x0 : Nat} {x1 : Int32} {x2 : Int32} {x3 : Int32} {h : iH} {Q : Option Value → iH → Prop} (H : Q (some (.int x3)) h) : i_P i_MT i_AT L xs 127 53 [some (.ref x0), some (.int x1), some (.int x2), some (.int x3)] [] h 0 0 Q := by
  have hk := i_k127
  refine g_s1 (pc2 := 54) hk rfl rfl rfl rfl rfl ?_
  exact g_ireturn hk rfl (by decide) (by decide) rfl H
/-! StillTown.status()I -/
theorem e129 {x0 : Nat} {h : iH} {Q : Option Value → iH → Prop} (H : i_P i_MT i_AT L xs 129 0 [some (.ref x0)] [] h 0 0 Q) : i_C i_MT i_AT L xs 129 [.ref x0] h Q := ⟨i_m129, i_k129.1, Nat.le_of_ble_eq_true rfl, H⟩
theorem b129_0 {x0 : Nat} {h : iH} {Q : Option Value → iH → Prop} (H : (∃ v1 : Int32, i_fld h x0 11 0 = some (.int v1) ∧ Q (some (.int v1)) h)) : i_P i_MT i_AT L xs 129 0 [some (.ref x0)] [] h 0 0 Q := by
  have hk := i_k129
  refine g_s1 (pc2 := 1) hk rfl rfl rfl rfl rfl ?_
  obtain ⟨v1, ev1, H⟩ := H
  refine g_step (pc2 := 4) hk rfl rfl rfl (s_get ev1) ?_
  exact g_ireturn hk rfl (by decide) (by decide) rfl H
/-! StillTown.top()J -/
theorem e130 {x0 : Nat} {h : iH} {Q : Option Value → iH → Prop} (H : i_P i_MT i_AT L xs 130 0 [some (.ref x0)] [] h 0 0 Q) : i_C i_MT i_AT L xs 130 [.ref x0] h Q := ⟨i_m130, i_k130.1, Nat.le_of_ble_eq_true rfl, H⟩
theorem b130_0 {x0 : Nat} {h : iH} {Q : Option Value → iH → Prop} (H : (∃ v1 : Int64, i_fld h x0 11 1 = some (.long v1) ∧ Q (some (.long v1)) h)) : i_P i_MT i_AT L xs 130 0 [some (.ref x0)] [] h 0 0 Q := by
  have hk := i_k130
  refine g_s1 (pc2 := 1) hk rfl rfl rfl rfl rfl ?_
  obtain ⟨v1, ev1, H⟩ := H
  refine g_step (pc2 := 4) hk rfl rfl rfl (s_get ev1) ?_
  exact g_lreturn hk rfl (by decide) (by decide) rfl H
/-! StillTown.bottom()J -/
theorem e131 {x0 : Nat} {h : iH} {Q : Option Value → iH → Prop} (H : i_P i_MT i_AT L xs 131 0 [some (.ref x0)] [] h 0 0 Q) : i_C i_MT i_AT L xs 131 [.ref x0] h Q := ⟨i_m131, i_k131.1, Nat.le_of_ble_eq_true rfl, H⟩
theorem b131_0 {x0 : Nat} {h : iH} {Q : Option Value → iH → Prop} (H : (∃ v1 : Int64, i_fld h x0 11 2 = some (.long v1) ∧ Q (some (.long v1)) h)) : i_P i_MT i_AT L xs 131 0 [some (.ref x0)] [] h 0 0 Q := by
  have hk := i_k131
  refine g_s1 (pc2 := 1) hk rfl rfl rfl rfl rfl ?_
  obtain ⟨v1, ev1, H⟩ := H
  refine g_step (pc2 := 4) hk rfl rfl rfl (s_get ev1) ?_
  exact g_lreturn hk rfl (by decide) (by decide) rfl H
/-! StillTown.tray(III)Z -/
theorem e132 {x0 : Nat} {x1 : Int32} {x2 : Int32} {x3 : Int32} {h : iH} {Q : Option Value → iH → Prop} (H : i_P i_MT i_AT L xs 132 0 [some (.ref x0), some (.int x1), some (.int x2), some (.int x3)] [] h 0 0 Q) : i_C i_MT i_AT L xs 132 [.ref x0, .int x1, .int x2, .int x3] h Q := ⟨i_m132, i_k132.1, Nat.le_of_ble_eq_true rfl, H⟩
theorem b132_0 {x0 : Nat} {x1 : Int32} {x2 : Int32} {x3 : Int32} {h : iH} {Q : Option Value → iH → Prop} (H : (i_C i_MT i_AT L xs 117 [.int x1] h (fun v h1 => ∃ r2 : Int32, v = some (.int r2) ∧ i_P i_MT i_AT L xs 132 4 [some (.ref x0), some (.int x1), some (.int x2), some (.int x3)] [.int r2] h1 0 0 Q))) : i_P i_MT i_AT L xs 132 0 [some (.ref x0), some (.int x1), some (.int x2), some (.int x3)] [] h 0 0 Q := by
  have hk := i_k132
  refine g_s1 (pc2 := 1) hk rfl rfl rfl rfl rfl ?_
  refine g_call hk rfl rfl i_k117.1 ⟨rfl, rfl⟩ rfl (i_rcv_0 rfl) rfl ?_
  exact H.mono (fun v h2 q => by obtain ⟨r, rfl, q⟩ := q; exact q)
theorem b132_4 {x0 : Nat} {x1 : Int32} {x2 : Int32} {x3 : Int32} {s0 : Int32} {h : iH} {Q : Option Value → iH → Prop} (H : ((s0 = 0 → i_P i_MT i_AT L xs 132 26 [some (.ref x0), some (.int x1), some (.int x2), some (.int x3)] [] h 0 0 Q) ∧ (¬ (s0 = 0) → (i_C i_MT i_AT L xs 192 [.int x2, .int (0 : Int32), .int (3 : Int32)] h (fun v h1 => ∃ r2 : Int32, v = some (.int r2) ∧ i_P i_MT i_AT L xs 132 13 [some (.ref x0), some (.int x1), some (.int x2), some (.int x3)] [.int r2] h1 0 0 Q))))) : i_P i_MT i_AT L xs 132 4 [some (.ref x0), some (.int x1), some (.int x2), some (.int x3)] [.int s0] h 0 0 Q := by
  have hk := i_k132
  refine g_if_eq hk rfl (fun hc => ?_) (fun hc => ?_)
  · have H := H.1 hc
    exact H
  · have H := H.2 hc
    refine g_s1 (pc2 := 8) hk rfl rfl rfl rfl rfl ?_
    refine g_s1 (pc2 := 9) (st2 := [.int (0 : Int32), .int x2]) hk rfl rfl rfl rfl rfl ?_
    refine g_s1 (pc2 := 10) (st2 := [.int (3 : Int32), .int (0 : Int32), .int x2]) hk rfl rfl rfl rfl rfl ?_
    refine g_call hk rfl rfl i_k192.1 ⟨rfl, rfl⟩ rfl (i_rcv_0 rfl) rfl ?_
    exact H.mono (fun v h2 q => by obtain ⟨r, rfl, q⟩ := q; exact q)
theorem b132_13 {x0 : Nat} {x1 : Int32} {x2 : Int32} {x3 : Int32} {s0 : Int32} {h : iH} {Q : Option Value → iH → Prop} (H : ((s0 = 0 → i_P i_MT i_AT L xs 132 26 [some (.ref x0), some (.int x1), some (.int x2), some (.int x3)] [] h 0 0 Q) ∧ (¬ (s0 = 0) → (i_C i_MT i_AT L xs 192 [.int x3, .int (0 : Int32), .int (60 : Int32)] h (fun v h1 => ∃ r2 : Int32, v = some (.int r2) ∧ i_P i_MT i_AT L xs 132 23 [some (.ref x0), some (.int x1), some (.int x2), some (.int x3)] [.int r2] h1 0 0 Q))))) : i_P i_MT i_AT L xs 132 13 [some (.ref x0), some (.int x1), some (.int x2), some (.int x3)] [.int s0] h 0 0 Q := by
  have hk := i_k132
  refine g_if_eq hk rfl (fun hc => ?_) (fun hc => ?_)
  · have H := H.1 hc
    exact H
  · have H := H.2 hc
    refine g_s1 (pc2 := 17) hk rfl rfl rfl rfl rfl ?_
    refine g_s1 (pc2 := 18) (st2 := [.int (0 : Int32), .int x3]) hk rfl rfl rfl rfl rfl ?_
    refine g_s1 (pc2 := 20) (st2 := [.int (60 : Int32), .int (0 : Int32), .int x3]) hk rfl rfl rfl rfl rfl ?_
    refine g_call hk rfl rfl i_k192.1 ⟨rfl, rfl⟩ rfl (i_rcv_0 rfl) rfl ?_
    exact H.mono (fun v h2 q => by obtain ⟨r, rfl, q⟩ := q; exact q)
theorem b132_23 {x0 : Nat} {x1 : Int32} {x2 : Int32} {x3 : Int32} {s0 : Int32} {h : iH} {Q : Option Value → iH → Prop} (H : ((¬ s0 = 0 → (∃ v1 : Nat, i_fld h x0 11 3 = some (.ref v1) ∧ (i_obj? h v1 10 ∧ i_C i_MT i_AT L xs 119 [.ref v1, .int x1, .int x2, .int x3] h (fun v h2 => v = none ∧ i_P i_MT i_AT L xs 132 42 [some (.ref x0), some (.int x1), some (.int x2), some (.int x3)] [] h2 0 0 Q)))) ∧ (¬ (¬ s0 = 0) → i_P i_MT i_AT L xs 132 26 [some (.ref x0), some (.int x1), some (.int x2), some (.int x3)] [] h 0 0 Q))) : i_P i_MT i_AT L xs 132 23 [some (.ref x0), some (.int x1), some (.int x2), some (.int x3)] [.int s0] h 0 0 Q := by
  have hk := i_k132
  refine g_if_ne hk rfl (fun hc => ?_) (fun hc => ?_)
  · have H := H.1 hc
    refine g_s1 (pc2 := 33) hk rfl rfl rfl rfl rfl ?_
    obtain ⟨v1, ev1, H⟩ := H
    refine g_step (pc2 := 36) hk rfl rfl rfl (s_get ev1) ?_
    refine g_s1 (pc2 := 37) hk rfl rfl rfl rfl rfl ?_
    refine g_s1 (pc2 := 38) hk rfl rfl rfl rfl rfl ?_
    refine g_s1 (pc2 := 39) hk rfl rfl rfl rfl rfl ?_
    obtain ⟨ho, H⟩ := H
    refine g_call hk rfl rfl i_k119.1 ⟨rfl, rfl⟩ rfl (i_rcv_v ho rfl (by decide)) rfl ?_
    exact H.mono (fun v h2 q => by obtain ⟨rfl, q⟩ := q; exact q)
  · have H := H.2 hc
    exact H
theorem b132_26 {x0 : Nat} {x1 : Int32} {x2 : Int32} {x3 : Int32} {h : iH} {Q : Option Value → iH → Prop} (H : (i_obj? h x0 11 ∧ i_C i_MT i_AT L xs 180 [.ref x0, .int (1 : Int32)] h (fun v h1 => ∃ r2 : Int32, v = some (.int r2) ∧ i_P i_MT i_AT L xs 132 31 [some (.ref x0), some (.int x1), some (.int x2), some (.int x3)] [.int r2] h1 0 0 Q))) : i_P i_MT i_AT L xs 132 26 [some (.ref x0), some (.int x1), some (.int x2), some (.int x3)] [] h 0 0 Q := by
  have hk := i_k132
  refine g_s1 (pc2 := 27) hk rfl rfl rfl rfl rfl ?_
  refine g_s1 (pc2 := 28) (st2 := [.int (1 : Int32), .ref x0]) hk rfl rfl rfl rfl rfl ?_
  obtain ⟨ho, H⟩ := H
  refine g_call hk rfl rfl i_k180.1 ⟨rfl, rfl⟩ rfl (i_rcv_v ho rfl (by decide)) rfl ?_
  exact H.mono (fun v h2 q => by obtain ⟨r, rfl, q⟩ := q; exact q)
theorem b132_31 {x0 : Nat} {x1 : Int32} {x2 : Int32} {x3 : Int32} {s0 : Int32} {h : iH} {Q : Option Value → iH → Prop} (H : (i_ret (some .boolean) s0 = true ∧ Q (some (.int s0)) h)) : i_P i_MT i_AT L xs 132 31 [some (.ref x0), some (.int x1), some (.int x2), some (.int x3)] [.int s0] h 0 0 Q := by
  have hk := i_k132
  exact g_ireturn hk rfl (by decide) (by decide) H.1 H.2
theorem b132_42 {x0 : Nat} {x1 : Int32} {x2 : Int32} {x3 : Int32} {h : iH} {Q : Option Value → iH → Prop} (H : (i_obj? h x0 11 ∧ i_C i_MT i_AT L xs 184 [.ref x0] h (fun v h1 => ∃ r2 : Int32, v = some (.int r2) ∧ i_P i_MT i_AT L xs 132 46 [some (.ref x0), some (.int x1), some (.int x2), some (.int x3)] [.int r2] h1 0 0 Q))) : i_P i_MT i_AT L xs 132 42 [some (.ref x0), some (.int x1), some (.int x2), some (.int x3)] [] h 0 0 Q := by
  have hk := i_k132
  refine g_s1 (pc2 := 43) hk rfl rfl rfl rfl rfl ?_
  obtain ⟨ho, H⟩ := H
  refine g_call hk rfl rfl i_k184.1 ⟨rfl, rfl⟩ rfl (i_rcv_v ho rfl (by decide)) rfl ?_
  exact H.mono (fun v h2 q => by obtain ⟨r, rfl, q⟩ := q; exact q)
theorem b132_46 {x0 : Nat} {x1 : Int32} {x2 : Int32} {x3 : Int32} {s0 : Int32} {h : iH} {Q : Option Value → iH → Prop} (H : (i_ret (some .boolean) s0 = true ∧ Q (some (.int s0)) h)) : i_P i_MT i_AT L xs 132 46 [some (.ref x0), some (.int x1), some (.int x2), some (.int x3)] [.int s0] h 0 0 Q := by
  have hk := i_k132
  exact g_ireturn hk rfl (by decide) (by decide) H.1 H.2
/-! StillTown.write(IIJ)Z -/
theorem e133 {x0 : Nat} {x1 : Int32} {x2 : Int32} {x3 : Int64} {h : iH} {Q : Option Value → iH → Prop} (H : i_P i_MT i_AT L xs 133 0 [some (.ref x0), some (.int x1), some (.int x2), some (.long x3), none, none] [] h 0 0 Q) : i_C i_MT i_AT L xs 133 [.ref x0, .int x1, .int x2, .long x3] h Q := ⟨i_m133, i_k133.1, Nat.le_of_ble_eq_true rfl, H⟩
theorem b133_0 {x0 : Nat} {x1 : Int32} {x2 : Int32} {x3 : Int64} {x5 : Option Value} {h : iH} {Q : Option Value → iH → Prop} (H : (∃ v1 : Nat, i_fld h x0 11 3 = some (.ref v1) ∧ (i_obj? h v1 10 ∧ i_C i_MT i_AT L xs 120 [.ref v1, .int x1, .int x2] h (fun v h2 => ∃ r3 : Int32, v = some (.int r3) ∧ i_P i_MT i_AT L xs 133 9 [some (.ref x0), some (.int x1), some (.int x2), some (.long x3), none, x5] [.int r3] h2 0 0 Q)))) : i_P i_MT i_AT L xs 133 0 [some (.ref x0), some (.int x1), some (.int x2), some (.long x3), none, x5] [] h 0 0 Q := by
  have hk := i_k133
  refine g_s1 (pc2 := 1) hk rfl rfl rfl rfl rfl ?_
  obtain ⟨v1, ev1, H⟩ := H
  refine g_step (pc2 := 4) hk rfl rfl rfl (s_get ev1) ?_
  refine g_s1 (pc2 := 5) hk rfl rfl rfl rfl rfl ?_
  refine g_s1 (pc2 := 6) hk rfl rfl rfl rfl rfl ?_
  obtain ⟨ho, H⟩ := H
  refine g_call hk rfl rfl i_k120.1 ⟨rfl, rfl⟩ rfl (i_rcv_v ho rfl (by decide)) rfl ?_
  exact H.mono (fun v h2 q => by obtain ⟨r, rfl, q⟩ := q; exact q)
theorem b133_9 {x0 : Nat} {x1 : Int32} {x2 : Int32} {x3 : Int64} {x5 : Option Value} {s0 : Int32} {h : iH} {Q : Option Value → iH → Prop} (H : ((s0 = 0 → (∃ v1 : Nat, i_fld h x0 11 3 = some (.ref v1) ∧ (i_obj? h v1 10 ∧ i_C i_MT i_AT L xs 121 [.ref v1, .int x1, .int x2, .long x3] h (fun v h2 => v = none ∧ i_P i_MT i_AT L xs 133 33 [some (.ref x0), some (.int x1), some (.int x2), some (.long x3), none, some (.int s0)] [] h2 0 0 Q)))) ∧ (¬ (s0 = 0) → (i_obj? h x0 11 ∧ i_C i_MT i_AT L xs 180 [.ref x0, .int s0] h (fun v h4 => ∃ r5 : Int32, v = some (.int r5) ∧ i_P i_MT i_AT L xs 133 22 [some (.ref x0), some (.int x1), some (.int x2), some (.long x3), none, some (.int s0)] [.int r5] h4 0 0 Q))))) : i_P i_MT i_AT L xs 133 9 [some (.ref x0), some (.int x1), some (.int x2), some (.long x3), none, x5] [.int s0] h 0 0 Q := by
  have hk := i_k133
  refine g_s1 (pc2 := 11) (lo2 := [some (.ref x0), some (.int x1), some (.int x2), some (.long x3), none, some (.int s0)]) hk rfl rfl rfl rfl rfl ?_
  refine g_s1 (pc2 := 13) hk rfl rfl rfl rfl rfl ?_
  refine g_if_eq hk rfl (fun hc => ?_) (fun hc => ?_)
  · have H := H.1 hc
    refine g_s1 (pc2 := 24) hk rfl rfl rfl rfl rfl ?_
    obtain ⟨v1, ev1, H⟩ := H
    refine g_step (pc2 := 27) hk rfl rfl rfl (s_get ev1) ?_
    refine g_s1 (pc2 := 28) hk rfl rfl rfl rfl rfl ?_
    refine g_s1 (pc2 := 29) hk rfl rfl rfl rfl rfl ?_
    refine g_s1 (pc2 := 30) hk rfl rfl rfl rfl rfl ?_
    obtain ⟨ho, H⟩ := H
    refine g_call hk rfl rfl i_k121.1 ⟨rfl, rfl⟩ rfl (i_rcv_v ho rfl (by decide)) rfl ?_
    exact H.mono (fun v h2 q => by obtain ⟨rfl, q⟩ := q; exact q)
  · have H := H.2 hc
    refine g_s1 (pc2 := 17) hk rfl rfl rfl rfl rfl ?_
    refine g_s1 (pc2 := 19) hk rfl rfl rfl rfl rfl ?_
    obtain ⟨ho, H⟩ := H
    refine g_call hk rfl rfl i_k180.1 ⟨rfl, rfl⟩ rfl (i_rcv_v ho rfl (by decide)) rfl ?_
    exact H.mono (fun v h2 q => by obtain ⟨r, rfl, q⟩ := q; exact q)
theorem b133_22 {x0 : Nat} {x1 : Int32} {x2 : Int32} {x3 : Int64} {x5 : Int32} {s0 : Int32} {h : iH} {Q : Option Value → iH → Prop} (H : (i_ret (some .boolean) s0 = true ∧ Q (some (.int s0)) h)) : i_P i_MT i_AT L xs 133 22 [some (.ref x0), some (.int x1), some (.int x2), some (.long x3), none, some (.int x5)] [.int s0] h 0 0 Q := by
  have hk := i_k133
  exact g_ireturn hk rfl (by decide) (by decide) H.1 H.2
theorem b133_33 {x0 : Nat} {x1 : Int32} {x2 : Int32} {x3 : Int64} {x5 : Int32} {h : iH} {Q : Option Value → iH → Prop} (H : (i_obj? h x0 11 ∧ i_C i_MT i_AT L xs 184 [.ref x0] h (fun v h1 => ∃ r2 : Int32, v = some (.int r2) ∧ i_P i_MT i_AT L xs 133 37 [some (.ref x0), some (.int x1), some (.int x2), some (.long x3), none, some (.int x5)] [.int r2] h1 0 0 Q))) : i_P i_MT i_AT L xs 133 33 [some (.ref x0), some (.int x1), some (.int x2), some (.long x3), none, some (.int x5)] [] h 0 0 Q := by
  have hk := i_k133
  refine g_s1 (pc2 := 34) hk rfl rfl rfl rfl rfl ?_
  obtain ⟨ho, H⟩ := H
  refine g_call hk rfl rfl i_k184.1 ⟨rfl, rfl⟩ rfl (i_rcv_v ho rfl (by decide)) rfl ?_
  exact H.mono (fun v h2 q => by obtain ⟨r, rfl, q⟩ := q; exact q)
theorem b133_37 {x0 : Nat} {x1 : Int32} {x2 : Int32} {x3 : Int64} {x5 : Int32} {s0 : Int32} {h : iH} {Q : Option Value → iH → Prop} (H : (i_ret (some .boolean) s0 = true ∧ Q (some (.int s0)) h)) : i_P i_MT i_AT L xs 133 37 [some (.ref x0), some (.int x1), some (.int x2), some (.long x3), none, some (.int x5)] [.int s0] h 0 0 Q := by
  have hk := i_k133
  exact g_ireturn hk rfl (by decide) (by decide) H.1 H.2
/-! StillTown.read(II)J -/
theorem e134 {x0 : Nat} {x1 : Int32} {x2 : Int32} {h : iH} {Q : Option Value → iH → Prop} (H : i_P i_MT i_AT L xs 134 0 [some (.ref x0), some (.int x1), some (.int x2), none] [] h 0 0 Q) : i_C i_MT i_AT L xs 134 [.ref x0, .int x1, .int x2] h Q := ⟨i_m134, i_k134.1, Nat.le_of_ble_eq_true rfl, H⟩
theorem b134_0 {x0 : Nat} {x1 : Int32} {x2 : Int32} {x3 : Option Value} {h : iH} {Q : Option Value → iH → Prop} (H : (∃ v1 : Nat, i_fld h x0 11 3 = some (.ref v1) ∧ (i_obj? h v1 10 ∧ i_C i_MT i_AT L xs 120 [.ref v1, .int x1, .int x2] h (fun v h2 => ∃ r3 : Int32, v = some (.int r3) ∧ i_P i_MT i_AT L xs 134 9 [some (.ref x0), some (.int x1), some (.int x2), x3] [.int r3] h2 0 0 Q)))) : i_P i_MT i_AT L xs 134 0 [some (.ref x0), some (.int x1), some (.int x2), x3] [] h 0 0 Q := by
  have hk := i_k134
  refine g_s1 (pc2 := 1) hk rfl rfl rfl rfl rfl ?_
  obtain ⟨v1, ev1, H⟩ := H
  refine g_step (pc2 := 4) hk rfl rfl rfl (s_get ev1) ?_
  refine g_s1 (pc2 := 5) hk rfl rfl rfl rfl rfl ?_
  refine g_s1 (pc2 := 6) hk rfl rfl rfl rfl rfl ?_
  obtain ⟨ho, H⟩ := H
  refine g_call hk rfl rfl i_k120.1 ⟨rfl, rfl⟩ rfl (i_rcv_v ho rfl (by decide)) rfl ?_
  exact H.mono (fun v h2 q => by obtain ⟨r, rfl, q⟩ := q; exact q)
theorem b134_9 {x0 : Nat} {x1 : Int32} {x2 : Int32} {x3 : Option Value} {s0 : Int32} {h : iH} {Q : Option Value → iH → Prop} (H : ((s0 = 0 → (∃ v1 : Nat, i_fld h x0 11 3 = some (.ref v1) ∧ (i_obj? h v1 10 ∧ i_C i_MT i_AT L xs 122 [.ref v1, .int x1, .int x2] h (fun v h2 => ∃ r3 : Int64, v = some (.long r3) ∧ i_P i_MT i_AT L xs 134 31 [some (.ref x0), some (.int x1), some (.int x2), some (.int s0)] [.long r3, .ref x0] h2 0 0 Q)))) ∧ (¬ (s0 = 0) → (i_obj? h x0 11 ∧ i_C i_MT i_AT L xs 179 [.ref x0, .int s0] h (fun v h4 => ∃ r5 : Int32, v = some (.int r5) ∧ i_P i_MT i_AT L xs 134 19 [some (.ref x0), some (.int x1), some (.int x2), some (.int s0)] [.int r5] h4 0 0 Q))))) : i_P i_MT i_AT L xs 134 9 [some (.ref x0), some (.int x1), some (.int x2), x3] [.int s0] h 0 0 Q := by
  have hk := i_k134
  refine g_s1 (pc2 := 10) (lo2 := [some (.ref x0), some (.int x1), some (.int x2), some (.int s0)]) hk rfl rfl rfl rfl rfl ?_
  refine g_s1 (pc2 := 11) hk rfl rfl rfl rfl rfl ?_
  refine g_if_eq hk rfl (fun hc => ?_) (fun hc => ?_)
  · have H := H.1 hc
    refine g_s1 (pc2 := 22) hk rfl rfl rfl rfl rfl ?_
    refine g_s1 (pc2 := 23) hk rfl rfl rfl rfl rfl ?_
    obtain ⟨v1, ev1, H⟩ := H
    refine g_step (pc2 := 26) hk rfl rfl rfl (s_get ev1) ?_
    refine g_s1 (pc2 := 27) hk rfl rfl rfl rfl rfl ?_
    refine g_s1 (pc2 := 28) hk rfl rfl rfl rfl rfl ?_
    obtain ⟨ho, H⟩ := H
    refine g_call hk rfl rfl i_k122.1 ⟨rfl, rfl⟩ rfl (i_rcv_v ho rfl (by decide)) rfl ?_
    exact H.mono (fun v h2 q => by obtain ⟨r, rfl, q⟩ := q; exact q)
  · have H := H.2 hc
    refine g_s1 (pc2 := 15) hk rfl rfl rfl rfl rfl ?_
    refine g_s1 (pc2 := 16) hk rfl rfl rfl rfl rfl ?_
    obtain ⟨ho, H⟩ := H
    refine g_call hk rfl rfl i_k179.1 ⟨rfl, rfl⟩ rfl (i_rcv_v ho rfl (by decide)) rfl ?_
    exact H.mono (fun v h2 q => by obtain ⟨r, rfl, q⟩ := q; exact q)
theorem b134_19 {x0 : Nat} {x1 : Int32} {x2 : Int32} {x3 : Int32} {s0 : Int32} {h : iH} {Q : Option Value → iH → Prop} (H : Q (some (.long (s0.toInt64))) h) : i_P i_MT i_AT L xs 134 19 [some (.ref x0), some (.int x1), some (.int x2), some (.int x3)] [.int s0] h 0 0 Q := by
  have hk := i_k134
  refine g_s1 (pc2 := 20) hk rfl rfl rfl rfl rfl ?_
  exact g_lreturn hk rfl (by decide) (by decide) rfl H
theorem b134_31 {x0 : Nat} {x1 : Int32} {x2 : Int32} {x3 : Int32} {s0 : Nat} {s1 : Int64} {h : iH} {Q : Option Value → iH → Prop} (H : (i_obj? h s0 11 ∧ i_C i_MT i_AT L xs 182 [.ref s0, .long s1] h (fun v h1 => ∃ r2 : Int64, v = some (.long r2) ∧ i_P i_MT i_AT L xs 134 34 [some (.ref x0), some (.int x1), some (.int x2), some (.int x3)] [.long r2] h1 0 0 Q))) : i_P i_MT i_AT L xs 134 31 [some (.ref x0), some (.int x1), some (.int x2), some (.int x3)] [.long s1, .ref s0] h 0 0 Q := by
  have hk := i_k134
  obtain ⟨ho, H⟩ := H
  refine g_call hk rfl rfl i_k182.1 ⟨rfl, rfl⟩ rfl (i_rcv_v ho rfl (by decide)) rfl ?_
  exact H.mono (fun v h2 q => by obtain ⟨r, rfl, q⟩ := q; exact q)
theorem b134_34 {x0 : Nat} {x1 : Int32} {x2 : Int32} {x3 : Int32} {s0 : Int64} {h : iH} {Q : Option Value → iH → Prop} (H : Q (some (.long s0)) h) : i_P i_MT i_AT L xs 134 34 [some (.ref x0), some (.int x1), some (.int x2), some (.int x3)] [.long s0] h 0 0 Q := by
  have hk := i_k134
  exact g_lreturn hk rfl (by decide) (by decide) rfl H
/-! StillTown.pour(IIIII)Z -/
theorem e135 {x0 : Nat} {x1 : Int32} {x2 : Int32} {x3 : Int32} {x4 : Int32} {x5 : Int32} {h : iH} {Q : Option Value → iH → Prop} (H : i_P i_MT i_AT L xs 135 0 [some (.ref x0), some (.int x1), some (.int x2), some (.int x3), some (.int x4), some (.int x5), none] [] h 0 0 Q) : i_C i_MT i_AT L xs 135 [.ref x0, .int x1, .int x2, .int x3, .int x4, .int x5] h Q := ⟨i_m135, i_k135.1, Nat.le_of_ble_eq_true rfl, H⟩
theorem b135_0 {x0 : Nat} {x1 : Int32} {x2 : Int32} {x3 : Int32} {x4 : Int32} {x5 : Int32} {x6 : Option Value} {h : iH} {Q : Option Value → iH → Prop} (H : (∃ v1 : Nat, i_fld h x0 11 3 = some (.ref v1) ∧ (i_obj? h v1 10 ∧ i_C i_MT i_AT L xs 123 [.ref v1, .int x1, .int x2, .int x3, .int x4, .int x5] h (fun v h2 => ∃ r3 : Int32, v = some (.int r3) ∧ i_P i_MT i_AT L xs 135 14 [some (.ref x0), some (.int x1), some (.int x2), some (.int x3), some (.int x4), some (.int x5), x6] [.int r3] h2 0 0 Q)))) : i_P i_MT i_AT L xs 135 0 [some (.ref x0), some (.int x1), some (.int x2), some (.int x3), some (.int x4), some (.int x5), x6] [] h 0 0 Q := by
  have hk := i_k135
  refine g_s1 (pc2 := 1) hk rfl rfl rfl rfl rfl ?_
  obtain ⟨v1, ev1, H⟩ := H
  refine g_step (pc2 := 4) hk rfl rfl rfl (s_get ev1) ?_
  refine g_s1 (pc2 := 5) hk rfl rfl rfl rfl rfl ?_
  refine g_s1 (pc2 := 6) hk rfl rfl rfl rfl rfl ?_
  refine g_s1 (pc2 := 7) hk rfl rfl rfl rfl rfl ?_
  refine g_s1 (pc2 := 9) hk rfl rfl rfl rfl rfl ?_
  refine g_s1 (pc2 := 11) hk rfl rfl rfl rfl rfl ?_
  obtain ⟨ho, H⟩ := H
  refine g_call hk rfl rfl i_k123.1 ⟨rfl, rfl⟩ rfl (i_rcv_v ho rfl (by decide)) rfl ?_
  exact H.mono (fun v h2 q => by obtain ⟨r, rfl, q⟩ := q; exact q)
theorem b135_14 {x0 : Nat} {x1 : Int32} {x2 : Int32} {x3 : Int32} {x4 : Int32} {x5 : Int32} {x6 : Option Value} {s0 : Int32} {h : iH} {Q : Option Value → iH → Prop} (H : ((s0 = 0 → (∃ v1 : Nat, i_fld h x0 11 3 = some (.ref v1) ∧ (i_obj? h v1 10 ∧ i_C i_MT i_AT L xs 124 [.ref v1, .int x1, .int x2, .int x3, .int x4, .int x5] h (fun v h2 => v = none ∧ i_P i_MT i_AT L xs 135 42 [some (.ref x0), some (.int x1), some (.int x2), some (.int x3), some (.int x4), some (.int x5), some (.int s0)] [] h2 0 0 Q)))) ∧ (¬ (s0 = 0) → (i_obj? h x0 11 ∧ i_C i_MT i_AT L xs 180 [.ref x0, .int s0] h (fun v h4 => ∃ r5 : Int32, v = some (.int r5) ∧ i_P i_MT i_AT L xs 135 27 [some (.ref x0), some (.int x1), some (.int x2), some (.int x3), some (.int x4), some (.int x5), some (.int s0)] [.int r5] h4 0 0 Q))))) : i_P i_MT i_AT L xs 135 14 [some (.ref x0), some (.int x1), some (.int x2), some (.int x3), some (.int x4), some (.int x5), x6] [.int s0] h 0 0 Q := by
  have hk := i_k135
  refine g_s1 (pc2 := 16) (lo2 := [some (.ref x0), some (.int x1), some (.int x2), some (.int x3), some (.int x4), some (.int x5), some (.int s0)]) hk rfl rfl rfl rfl rfl ?_
  refine g_s1 (pc2 := 18) hk rfl rfl rfl rfl rfl ?_
  refine g_if_eq hk rfl (fun hc => ?_) (fun hc => ?_)
  · have H := H.1 hc
    refine g_s1 (pc2 := 29) hk rfl rfl rfl rfl rfl ?_
    obtain ⟨v1, ev1, H⟩ := H
    refine g_step (pc2 := 32) hk rfl rfl rfl (s_get ev1) ?_
    refine g_s1 (pc2 := 33) hk rfl rfl rfl rfl rfl ?_
    refine g_s1 (pc2 := 34) hk rfl rfl rfl rfl rfl ?_
    refine g_s1 (pc2 := 35) hk rfl rfl rfl rfl rfl ?_
    refine g_s1 (pc2 := 37) hk rfl rfl rfl rfl rfl ?_
    refine g_s1 (pc2 := 39) hk rfl rfl rfl rfl rfl ?_
    obtain ⟨ho, H⟩ := H
    refine g_call hk rfl rfl i_k124.1 ⟨rfl, rfl⟩ rfl (i_rcv_v ho rfl (by decide)) rfl ?_
    exact H.mono (fun v h2 q => by obtain ⟨rfl, q⟩ := q; exact q)
  · have H := H.2 hc
    refine g_s1 (pc2 := 22) hk rfl rfl rfl rfl rfl ?_
    refine g_s1 (pc2 := 24) hk rfl rfl rfl rfl rfl ?_
    obtain ⟨ho, H⟩ := H
    refine g_call hk rfl rfl i_k180.1 ⟨rfl, rfl⟩ rfl (i_rcv_v ho rfl (by decide)) rfl ?_
    exact H.mono (fun v h2 q => by obtain ⟨r, rfl, q⟩ := q; exact q)
theorem b135_27 {x0 : Nat} {x1 : Int32} {x2 : Int32} {x3 : Int32} {x4 : Int32} {x5 : Int32} {x6 : Int32} {s0 : Int32} {h : iH} {Q : Option Value → iH → Prop} (H : (i_ret (some .boolean) s0 = true ∧ Q (some (.int s0)) h)) : i_P i_MT i_AT L xs 135 27 [some (.ref x0), some (.int x1), some (.int x2), some (.int x3), some (.int x4), some (.int x5), some (.int x6)] [.int s0] h 0 0 Q := by
  have hk := i_k135
  exact g_ireturn hk rfl (by decide) (by decide) H.1 H.2
theorem b135_42 {x0 : Nat} {x1 : Int32} {x2 : Int32} {x3 : Int32} {x4 : Int32} {x5 : Int32} {x6 : Int32} {h : iH} {Q : Option Value → iH → Prop} (H : (i_obj? h x0 11 ∧ i_C i_MT i_AT L xs 184 [.ref x0] h (fun v h1 => ∃ r2 : Int32, v = some (.int r2) ∧ i_P i_MT i_AT L xs 135 46 [some (.ref x0), some (.int x1), some (.int x2), some (.int x3), some (.int x4), some (.int x5), some (.int x6)] [.int r2] h1 0 0 Q))) : i_P i_MT i_AT L xs 135 42 [some (.ref x0), some (.int x1), some (.int x2), some (.int x3), some (.int x4), some (.int x5), some (.int x6)] [] h 0 0 Q := by
  have hk := i_k135
  refine g_s1 (pc2 := 43) hk rfl rfl rfl rfl rfl ?_
  obtain ⟨ho, H⟩ := H
  refine g_call hk rfl rfl i_k184.1 ⟨rfl, rfl⟩ rfl (i_rcv_v ho rfl (by decide)) rfl ?_
  exact H.mono (fun v h2 q => by obtain ⟨r, rfl, q⟩ := q; exact q)
theorem b135_46 {x0 : Nat} {x1 : Int32} {x2 : Int32} {x3 : Int32} {x4 : Int32} {x5 : Int32} {x6 : Int32} {s0 : Int32} {h : iH} {Q : Option Value → iH → Prop} (H : (i_ret (some .boolean) s0 = true ∧ Q (some (.int s0)) h)) : i_P i_MT i_AT L xs 135 46 [some (.ref x0), some (.int x1), some (.int x2), some (.int x3), some (.int x4), some (.int x5), some (.int x6)] [.int s0] h 0 0 Q := by
  have hk := i_k135
  exact g_ireturn hk rfl (by decide) (by decide) H.1 H.2
/-! StillTown.feed(IIIII)I -/
theorem e136 {x0 : Nat} {x1 : Int32} {x2 : Int32} {x3 : Int32} {x4 : Int32} {x5 : Int32} {h : iH} {Q : Option Value → iH → Prop} (H : i_P i_MT i_AT L xs 136 0 [some (.ref x0), some (.int x1), some (.int x2), some (.int x3), some (.int x4), some (.int x5)] [] h 0 0 Q) : i_C i_MT i_AT L xs 136 [.ref x0, .int x1, .int x2, .int x3, .int x4, .int x5] h Q := ⟨i_m136, i_k136.1, Nat.le_of_ble_eq_true rfl, H⟩
theorem b136_0 {x0 : Nat} {x1 : Int32} {x2 : Int32} {x3 : Int32} {x4 : Int32} {x5 : Int32} {h : iH} {Q : Option Value → iH → Prop} (H : (∃ v1 : Nat, i_fld h x0 11 4 = some (.ref v1) ∧ (∃ v2 : Int32, i_fld h v1 7 3 = some (.int v2) ∧ (((v2 + (20 : Int32)) ≤ (900 : Int32) → (∃ v3 : Nat, i_fld h x0 11 4 = some (.ref v3) ∧ (i_obj? h v3 7 ∧ i_C i_MT i_AT L xs 83 [.ref v3, .int x1] h (fun v h4 => v = none ∧ i_P i_MT i_AT L xs 136 26 [some (.ref x0), some (.int x1), some (.int x2), some (.int x3), some (.int x4), some (.int x5)] [] h4 0 0 Q)))) ∧ (¬ ((v2 + (20 : Int32)) ≤ (900 : Int32)) → Q (some (.int (-1 : Int32))) h))))) : i_P i_MT i_AT L xs 136 0 [some (.ref x0), some (.int x1), some (.int x2), some (.int x3), some (.int x4), some (.int x5)] [] h 0 0 Q := by
  have hk := i_k136
  refine g_s1 (pc2 := 1) hk rfl rfl rfl rfl rfl ?_
  obtain ⟨v1, ev1, H⟩ := H
  refine g_step (pc2 := 4) hk rfl rfl rfl (s_get ev1) ?_
  obtain ⟨v2, ev2, H⟩ := H
  refine g_step (pc2 := 7) hk rfl rfl rfl (s_get ev2) ?_
  refine g_s1 (pc2 := 9) (st2 := [.int (20 : Int32), .int v2]) hk rfl rfl rfl rfl rfl ?_
  refine g_s1 (pc2 := 10) hk rfl rfl rfl rfl rfl ?_
  refine g_s1 (pc2 := 13) (st2 := [.int (900 : Int32), .int (v2 + (20 : Int32))]) hk rfl rfl rfl rfl rfl ?_
  refine g_icmp_le hk rfl (fun hc => ?_) (fun hc => ?_)
  · have H := H.1 hc
    refine g_s1 (pc2 := 19) hk rfl rfl rfl rfl rfl ?_
    obtain ⟨v3, ev3, H⟩ := H
    refine g_step (pc2 := 22) hk rfl rfl rfl (s_get ev3) ?_
    refine g_s1 (pc2 := 23) hk rfl rfl rfl rfl rfl ?_
    obtain ⟨ho, H⟩ := H
    refine g_call hk rfl rfl i_k83.1 ⟨rfl, rfl⟩ rfl (i_rcv_v ho rfl (by decide)) rfl ?_
    exact H.mono (fun v h2 q => by obtain ⟨rfl, q⟩ := q; exact q)
  · have H := H.2 hc
    refine g_s1 (pc2 := 17) (st2 := [.int (-1 : Int32)]) hk rfl rfl rfl rfl rfl ?_
    exact g_ireturn hk rfl (by decide) (by decide) rfl H
theorem b136_26 {x0 : Nat} {x1 : Int32} {x2 : Int32} {x3 : Int32} {x4 : Int32} {x5 : Int32} {h : iH} {Q : Option Value → iH → Prop} (H : (∃ v1 : Nat, i_fld h x0 11 4 = some (.ref v1) ∧ (i_obj? h v1 7 ∧ i_C i_MT i_AT L xs 83 [.ref v1, .int x2] h (fun v h2 => v = none ∧ i_P i_MT i_AT L xs 136 34 [some (.ref x0), some (.int x1), some (.int x2), some (.int x3), some (.int x4), some (.int x5)] [] h2 0 0 Q)))) : i_P i_MT i_AT L xs 136 26 [some (.ref x0), some (.int x1), some (.int x2), some (.int x3), some (.int x4), some (.int x5)] [] h 0 0 Q := by
  have hk := i_k136
  refine g_s1 (pc2 := 27) hk rfl rfl rfl rfl rfl ?_
  obtain ⟨v1, ev1, H⟩ := H
  refine g_step (pc2 := 30) hk rfl rfl rfl (s_get ev1) ?_
  refine g_s1 (pc2 := 31) hk rfl rfl rfl rfl rfl ?_
  obtain ⟨ho, H⟩ := H
  refine g_call hk rfl rfl i_k83.1 ⟨rfl, rfl⟩ rfl (i_rcv_v ho rfl (by decide)) rfl ?_
  exact H.mono (fun v h2 q => by obtain ⟨rfl, q⟩ := q; exact q)
theorem b136_34 {x0 : Nat} {x1 : Int32} {x2 : Int32} {x3 : Int32} {x4 : Int32} {x5 : Int32} {h : iH} {Q : Option Value → iH → Prop} (H : (∃ v1 : Nat, i_fld h x0 11 4 = some (.ref v1) ∧ (i_obj? h v1 7 ∧ i_C i_MT i_AT L xs 83 [.ref v1, .int x3] h (fun v h2 => v = none ∧ i_P i_MT i_AT L xs 136 42 [some (.ref x0), some (.int x1), some (.int x2), some (.int x3), some (.int x4), some (.int x5)] [] h2 0 0 Q)))) : i_P i_MT i_AT L xs 136 34 [some (.ref x0), some (.int x1), some (.int x2), some (.int x3), some (.int x4), some (.int x5)] [] h 0 0 Q := by
  have hk := i_k136
  refine g_s1 (pc2 := 35) hk rfl rfl rfl rfl rfl ?_
  obtain ⟨v1, ev1, H⟩ := H
  refine g_step (pc2 := 38) hk rfl rfl rfl (s_get ev1) ?_
  refine g_s1 (pc2 := 39) hk rfl rfl rfl rfl rfl ?_
  obtain ⟨ho, H⟩ := H
  refine g_call hk rfl rfl i_k83.1 ⟨rfl, rfl⟩ rfl (i_rcv_v ho rfl (by decide)) rfl ?_
  exact H.mono (fun v h2 q => by obtain ⟨rfl, q⟩ := q; exact q)
theorem b136_42 {x0 : Nat} {x1 : Int32} {x2 : Int32} {x3 : Int32} {x4 : Int32} {x5 : Int32} {h : iH} {Q : Option Value → iH → Prop} (H : (∃ v1 : Nat, i_fld h x0 11 4 = some (.ref v1) ∧ (i_obj? h v1 7 ∧ i_C i_MT i_AT L xs 83 [.ref v1, .int x4] h (fun v h2 => v = none ∧ i_P i_MT i_AT L xs 136 51 [some (.ref x0), some (.int x1), some (.int x2), some (.int x3), some (.int x4), some (.int x5)] [] h2 0 0 Q)))) : i_P i_MT i_AT L xs 136 42 [some (.ref x0), some (.int x1), some (.int x2), some (.int x3), some (.int x4), some (.int x5)] [] h 0 0 Q := by
  have hk := i_k136
  refine g_s1 (pc2 := 43) hk rfl rfl rfl rfl rfl ?_
  obtain ⟨v1, ev1, H⟩ := H
  refine g_step (pc2 := 46) hk rfl rfl rfl (s_get ev1) ?_
  refine g_s1 (pc2 := 48) hk rfl rfl rfl rfl rfl ?_
  obtain ⟨ho, H⟩ := H
  refine g_call hk rfl rfl i_k83.1 ⟨rfl, rfl⟩ rfl (i_rcv_v ho rfl (by decide)) rfl ?_
  exact H.mono (fun v h2 q => by obtain ⟨rfl, q⟩ := q; exact q)
theorem b136_51 {x0 : Nat} {x1 : Int32} {x2 : Int32} {x3 : Int32} {x4 : Int32} {x5 : Int32} {h : iH} {Q : Option Value → iH → Prop} (H : (∃ v1 : Nat, i_fld h x0 11 4 = some (.ref v1) ∧ (i_obj? h v1 7 ∧ i_C i_MT i_AT L xs 83 [.ref v1, .int x5] h (fun v h2 => v = none ∧ i_P i_MT i_AT L xs 136 60 [some (.ref x0), some (.int x1), some (.int x2), some (.int x3), some (.int x4), some (.int x5)] [] h2 0 0 Q)))) : i_P i_MT i_AT L xs 136 51 [some (.ref x0), some (.int x1), some (.int x2), some (.int x3), some (.int x4), some (.int x5)] [] h 0 0 Q := by
  have hk := i_k136
  refine g_s1 (pc2 := 52) hk rfl rfl rfl rfl rfl ?_
  obtain ⟨v1, ev1, H⟩ := H
  refine g_step (pc2 := 55) hk rfl rfl rfl (s_get ev1) ?_
  refine g_s1 (pc2 := 57) hk rfl rfl rfl rfl rfl ?_
  obtain ⟨ho, H⟩ := H
  refine g_call hk rfl rfl i_k83.1 ⟨rfl, rfl⟩ rfl (i_rcv_v ho rfl (by decide)) rfl ?_
  exact H.mono (fun v h2 q => by obtain ⟨rfl, q⟩ := q; exact q)
theorem b136_60 {x0 : Nat} {x1 : Int32} {x2 : Int32} {x3 : Int32} {x4 : Int32} {x5 : Int32} {h : iH} {Q : Option Value → iH → Prop} (H : (∃ v1 : Nat, i_fld h x0 11 4 = some (.ref v1) ∧ (∃ v2 : Int32, i_fld h v1 7 3 = some (.int v2) ∧ Q (some (.int v2)) h))) : i_P i_MT i_AT L xs 136 60 [some (.ref x0), some (.int x1), some (.int x2), some (.int x3), some (.int x4), some (.int x5)] [] h 0 0 Q := by
  have hk := i_k136
  refine g_s1 (pc2 := 61) hk rfl rfl rfl rfl rfl ?_
  obtain ⟨v1, ev1, H⟩ := H
  refine g_step (pc2 := 64) hk rfl rfl rfl (s_get ev1) ?_
  obtain ⟨v2, ev2, H⟩ := H
  refine g_step (pc2 := 67) hk rfl rfl rfl (s_get ev2) ?_
  exact g_ireturn hk rfl (by decide) (by decide) rfl H
/-! StillTown.town(I)I -/
theorem e137 {x0 : Nat} {x1 : Int32} {h : iH} {Q : Option Value → iH → Prop} (H : i_P i_MT i_AT L xs 137 0 [some (.ref x0), some (.int x1), none] [] h 0 0 Q) : i_C i_MT i_AT L xs 137 [.ref x0, .int x1] h Q := ⟨i_m137, i_k137.1, Nat.le_of_ble_eq_true rfl, H⟩
theorem b137_0 {x0 : Nat} {x1 : Int32} {x2 : Option Value} {h : iH} {Q : Option Value → iH → Prop} (H : (∃ v1 : Nat, i_fld h x0 11 4 = some (.ref v1) ∧ (∃ v2 : Int32, i_fld h v1 7 3 = some (.int v2) ∧ (i_C i_MT i_AT L xs 192 [.int x1, .int (0 : Int32), .int v2] h (fun v h3 => ∃ r4 : Int32, v = some (.int r4) ∧ i_P i_MT i_AT L xs 137 12 [some (.ref x0), some (.int x1), x2] [.int r4] h3 0 0 Q))))) : i_P i_MT i_AT L xs 137 0 [some (.ref x0), some (.int x1), x2] [] h 0 0 Q := by
  have hk := i_k137
  refine g_s1 (pc2 := 1) hk rfl rfl rfl rfl rfl ?_
  refine g_s1 (pc2 := 2) (st2 := [.int (0 : Int32), .int x1]) hk rfl rfl rfl rfl rfl ?_
  refine g_s1 (pc2 := 3) hk rfl rfl rfl rfl rfl ?_
  obtain ⟨v1, ev1, H⟩ := H
  refine g_step (pc2 := 6) hk rfl rfl rfl (s_get ev1) ?_
  obtain ⟨v2, ev2, H⟩ := H
  refine g_step (pc2 := 9) hk rfl rfl rfl (s_get ev2) ?_
  refine g_call hk rfl rfl i_k192.1 ⟨rfl, rfl⟩ rfl (i_rcv_0 rfl) rfl ?_
  exact H.mono (fun v h2 q => by obtain ⟨r, rfl, q⟩ := q; exact q)
theorem b137_12 {x0 : Nat} {x1 : Int32} {x2 : Option Value} {s0 : Int32} {h : iH} {Q : Option Value → iH → Prop} (H : ((¬ s0 = 0 → (∃ v1 : Nat, i_fld h x0 11 4 = some (.ref v1) ∧ (i_obj? h v1 7 ∧ i_C i_MT i_AT L xs 84 [.ref v1, .int x1] h (fun v h2 => v = none ∧ i_P i_MT i_AT L xs 137 29 [some (.ref x0), some (.int x1), x2] [] h2 0 0 Q)))) ∧ (¬ (¬ s0 = 0) → (i_obj? h x0 11 ∧ i_C i_MT i_AT L xs 179 [.ref x0, .int (1 : Int32)] h (fun v h4 => ∃ r5 : Int32, v = some (.int r5) ∧ i_P i_MT i_AT L xs 137 20 [some (.ref x0), some (.int x1), x2] [.int r5] h4 0 0 Q))))) : i_P i_MT i_AT L xs 137 12 [some (.ref x0), some (.int x1), x2] [.int s0] h 0 0 Q := by
  have hk := i_k137
  refine g_if_ne hk rfl (fun hc => ?_) (fun hc => ?_)
  · have H := H.1 hc
    refine g_s1 (pc2 := 22) hk rfl rfl rfl rfl rfl ?_
    obtain ⟨v1, ev1, H⟩ := H
    refine g_step (pc2 := 25) hk rfl rfl rfl (s_get ev1) ?_
    refine g_s1 (pc2 := 26) hk rfl rfl rfl rfl rfl ?_
    obtain ⟨ho, H⟩ := H
    refine g_call hk rfl rfl i_k84.1 ⟨rfl, rfl⟩ rfl (i_rcv_v ho rfl (by decide)) rfl ?_
    exact H.mono (fun v h2 q => by obtain ⟨rfl, q⟩ := q; exact q)
  · have H := H.2 hc
    refine g_s1 (pc2 := 16) hk rfl rfl rfl rfl rfl ?_
    refine g_s1 (pc2 := 17) (st2 := [.int (1 : Int32), .ref x0]) hk rfl rfl rfl rfl rfl ?_
    obtain ⟨ho, H⟩ := H
    refine g_call hk rfl rfl i_k179.1 ⟨rfl, rfl⟩ rfl (i_rcv_v ho rfl (by decide)) rfl ?_
    exact H.mono (fun v h2 q => by obtain ⟨r, rfl, q⟩ := q; exact q)
theorem b137_20 {x0 : Nat} {x1 : Int32} {x2 : Option Value} {s0 : Int32} {h : iH} {Q : Option Value → iH → Prop} (H : Q (some (.int s0)) h) : i_P i_MT i_AT L xs 137 20 [some (.ref x0), some (.int x1), x2] [.int s0] h 0 0 Q := by
  have hk := i_k137
  exact g_ireturn hk rfl (by decide) (by decide) rfl H
theorem b137_29 {x0 : Nat} {x1 : Int32} {x2 : Option Value} {h : iH} {Q : Option Value → iH → Prop} (H : (∃ v1 : Nat, i_fld h x0 11 7 = some (.ref v1) ∧ (∃ v2 : Nat, i_fld h x0 11 6 = some (.ref v2) ∧ (i_obj? h v1 9 ∧ i_C i_MT i_AT L xs 103 [.ref v1, .ref v2] h (fun v h3 => ∃ r4 : Int32, v = some (.int r4) ∧ i_P i_MT i_AT L xs 137 40 [some (.ref x0), some (.int x1), x2] [.int r4] h3 0 0 Q))))) : i_P i_MT i_AT L xs 137 29 [some (.ref x0), some (.int x1), x2] [] h 0 0 Q := by
  have hk := i_k137
  refine g_s1 (pc2 := 30) hk rfl rfl rfl rfl rfl ?_
  obtain ⟨v1, ev1, H⟩ := H
  refine g_step (pc2 := 33) hk rfl rfl rfl (s_get ev1) ?_
  refine g_s1 (pc2 := 34) hk rfl rfl rfl rfl rfl ?_
  obtain ⟨v2, ev2, H⟩ := H
  refine g_step (pc2 := 37) hk rfl rfl rfl (s_get ev2) ?_
  obtain ⟨ho, H⟩ := H
  refine g_call hk rfl rfl i_k103.1 ⟨rfl, rfl⟩ rfl (i_rcv_v ho rfl (by decide)) rfl ?_
  exact H.mono (fun v h2 q => by obtain ⟨r, rfl, q⟩ := q; exact q)
theorem b137_40 {x0 : Nat} {x1 : Int32} {x2 : Option Value} {s0 : Int32} {h : iH} {Q : Option Value → iH → Prop} (H : ((¬ s0 = 0 → (∃ v1 : Nat, i_fld h x0 11 4 = some (.ref v1) ∧ (i_obj? h v1 7 ∧ i_C i_MT i_AT L xs 85 [.ref v1] h (fun v h2 => v = none ∧ i_P i_MT i_AT L xs 137 57 [some (.ref x0), some (.int x1), x2] [] h2 0 0 Q)))) ∧ (¬ (¬ s0 = 0) → (i_obj? h x0 11 ∧ i_C i_MT i_AT L xs 179 [.ref x0, .int (9 : Int32)] h (fun v h4 => ∃ r5 : Int32, v = some (.int r5) ∧ i_P i_MT i_AT L xs 137 49 [some (.ref x0), some (.int x1), x2] [.int r5] h4 0 0 Q))))) : i_P i_MT i_AT L xs 137 40 [some (.ref x0), some (.int x1), x2] [.int s0] h 0 0 Q := by
  have hk := i_k137
  refine g_if_ne hk rfl (fun hc => ?_) (fun hc => ?_)
  · have H := H.1 hc
    refine g_s1 (pc2 := 51) hk rfl rfl rfl rfl rfl ?_
    obtain ⟨v1, ev1, H⟩ := H
    refine g_step (pc2 := 54) hk rfl rfl rfl (s_get ev1) ?_
    obtain ⟨ho, H⟩ := H
    refine g_call hk rfl rfl i_k85.1 ⟨rfl, rfl⟩ rfl (i_rcv_v ho rfl (by decide)) rfl ?_
    exact H.mono (fun v h2 q => by obtain ⟨rfl, q⟩ := q; exact q)
  · have H := H.2 hc
    refine g_s1 (pc2 := 44) hk rfl rfl rfl rfl rfl ?_
    refine g_s1 (pc2 := 46) (st2 := [.int (9 : Int32), .ref x0]) hk rfl rfl rfl rfl rfl ?_
    obtain ⟨ho, H⟩ := H
    refine g_call hk rfl rfl i_k179.1 ⟨rfl, rfl⟩ rfl (i_rcv_v ho rfl (by decide)) rfl ?_
    exact H.mono (fun v h2 q => by obtain ⟨r, rfl, q⟩ := q; exact q)
theorem b137_49 {x0 : Nat} {x1 : Int32} {x2 : Option Value} {s0 : Int32} {h : iH} {Q : Option Value → iH → Prop} (H : Q (some (.int s0)) h) : i_P i_MT i_AT L xs 137 49 [some (.ref x0), some (.int x1), x2] [.int s0] h 0 0 Q := by
  have hk := i_k137
  exact g_ireturn hk rfl (by decide) (by decide) rfl H
theorem b137_57 {x0 : Nat} {x1 : Int32} {x2 : Option Value} {h : iH} {Q : Option Value → iH → Prop} (H : (∃ v1 : Nat, i_fld h x0 11 5 = some (.ref v1) ∧ (∃ v2 : Nat, i_fld h x0 11 6 = some (.ref v2) ∧ ((∃ o, i_fld h x0 11 5 = some o) ∧ i_P i_MT i_AT L xs 137 70 [some (.ref x0), some (.int x1), some (.ref v1)] [] (i_sf h x0 5 (.ref v2)) 0 0 Q)))) : i_P i_MT i_AT L xs 137 57 [some (.ref x0), some (.int x1), x2] [] h 0 0 Q := by
  have hk := i_k137
  refine g_s1 (pc2 := 58) hk rfl rfl rfl rfl rfl ?_
  obtain ⟨v1, ev1, H⟩ := H
  refine g_step (pc2 := 61) hk rfl rfl rfl (s_get ev1) ?_
  refine g_s1 (pc2 := 62) (lo2 := [some (.ref x0), some (.int x1), some (.ref v1)]) hk rfl rfl rfl rfl rfl ?_
  refine g_s1 (pc2 := 63) hk rfl rfl rfl rfl rfl ?_
  refine g_s1 (pc2 := 64) hk rfl rfl rfl rfl rfl ?_
  obtain ⟨v2, ev2, H⟩ := H
  refine g_step (pc2 := 67) hk rfl rfl rfl (s_get ev2) ?_
  obtain ⟨⟨o, ho⟩, H⟩ := H
  refine g_step (pc2 := 70) hk rfl rfl rfl (s_put ho rfl) ?_
  exact H
theorem b137_70 {x0 : Nat} {x1 : Int32} {x2 : Nat} {h : iH} {Q : Option Value → iH → Prop} (H : ((∃ o, i_fld h x0 11 6 = some o) ∧ i_P i_MT i_AT L xs 137 75 [some (.ref x0), some (.int x1), some (.ref x2)] [] (i_sf h x0 6 (.ref x2)) 0 0 Q)) : i_P i_MT i_AT L xs 137 70 [some (.ref x0), some (.int x1), some (.ref x2)] [] h 0 0 Q := by
  have hk := i_k137
  refine g_s1 (pc2 := 71) hk rfl rfl rfl rfl rfl ?_
  refine g_s1 (pc2 := 72) hk rfl rfl rfl rfl rfl ?_
  obtain ⟨⟨o, ho⟩, H⟩ := H
  refine g_step (pc2 := 75) hk rfl rfl rfl (s_put ho rfl) ?_
  exact H
theorem b137_75 {x0 : Nat} {x1 : Int32} {x2 : Nat} {h : iH} {Q : Option Value → iH → Prop} (H : (∃ v1 : Nat, i_fld h x0 11 11 = some (.ref v1) ∧ (∃ v2 : Nat, i_fld h x0 11 5 = some (.ref v2) ∧ (i_obj? h v1 0 ∧ i_C i_MT i_AT L xs 1 [.ref v1, .ref v2] h (fun v h3 => v = none ∧ i_P i_MT i_AT L xs 137 86 [some (.ref x0), some (.int x1), some (.ref x2)] [] h3 0 0 Q))))) : i_P i_MT i_AT L xs 137 75 [some (.ref x0), some (.int x1), some (.ref x2)] [] h 0 0 Q := by
  have hk := i_k137
  refine g_s1 (pc2 := 76) hk rfl rfl rfl rfl rfl ?_
  obtain ⟨v1, ev1, H⟩ := H
  refine g_step (pc2 := 79) hk rfl rfl rfl (s_get ev1) ?_
  refine g_s1 (pc2 := 80) hk rfl rfl rfl rfl rfl ?_
  obtain ⟨v2, ev2, H⟩ := H
  refine g_step (pc2 := 83) hk rfl rfl rfl (s_get ev2) ?_
  obtain ⟨ho, H⟩ := H
  refine g_call hk rfl rfl i_k1.1 ⟨rfl, rfl⟩ rfl (i_rcv_v ho rfl (by decide)) rfl ?_
  exact H.mono (fun v h2 q => by obtain ⟨rfl, q⟩ := q; exact q)
theorem b137_86 {x0 : Nat} {x1 : Int32} {x2 : Nat} {h : iH} {Q : Option Value → iH → Prop} (H : (∃ v1 : Nat, i_fld h x0 11 11 = some (.ref v1) ∧ (∃ v2 : Nat, i_fld h v1 0 0 = some (.ref v2) ∧ (∃ v3 : Int32, i_fld h v2 2 2 = some (.int v3) ∧ (i_obj? h x0 11 ∧ i_C i_MT i_AT L xs 181 [.ref x0, .int v3] h (fun v h4 => ∃ r5 : Int32, v = some (.int r5) ∧ i_P i_MT i_AT L xs 137 100 [some (.ref x0), some (.int x1), some (.ref x2)] [.int r5] h4 0 0 Q)))))) : i_P i_MT i_AT L xs 137 86 [some (.ref x0), some (.int x1), some (.ref x2)] [] h 0 0 Q := by
  have hk := i_k137
  refine g_s1 (pc2 := 87) hk rfl rfl rfl rfl rfl ?_
  refine g_s1 (pc2 := 88) hk rfl rfl rfl rfl rfl ?_
  obtain ⟨v1, ev1, H⟩ := H
  refine g_step (pc2 := 91) hk rfl rfl rfl (s_get ev1) ?_
  obtain ⟨v2, ev2, H⟩ := H
  refine g_step (pc2 := 94) hk rfl rfl rfl (s_get ev2) ?_
  obtain ⟨v3, ev3, H⟩ := H
  refine g_step (pc2 := 97) hk rfl rfl rfl (s_get ev3) ?_
  obtain ⟨ho, H⟩ := H
  refine g_call hk rfl rfl i_k181.1 ⟨rfl, rfl⟩ rfl (i_rcv_v ho rfl (by decide)) rfl ?_
  exact H.mono (fun v h2 q => by obtain ⟨r, rfl, q⟩ := q; exact q)
theorem b137_100 {x0 : Nat} {x1 : Int32} {x2 : Nat} {s0 : Int32} {h : iH} {Q : Option Value → iH → Prop} (H : Q (some (.int s0)) h) : i_P i_MT i_AT L xs 137 100 [some (.ref x0), some (.int x1), some (.ref x2)] [.int s0] h 0 0 Q := by
  have hk := i_k137
  exact g_ireturn hk rfl (by decide) (by decide) rfl H
/-! StillTown.plan(I)I -/
theorem e138 {x0 : Nat} {x1 : Int32} {h : iH} {Q : Option Value → iH → Prop} (H : i_P i_MT i_AT L xs 138 0 [some (.ref x0), some (.int x1)] [] h 0 0 Q) : i_C i_MT i_AT L xs 138 [.ref x0, .int x1] h Q := ⟨i_m138, i_k138.1, Nat.le_of_ble_eq_true rfl, H⟩
theorem b138_0 {x0 : Nat} {x1 : Int32} {h : iH} {Q : Option Value → iH → Prop} (H : (∃ v1 : Nat, i_fld h x0 11 4 = some (.ref v1) ∧ (∃ v2 : Int32, i_fld h v1 7 3 = some (.int v2) ∧ (i_C i_MT i_AT L xs 337 [.int v2, .int (300 : Int32)] h (fun v h3 => ∃ r4 : Int32, v = some (.int r4) ∧ i_P i_MT i_AT L xs 138 15 [some (.ref x0), some (.int x1)] [.int r4, .int (0 : Int32), .int x1] h3 0 0 Q))))) : i_P i_MT i_AT L xs 138 0 [some (.ref x0), some (.int x1)] [] h 0 0 Q := by
  have hk := i_k138
  refine g_s1 (pc2 := 1) hk rfl rfl rfl rfl rfl ?_
  refine g_s1 (pc2 := 2) (st2 := [.int (0 : Int32), .int x1]) hk rfl rfl rfl rfl rfl ?_
  refine g_s1 (pc2 := 3) hk rfl rfl rfl rfl rfl ?_
  obtain ⟨v1, ev1, H⟩ := H
  refine g_step (pc2 := 6) hk rfl rfl rfl (s_get ev1) ?_
  obtain ⟨v2, ev2, H⟩ := H
  refine g_step (pc2 := 9) hk rfl rfl rfl (s_get ev2) ?_
  refine g_s1 (pc2 := 12) (st2 := [.int (300 : Int32), .int v2, .int (0 : Int32), .int x1]) hk rfl rfl rfl rfl rfl ?_
  refine g_call hk rfl rfl i_k337.1 ⟨rfl, rfl⟩ rfl (i_rcv_0 rfl) rfl ?_
  exact H.mono (fun v h2 q => by obtain ⟨r, rfl, q⟩ := q; exact q)
theorem b138_15 {x0 : Nat} {x1 : Int32} {s0 : Int32} {s1 : Int32} {s2 : Int32} {h : iH} {Q : Option Value → iH → Prop} (H : (i_C i_MT i_AT L xs 192 [.int s0, .int s1, .int s2] h (fun v h1 => ∃ r2 : Int32, v = some (.int r2) ∧ i_P i_MT i_AT L xs 138 18 [some (.ref x0), some (.int x1)] [.int r2] h1 0 0 Q))) : i_P i_MT i_AT L xs 138 15 [some (.ref x0), some (.int x1)] [.int s2, .int s1, .int s0] h 0 0 Q := by
  have hk := i_k138
  refine g_call hk rfl rfl i_k192.1 ⟨rfl, rfl⟩ rfl (i_rcv_0 rfl) rfl ?_
  exact H.mono (fun v h2 q => by obtain ⟨r, rfl, q⟩ := q; exact q)
theorem b138_18 {x0 : Nat} {x1 : Int32} {s0 : Int32} {h : iH} {Q : Option Value → iH → Prop} (H : ((¬ s0 = 0 → (∃ v1 : Nat, i_fld h x0 11 4 = some (.ref v1) ∧ (i_obj? h v1 7 ∧ i_C i_MT i_AT L xs 84 [.ref v1, .int x1] h (fun v h2 => v = none ∧ i_P i_MT i_AT L xs 138 35 [some (.ref x0), some (.int x1)] [] h2 0 0 Q)))) ∧ (¬ (¬ s0 = 0) → (i_obj? h x0 11 ∧ i_C i_MT i_AT L xs 179 [.ref x0, .int (1 : Int32)] h (fun v h4 => ∃ r5 : Int32, v = some (.int r5) ∧ i_P i_MT i_AT L xs 138 26 [some (.ref x0), some (.int x1)] [.int r5] h4 0 0 Q))))) : i_P i_MT i_AT L xs 138 18 [some (.ref x0), some (.int x1)] [.int s0] h 0 0 Q := by
  have hk := i_k138
  refine g_if_ne hk rfl (fun hc => ?_) (fun hc => ?_)
  · have H := H.1 hc
    refine g_s1 (pc2 := 28) hk rfl rfl rfl rfl rfl ?_
    obtain ⟨v1, ev1, H⟩ := H
    refine g_step (pc2 := 31) hk rfl rfl rfl (s_get ev1) ?_
    refine g_s1 (pc2 := 32) hk rfl rfl rfl rfl rfl ?_
    obtain ⟨ho, H⟩ := H
    refine g_call hk rfl rfl i_k84.1 ⟨rfl, rfl⟩ rfl (i_rcv_v ho rfl (by decide)) rfl ?_
    exact H.mono (fun v h2 q => by obtain ⟨rfl, q⟩ := q; exact q)
  · have H := H.2 hc
    refine g_s1 (pc2 := 22) hk rfl rfl rfl rfl rfl ?_
    refine g_s1 (pc2 := 23) (st2 := [.int (1 : Int32), .ref x0]) hk rfl rfl rfl rfl rfl ?_
    obtain ⟨ho, H⟩ := H
    refine g_call hk rfl rfl i_k179.1 ⟨rfl, rfl⟩ rfl (i_rcv_v ho rfl (by decide)) rfl ?_
    exact H.mono (fun v h2 q => by obtain ⟨r, rfl, q⟩ := q; exact q)
theorem b138_26 {x0 : Nat} {x1 : Int32} {s0 : Int32} {h : iH} {Q : Option Value → iH → Prop} (H : Q (some (.int s0)) h) : i_P i_MT i_AT L xs 138 26 [some (.ref x0), some (.int x1)] [.int s0] h 0 0 Q := by
  have hk := i_k138
  exact g_ireturn hk rfl (by decide) (by decide) rfl H
theorem b138_35 {x0 : Nat} {x1 : Int32} {h : iH} {Q : Option Value → iH → Prop} (H : (∃ v1 : Nat, i_fld h x0 11 8 = some (.ref v1) ∧ (∃ v2 : Nat, i_fld h x0 11 5 = some (.ref v2) ∧ (∃ v3 : Nat, i_fld h v2 8 12 = some (.ref v3) ∧ (i_obj? h v1 4 ∧ i_C i_MT i_AT L xs 39 [.ref v1, .ref v3] h (fun v h4 => ∃ r5 : Int32, v = some (.int r5) ∧ i_P i_MT i_AT L xs 138 49 [some (.ref x0), some (.int x1)] [.int r5] h4 0 0 Q)))))) : i_P i_MT i_AT L xs 138 35 [some (.ref x0), some (.int x1)] [] h 0 0 Q := by
  have hk := i_k138
  refine g_s1 (pc2 := 36) hk rfl rfl rfl rfl rfl ?_
  obtain ⟨v1, ev1, H⟩ := H
  refine g_step (pc2 := 39) hk rfl rfl rfl (s_get ev1) ?_
  refine g_s1 (pc2 := 40) hk rfl rfl rfl rfl rfl ?_
  obtain ⟨v2, ev2, H⟩ := H
  refine g_step (pc2 := 43) hk rfl rfl rfl (s_get ev2) ?_
  obtain ⟨v3, ev3, H⟩ := H
  refine g_step (pc2 := 46) hk rfl rfl rfl (s_get ev3) ?_
  obtain ⟨ho, H⟩ := H
  refine g_call hk rfl rfl i_k39.1 ⟨rfl, rfl⟩ rfl (i_rcv_v ho rfl (by decide)) rfl ?_
  exact H.mono (fun v h2 q => by obtain ⟨r, rfl, q⟩ := q; exact q)
theorem b138_49 {x0 : Nat} {x1 : Int32} {s0 : Int32} {h : iH} {Q : Option Value → iH → Prop} (H : ((¬ s0 = 0 → (∃ v1 : Nat, i_fld h x0 11 4 = some (.ref v1) ∧ (i_obj? h v1 7 ∧ i_C i_MT i_AT L xs 85 [.ref v1] h (fun v h2 => v = none ∧ i_P i_MT i_AT L xs 138 66 [some (.ref x0), some (.int x1)] [] h2 0 0 Q)))) ∧ (¬ (¬ s0 = 0) → (i_obj? h x0 11 ∧ i_C i_MT i_AT L xs 179 [.ref x0, .int (9 : Int32)] h (fun v h4 => ∃ r5 : Int32, v = some (.int r5) ∧ i_P i_MT i_AT L xs 138 58 [some (.ref x0), some (.int x1)] [.int r5] h4 0 0 Q))))) : i_P i_MT i_AT L xs 138 49 [some (.ref x0), some (.int x1)] [.int s0] h 0 0 Q := by
  have hk := i_k138
  refine g_if_ne hk rfl (fun hc => ?_) (fun hc => ?_)
  · have H := H.1 hc
    refine g_s1 (pc2 := 60) hk rfl rfl rfl rfl rfl ?_
    obtain ⟨v1, ev1, H⟩ := H
    refine g_step (pc2 := 63) hk rfl rfl rfl (s_get ev1) ?_
    obtain ⟨ho, H⟩ := H
    refine g_call hk rfl rfl i_k85.1 ⟨rfl, rfl⟩ rfl (i_rcv_v ho rfl (by decide)) rfl ?_
    exact H.mono (fun v h2 q => by obtain ⟨rfl, q⟩ := q; exact q)
  · have H := H.2 hc
    refine g_s1 (pc2 := 53) hk rfl rfl rfl rfl rfl ?_
    refine g_s1 (pc2 := 55) (st2 := [.int (9 : Int32), .ref x0]) hk rfl rfl rfl rfl rfl ?_
    obtain ⟨ho, H⟩ := H
    refine g_call hk rfl rfl i_k179.1 ⟨rfl, rfl⟩ rfl (i_rcv_v ho rfl (by decide)) rfl ?_
    exact H.mono (fun v h2 q => by obtain ⟨r, rfl, q⟩ := q; exact q)
theorem b138_58 {x0 : Nat} {x1 : Int32} {s0 : Int32} {h : iH} {Q : Option Value → iH → Prop} (H : Q (some (.int s0)) h) : i_P i_MT i_AT L xs 138 58 [some (.ref x0), some (.int x1)] [.int s0] h 0 0 Q := by
  have hk := i_k138
  exact g_ireturn hk rfl (by decide) (by decide) rfl H
theorem b138_66 {x0 : Nat} {x1 : Int32} {h : iH} {Q : Option Value → iH → Prop} (H : (∃ v1 : Nat, i_fld h x0 11 5 = some (.ref v1) ∧ (∃ v2 : Nat, i_fld h x0 11 8 = some (.ref v2) ∧ (∃ v3 : Nat, i_fld h v2 4 1 = some (.ref v3) ∧ (i_obj? h v1 8 ∧ i_C i_MT i_AT L xs 99 [.ref v1, .ref v3] h (fun v h4 => v = none ∧ i_P i_MT i_AT L xs 138 80 [some (.ref x0), some (.int x1)] [] h4 0 0 Q)))))) : i_P i_MT i_AT L xs 138 66 [some (.ref x0), some (.int x1)] [] h 0 0 Q := by
  have hk := i_k138
  refine g_s1 (pc2 := 67) hk rfl rfl rfl rfl rfl ?_
  obtain ⟨v1, ev1, H⟩ := H
  refine g_step (pc2 := 70) hk rfl rfl rfl (s_get ev1) ?_
  refine g_s1 (pc2 := 71) hk rfl rfl rfl rfl rfl ?_
  obtain ⟨v2, ev2, H⟩ := H
  refine g_step (pc2 := 74) hk rfl rfl rfl (s_get ev2) ?_
  obtain ⟨v3, ev3, H⟩ := H
  refine g_step (pc2 := 77) hk rfl rfl rfl (s_get ev3) ?_
  obtain ⟨ho, H⟩ := H
  refine g_call hk rfl rfl i_k99.1 ⟨rfl, rfl⟩ rfl (i_rcv_v ho rfl (by decide)) rfl ?_
  exact H.mono (fun v h2 q => by obtain ⟨rfl, q⟩ := q; exact q)
theorem b138_80 {x0 : Nat} {x1 : Int32} {h : iH} {Q : Option Value → iH → Prop} (H : (∃ v1 : Nat, i_fld h x0 11 11 = some (.ref v1) ∧ (∃ v2 : Nat, i_fld h x0 11 5 = some (.ref v2) ∧ (i_obj? h v1 0 ∧ i_C i_MT i_AT L xs 1 [.ref v1, .ref v2] h (fun v h3 => v = none ∧ i_P i_MT i_AT L xs 138 91 [some (.ref x0), some (.int x1)] [] h3 0 0 Q))))) : i_P i_MT i_AT L xs 138 80 [some (.ref x0), some (.int x1)] [] h 0 0 Q := by
  have hk := i_k138
  refine g_s1 (pc2 := 81) hk rfl rfl rfl rfl rfl ?_
  obtain ⟨v1, ev1, H⟩ := H
  refine g_step (pc2 := 84) hk rfl rfl rfl (s_get ev1) ?_
  refine g_s1 (pc2 := 85) hk rfl rfl rfl rfl rfl ?_
  obtain ⟨v2, ev2, H⟩ := H
  refine g_step (pc2 := 88) hk rfl rfl rfl (s_get ev2) ?_
  obtain ⟨ho, H⟩ := H
  refine g_call hk rfl rfl i_k1.1 ⟨rfl, rfl⟩ rfl (i_rcv_v ho rfl (by decide)) rfl ?_
  exact H.mono (fun v h2 q => by obtain ⟨rfl, q⟩ := q; exact q)
theorem b138_91 {x0 : Nat} {x1 : Int32} {h : iH} {Q : Option Value → iH → Prop} (H : (∃ v1 : Nat, i_fld h x0 11 8 = some (.ref v1) ∧ (∃ v2 : Int32, i_fld h v1 4 2 = some (.int v2) ∧ (i_obj? h x0 11 ∧ i_C i_MT i_AT L xs 181 [.ref x0, .int v2] h (fun v h3 => ∃ r4 : Int32, v = some (.int r4) ∧ i_P i_MT i_AT L xs 138 102 [some (.ref x0), some (.int x1)] [.int r4] h3 0 0 Q))))) : i_P i_MT i_AT L xs 138 91 [some (.ref x0), some (.int x1)] [] h 0 0 Q := by
  have hk := i_k138
  refine g_s1 (pc2 := 92) hk rfl rfl rfl rfl rfl ?_
  refine g_s1 (pc2 := 93) hk rfl rfl rfl rfl rfl ?_
  obtain ⟨v1, ev1, H⟩ := H
  refine g_step (pc2 := 96) hk rfl rfl rfl (s_get ev1) ?_
  obtain ⟨v2, ev2, H⟩ := H
  refine g_step (pc2 := 99) hk rfl rfl rfl (s_get ev2) ?_
  obtain ⟨ho, H⟩ := H
  refine g_call hk rfl rfl i_k181.1 ⟨rfl, rfl⟩ rfl (i_rcv_v ho rfl (by decide)) rfl ?_
  exact H.mono (fun v h2 q => by obtain ⟨r, rfl, q⟩ := q; exact q)
theorem b138_102 {x0 : Nat} {x1 : Int32} {s0 : Int32} {h : iH} {Q : Option Value → iH → Prop} (H : Q (some (.int s0)) h) : i_P i_MT i_AT L xs 138 102 [some (.ref x0), some (.int x1)] [.int s0] h 0 0 Q := by
  have hk := i_k138
  exact g_ireturn hk rfl (by decide) (by decide) rfl H
/-! StillTown.fault(I)I -/
theorem e139 {x0 : Nat} {x1 : Int32} {h : iH} {Q : Option Value → iH → Prop} (H : i_P i_MT i_AT L xs 139 0 [some (.ref x0), some (.int x1)] [] h 0 0 Q) : i_C i_MT i_AT L xs 139 [.ref x0, .int x1] h Q := ⟨i_m139, i_k139.1, Nat.le_of_ble_eq_true rfl, H⟩
theorem b139_0 {x0 : Nat} {x1 : Int32} {h : iH} {Q : Option Value → iH → Prop} (H : ((¬ x1 = 0 → ((¬ x1 = (1 : Int32) → i_P i_MT i_AT L xs 139 28 [some (.ref x0), some (.int x1)] [.int (-1 : Int32)] h 0 0 Q) ∧ (¬ (¬ x1 = (1 : Int32)) → (∃ v1 : Nat, i_fld h x0 11 4 = some (.ref v1) ∧ (∃ v2 : Int32, i_fld h v1 7 12 = some (.int v2) ∧ i_P i_MT i_AT L xs 139 28 [some (.ref x0), some (.int x1)] [.int v2] h 0 0 Q))))) ∧ (¬ (¬ x1 = 0) → (∃ v3 : Nat, i_fld h x0 11 4 = some (.ref v3) ∧ (∃ v4 : Int32, i_fld h v3 7 11 = some (.int v4) ∧ Q (some (.int v4)) h))))) : i_P i_MT i_AT L xs 139 0 [some (.ref x0), some (.int x1)] [] h 0 0 Q := by
  have hk := i_k139
  refine g_s1 (pc2 := 1) hk rfl rfl rfl rfl rfl ?_
  refine g_if_ne hk rfl (fun hc => ?_) (fun hc => ?_)
  · have H := H.1 hc
    refine g_s1 (pc2 := 13) hk rfl rfl rfl rfl rfl ?_
    refine g_s1 (pc2 := 14) (st2 := [.int (1 : Int32), .int x1]) hk rfl rfl rfl rfl rfl ?_
    refine g_icmp_ne hk rfl (fun hc => ?_) (fun hc => ?_)
    · have H := H.1 hc
      refine g_s1 (pc2 := 28) (st2 := [.int (-1 : Int32)]) hk rfl rfl rfl rfl rfl ?_
      exact H
    · have H := H.2 hc
      refine g_s1 (pc2 := 18) hk rfl rfl rfl rfl rfl ?_
      obtain ⟨v1, ev1, H⟩ := H
      refine g_step (pc2 := 21) hk rfl rfl rfl (s_get ev1) ?_
      obtain ⟨v2, ev2, H⟩ := H
      refine g_step (pc2 := 24) hk rfl rfl rfl (s_get ev2) ?_
      refine g_s1 (pc2 := 28) hk rfl rfl rfl rfl rfl ?_
      exact H
  · have H := H.2 hc
    refine g_s1 (pc2 := 5) hk rfl rfl rfl rfl rfl ?_
    obtain ⟨v3, ev3, H⟩ := H
    refine g_step (pc2 := 8) hk rfl rfl rfl (s_get ev3) ?_
    obtain ⟨v4, ev4, H⟩ := H
    refine g_step (pc2 := 11) hk rfl rfl rfl (s_get ev4) ?_
    exact g_ireturn hk rfl (by decide) (by decide) rfl H
theorem b139_28 {x0 : Nat} {x1 : Int32} {s0 : Int32} {h : iH} {Q : Option Value → iH → Prop} (H : Q (some (.int s0)) h) : i_P i_MT i_AT L xs 139 28 [some (.ref x0), some (.int x1)] [.int s0] h 0 0 Q := by
  have hk := i_k139
  exact g_ireturn hk rfl (by decide) (by decide) rfl H
/-! StillTown.told(I)I -/
theorem e140 {x0 : Nat} {x1 : Int32} {h : iH} {Q : Option Value → iH → Prop} (H : i_P i_MT i_AT L xs 140 0 [some (.ref x0), some (.int x1)] [] h 0 0 Q) : i_C i_MT i_AT L xs 140 [.ref x0, .int x1] h Q := ⟨i_m140, i_k140.1, Nat.le_of_ble_eq_true rfl, H⟩
theorem b140_0 {x0 : Nat} {x1 : Int32} {h : iH} {Q : Option Value → iH → Prop} (H : ((x1.toInt < 0 ∨ 5 < x1.toInt → (i_C i_MT i_AT L xs 192 [.int x1, .int (6 : Int32), .int (9 : Int32)] h (fun v h1 => ∃ r2 : Int32, v = some (.int r2) ∧ i_P i_MT i_AT L xs 140 126 [some (.ref x0), some (.int x1)] [.int r2] h1 0 0 Q))) ∧ (x1.toInt = 0 → (∃ v3 : Nat, i_fld h x0 11 5 = some (.ref v3) ∧ (∃ v4 : Int32, i_fld h v3 8 0 = some (.int v4) ∧ (i_obj? h x0 11 ∧ i_C i_MT i_AT L xs 181 [.ref x0, .int v4] h (fun v h5 => ∃ r6 : Int32, v = some (.int r6) ∧ i_P i_MT i_AT L xs 140 51 [some (.ref x0), some (.int x1)] [.int r6] h5 0 0 Q))))) ∧ (x1.toInt = 1 → (∃ v7 : Nat, i_fld h x0 11 5 = some (.ref v7) ∧ (∃ v8 : Int32, i_fld h v7 8 1 = some (.int v8) ∧ (i_obj? h x0 11 ∧ i_C i_MT i_AT L xs 181 [.ref x0, .int v8] h (fun v h9 => ∃ r10 : Int32, v = some (.int r10) ∧ i_P i_MT i_AT L xs 140 63 [some (.ref x0), some (.int x1)] [.int r10] h9 0 0 Q))))) ∧ (x1.toInt = 2 → (∃ v11 : Nat, i_fld h x0 11 5 = some (.ref v11) ∧ (∃ v12 : Int64, i_fld h v11 8 3 = some (.long v12) ∧ (i_C i_MT i_AT L xs 334 [.long v12] h (fun v h13 => ∃ r14 : Int32, v = some (.int r14) ∧ i_P i_MT i_AT L xs 140 75 [some (.ref x0), some (.int x1)] [.int r14, .ref x0] h13 0 0 Q))))) ∧ (x1.toInt = 3 → (∃ v15 : Nat, i_fld h x0 11 5 = some (.ref v15) ∧ (∃ v16 : Int32, i_fld h v15 8 5 = some (.int v16) ∧ (i_obj? h x0 11 ∧ i_C i_MT i_AT L xs 181 [.ref x0, .int v16] h (fun v h17 => ∃ r18 : Int32, v = some (.int r18) ∧ i_P i_MT i_AT L xs 140 90 [some (.ref x0), some (.int x1)] [.int r18] h17 0 0 Q))))) ∧ (x1.toInt = 4 → (∃ v19 : Nat, i_fld h x0 11 5 = some (.ref v19) ∧ (∃ v20 : Int32, i_fld h v19 8 9 = some (.int v20) ∧ (i_obj? h x0 11 ∧ i_C i_MT i_AT L xs 181 [.ref x0, .int v20] h (fun v h21 => ∃ r22 : Int32, v = some (.int r22) ∧ i_P i_MT i_AT L xs 140 102 [some (.ref x0), some (.int x1)] [.int r22] h21 0 0 Q))))) ∧ (x1.toInt = 5 → (∃ v23 : Nat, i_fld h x0 11 5 = some (.ref v23) ∧ (∃ v24 : Nat, i_fld h v23 8 12 = some (.ref v24) ∧ (∃ v25 : Int32, i_fld h v24 3 0 = some (.int v25) ∧ (i_obj? h x0 11 ∧ i_C i_MT i_AT L xs 181 [.ref x0, .int v25] h (fun v h26 => ∃ r27 : Int32, v = some (.int r27) ∧ i_P i_MT i_AT L xs 140 117 [some (.ref x0), some (.int x1)] [.int r27] h26 0 0 Q)))))))) : i_P i_MT i_AT L xs 140 0 [some (.ref x0), some (.int x1)] [] h 0 0 Q := by
  have hk := i_k140
  refine g_s1 (pc2 := 1) hk rfl rfl rfl rfl rfl ?_
  rcases (show (x1.toInt < 0 ∨ 5 < x1.toInt) ∨ x1.toInt = 0 ∨ x1.toInt = 1 ∨ x1.toInt = 2 ∨ x1.toInt = 3 ∨ x1.toInt = 4 ∨ x1.toInt = 5 by omega) with hx | hx | hx | hx | hx | hx | hx
  · refine g_sw (t := 118) hk rfl (by unfold i_swt; rw [if_pos hx]; rfl) ?_
    have H := H.1 hx
    refine g_s1 (pc2 := 119) hk rfl rfl rfl rfl rfl ?_
    refine g_s1 (pc2 := 121) (st2 := [.int (6 : Int32), .int x1]) hk rfl rfl rfl rfl rfl ?_
    refine g_s1 (pc2 := 123) (st2 := [.int (9 : Int32), .int (6 : Int32), .int x1]) hk rfl rfl rfl rfl rfl ?_
    refine g_call hk rfl rfl i_k192.1 ⟨rfl, rfl⟩ rfl (i_rcv_0 rfl) rfl ?_
    exact H.mono (fun v h2 q => by obtain ⟨r, rfl, q⟩ := q; exact q)
  · refine g_sw (t := 40) hk rfl (by rw [hx]; rfl) ?_
    have H := H.2.1 hx
    refine g_s1 (pc2 := 41) hk rfl rfl rfl rfl rfl ?_
    refine g_s1 (pc2 := 42) hk rfl rfl rfl rfl rfl ?_
    obtain ⟨v3, ev3, H⟩ := H
    refine g_step (pc2 := 45) hk rfl rfl rfl (s_get ev3) ?_
    obtain ⟨v4, ev4, H⟩ := H
    refine g_step (pc2 := 48) hk rfl rfl rfl (s_get ev4) ?_
    obtain ⟨ho, H⟩ := H
    refine g_call hk rfl rfl i_k181.1 ⟨rfl, rfl⟩ rfl (i_rcv_v ho rfl (by decide)) rfl ?_
    exact H.mono (fun v h2 q => by obtain ⟨r, rfl, q⟩ := q; exact q)
  · refine g_sw (t := 52) hk rfl (by rw [hx]; rfl) ?_
    have H := H.2.2.1 hx
    refine g_s1 (pc2 := 53) hk rfl rfl rfl rfl rfl ?_
    refine g_s1 (pc2 := 54) hk rfl rfl rfl rfl rfl ?_
    obtain ⟨v7, ev7, H⟩ := H
    refine g_step (pc2 := 57) hk rfl rfl rfl (s_get ev7) ?_
    obtain ⟨v8, ev8, H⟩ := H
    refine g_step (pc2 := 60) hk rfl rfl rfl (s_get ev8) ?_
    obtain ⟨ho, H⟩ := H
    refine g_call hk rfl rfl i_k181.1 ⟨rfl, rfl⟩ rfl (i_rcv_v ho rfl (by decide)) rfl ?_
    exact H.mono (fun v h2 q => by obtain ⟨r, rfl, q⟩ := q; exact q)
  · refine g_sw (t := 64) hk rfl (by rw [hx]; rfl) ?_
    have H := H.2.2.2.1 hx
    refine g_s1 (pc2 := 65) hk rfl rfl rfl rfl rfl ?_
    refine g_s1 (pc2 := 66) hk rfl rfl rfl rfl rfl ?_
    obtain ⟨v11, ev11, H⟩ := H
    refine g_step (pc2 := 69) hk rfl rfl rfl (s_get ev11) ?_
    obtain ⟨v12, ev12, H⟩ := H
    refine g_step (pc2 := 72) hk rfl rfl rfl (s_get ev12) ?_
    refine g_call hk rfl rfl i_k334.1 ⟨rfl, rfl⟩ rfl (i_rcv_0 rfl) rfl ?_
    exact H.mono (fun v h2 q => by obtain ⟨r, rfl, q⟩ := q; exact q)
  · refine g_sw (t := 79) hk rfl (by rw [hx]; rfl) ?_
    have H := H.2.2.2.2.1 hx
    refine g_s1 (pc2 := 80) hk rfl rfl rfl rfl rfl ?_
    refine g_s1 (pc2 := 81) hk rfl rfl rfl rfl rfl ?_
    obtain ⟨v15, ev15, H⟩ := H
    refine g_step (pc2 := 84) hk rfl rfl rfl (s_get ev15) ?_
    obtain ⟨v16, ev16, H⟩ := H
    refine g_step (pc2 := 87) hk rfl rfl rfl (s_get ev16) ?_
    obtain ⟨ho, H⟩ := H
    refine g_call hk rfl rfl i_k181.1 ⟨rfl, rfl⟩ rfl (i_rcv_v ho rfl (by decide)) rfl ?_
    exact H.mono (fun v h2 q => by obtain ⟨r, rfl, q⟩ := q; exact q)
  · refine g_sw (t := 91) hk rfl (by rw [hx]; rfl) ?_
    have H := H.2.2.2.2.2.1 hx
    refine g_s1 (pc2 := 92) hk rfl rfl rfl rfl rfl ?_
    refine g_s1 (pc2 := 93) hk rfl rfl rfl rfl rfl ?_
    obtain ⟨v19, ev19, H⟩ := H
    refine g_step (pc2 := 96) hk rfl rfl rfl (s_get ev19) ?_
    obtain ⟨v20, ev20, H⟩ := H
    refine g_step (pc2 := 99) hk rfl rfl rfl (s_get ev20) ?_
    obtain ⟨ho, H⟩ := H
    refine g_call hk rfl rfl i_k181.1 ⟨rfl, rfl⟩ rfl (i_rcv_v ho rfl (by decide)) rfl ?_
    exact H.mono (fun v h2 q => by obtain ⟨r, rfl, q⟩ := q; exact q)
  · refine g_sw (t := 103) hk rfl (by rw [hx]; rfl) ?_
    have H := H.2.2.2.2.2.2 hx
    refine g_s1 (pc2 := 104) hk rfl rfl rfl rfl rfl ?_
    refine g_s1 (pc2 := 105) hk rfl rfl rfl rfl rfl ?_
    obtain ⟨v23, ev23, H⟩ := H
    refine g_step (pc2 := 108) hk rfl rfl rfl (s_get ev23) ?_
    obtain ⟨v24, ev24, H⟩ := H
    refine g_step (pc2 := 111) hk rfl rfl rfl (s_get ev24) ?_
    obtain ⟨v25, ev25, H⟩ := H
    refine g_step (pc2 := 114) hk rfl rfl rfl (s_get ev25) ?_
    obtain ⟨ho, H⟩ := H
    refine g_call hk rfl rfl i_k181.1 ⟨rfl, rfl⟩ rfl (i_rcv_v ho rfl (by decide)) rfl ?_
    exact H.mono (fun v h2 q => by obtain ⟨r, rfl, q⟩ := q; exact q)
theorem b140_51 {x0 : Nat} {x1 : Int32} {s0 : Int32} {h : iH} {Q : Option Value → iH → Prop} (H : Q (some (.int s0)) h) : i_P i_MT i_AT L xs 140 51 [some (.ref x0), some (.int x1)] [.int s0] h 0 0 Q := by
  have hk := i_k140
  exact g_ireturn hk rfl (by decide) (by decide) rfl H
theorem b140_63 {x0 : Nat} {x1 : Int32} {s0 : Int32} {h : iH} {Q : Option Value → iH → Prop} (H : Q (some (.int s0)) h) : i_P i_MT i_AT L xs 140 63 [some (.ref x0), some (.int x1)] [.int s0] h 0 0 Q := by
  have hk := i_k140
  exact g_ireturn hk rfl (by decide) (by decide) rfl H
theorem b140_75 {x0 : Nat} {x1 : Int32} {s0 : Nat} {s1 : Int32} {h : iH} {Q : Option Value → iH → Prop} (H : (i_obj? h s0 11 ∧ i_C i_MT i_AT L xs 181 [.ref s0, .int s1] h (fun v h1 => ∃ r2 : Int32, v = some (.int r2) ∧ i_P i_MT i_AT L xs 140 78 [some (.ref x0), some (.int x1)] [.int r2] h1 0 0 Q))) : i_P i_MT i_AT L xs 140 75 [some (.ref x0), some (.int x1)] [.int s1, .ref s0] h 0 0 Q := by
  have hk := i_k140
  obtain ⟨ho, H⟩ := H
  refine g_call hk rfl rfl i_k181.1 ⟨rfl, rfl⟩ rfl (i_rcv_v ho rfl (by decide)) rfl ?_
  exact H.mono (fun v h2 q => by obtain ⟨r, rfl, q⟩ := q; exact q)
theorem b140_78 {x0 : Nat} {x1 : Int32} {s0 : Int32} {h : iH} {Q : Option Value → iH → Prop} (H : Q (some (.int s0)) h) : i_P i_MT i_AT L xs 140 78 [some (.ref x0), some (.int x1)] [.int s0] h 0 0 Q := by
  have hk := i_k140
  exact g_ireturn hk rfl (by decide) (by decide) rfl H
theorem b140_90 {x0 : Nat} {x1 : Int32} {s0 : Int32} {h : iH} {Q : Option Value → iH → Prop} (H : Q (some (.int s0)) h) : i_P i_MT i_AT L xs 140 90 [some (.ref x0), some (.int x1)] [.int s0] h 0 0 Q := by
  have hk := i_k140
  exact g_ireturn hk rfl (by decide) (by decide) rfl H
theorem b140_102 {x0 : Nat} {x1 : Int32} {s0 : Int32} {h : iH} {Q : Option Value → iH → Prop} (H : Q (some (.int s0)) h) : i_P i_MT i_AT L xs 140 102 [some (.ref x0), some (.int x1)] [.int s0] h 0 0 Q := by
  have hk := i_k140
  exact g_ireturn hk rfl (by decide) (by decide) rfl H
theorem b140_117 {x0 : Nat} {x1 : Int32} {s0 : Int32} {h : iH} {Q : Option Value → iH → Prop} (H : Q (some (.int s0)) h) : i_P i_MT i_AT L xs 140 117 [some (.ref x0), some (.int x1)] [.int s0] h 0 0 Q := by
  have hk := i_k140
  exact g_ireturn hk rfl (by decide) (by decide) rfl H
theorem b140_126 {x0 : Nat} {x1 : Int32} {s0 : Int32} {h : iH} {Q : Option Value → iH → Prop} (H : ((¬ s0 = 0 → (∃ v1 : Nat, i_fld h x0 11 5 = some (.ref v1) ∧ (∃ v2 : Nat, i_fld h v1 8 11 = some (.ref v2) ∧ (∃ (n3 : Nat) (f4 : Nat → Int32), i_arI h 0 v2 = some (n3, f4) ∧ ¬ ((x1 - (6 : Int32)) < 0 ∨ n3 ≤ (x1 - (6 : Int32)).toNatClampNeg) ∧ (i_obj? h x0 11 ∧ i_C i_MT i_AT L xs 181 [.ref x0, .int (f4 (x1 - (6 : Int32)).toNatClampNeg)] h (fun v h5 => ∃ r6 : Int32, v = some (.int r6) ∧ i_P i_MT i_AT L xs 140 151 [some (.ref x0), some (.int x1)] [.int r6] h5 0 0 Q)))))) ∧ (¬ (¬ s0 = 0) → (i_obj? h x0 11 ∧ i_C i_MT i_AT L xs 179 [.ref x0, .int (1 : Int32)] h (fun v h7 => ∃ r8 : Int32, v = some (.int r8) ∧ i_P i_MT i_AT L xs 140 134 [some (.ref x0), some (.int x1)] [.int r8] h7 0 0 Q))))) : i_P i_MT i_AT L xs 140 126 [some (.ref x0), some (.int x1)] [.int s0] h 0 0 Q := by
  have hk := i_k140
  refine g_if_ne hk rfl (fun hc => ?_) (fun hc => ?_)
  · have H := H.1 hc
    refine g_s1 (pc2 := 136) hk rfl rfl rfl rfl rfl ?_
    refine g_s1 (pc2 := 137) hk rfl rfl rfl rfl rfl ?_
    obtain ⟨v1, ev1, H⟩ := H
    refine g_step (pc2 := 140) hk rfl rfl rfl (s_get ev1) ?_
    obtain ⟨v2, ev2, H⟩ := H
    refine g_step (pc2 := 143) hk rfl rfl rfl (s_get ev2) ?_
    refine g_s1 (pc2 := 144) hk rfl rfl rfl rfl rfl ?_
    refine g_s1 (pc2 := 146) (st2 := [.int (6 : Int32), .int x1, .ref v2, .ref x0]) hk rfl rfl rfl rfl rfl ?_
    refine g_s1 (pc2 := 147) hk rfl rfl rfl rfl rfl ?_
    obtain ⟨n3, f4, ef4, hi, H⟩ := H
    refine g_step (pc2 := 148) hk rfl rfl rfl (s_aget (L := L) (xs := xs) ef4 hi) ?_
    obtain ⟨ho, H⟩ := H
    refine g_call hk rfl rfl i_k181.1 ⟨rfl, rfl⟩ rfl (i_rcv_v ho rfl (by decide)) rfl ?_
    exact H.mono (fun v h2 q => by obtain ⟨r, rfl, q⟩ := q; exact q)
  · have H := H.2 hc
    refine g_s1 (pc2 := 130) hk rfl rfl rfl rfl rfl ?_
    refine g_s1 (pc2 := 131) (st2 := [.int (1 : Int32), .ref x0]) hk rfl rfl rfl rfl rfl ?_
    obtain ⟨ho, H⟩ := H
    refine g_call hk rfl rfl i_k179.1 ⟨rfl, rfl⟩ rfl (i_rcv_v ho rfl (by decide)) rfl ?_
    exact H.mono (fun v h2 q => by obtain ⟨r, rfl, q⟩ := q; exact q)
theorem b140_134 {x0 : Nat} {x1 : Int32} {s0 : Int32} {h : iH} {Q : Option Value → iH → Prop} (H : Q (some (.int s0)) h) : i_P i_MT i_AT L xs 140 134 [some (.ref x0), some (.int x1)] [.int s0] h 0 0 Q := by
  have hk := i_k140
  exact g_ireturn hk rfl (by decide) (by decide) rfl H
theorem b140_151 {x0 : Nat} {x1 : Int32} {s0 : Int32} {h : iH} {Q : Option Value → iH → Prop} (H : Q (some (.int s0)) h) : i_P i_MT i_AT L xs 140 151 [some (.ref x0), some (.int x1)] [.int s0] h 0 0 Q := by
  have hk := i_k140
  exact g_ireturn hk rfl (by decide) (by decide) rfl H
/-! StillTown.wall(I)I -/
theorem e141 {x0 : Nat} {x1 : Int32} {h : iH} {Q : Option Value → iH → Prop} (H : i_P i_MT i_AT L xs 141 0 [some (.ref x0), some (.int x1)] [] h 0 0 Q) : i_C i_MT i_AT L xs 141 [.ref x0, .int x1] h Q := ⟨i_m141, i_k141.1, Nat.le_of_ble_eq_true rfl, H⟩
theorem b141_0 {x0 : Nat} {x1 : Int32} {h : iH} {Q : Option Value → iH → Prop} (H : (i_obj? h x0 11 ∧ i_C i_MT i_AT L xs 188 [.ref x0, .int x1] h (fun v h1 => ∃ r2 : Int32, v = some (.int r2) ∧ i_P i_MT i_AT L xs 141 5 [some (.ref x0), some (.int x1)] [.int r2] h1 0 0 Q))) : i_P i_MT i_AT L xs 141 0 [some (.ref x0), some (.int x1)] [] h 0 0 Q := by
  have hk := i_k141
  refine g_s1 (pc2 := 1) hk rfl rfl rfl rfl rfl ?_
  refine g_s1 (pc2 := 2) hk rfl rfl rfl rfl rfl ?_
  obtain ⟨ho, H⟩ := H
  refine g_call hk rfl rfl i_k188.1 ⟨rfl, rfl⟩ rfl (i_rcv_v ho rfl (by decide)) rfl ?_
  exact H.mono (fun v h2 q => by obtain ⟨r, rfl, q⟩ := q; exact q)
theorem b141_5 {x0 : Nat} {x1 : Int32} {s0 : Int32} {h : iH} {Q : Option Value → iH → Prop} (H : ((¬ s0 = 0 → (∃ v1 : Nat, i_fld h x0 11 5 = some (.ref v1) ∧ (∃ v2 : Int64, i_fld h v1 8 2 = some (.long v2) ∧ (i_C i_MT i_AT L xs 193 [.long v2, .int x1] h (fun v h3 => ∃ r4 : Int32, v = some (.int r4) ∧ i_P i_MT i_AT L xs 141 26 [some (.ref x0), some (.int x1)] [.int r4, .ref x0] h3 0 0 Q))))) ∧ (¬ (¬ s0 = 0) → (i_obj? h x0 11 ∧ i_C i_MT i_AT L xs 179 [.ref x0, .int (1 : Int32)] h (fun v h5 => ∃ r6 : Int32, v = some (.int r6) ∧ i_P i_MT i_AT L xs 141 13 [some (.ref x0), some (.int x1)] [.int r6] h5 0 0 Q))))) : i_P i_MT i_AT L xs 141 5 [some (.ref x0), some (.int x1)] [.int s0] h 0 0 Q := by
  have hk := i_k141
  refine g_if_ne hk rfl (fun hc => ?_) (fun hc => ?_)
  · have H := H.1 hc
    refine g_s1 (pc2 := 15) hk rfl rfl rfl rfl rfl ?_
    refine g_s1 (pc2 := 16) hk rfl rfl rfl rfl rfl ?_
    obtain ⟨v1, ev1, H⟩ := H
    refine g_step (pc2 := 19) hk rfl rfl rfl (s_get ev1) ?_
    obtain ⟨v2, ev2, H⟩ := H
    refine g_step (pc2 := 22) hk rfl rfl rfl (s_get ev2) ?_
    refine g_s1 (pc2 := 23) hk rfl rfl rfl rfl rfl ?_
    refine g_call hk rfl rfl i_k193.1 ⟨rfl, rfl⟩ rfl (i_rcv_0 rfl) rfl ?_
    exact H.mono (fun v h2 q => by obtain ⟨r, rfl, q⟩ := q; exact q)
  · have H := H.2 hc
    refine g_s1 (pc2 := 9) hk rfl rfl rfl rfl rfl ?_
    refine g_s1 (pc2 := 10) (st2 := [.int (1 : Int32), .ref x0]) hk rfl rfl rfl rfl rfl ?_
    obtain ⟨ho, H⟩ := H
    refine g_call hk rfl rfl i_k179.1 ⟨rfl, rfl⟩ rfl (i_rcv_v ho rfl (by decide)) rfl ?_
    exact H.mono (fun v h2 q => by obtain ⟨r, rfl, q⟩ := q; exact q)
theorem b141_13 {x0 : Nat} {x1 : Int32} {s0 : Int32} {h : iH} {Q : Option Value → iH → Prop} (H : Q (some (.int s0)) h) : i_P i_MT i_AT L xs 141 13 [some (.ref x0), some (.int x1)] [.int s0] h 0 0 Q := by
  have hk := i_k141
  exact g_ireturn hk rfl (by decide) (by decide) rfl H
theorem b141_26 {x0 : Nat} {x1 : Int32} {s0 : Nat} {s1 : Int32} {h : iH} {Q : Option Value → iH → Prop} (H : ((s1 = 0 → i_P i_MT i_AT L xs 141 34 [some (.ref x0), some (.int x1)] [.int (0 : Int32), .ref s0] h 0 0 Q) ∧ (¬ (s1 = 0) → i_P i_MT i_AT L xs 141 34 [some (.ref x0), some (.int x1)] [.int (1 : Int32), .ref s0] h 0 0 Q))) : i_P i_MT i_AT L xs 141 26 [some (.ref x0), some (.int x1)] [.int s1, .ref s0] h 0 0 Q := by
  have hk := i_k141
  refine g_if_eq hk rfl (fun hc => ?_) (fun hc => ?_)
  · have H := H.1 hc
    refine g_s1 (pc2 := 34) (st2 := [.int (0 : Int32), .ref s0]) hk rfl rfl rfl rfl rfl ?_
    exact H
  · have H := H.2 hc
    refine g_s1 (pc2 := 30) (st2 := [.int (1 : Int32), .ref s0]) hk rfl rfl rfl rfl rfl ?_
    refine g_s1 (pc2 := 34) hk rfl rfl rfl rfl rfl ?_
    exact H
theorem b141_34 {x0 : Nat} {x1 : Int32} {s0 : Nat} {s1 : Int32} {h : iH} {Q : Option Value → iH → Prop} (H : (i_obj? h s0 11 ∧ i_C i_MT i_AT L xs 181 [.ref s0, .int s1] h (fun v h1 => ∃ r2 : Int32, v = some (.int r2) ∧ i_P i_MT i_AT L xs 141 37 [some (.ref x0), some (.int x1)] [.int r2] h1 0 0 Q))) : i_P i_MT i_AT L xs 141 34 [some (.ref x0), some (.int x1)] [.int s1, .ref s0] h 0 0 Q := by
  have hk := i_k141
  obtain ⟨ho, H⟩ := H
  refine g_call hk rfl rfl i_k181.1 ⟨rfl, rfl⟩ rfl (i_rcv_v ho rfl (by decide)) rfl ?_
  exact H.mono (fun v h2 q => by obtain ⟨r, rfl, q⟩ := q; exact q)
theorem b141_37 {x0 : Nat} {x1 : Int32} {s0 : Int32} {h : iH} {Q : Option Value → iH → Prop} (H : Q (some (.int s0)) h) : i_P i_MT i_AT L xs 141 37 [some (.ref x0), some (.int x1)] [.int s0] h 0 0 Q := by
  have hk := i_k141
  exact g_ireturn hk rfl (by decide) (by decide) rfl H
/-! StillTown.sways(I)I -/
theorem e142 {x0 : Nat} {x1 : Int32} {h : iH} {Q : Option Value → iH → Prop} (H : i_P i_MT i_AT L xs 142 0 [some (.ref x0), some (.int x1)] [] h 0 0 Q) : i_C i_MT i_AT L xs 142 [.ref x0, .int x1] h Q := ⟨i_m142, i_k142.1, Nat.le_of_ble_eq_true rfl, H⟩
theorem b142_0 {x0 : Nat} {x1 : Int32} {h : iH} {Q : Option Value → iH → Prop} (H : (i_obj? h x0 11 ∧ i_C i_MT i_AT L xs 188 [.ref x0, .int x1] h (fun v h1 => ∃ r2 : Int32, v = some (.int r2) ∧ i_P i_MT i_AT L xs 142 5 [some (.ref x0), some (.int x1)] [.int r2] h1 0 0 Q))) : i_P i_MT i_AT L xs 142 0 [some (.ref x0), some (.int x1)] [] h 0 0 Q := by
  have hk := i_k142
  refine g_s1 (pc2 := 1) hk rfl rfl rfl rfl rfl ?_
  refine g_s1 (pc2 := 2) hk rfl rfl rfl rfl rfl ?_
  obtain ⟨ho, H⟩ := H
  refine g_call hk rfl rfl i_k188.1 ⟨rfl, rfl⟩ rfl (i_rcv_v ho rfl (by decide)) rfl ?_
  exact H.mono (fun v h2 q => by obtain ⟨r, rfl, q⟩ := q; exact q)
theorem b142_5 {x0 : Nat} {x1 : Int32} {s0 : Int32} {h : iH} {Q : Option Value → iH → Prop} (H : ((¬ s0 = 0 → (∃ v1 : Nat, i_fld h x0 11 5 = some (.ref v1) ∧ (∃ v2 : Nat, i_fld h v1 8 4 = some (.ref v2) ∧ (∃ (n3 : Nat) (f4 : Nat → Int32), i_arI h 0 v2 = some (n3, f4) ∧ ¬ (x1 < 0 ∨ n3 ≤ x1.toNatClampNeg) ∧ (i_obj? h x0 11 ∧ i_C i_MT i_AT L xs 181 [.ref x0, .int (f4 x1.toNatClampNeg)] h (fun v h5 => ∃ r6 : Int32, v = some (.int r6) ∧ i_P i_MT i_AT L xs 142 27 [some (.ref x0), some (.int x1)] [.int r6] h5 0 0 Q)))))) ∧ (¬ (¬ s0 = 0) → (i_obj? h x0 11 ∧ i_C i_MT i_AT L xs 179 [.ref x0, .int (1 : Int32)] h (fun v h7 => ∃ r8 : Int32, v = some (.int r8) ∧ i_P i_MT i_AT L xs 142 13 [some (.ref x0), some (.int x1)] [.int r8] h7 0 0 Q))))) : i_P i_MT i_AT L xs 142 5 [some (.ref x0), some (.int x1)] [.int s0] h 0 0 Q := by
  have hk := i_k142
  refine g_if_ne hk rfl (fun hc => ?_) (fun hc => ?_)
  · have H := H.1 hc
    refine g_s1 (pc2 := 15) hk rfl rfl rfl rfl rfl ?_
    refine g_s1 (pc2 := 16) hk rfl rfl rfl rfl rfl ?_
    obtain ⟨v1, ev1, H⟩ := H
    refine g_step (pc2 := 19) hk rfl rfl rfl (s_get ev1) ?_
    obtain ⟨v2, ev2, H⟩ := H
    refine g_step (pc2 := 22) hk rfl rfl rfl (s_get ev2) ?_
    refine g_s1 (pc2 := 23) hk rfl rfl rfl rfl rfl ?_
    obtain ⟨n3, f4, ef4, hi, H⟩ := H
    refine g_step (pc2 := 24) hk rfl rfl rfl (s_aget (L := L) (xs := xs) ef4 hi) ?_
    obtain ⟨ho, H⟩ := H
    refine g_call hk rfl rfl i_k181.1 ⟨rfl, rfl⟩ rfl (i_rcv_v ho rfl (by decide)) rfl ?_
    exact H.mono (fun v h2 q => by obtain ⟨r, rfl, q⟩ := q; exact q)
  · have H := H.2 hc
    refine g_s1 (pc2 := 9) hk rfl rfl rfl rfl rfl ?_
    refine g_s1 (pc2 := 10) (st2 := [.int (1 : Int32), .ref x0]) hk rfl rfl rfl rfl rfl ?_
    obtain ⟨ho, H⟩ := H
    refine g_call hk rfl rfl i_k179.1 ⟨rfl, rfl⟩ rfl (i_rcv_v ho rfl (by decide)) rfl ?_
    exact H.mono (fun v h2 q => by obtain ⟨r, rfl, q⟩ := q; exact q)
theorem b142_13 {x0 : Nat} {x1 : Int32} {s0 : Int32} {h : iH} {Q : Option Value → iH → Prop} (H : Q (some (.int s0)) h) : i_P i_MT i_AT L xs 142 13 [some (.ref x0), some (.int x1)] [.int s0] h 0 0 Q := by
  have hk := i_k142
  exact g_ireturn hk rfl (by decide) (by decide) rfl H
theorem b142_27 {x0 : Nat} {x1 : Int32} {s0 : Int32} {h : iH} {Q : Option Value → iH → Prop} (H : Q (some (.int s0)) h) : i_P i_MT i_AT L xs 142 27 [some (.ref x0), some (.int x1)] [.int s0] h 0 0 Q := by
  have hk := i_k142
  exact g_ireturn hk rfl (by decide) (by decide) rfl H
/-! StillTown.cart(II)I -/
theorem e143 {x0 : Nat} {x1 : Int32} {x2 : Int32} {h : iH} {Q : Option Value → iH → Prop} (H : i_P i_MT i_AT L xs 143 0 [some (.ref x0), some (.int x1), some (.int x2)] [] h 0 0 Q) : i_C i_MT i_AT L xs 143 [.ref x0, .int x1, .int x2] h Q := ⟨i_m143, i_k143.1, Nat.le_of_ble_eq_true rfl, H⟩
theorem b143_0 {x0 : Nat} {x1 : Int32} {x2 : Int32} {h : iH} {Q : Option Value → iH → Prop} (H : (∃ v1 : Nat, i_fld h x0 11 5 = some (.ref v1) ∧ (∃ v2 : Int32, i_fld h v1 8 5 = some (.int v2) ∧ (i_C i_MT i_AT L xs 192 [.int x1, .int (0 : Int32), .int (v2 - (1 : Int32))] h (fun v h3 => ∃ r4 : Int32, v = some (.int r4) ∧ i_P i_MT i_AT L xs 143 14 [some (.ref x0), some (.int x1), some (.int x2)] [.int r4] h3 0 0 Q))))) : i_P i_MT i_AT L xs 143 0 [some (.ref x0), some (.int x1), some (.int x2)] [] h 0 0 Q := by
  have hk := i_k143
  refine g_s1 (pc2 := 1) hk rfl rfl rfl rfl rfl ?_
  refine g_s1 (pc2 := 2) (st2 := [.int (0 : Int32), .int x1]) hk rfl rfl rfl rfl rfl ?_
  refine g_s1 (pc2 := 3) hk rfl rfl rfl rfl rfl ?_
  obtain ⟨v1, ev1, H⟩ := H
  refine g_step (pc2 := 6) hk rfl rfl rfl (s_get ev1) ?_
  obtain ⟨v2, ev2, H⟩ := H
  refine g_step (pc2 := 9) hk rfl rfl rfl (s_get ev2) ?_
  refine g_s1 (pc2 := 10) (st2 := [.int (1 : Int32), .int v2, .int (0 : Int32), .int x1]) hk rfl rfl rfl rfl rfl ?_
  refine g_s1 (pc2 := 11) hk rfl rfl rfl rfl rfl ?_
  refine g_call hk rfl rfl i_k192.1 ⟨rfl, rfl⟩ rfl (i_rcv_0 rfl) rfl ?_
  exact H.mono (fun v h2 q => by obtain ⟨r, rfl, q⟩ := q; exact q)
theorem b143_14 {x0 : Nat} {x1 : Int32} {x2 : Int32} {s0 : Int32} {h : iH} {Q : Option Value → iH → Prop} (H : ((s0 = 0 → i_P i_MT i_AT L xs 143 24 [some (.ref x0), some (.int x1), some (.int x2)] [] h 0 0 Q) ∧ (¬ (s0 = 0) → (i_C i_MT i_AT L xs 190 [.int x2] h (fun v h1 => ∃ r2 : Int32, v = some (.int r2) ∧ i_P i_MT i_AT L xs 143 21 [some (.ref x0), some (.int x1), some (.int x2)] [.int r2] h1 0 0 Q))))) : i_P i_MT i_AT L xs 143 14 [some (.ref x0), some (.int x1), some (.int x2)] [.int s0] h 0 0 Q := by
  have hk := i_k143
  refine g_if_eq hk rfl (fun hc => ?_) (fun hc => ?_)
  · have H := H.1 hc
    exact H
  · have H := H.2 hc
    refine g_s1 (pc2 := 18) hk rfl rfl rfl rfl rfl ?_
    refine g_call hk rfl rfl i_k190.1 ⟨rfl, rfl⟩ rfl (i_rcv_0 rfl) rfl ?_
    exact H.mono (fun v h2 q => by obtain ⟨r, rfl, q⟩ := q; exact q)
theorem b143_21 {x0 : Nat} {x1 : Int32} {x2 : Int32} {s0 : Int32} {h : iH} {Q : Option Value → iH → Prop} (H : ((¬ s0 = 0 → (∃ v1 : Nat, i_fld h x0 11 11 = some (.ref v1) ∧ (i_obj? h v1 0 ∧ i_C i_MT i_AT L xs 7 [.ref v1, .int x1, .int x2] h (fun v h2 => ∃ r3 : Int32, v = some (.int r3) ∧ i_P i_MT i_AT L xs 143 40 [some (.ref x0), some (.int x1), some (.int x2)] [.int r3, .ref x0] h2 0 0 Q)))) ∧ (¬ (¬ s0 = 0) → i_P i_MT i_AT L xs 143 24 [some (.ref x0), some (.int x1), some (.int x2)] [] h 0 0 Q))) : i_P i_MT i_AT L xs 143 21 [some (.ref x0), some (.int x1), some (.int x2)] [.int s0] h 0 0 Q := by
  have hk := i_k143
  refine g_if_ne hk rfl (fun hc => ?_) (fun hc => ?_)
  · have H := H.1 hc
    refine g_s1 (pc2 := 31) hk rfl rfl rfl rfl rfl ?_
    refine g_s1 (pc2 := 32) hk rfl rfl rfl rfl rfl ?_
    obtain ⟨v1, ev1, H⟩ := H
    refine g_step (pc2 := 35) hk rfl rfl rfl (s_get ev1) ?_
    refine g_s1 (pc2 := 36) hk rfl rfl rfl rfl rfl ?_
    refine g_s1 (pc2 := 37) hk rfl rfl rfl rfl rfl ?_
    obtain ⟨ho, H⟩ := H
    refine g_call hk rfl rfl i_k7.1 ⟨rfl, rfl⟩ rfl (i_rcv_v ho rfl (by decide)) rfl ?_
    exact H.mono (fun v h2 q => by obtain ⟨r, rfl, q⟩ := q; exact q)
  · have H := H.2 hc
    exact H
theorem b143_24 {x0 : Nat} {x1 : Int32} {x2 : Int32} {h : iH} {Q : Option Value → iH → Prop} (H : (i_obj? h x0 11 ∧ i_C i_MT i_AT L xs 179 [.ref x0, .int (1 : Int32)] h (fun v h1 => ∃ r2 : Int32, v = some (.int r2) ∧ i_P i_MT i_AT L xs 143 29 [some (.ref x0), some (.int x1), some (.int x2)] [.int r2] h1 0 0 Q))) : i_P i_MT i_AT L xs 143 24 [some (.ref x0), some (.int x1), some (.int x2)] [] h 0 0 Q := by
  have hk := i_k143
  refine g_s1 (pc2 := 25) hk rfl rfl rfl rfl rfl ?_
  refine g_s1 (pc2 := 26) (st2 := [.int (1 : Int32), .ref x0]) hk rfl rfl rfl rfl rfl ?_
  obtain ⟨ho, H⟩ := H
  refine g_call hk rfl rfl i_k179.1 ⟨rfl, rfl⟩ rfl (i_rcv_v ho rfl (by decide)) rfl ?_
  exact H.mono (fun v h2 q => by obtain ⟨r, rfl, q⟩ := q; exact q)
theorem b143_29 {x0 : Nat} {x1 : Int32} {x2 : Int32} {s0 : Int32} {h : iH} {Q : Option Value → iH → Prop} (H : Q (some (.int s0)) h) : i_P i_MT i_AT L xs 143 29 [some (.ref x0), some (.int x1), some (.int x2)] [.int s0] h 0 0 Q := by
  have hk := i_k143
  exact g_ireturn hk rfl (by decide) (by decide) rfl H
theorem b143_40 {x0 : Nat} {x1 : Int32} {x2 : Int32} {s0 : Nat} {s1 : Int32} {h : iH} {Q : Option Value → iH → Prop} (H : (i_obj? h s0 11 ∧ i_C i_MT i_AT L xs 181 [.ref s0, .int s1] h (fun v h1 => ∃ r2 : Int32, v = some (.int r2) ∧ i_P i_MT i_AT L xs 143 43 [some (.ref x0), some (.int x1), some (.int x2)] [.int r2] h1 0 0 Q))) : i_P i_MT i_AT L xs 143 40 [some (.ref x0), some (.int x1), some (.int x2)] [.int s1, .ref s0] h 0 0 Q := by
  have hk := i_k143
  obtain ⟨ho, H⟩ := H
  refine g_call hk rfl rfl i_k181.1 ⟨rfl, rfl⟩ rfl (i_rcv_v ho rfl (by decide)) rfl ?_
  exact H.mono (fun v h2 q => by obtain ⟨r, rfl, q⟩ := q; exact q)
theorem b143_43 {x0 : Nat} {x1 : Int32} {x2 : Int32} {s0 : Int32} {h : iH} {Q : Option Value → iH → Prop} (H : Q (some (.int s0)) h) : i_P i_MT i_AT L xs 143 43 [some (.ref x0), some (.int x1), some (.int x2)] [.int s0] h 0 0 Q := by
  have hk := i_k143
  exact g_ireturn hk rfl (by decide) (by decide) rfl H
/-! StillTown.lamp(I)I -/
theorem e144 {x0 : Nat} {x1 : Int32} {h : iH} {Q : Option Value → iH → Prop} (H : i_P i_MT i_AT L xs 144 0 [some (.ref x0), some (.int x1)] [] h 0 0 Q) : i_C i_MT i_AT L xs 144 [.ref x0, .int x1] h Q := ⟨i_m144, i_k144.1, Nat.le_of_ble_eq_true rfl, H⟩
theorem b144_0 {x0 : Nat} {x1 : Int32} {h : iH} {Q : Option Value → iH → Prop} (H : (∃ v1 : Nat, i_fld h x0 11 5 = some (.ref v1) ∧ (∃ v2 : Int32, i_fld h v1 8 9 = some (.int v2) ∧ (i_C i_MT i_AT L xs 192 [.int x1, .int (0 : Int32), .int (v2 - (1 : Int32))] h (fun v h3 => ∃ r4 : Int32, v = some (.int r4) ∧ i_P i_MT i_AT L xs 144 14 [some (.ref x0), some (.int x1)] [.int r4] h3 0 0 Q))))) : i_P i_MT i_AT L xs 144 0 [some (.ref x0), some (.int x1)] [] h 0 0 Q := by
  have hk := i_k144
  refine g_s1 (pc2 := 1) hk rfl rfl rfl rfl rfl ?_
  refine g_s1 (pc2 := 2) (st2 := [.int (0 : Int32), .int x1]) hk rfl rfl rfl rfl rfl ?_
  refine g_s1 (pc2 := 3) hk rfl rfl rfl rfl rfl ?_
  obtain ⟨v1, ev1, H⟩ := H
  refine g_step (pc2 := 6) hk rfl rfl rfl (s_get ev1) ?_
  obtain ⟨v2, ev2, H⟩ := H
  refine g_step (pc2 := 9) hk rfl rfl rfl (s_get ev2) ?_
  refine g_s1 (pc2 := 10) (st2 := [.int (1 : Int32), .int v2, .int (0 : Int32), .int x1]) hk rfl rfl rfl rfl rfl ?_
  refine g_s1 (pc2 := 11) hk rfl rfl rfl rfl rfl ?_
  refine g_call hk rfl rfl i_k192.1 ⟨rfl, rfl⟩ rfl (i_rcv_0 rfl) rfl ?_
  exact H.mono (fun v h2 q => by obtain ⟨r, rfl, q⟩ := q; exact q)
theorem b144_14 {x0 : Nat} {x1 : Int32} {s0 : Int32} {h : iH} {Q : Option Value → iH → Prop} (H : ((¬ s0 = 0 → (∃ v1 : Nat, i_fld h x0 11 5 = some (.ref v1) ∧ (∃ v2 : Nat, i_fld h v1 8 10 = some (.ref v2) ∧ (∃ (n3 : Nat) (f4 : Nat → Int32), i_arI h 0 v2 = some (n3, f4) ∧ ¬ (x1 < 0 ∨ n3 ≤ x1.toNatClampNeg) ∧ (i_obj? h x0 11 ∧ i_C i_MT i_AT L xs 181 [.ref x0, .int (f4 x1.toNatClampNeg)] h (fun v h5 => ∃ r6 : Int32, v = some (.int r6) ∧ i_P i_MT i_AT L xs 144 36 [some (.ref x0), some (.int x1)] [.int r6] h5 0 0 Q)))))) ∧ (¬ (¬ s0 = 0) → (i_obj? h x0 11 ∧ i_C i_MT i_AT L xs 179 [.ref x0, .int (1 : Int32)] h (fun v h7 => ∃ r8 : Int32, v = some (.int r8) ∧ i_P i_MT i_AT L xs 144 22 [some (.ref x0), some (.int x1)] [.int r8] h7 0 0 Q))))) : i_P i_MT i_AT L xs 144 14 [some (.ref x0), some (.int x1)] [.int s0] h 0 0 Q := by
  have hk := i_k144
  refine g_if_ne hk rfl (fun hc => ?_) (fun hc => ?_)
  · have H := H.1 hc
    refine g_s1 (pc2 := 24) hk rfl rfl rfl rfl rfl ?_
    refine g_s1 (pc2 := 25) hk rfl rfl rfl rfl rfl ?_
    obtain ⟨v1, ev1, H⟩ := H
    refine g_step (pc2 := 28) hk rfl rfl rfl (s_get ev1) ?_
    obtain ⟨v2, ev2, H⟩ := H
    refine g_step (pc2 := 31) hk rfl rfl rfl (s_get ev2) ?_
    refine g_s1 (pc2 := 32) hk rfl rfl rfl rfl rfl ?_
    obtain ⟨n3, f4, ef4, hi, H⟩ := H
    refine g_step (pc2 := 33) hk rfl rfl rfl (s_aget (L := L) (xs := xs) ef4 hi) ?_
    obtain ⟨ho, H⟩ := H
    refine g_call hk rfl rfl i_k181.1 ⟨rfl, rfl⟩ rfl (i_rcv_v ho rfl (by decide)) rfl ?_
    exact H.mono (fun v h2 q => by obtain ⟨r, rfl, q⟩ := q; exact q)
  · have H := H.2 hc
    refine g_s1 (pc2 := 18) hk rfl rfl rfl rfl rfl ?_
    refine g_s1 (pc2 := 19) (st2 := [.int (1 : Int32), .ref x0]) hk rfl rfl rfl rfl rfl ?_
    obtain ⟨ho, H⟩ := H
    refine g_call hk rfl rfl i_k179.1 ⟨rfl, rfl⟩ rfl (i_rcv_v ho rfl (by decide)) rfl ?_
    exact H.mono (fun v h2 q => by obtain ⟨r, rfl, q⟩ := q; exact q)
theorem b144_22 {x0 : Nat} {x1 : Int32} {s0 : Int32} {h : iH} {Q : Option Value → iH → Prop} (H : Q (some (.int s0)) h) : i_P i_MT i_AT L xs 144 22 [some (.ref x0), some (.int x1)] [.int s0] h 0 0 Q := by
  have hk := i_k144
  exact g_ireturn hk rfl (by decide) (by decide) rfl H
theorem b144_36 {x0 : Nat} {x1 : Int32} {s0 : Int32} {h : iH} {Q : Option Value → iH → Prop} (H : Q (some (.int s0)) h) : i_P i_MT i_AT L xs 144 36 [some (.ref x0), some (.int x1)] [.int s0] h 0 0 Q := by
  have hk := i_k144
  exact g_ireturn hk rfl (by decide) (by decide) rfl H
/-! StillTown.person(II)I -/
theorem e145 {x0 : Nat} {x1 : Int32} {x2 : Int32} {h : iH} {Q : Option Value → iH → Prop} (H : i_P i_MT i_AT L xs 145 0 [some (.ref x0), some (.int x1), some (.int x2)] [] h 0 0 Q) : i_C i_MT i_AT L xs 145 [.ref x0, .int x1, .int x2] h Q := ⟨i_m145, i_k145.1, Nat.le_of_ble_eq_true rfl, H⟩
theorem b145_0 {x0 : Nat} {x1 : Int32} {x2 : Int32} {h : iH} {Q : Option Value → iH → Prop} (H : (i_obj? h x0 11 ∧ i_C i_MT i_AT L xs 186 [.ref x0, .int x1] h (fun v h1 => ∃ r2 : Int32, v = some (.int r2) ∧ i_P i_MT i_AT L xs 145 5 [some (.ref x0), some (.int x1), some (.int x2)] [.int r2] h1 0 0 Q))) : i_P i_MT i_AT L xs 145 0 [some (.ref x0), some (.int x1), some (.int x2)] [] h 0 0 Q := by
  have hk := i_k145
  refine g_s1 (pc2 := 1) hk rfl rfl rfl rfl rfl ?_
  refine g_s1 (pc2 := 2) hk rfl rfl rfl rfl rfl ?_
  obtain ⟨ho, H⟩ := H
  refine g_call hk rfl rfl i_k186.1 ⟨rfl, rfl⟩ rfl (i_rcv_v ho rfl (by decide)) rfl ?_
  exact H.mono (fun v h2 q => by obtain ⟨r, rfl, q⟩ := q; exact q)
theorem b145_5 {x0 : Nat} {x1 : Int32} {x2 : Int32} {s0 : Int32} {h : iH} {Q : Option Value → iH → Prop} (H : ((s0 = 0 → i_P i_MT i_AT L xs 145 17 [some (.ref x0), some (.int x1), some (.int x2)] [] h 0 0 Q) ∧ (¬ (s0 = 0) → (i_C i_MT i_AT L xs 192 [.int x2, .int (0 : Int32), .int (2 : Int32)] h (fun v h1 => ∃ r2 : Int32, v = some (.int r2) ∧ i_P i_MT i_AT L xs 145 14 [some (.ref x0), some (.int x1), some (.int x2)] [.int r2] h1 0 0 Q))))) : i_P i_MT i_AT L xs 145 5 [some (.ref x0), some (.int x1), some (.int x2)] [.int s0] h 0 0 Q := by
  have hk := i_k145
  refine g_if_eq hk rfl (fun hc => ?_) (fun hc => ?_)
  · have H := H.1 hc
    exact H
  · have H := H.2 hc
    refine g_s1 (pc2 := 9) hk rfl rfl rfl rfl rfl ?_
    refine g_s1 (pc2 := 10) (st2 := [.int (0 : Int32), .int x2]) hk rfl rfl rfl rfl rfl ?_
    refine g_s1 (pc2 := 11) (st2 := [.int (2 : Int32), .int (0 : Int32), .int x2]) hk rfl rfl rfl rfl rfl ?_
    refine g_call hk rfl rfl i_k192.1 ⟨rfl, rfl⟩ rfl (i_rcv_0 rfl) rfl ?_
    exact H.mono (fun v h2 q => by obtain ⟨r, rfl, q⟩ := q; exact q)
theorem b145_14 {x0 : Nat} {x1 : Int32} {x2 : Int32} {s0 : Int32} {h : iH} {Q : Option Value → iH → Prop} (H : ((¬ s0 = 0 → ((¬ x2 = 0 → ((¬ x2 = (1 : Int32) → (∃ v1 : Nat, i_fld h x0 11 5 = some (.ref v1) ∧ (∃ v2 : Nat, i_fld h v1 8 12 = some (.ref v2) ∧ (∃ v3 : Nat, i_fld h v2 3 6 = some (.ref v3) ∧ (∃ (n4 : Nat) (f5 : Nat → Int32), i_arI h 0 v3 = some (n4, f5) ∧ ¬ (x1 < 0 ∨ n4 ≤ x1.toNatClampNeg) ∧ i_P i_MT i_AT L xs 145 77 [some (.ref x0), some (.int x1), some (.int x2)] [.int (f5 x1.toNatClampNeg), .ref x0] h 0 0 Q))))) ∧ (¬ (¬ x2 = (1 : Int32)) → (∃ v6 : Nat, i_fld h x0 11 5 = some (.ref v6) ∧ (∃ v7 : Nat, i_fld h v6 8 12 = some (.ref v7) ∧ (∃ v8 : Nat, i_fld h v7 3 5 = some (.ref v8) ∧ (∃ (n9 : Nat) (f10 : Nat → Int32), i_arI h 0 v8 = some (n9, f10) ∧ ¬ (x1 < 0 ∨ n9 ≤ x1.toNatClampNeg) ∧ i_P i_MT i_AT L xs 145 77 [some (.ref x0), some (.int x1), some (.int x2)] [.int (f10 x1.toNatClampNeg), .ref x0] h 0 0 Q))))))) ∧ (¬ (¬ x2 = 0) → (∃ v11 : Nat, i_fld h x0 11 5 = some (.ref v11) ∧ (∃ v12 : Nat, i_fld h v11 8 12 = some (.ref v12) ∧ (∃ v13 : Nat, i_fld h v12 3 4 = some (.ref v13) ∧ (∃ (n14 : Nat) (f15 : Nat → Int32), i_arI h 0 v13 = some (n14, f15) ∧ ¬ (x1 < 0 ∨ n14 ≤ x1.toNatClampNeg) ∧ (i_obj? h x0 11 ∧ i_C i_MT i_AT L xs 181 [.ref x0, .int (f15 x1.toNatClampNeg)] h (fun v h16 => ∃ r17 : Int32, v = some (.int r17) ∧ i_P i_MT i_AT L xs 145 43 [some (.ref x0), some (.int x1), some (.int x2)] [.int r17] h16 0 0 Q))))))))) ∧ (¬ (¬ s0 = 0) → i_P i_MT i_AT L xs 145 17 [some (.ref x0), some (.int x1), some (.int x2)] [] h 0 0 Q))) : i_P i_MT i_AT L xs 145 14 [some (.ref x0), some (.int x1), some (.int x2)] [.int s0] h 0 0 Q := by
  have hk := i_k145
  refine g_if_ne hk rfl (fun hc => ?_) (fun hc => ?_)
  · have H := H.1 hc
    refine g_s1 (pc2 := 24) hk rfl rfl rfl rfl rfl ?_
    refine g_if_ne hk rfl (fun hc => ?_) (fun hc => ?_)
    · have H := H.1 hc
      refine g_s1 (pc2 := 45) hk rfl rfl rfl rfl rfl ?_
      refine g_s1 (pc2 := 46) hk rfl rfl rfl rfl rfl ?_
      refine g_s1 (pc2 := 47) (st2 := [.int (1 : Int32), .int x2, .ref x0]) hk rfl rfl rfl rfl rfl ?_
      refine g_icmp_ne hk rfl (fun hc => ?_) (fun hc => ?_)
      · have H := H.1 hc
        refine g_s1 (pc2 := 66) hk rfl rfl rfl rfl rfl ?_
        obtain ⟨v1, ev1, H⟩ := H
        refine g_step (pc2 := 69) hk rfl rfl rfl (s_get ev1) ?_
        obtain ⟨v2, ev2, H⟩ := H
        refine g_step (pc2 := 72) hk rfl rfl rfl (s_get ev2) ?_
        obtain ⟨v3, ev3, H⟩ := H
        refine g_step (pc2 := 75) hk rfl rfl rfl (s_get ev3) ?_
        refine g_s1 (pc2 := 76) hk rfl rfl rfl rfl rfl ?_
        obtain ⟨n4, f5, ef5, hi, H⟩ := H
        refine g_step (pc2 := 77) hk rfl rfl rfl (s_aget (L := L) (xs := xs) ef5 hi) ?_
        exact H
      · have H := H.2 hc
        refine g_s1 (pc2 := 51) hk rfl rfl rfl rfl rfl ?_
        obtain ⟨v6, ev6, H⟩ := H
        refine g_step (pc2 := 54) hk rfl rfl rfl (s_get ev6) ?_
        obtain ⟨v7, ev7, H⟩ := H
        refine g_step (pc2 := 57) hk rfl rfl rfl (s_get ev7) ?_
        obtain ⟨v8, ev8, H⟩ := H
        refine g_step (pc2 := 60) hk rfl rfl rfl (s_get ev8) ?_
        refine g_s1 (pc2 := 61) hk rfl rfl rfl rfl rfl ?_
        obtain ⟨n9, f10, ef10, hi, H⟩ := H
        refine g_step (pc2 := 62) hk rfl rfl rfl (s_aget (L := L) (xs := xs) ef10 hi) ?_
        refine g_s1 (pc2 := 77) hk rfl rfl rfl rfl rfl ?_
        exact H
    · have H := H.2 hc
      refine g_s1 (pc2 := 28) hk rfl rfl rfl rfl rfl ?_
      refine g_s1 (pc2 := 29) hk rfl rfl rfl rfl rfl ?_
      obtain ⟨v11, ev11, H⟩ := H
      refine g_step (pc2 := 32) hk rfl rfl rfl (s_get ev11) ?_
      obtain ⟨v12, ev12, H⟩ := H
      refine g_step (pc2 := 35) hk rfl rfl rfl (s_get ev12) ?_
      obtain ⟨v13, ev13, H⟩ := H
      refine g_step (pc2 := 38) hk rfl rfl rfl (s_get ev13) ?_
      refine g_s1 (pc2 := 39) hk rfl rfl rfl rfl rfl ?_
      obtain ⟨n14, f15, ef15, hi, H⟩ := H
      refine g_step (pc2 := 40) hk rfl rfl rfl (s_aget (L := L) (xs := xs) ef15 hi) ?_
      obtain ⟨ho, H⟩ := H
      refine g_call hk rfl rfl i_k181.1 ⟨rfl, rfl⟩ rfl (i_rcv_v ho rfl (by decide)) rfl ?_
      exact H.mono (fun v h2 q => by obtain ⟨r, rfl, q⟩ := q; exact q)
  · have H := H.2 hc
    exact H
theorem b145_17 {x0 : Nat} {x1 : Int32} {x2 : Int32} {h : iH} {Q : Option Value → iH → Prop} (H : (i_obj? h x0 11 ∧ i_C i_MT i_AT L xs 179 [.ref x0, .int (1 : Int32)] h (fun v h1 => ∃ r2 : Int32, v = some (.int r2) ∧ i_P i_MT i_AT L xs 145 22 [some (.ref x0), some (.int x1), some (.int x2)] [.int r2] h1 0 0 Q))) : i_P i_MT i_AT L xs 145 17 [some (.ref x0), some (.int x1), some (.int x2)] [] h 0 0 Q := by
  have hk := i_k145
  refine g_s1 (pc2 := 18) hk rfl rfl rfl rfl rfl ?_
  refine g_s1 (pc2 := 19) (st2 := [.int (1 : Int32), .ref x0]) hk rfl rfl rfl rfl rfl ?_
  obtain ⟨ho, H⟩ := H
  refine g_call hk rfl rfl i_k179.1 ⟨rfl, rfl⟩ rfl (i_rcv_v ho rfl (by decide)) rfl ?_
  exact H.mono (fun v h2 q => by obtain ⟨r, rfl, q⟩ := q; exact q)
theorem b145_22 {x0 : Nat} {x1 : Int32} {x2 : Int32} {s0 : Int32} {h : iH} {Q : Option Value → iH → Prop} (H : Q (some (.int s0)) h) : i_P i_MT i_AT L xs 145 22 [some (.ref x0), some (.int x1), some (.int x2)] [.int s0] h 0 0 Q := by
  have hk := i_k145
  exact g_ireturn hk rfl (by decide) (by decide) rfl H
theorem b145_43 {x0 : Nat} {x1 : Int32} {x2 : Int32} {s0 : Int32} {h : iH} {Q : Option Value → iH → Prop} (H : Q (some (.int s0)) h) : i_P i_MT i_AT L xs 145 43 [some (.ref x0), some (.int x1), some (.int x2)] [.int s0] h 0 0 Q := by
  have hk := i_k145
  exact g_ireturn hk rfl (by decide) (by decide) rfl H
theorem b145_77 {x0 : Nat} {x1 : Int32} {x2 : Int32} {s0 : Nat} {s1 : Int32} {h : iH} {Q : Option Value → iH → Prop} (H : (i_obj? h s0 11 ∧ i_C i_MT i_AT L xs 181 [.ref s0, .int s1] h (fun v h1 => ∃ r2 : Int32, v = some (.int r2) ∧ i_P i_MT i_AT L xs 145 80 [some (.ref x0), some (.int x1), some (.int x2)] [.int r2] h1 0 0 Q))) : i_P i_MT i_AT L xs 145 77 [some (.ref x0), some (.int x1), some (.int x2)] [.int s1, .ref s0] h 0 0 Q := by
  have hk := i_k145
  obtain ⟨ho, H⟩ := H
  refine g_call hk rfl rfl i_k181.1 ⟨rfl, rfl⟩ rfl (i_rcv_v ho rfl (by decide)) rfl ?_
  exact H.mono (fun v h2 q => by obtain ⟨r, rfl, q⟩ := q; exact q)
theorem b145_80 {x0 : Nat} {x1 : Int32} {x2 : Int32} {s0 : Int32} {h : iH} {Q : Option Value → iH → Prop} (H : Q (some (.int s0)) h) : i_P i_MT i_AT L xs 145 80 [some (.ref x0), some (.int x1), some (.int x2)] [.int s0] h 0 0 Q := by
  have hk := i_k145
  exact g_ireturn hk rfl (by decide) (by decide) rfl H
/-! StillTown.at(II)I -/
theorem e146 {x0 : Nat} {x1 : Int32} {x2 : Int32} {h : iH} {Q : Option Value → iH → Prop} (H : i_P i_MT i_AT L xs 146 0 [some (.ref x0), some (.int x1), some (.int x2)] [] h 0 0 Q) : i_C i_MT i_AT L xs 146 [.ref x0, .int x1, .int x2] h Q := ⟨i_m146, i_k146.1, Nat.le_of_ble_eq_true rfl, H⟩
theorem b146_0 {x0 : Nat} {x1 : Int32} {x2 : Int32} {h : iH} {Q : Option Value → iH → Prop} (H : (i_obj? h x0 11 ∧ i_C i_MT i_AT L xs 186 [.ref x0, .int x1] h (fun v h1 => ∃ r2 : Int32, v = some (.int r2) ∧ i_P i_MT i_AT L xs 146 5 [some (.ref x0), some (.int x1), some (.int x2)] [.int r2] h1 0 0 Q))) : i_P i_MT i_AT L xs 146 0 [some (.ref x0), some (.int x1), some (.int x2)] [] h 0 0 Q := by
  have hk := i_k146
  refine g_s1 (pc2 := 1) hk rfl rfl rfl rfl rfl ?_
  refine g_s1 (pc2 := 2) hk rfl rfl rfl rfl rfl ?_
  obtain ⟨ho, H⟩ := H
  refine g_call hk rfl rfl i_k186.1 ⟨rfl, rfl⟩ rfl (i_rcv_v ho rfl (by decide)) rfl ?_
  exact H.mono (fun v h2 q => by obtain ⟨r, rfl, q⟩ := q; exact q)
theorem b146_5 {x0 : Nat} {x1 : Int32} {x2 : Int32} {s0 : Int32} {h : iH} {Q : Option Value → iH → Prop} (H : ((s0 = 0 → i_P i_MT i_AT L xs 146 15 [some (.ref x0), some (.int x1), some (.int x2)] [] h 0 0 Q) ∧ (¬ (s0 = 0) → (i_C i_MT i_AT L xs 190 [.int x2] h (fun v h1 => ∃ r2 : Int32, v = some (.int r2) ∧ i_P i_MT i_AT L xs 146 12 [some (.ref x0), some (.int x1), some (.int x2)] [.int r2] h1 0 0 Q))))) : i_P i_MT i_AT L xs 146 5 [some (.ref x0), some (.int x1), some (.int x2)] [.int s0] h 0 0 Q := by
  have hk := i_k146
  refine g_if_eq hk rfl (fun hc => ?_) (fun hc => ?_)
  · have H := H.1 hc
    exact H
  · have H := H.2 hc
    refine g_s1 (pc2 := 9) hk rfl rfl rfl rfl rfl ?_
    refine g_call hk rfl rfl i_k190.1 ⟨rfl, rfl⟩ rfl (i_rcv_0 rfl) rfl ?_
    exact H.mono (fun v h2 q => by obtain ⟨r, rfl, q⟩ := q; exact q)
theorem b146_12 {x0 : Nat} {x1 : Int32} {x2 : Int32} {s0 : Int32} {h : iH} {Q : Option Value → iH → Prop} (H : ((¬ s0 = 0 → (∃ v1 : Nat, i_fld h x0 11 11 = some (.ref v1) ∧ (i_obj? h v1 0 ∧ i_C i_MT i_AT L xs 4 [.ref v1, .int x1, .int x2] h (fun v h2 => ∃ r3 : Int32, v = some (.int r3) ∧ i_P i_MT i_AT L xs 146 31 [some (.ref x0), some (.int x1), some (.int x2)] [.int r3, .ref x0] h2 0 0 Q)))) ∧ (¬ (¬ s0 = 0) → i_P i_MT i_AT L xs 146 15 [some (.ref x0), some (.int x1), some (.int x2)] [] h 0 0 Q))) : i_P i_MT i_AT L xs 146 12 [some (.ref x0), some (.int x1), some (.int x2)] [.int s0] h 0 0 Q := by
  have hk := i_k146
  refine g_if_ne hk rfl (fun hc => ?_) (fun hc => ?_)
  · have H := H.1 hc
    refine g_s1 (pc2 := 22) hk rfl rfl rfl rfl rfl ?_
    refine g_s1 (pc2 := 23) hk rfl rfl rfl rfl rfl ?_
    obtain ⟨v1, ev1, H⟩ := H
    refine g_step (pc2 := 26) hk rfl rfl rfl (s_get ev1) ?_
    refine g_s1 (pc2 := 27) hk rfl rfl rfl rfl rfl ?_
    refine g_s1 (pc2 := 28) hk rfl rfl rfl rfl rfl ?_
    obtain ⟨ho, H⟩ := H
    refine g_call hk rfl rfl i_k4.1 ⟨rfl, rfl⟩ rfl (i_rcv_v ho rfl (by decide)) rfl ?_
    exact H.mono (fun v h2 q => by obtain ⟨r, rfl, q⟩ := q; exact q)
  · have H := H.2 hc
    exact H
theorem b146_15 {x0 : Nat} {x1 : Int32} {x2 : Int32} {h : iH} {Q : Option Value → iH → Prop} (H : (i_obj? h x0 11 ∧ i_C i_MT i_AT L xs 179 [.ref x0, .int (1 : Int32)] h (fun v h1 => ∃ r2 : Int32, v = some (.int r2) ∧ i_P i_MT i_AT L xs 146 20 [some (.ref x0), some (.int x1), some (.int x2)] [.int r2] h1 0 0 Q))) : i_P i_MT i_AT L xs 146 15 [some (.ref x0), some (.int x1), some (.int x2)] [] h 0 0 Q := by
  have hk := i_k146
  refine g_s1 (pc2 := 16) hk rfl rfl rfl rfl rfl ?_
  refine g_s1 (pc2 := 17) (st2 := [.int (1 : Int32), .ref x0]) hk rfl rfl rfl rfl rfl ?_
  obtain ⟨ho, H⟩ := H
  refine g_call hk rfl rfl i_k179.1 ⟨rfl, rfl⟩ rfl (i_rcv_v ho rfl (by decide)) rfl ?_
  exact H.mono (fun v h2 q => by obtain ⟨r, rfl, q⟩ := q; exact q)
theorem b146_20 {x0 : Nat} {x1 : Int32} {x2 : Int32} {s0 : Int32} {h : iH} {Q : Option Value → iH → Prop} (H : Q (some (.int s0)) h) : i_P i_MT i_AT L xs 146 20 [some (.ref x0), some (.int x1), some (.int x2)] [.int s0] h 0 0 Q := by
  have hk := i_k146
  exact g_ireturn hk rfl (by decide) (by decide) rfl H
theorem b146_31 {x0 : Nat} {x1 : Int32} {x2 : Int32} {s0 : Nat} {s1 : Int32} {h : iH} {Q : Option Value → iH → Prop} (H : (i_obj? h s0 11 ∧ i_C i_MT i_AT L xs 181 [.ref s0, .int s1] h (fun v h1 => ∃ r2 : Int32, v = some (.int r2) ∧ i_P i_MT i_AT L xs 146 34 [some (.ref x0), some (.int x1), some (.int x2)] [.int r2] h1 0 0 Q))) : i_P i_MT i_AT L xs 146 31 [some (.ref x0), some (.int x1), some (.int x2)] [.int s1, .ref s0] h 0 0 Q := by
  have hk := i_k146
  obtain ⟨ho, H⟩ := H
  refine g_call hk rfl rfl i_k181.1 ⟨rfl, rfl⟩ rfl (i_rcv_v ho rfl (by decide)) rfl ?_
  exact H.mono (fun v h2 q => by obtain ⟨r, rfl, q⟩ := q; exact q)
theorem b146_34 {x0 : Nat} {x1 : Int32} {x2 : Int32} {s0 : Int32} {h : iH} {Q : Option Value → iH → Prop} (H : Q (some (.int s0)) h) : i_P i_MT i_AT L xs 146 34 [some (.ref x0), some (.int x1), some (.int x2)] [.int s0] h 0 0 Q := by
  have hk := i_k146
  exact g_ireturn hk rfl (by decide) (by decide) rfl H
/-! StillTown.looks(II)I -/
theorem e147 {x0 : Nat} {x1 : Int32} {x2 : Int32} {h : iH} {Q : Option Value → iH → Prop} (H : i_P i_MT i_AT L xs 147 0 [some (.ref x0), some (.int x1), some (.int x2)] [] h 0 0 Q) : i_C i_MT i_AT L xs 147 [.ref x0, .int x1, .int x2] h Q := ⟨i_m147, i_k147.1, Nat.le_of_ble_eq_true rfl, H⟩
theorem b147_0 {x0 : Nat} {x1 : Int32} {x2 : Int32} {h : iH} {Q : Option Value → iH → Prop} (H : (i_obj? h x0 11 ∧ i_C i_MT i_AT L xs 186 [.ref x0, .int x1] h (fun v h1 => ∃ r2 : Int32, v = some (.int r2) ∧ i_P i_MT i_AT L xs 147 5 [some (.ref x0), some (.int x1), some (.int x2)] [.int r2] h1 0 0 Q))) : i_P i_MT i_AT L xs 147 0 [some (.ref x0), some (.int x1), some (.int x2)] [] h 0 0 Q := by
  have hk := i_k147
  refine g_s1 (pc2 := 1) hk rfl rfl rfl rfl rfl ?_
  refine g_s1 (pc2 := 2) hk rfl rfl rfl rfl rfl ?_
  obtain ⟨ho, H⟩ := H
  refine g_call hk rfl rfl i_k186.1 ⟨rfl, rfl⟩ rfl (i_rcv_v ho rfl (by decide)) rfl ?_
  exact H.mono (fun v h2 q => by obtain ⟨r, rfl, q⟩ := q; exact q)
theorem b147_5 {x0 : Nat} {x1 : Int32} {x2 : Int32} {s0 : Int32} {h : iH} {Q : Option Value → iH → Prop} (H : ((s0 = 0 → i_P i_MT i_AT L xs 147 15 [some (.ref x0), some (.int x1), some (.int x2)] [] h 0 0 Q) ∧ (¬ (s0 = 0) → (i_C i_MT i_AT L xs 190 [.int x2] h (fun v h1 => ∃ r2 : Int32, v = some (.int r2) ∧ i_P i_MT i_AT L xs 147 12 [some (.ref x0), some (.int x1), some (.int x2)] [.int r2] h1 0 0 Q))))) : i_P i_MT i_AT L xs 147 5 [some (.ref x0), some (.int x1), some (.int x2)] [.int s0] h 0 0 Q := by
  have hk := i_k147
  refine g_if_eq hk rfl (fun hc => ?_) (fun hc => ?_)
  · have H := H.1 hc
    exact H
  · have H := H.2 hc
    refine g_s1 (pc2 := 9) hk rfl rfl rfl rfl rfl ?_
    refine g_call hk rfl rfl i_k190.1 ⟨rfl, rfl⟩ rfl (i_rcv_0 rfl) rfl ?_
    exact H.mono (fun v h2 q => by obtain ⟨r, rfl, q⟩ := q; exact q)
theorem b147_12 {x0 : Nat} {x1 : Int32} {x2 : Int32} {s0 : Int32} {h : iH} {Q : Option Value → iH → Prop} (H : ((¬ s0 = 0 → (∃ v1 : Nat, i_fld h x0 11 11 = some (.ref v1) ∧ (i_obj? h v1 0 ∧ i_C i_MT i_AT L xs 5 [.ref v1, .int x1, .int x2] h (fun v h2 => ∃ r3 : Int32, v = some (.int r3) ∧ i_P i_MT i_AT L xs 147 31 [some (.ref x0), some (.int x1), some (.int x2)] [.int r3, .ref x0] h2 0 0 Q)))) ∧ (¬ (¬ s0 = 0) → i_P i_MT i_AT L xs 147 15 [some (.ref x0), some (.int x1), some (.int x2)] [] h 0 0 Q))) : i_P i_MT i_AT L xs 147 12 [some (.ref x0), some (.int x1), some (.int x2)] [.int s0] h 0 0 Q := by
  have hk := i_k147
  refine g_if_ne hk rfl (fun hc => ?_) (fun hc => ?_)
  · have H := H.1 hc
    refine g_s1 (pc2 := 22) hk rfl rfl rfl rfl rfl ?_
    refine g_s1 (pc2 := 23) hk rfl rfl rfl rfl rfl ?_
    obtain ⟨v1, ev1, H⟩ := H
    refine g_step (pc2 := 26) hk rfl rfl rfl (s_get ev1) ?_
    refine g_s1 (pc2 := 27) hk rfl rfl rfl rfl rfl ?_
    refine g_s1 (pc2 := 28) hk rfl rfl rfl rfl rfl ?_
    obtain ⟨ho, H⟩ := H
    refine g_call hk rfl rfl i_k5.1 ⟨rfl, rfl⟩ rfl (i_rcv_v ho rfl (by decide)) rfl ?_
    exact H.mono (fun v h2 q => by obtain ⟨r, rfl, q⟩ := q; exact q)
  · have H := H.2 hc
    exact H
theorem b147_15 {x0 : Nat} {x1 : Int32} {x2 : Int32} {h : iH} {Q : Option Value → iH → Prop} (H : (i_obj? h x0 11 ∧ i_C i_MT i_AT L xs 179 [.ref x0, .int (1 : Int32)] h (fun v h1 => ∃ r2 : Int32, v = some (.int r2) ∧ i_P i_MT i_AT L xs 147 20 [some (.ref x0), some (.int x1), some (.int x2)] [.int r2] h1 0 0 Q))) : i_P i_MT i_AT L xs 147 15 [some (.ref x0), some (.int x1), some (.int x2)] [] h 0 0 Q := by
  have hk := i_k147
  refine g_s1 (pc2 := 16) hk rfl rfl rfl rfl rfl ?_
  refine g_s1 (pc2 := 17) (st2 := [.int (1 : Int32), .ref x0]) hk rfl rfl rfl rfl rfl ?_
  obtain ⟨ho, H⟩ := H
  refine g_call hk rfl rfl i_k179.1 ⟨rfl, rfl⟩ rfl (i_rcv_v ho rfl (by decide)) rfl ?_
  exact H.mono (fun v h2 q => by obtain ⟨r, rfl, q⟩ := q; exact q)
theorem b147_20 {x0 : Nat} {x1 : Int32} {x2 : Int32} {s0 : Int32} {h : iH} {Q : Option Value → iH → Prop} (H : Q (some (.int s0)) h) : i_P i_MT i_AT L xs 147 20 [some (.ref x0), some (.int x1), some (.int x2)] [.int s0] h 0 0 Q := by
  have hk := i_k147
  exact g_ireturn hk rfl (by decide) (by decide) rfl H
theorem b147_31 {x0 : Nat} {x1 : Int32} {x2 : Int32} {s0 : Nat} {s1 : Int32} {h : iH} {Q : Option Value → iH → Prop} (H : (i_obj? h s0 11 ∧ i_C i_MT i_AT L xs 181 [.ref s0, .int s1] h (fun v h1 => ∃ r2 : Int32, v = some (.int r2) ∧ i_P i_MT i_AT L xs 147 34 [some (.ref x0), some (.int x1), some (.int x2)] [.int r2] h1 0 0 Q))) : i_P i_MT i_AT L xs 147 31 [some (.ref x0), some (.int x1), some (.int x2)] [.int s1, .ref s0] h 0 0 Q := by
  have hk := i_k147
  obtain ⟨ho, H⟩ := H
  refine g_call hk rfl rfl i_k181.1 ⟨rfl, rfl⟩ rfl (i_rcv_v ho rfl (by decide)) rfl ?_
  exact H.mono (fun v h2 q => by obtain ⟨r, rfl, q⟩ := q; exact q)
theorem b147_34 {x0 : Nat} {x1 : Int32} {x2 : Int32} {s0 : Int32} {h : iH} {Q : Option Value → iH → Prop} (H : Q (some (.int s0)) h) : i_P i_MT i_AT L xs 147 34 [some (.ref x0), some (.int x1), some (.int x2)] [.int s0] h 0 0 Q := by
  have hk := i_k147
  exact g_ireturn hk rfl (by decide) (by decide) rfl H
/-! StillTown.did(II)I -/
theorem e148 {x0 : Nat} {x1 : Int32} {x2 : Int32} {h : iH} {Q : Option Value → iH → Prop} (H : i_P i_MT i_AT L xs 148 0 [some (.ref x0), some (.int x1), some (.int x2)] [] h 0 0 Q) : i_C i_MT i_AT L xs 148 [.ref x0, .int x1, .int x2] h Q := ⟨i_m148, i_k148.1, Nat.le_of_ble_eq_true rfl, H⟩
theorem b148_0 {x0 : Nat} {x1 : Int32} {x2 : Int32} {h : iH} {Q : Option Value → iH → Prop} (H : (i_obj? h x0 11 ∧ i_C i_MT i_AT L xs 186 [.ref x0, .int x1] h (fun v h1 => ∃ r2 : Int32, v = some (.int r2) ∧ i_P i_MT i_AT L xs 148 5 [some (.ref x0), some (.int x1), some (.int x2)] [.int r2] h1 0 0 Q))) : i_P i_MT i_AT L xs 148 0 [some (.ref x0), some (.int x1), some (.int x2)] [] h 0 0 Q := by
  have hk := i_k148
  refine g_s1 (pc2 := 1) hk rfl rfl rfl rfl rfl ?_
  refine g_s1 (pc2 := 2) hk rfl rfl rfl rfl rfl ?_
  obtain ⟨ho, H⟩ := H
  refine g_call hk rfl rfl i_k186.1 ⟨rfl, rfl⟩ rfl (i_rcv_v ho rfl (by decide)) rfl ?_
  exact H.mono (fun v h2 q => by obtain ⟨r, rfl, q⟩ := q; exact q)
theorem b148_5 {x0 : Nat} {x1 : Int32} {x2 : Int32} {s0 : Int32} {h : iH} {Q : Option Value → iH → Prop} (H : ((s0 = 0 → i_P i_MT i_AT L xs 148 15 [some (.ref x0), some (.int x1), some (.int x2)] [] h 0 0 Q) ∧ (¬ (s0 = 0) → (i_C i_MT i_AT L xs 191 [.int x2] h (fun v h1 => ∃ r2 : Int32, v = some (.int r2) ∧ i_P i_MT i_AT L xs 148 12 [some (.ref x0), some (.int x1), some (.int x2)] [.int r2] h1 0 0 Q))))) : i_P i_MT i_AT L xs 148 5 [some (.ref x0), some (.int x1), some (.int x2)] [.int s0] h 0 0 Q := by
  have hk := i_k148
  refine g_if_eq hk rfl (fun hc => ?_) (fun hc => ?_)
  · have H := H.1 hc
    exact H
  · have H := H.2 hc
    refine g_s1 (pc2 := 9) hk rfl rfl rfl rfl rfl ?_
    refine g_call hk rfl rfl i_k191.1 ⟨rfl, rfl⟩ rfl (i_rcv_0 rfl) rfl ?_
    exact H.mono (fun v h2 q => by obtain ⟨r, rfl, q⟩ := q; exact q)
theorem b148_12 {x0 : Nat} {x1 : Int32} {x2 : Int32} {s0 : Int32} {h : iH} {Q : Option Value → iH → Prop} (H : ((¬ s0 = 0 → (∃ v1 : Nat, i_fld h x0 11 11 = some (.ref v1) ∧ (i_obj? h v1 0 ∧ i_C i_MT i_AT L xs 6 [.ref v1, .int x1, .int x2] h (fun v h2 => ∃ r3 : Int32, v = some (.int r3) ∧ i_P i_MT i_AT L xs 148 31 [some (.ref x0), some (.int x1), some (.int x2)] [.int r3, .ref x0] h2 0 0 Q)))) ∧ (¬ (¬ s0 = 0) → i_P i_MT i_AT L xs 148 15 [some (.ref x0), some (.int x1), some (.int x2)] [] h 0 0 Q))) : i_P i_MT i_AT L xs 148 12 [some (.ref x0), some (.int x1), some (.int x2)] [.int s0] h 0 0 Q := by
  have hk := i_k148
  refine g_if_ne hk rfl (fun hc => ?_) (fun hc => ?_)
  · have H := H.1 hc
    refine g_s1 (pc2 := 22) hk rfl rfl rfl rfl rfl ?_
    refine g_s1 (pc2 := 23) hk rfl rfl rfl rfl rfl ?_
    obtain ⟨v1, ev1, H⟩ := H
    refine g_step (pc2 := 26) hk rfl rfl rfl (s_get ev1) ?_
    refine g_s1 (pc2 := 27) hk rfl rfl rfl rfl rfl ?_
    refine g_s1 (pc2 := 28) hk rfl rfl rfl rfl rfl ?_
    obtain ⟨ho, H⟩ := H
    refine g_call hk rfl rfl i_k6.1 ⟨rfl, rfl⟩ rfl (i_rcv_v ho rfl (by decide)) rfl ?_
    exact H.mono (fun v h2 q => by obtain ⟨r, rfl, q⟩ := q; exact q)
  · have H := H.2 hc
    exact H
theorem b148_15 {x0 : Nat} {x1 : Int32} {x2 : Int32} {h : iH} {Q : Option Value → iH → Prop} (H : (i_obj? h x0 11 ∧ i_C i_MT i_AT L xs 179 [.ref x0, .int (1 : Int32)] h (fun v h1 => ∃ r2 : Int32, v = some (.int r2) ∧ i_P i_MT i_AT L xs 148 20 [some (.ref x0), some (.int x1), some (.int x2)] [.int r2] h1 0 0 Q))) : i_P i_MT i_AT L xs 148 15 [some (.ref x0), some (.int x1), some (.int x2)] [] h 0 0 Q := by
  have hk := i_k148
  refine g_s1 (pc2 := 16) hk rfl rfl rfl rfl rfl ?_
  refine g_s1 (pc2 := 17) (st2 := [.int (1 : Int32), .ref x0]) hk rfl rfl rfl rfl rfl ?_
  obtain ⟨ho, H⟩ := H
  refine g_call hk rfl rfl i_k179.1 ⟨rfl, rfl⟩ rfl (i_rcv_v ho rfl (by decide)) rfl ?_
  exact H.mono (fun v h2 q => by obtain ⟨r, rfl, q⟩ := q; exact q)
theorem b148_20 {x0 : Nat} {x1 : Int32} {x2 : Int32} {s0 : Int32} {h : iH} {Q : Option Value → iH → Prop} (H : Q (some (.int s0)) h) : i_P i_MT i_AT L xs 148 20 [some (.ref x0), some (.int x1), some (.int x2)] [.int s0] h 0 0 Q := by
  have hk := i_k148
  exact g_ireturn hk rfl (by decide) (by decide) rfl H
theorem b148_31 {x0 : Nat} {x1 : Int32} {x2 : Int32} {s0 : Nat} {s1 : Int32} {h : iH} {Q : Option Value → iH → Prop} (H : (i_obj? h s0 11 ∧ i_C i_MT i_AT L xs 181 [.ref s0, .int s1] h (fun v h1 => ∃ r2 : Int32, v = some (.int r2) ∧ i_P i_MT i_AT L xs 148 34 [some (.ref x0), some (.int x1), some (.int x2)] [.int r2] h1 0 0 Q))) : i_P i_MT i_AT L xs 148 31 [some (.ref x0), some (.int x1), some (.int x2)] [.int s1, .ref s0] h 0 0 Q := by
  have hk := i_k148
  obtain ⟨ho, H⟩ := H
  refine g_call hk rfl rfl i_k181.1 ⟨rfl, rfl⟩ rfl (i_rcv_v ho rfl (by decide)) rfl ?_
  exact H.mono (fun v h2 q => by obtain ⟨r, rfl, q⟩ := q; exact q)
theorem b148_34 {x0 : Nat} {x1 : Int32} {x2 : Int32} {s0 : Int32} {h : iH} {Q : Option Value → iH → Prop} (H : Q (some (.int s0)) h) : i_P i_MT i_AT L xs 148 34 [some (.ref x0), some (.int x1), some (.int x2)] [.int s0] h 0 0 Q := by
  have hk := i_k148
  exact g_ireturn hk rfl (by decide) (by decide) rfl H
/-! StillTown.sight(II)J -/
theorem e149 {x0 : Nat} {x1 : Int32} {x2 : Int32} {h : iH} {Q : Option Value → iH → Prop} (H : i_P i_MT i_AT L xs 149 0 [some (.ref x0), some (.int x1), some (.int x2)] [] h 0 0 Q) : i_C i_MT i_AT L xs 149 [.ref x0, .int x1, .int x2] h Q := ⟨i_m149, i_k149.1, Nat.le_of_ble_eq_true rfl, H⟩
theorem b149_0 {x0 : Nat} {x1 : Int32} {x2 : Int32} {h : iH} {Q : Option Value → iH → Prop} (H : (i_obj? h x0 11 ∧ i_C i_MT i_AT L xs 186 [.ref x0, .int x1] h (fun v h1 => ∃ r2 : Int32, v = some (.int r2) ∧ i_P i_MT i_AT L xs 149 5 [some (.ref x0), some (.int x1), some (.int x2)] [.int r2] h1 0 0 Q))) : i_P i_MT i_AT L xs 149 0 [some (.ref x0), some (.int x1), some (.int x2)] [] h 0 0 Q := by
  have hk := i_k149
  refine g_s1 (pc2 := 1) hk rfl rfl rfl rfl rfl ?_
  refine g_s1 (pc2 := 2) hk rfl rfl rfl rfl rfl ?_
  obtain ⟨ho, H⟩ := H
  refine g_call hk rfl rfl i_k186.1 ⟨rfl, rfl⟩ rfl (i_rcv_v ho rfl (by decide)) rfl ?_
  exact H.mono (fun v h2 q => by obtain ⟨r, rfl, q⟩ := q; exact q)
theorem b149_5 {x0 : Nat} {x1 : Int32} {x2 : Int32} {s0 : Int32} {h : iH} {Q : Option Value → iH → Prop} (H : ((s0 = 0 → i_P i_MT i_AT L xs 149 15 [some (.ref x0), some (.int x1), some (.int x2)] [] h 0 0 Q) ∧ (¬ (s0 = 0) → (i_C i_MT i_AT L xs 190 [.int x2] h (fun v h1 => ∃ r2 : Int32, v = some (.int r2) ∧ i_P i_MT i_AT L xs 149 12 [some (.ref x0), some (.int x1), some (.int x2)] [.int r2] h1 0 0 Q))))) : i_P i_MT i_AT L xs 149 5 [some (.ref x0), some (.int x1), some (.int x2)] [.int s0] h 0 0 Q := by
  have hk := i_k149
  refine g_if_eq hk rfl (fun hc => ?_) (fun hc => ?_)
  · have H := H.1 hc
    exact H
  · have H := H.2 hc
    refine g_s1 (pc2 := 9) hk rfl rfl rfl rfl rfl ?_
    refine g_call hk rfl rfl i_k190.1 ⟨rfl, rfl⟩ rfl (i_rcv_0 rfl) rfl ?_
    exact H.mono (fun v h2 q => by obtain ⟨r, rfl, q⟩ := q; exact q)
theorem b149_12 {x0 : Nat} {x1 : Int32} {x2 : Int32} {s0 : Int32} {h : iH} {Q : Option Value → iH → Prop} (H : ((¬ s0 = 0 → (∃ v1 : Nat, i_fld h x0 11 11 = some (.ref v1) ∧ (i_obj? h v1 0 ∧ i_C i_MT i_AT L xs 10 [.ref v1, .int x1, .int x2] h (fun v h2 => ∃ r3 : Int64, v = some (.long r3) ∧ i_P i_MT i_AT L xs 149 32 [some (.ref x0), some (.int x1), some (.int x2)] [.long r3, .ref x0] h2 0 0 Q)))) ∧ (¬ (¬ s0 = 0) → i_P i_MT i_AT L xs 149 15 [some (.ref x0), some (.int x1), some (.int x2)] [] h 0 0 Q))) : i_P i_MT i_AT L xs 149 12 [some (.ref x0), some (.int x1), some (.int x2)] [.int s0] h 0 0 Q := by
  have hk := i_k149
  refine g_if_ne hk rfl (fun hc => ?_) (fun hc => ?_)
  · have H := H.1 hc
    refine g_s1 (pc2 := 23) hk rfl rfl rfl rfl rfl ?_
    refine g_s1 (pc2 := 24) hk rfl rfl rfl rfl rfl ?_
    obtain ⟨v1, ev1, H⟩ := H
    refine g_step (pc2 := 27) hk rfl rfl rfl (s_get ev1) ?_
    refine g_s1 (pc2 := 28) hk rfl rfl rfl rfl rfl ?_
    refine g_s1 (pc2 := 29) hk rfl rfl rfl rfl rfl ?_
    obtain ⟨ho, H⟩ := H
    refine g_call hk rfl rfl i_k10.1 ⟨rfl, rfl⟩ rfl (i_rcv_v ho rfl (by decide)) rfl ?_
    exact H.mono (fun v h2 q => by obtain ⟨r, rfl, q⟩ := q; exact q)
  · have H := H.2 hc
    exact H
theorem b149_15 {x0 : Nat} {x1 : Int32} {x2 : Int32} {h : iH} {Q : Option Value → iH → Prop} (H : (i_obj? h x0 11 ∧ i_C i_MT i_AT L xs 179 [.ref x0, .int (1 : Int32)] h (fun v h1 => ∃ r2 : Int32, v = some (.int r2) ∧ i_P i_MT i_AT L xs 149 20 [some (.ref x0), some (.int x1), some (.int x2)] [.int r2] h1 0 0 Q))) : i_P i_MT i_AT L xs 149 15 [some (.ref x0), some (.int x1), some (.int x2)] [] h 0 0 Q := by
  have hk := i_k149
  refine g_s1 (pc2 := 16) hk rfl rfl rfl rfl rfl ?_
  refine g_s1 (pc2 := 17) (st2 := [.int (1 : Int32), .ref x0]) hk rfl rfl rfl rfl rfl ?_
  obtain ⟨ho, H⟩ := H
  refine g_call hk rfl rfl i_k179.1 ⟨rfl, rfl⟩ rfl (i_rcv_v ho rfl (by decide)) rfl ?_
  exact H.mono (fun v h2 q => by obtain ⟨r, rfl, q⟩ := q; exact q)
theorem b149_20 {x0 : Nat} {x1 : Int32} {x2 : Int32} {s0 : Int32} {h : iH} {Q : Option Value → iH → Prop} (H : Q (some (.long (s0.toInt64))) h) : i_P i_MT i_AT L xs 149 20 [some (.ref x0), some (.int x1), some (.int x2)] [.int s0] h 0 0 Q := by
  have hk := i_k149
  refine g_s1 (pc2 := 21) hk rfl rfl rfl rfl rfl ?_
  exact g_lreturn hk rfl (by decide) (by decide) rfl H
theorem b149_32 {x0 : Nat} {x1 : Int32} {x2 : Int32} {s0 : Nat} {s1 : Int64} {h : iH} {Q : Option Value → iH → Prop} (H : (i_obj? h s0 11 ∧ i_C i_MT i_AT L xs 182 [.ref s0, .long s1] h (fun v h1 => ∃ r2 : Int64, v = some (.long r2) ∧ i_P i_MT i_AT L xs 149 35 [some (.ref x0), some (.int x1), some (.int x2)] [.long r2] h1 0 0 Q))) : i_P i_MT i_AT L xs 149 32 [some (.ref x0), some (.int x1), some (.int x2)] [.long s1, .ref s0] h 0 0 Q := by
  have hk := i_k149
  obtain ⟨ho, H⟩ := H
  refine g_call hk rfl rfl i_k182.1 ⟨rfl, rfl⟩ rfl (i_rcv_v ho rfl (by decide)) rfl ?_
  exact H.mono (fun v h2 q => by obtain ⟨r, rfl, q⟩ := q; exact q)
theorem b149_35 {x0 : Nat} {x1 : Int32} {x2 : Int32} {s0 : Int64} {h : iH} {Q : Option Value → iH → Prop} (H : Q (some (.long s0)) h) : i_P i_MT i_AT L xs 149 35 [some (.ref x0), some (.int x1), some (.int x2)] [.long s0] h 0 0 Q := by
  have hk := i_k149
  exact g_lreturn hk rfl (by decide) (by decide) rfl H
/-! StillTown.weight(III)I -/
theorem e150 {x0 : Nat} {x1 : Int32} {x2 : Int32} {x3 : Int32} {h : iH} {Q : Option Value → iH → Prop} (H : i_P i_MT i_AT L xs 150 0 [some (.ref x0), some (.int x1), some (.int x2), some (.int x3)] [] h 0 0 Q) : i_C i_MT i_AT L xs 150 [.ref x0, .int x1, .int x2, .int x3] h Q := ⟨i_m150, i_k150.1, Nat.le_of_ble_eq_true rfl, H⟩
theorem b150_0 {x0 : Nat} {x1 : Int32} {x2 : Int32} {x3 : Int32} {h : iH} {Q : Option Value → iH → Prop} (H : (i_obj? h x0 11 ∧ i_C i_MT i_AT L xs 187 [.ref x0, .int x1, .int x2] h (fun v h1 => ∃ r2 : Int32, v = some (.int r2) ∧ i_P i_MT i_AT L xs 150 6 [some (.ref x0), some (.int x1), some (.int x2), some (.int x3)] [.int r2] h1 0 0 Q))) : i_P i_MT i_AT L xs 150 0 [some (.ref x0), some (.int x1), some (.int x2), some (.int x3)] [] h 0 0 Q := by
  have hk := i_k150
  refine g_s1 (pc2 := 1) hk rfl rfl rfl rfl rfl ?_
  refine g_s1 (pc2 := 2) hk rfl rfl rfl rfl rfl ?_
  refine g_s1 (pc2 := 3) hk rfl rfl rfl rfl rfl ?_
  obtain ⟨ho, H⟩ := H
  refine g_call hk rfl rfl i_k187.1 ⟨rfl, rfl⟩ rfl (i_rcv_v ho rfl (by decide)) rfl ?_
  exact H.mono (fun v h2 q => by obtain ⟨r, rfl, q⟩ := q; exact q)
theorem b150_6 {x0 : Nat} {x1 : Int32} {x2 : Int32} {x3 : Int32} {s0 : Int32} {h : iH} {Q : Option Value → iH → Prop} (H : ((s0 = 0 → i_P i_MT i_AT L xs 150 16 [some (.ref x0), some (.int x1), some (.int x2), some (.int x3)] [] h 0 0 Q) ∧ (¬ (s0 = 0) → (i_C i_MT i_AT L xs 191 [.int x3] h (fun v h1 => ∃ r2 : Int32, v = some (.int r2) ∧ i_P i_MT i_AT L xs 150 13 [some (.ref x0), some (.int x1), some (.int x2), some (.int x3)] [.int r2] h1 0 0 Q))))) : i_P i_MT i_AT L xs 150 6 [some (.ref x0), some (.int x1), some (.int x2), some (.int x3)] [.int s0] h 0 0 Q := by
  have hk := i_k150
  refine g_if_eq hk rfl (fun hc => ?_) (fun hc => ?_)
  · have H := H.1 hc
    exact H
  · have H := H.2 hc
    refine g_s1 (pc2 := 10) hk rfl rfl rfl rfl rfl ?_
    refine g_call hk rfl rfl i_k191.1 ⟨rfl, rfl⟩ rfl (i_rcv_0 rfl) rfl ?_
    exact H.mono (fun v h2 q => by obtain ⟨r, rfl, q⟩ := q; exact q)
theorem b150_13 {x0 : Nat} {x1 : Int32} {x2 : Int32} {x3 : Int32} {s0 : Int32} {h : iH} {Q : Option Value → iH → Prop} (H : ((¬ s0 = 0 → (∃ v1 : Nat, i_fld h x0 11 11 = some (.ref v1) ∧ (i_obj? h v1 0 ∧ i_C i_MT i_AT L xs 12 [.ref v1, .int x1, .int x2, .int x3] h (fun v h2 => ∃ r3 : Int32, v = some (.int r3) ∧ i_P i_MT i_AT L xs 150 33 [some (.ref x0), some (.int x1), some (.int x2), some (.int x3)] [.int r3, .ref x0] h2 0 0 Q)))) ∧ (¬ (¬ s0 = 0) → i_P i_MT i_AT L xs 150 16 [some (.ref x0), some (.int x1), some (.int x2), some (.int x3)] [] h 0 0 Q))) : i_P i_MT i_AT L xs 150 13 [some (.ref x0), some (.int x1), some (.int x2), some (.int x3)] [.int s0] h 0 0 Q := by
  have hk := i_k150
  refine g_if_ne hk rfl (fun hc => ?_) (fun hc => ?_)
  · have H := H.1 hc
    refine g_s1 (pc2 := 23) hk rfl rfl rfl rfl rfl ?_
    refine g_s1 (pc2 := 24) hk rfl rfl rfl rfl rfl ?_
    obtain ⟨v1, ev1, H⟩ := H
    refine g_step (pc2 := 27) hk rfl rfl rfl (s_get ev1) ?_
    refine g_s1 (pc2 := 28) hk rfl rfl rfl rfl rfl ?_
    refine g_s1 (pc2 := 29) hk rfl rfl rfl rfl rfl ?_
    refine g_s1 (pc2 := 30) hk rfl rfl rfl rfl rfl ?_
    obtain ⟨ho, H⟩ := H
    refine g_call hk rfl rfl i_k12.1 ⟨rfl, rfl⟩ rfl (i_rcv_v ho rfl (by decide)) rfl ?_
    exact H.mono (fun v h2 q => by obtain ⟨r, rfl, q⟩ := q; exact q)
  · have H := H.2 hc
    exact H
theorem b150_16 {x0 : Nat} {x1 : Int32} {x2 : Int32} {x3 : Int32} {h : iH} {Q : Option Value → iH → Prop} (H : (i_obj? h x0 11 ∧ i_C i_MT i_AT L xs 179 [.ref x0, .int (1 : Int32)] h (fun v h1 => ∃ r2 : Int32, v = some (.int r2) ∧ i_P i_MT i_AT L xs 150 21 [some (.ref x0), some (.int x1), some (.int x2), some (.int x3)] [.int r2] h1 0 0 Q))) : i_P i_MT i_AT L xs 150 16 [some (.ref x0), some (.int x1), some (.int x2), some (.int x3)] [] h 0 0 Q := by
  have hk := i_k150
  refine g_s1 (pc2 := 17) hk rfl rfl rfl rfl rfl ?_
  refine g_s1 (pc2 := 18) (st2 := [.int (1 : Int32), .ref x0]) hk rfl rfl rfl rfl rfl ?_
  obtain ⟨ho, H⟩ := H
  refine g_call hk rfl rfl i_k179.1 ⟨rfl, rfl⟩ rfl (i_rcv_v ho rfl (by decide)) rfl ?_
  exact H.mono (fun v h2 q => by obtain ⟨r, rfl, q⟩ := q; exact q)
theorem b150_21 {x0 : Nat} {x1 : Int32} {x2 : Int32} {x3 : Int32} {s0 : Int32} {h : iH} {Q : Option Value → iH → Prop} (H : Q (some (.int s0)) h) : i_P i_MT i_AT L xs 150 21 [some (.ref x0), some (.int x1), some (.int x2), some (.int x3)] [.int s0] h 0 0 Q := by
  have hk := i_k150
  exact g_ireturn hk rfl (by decide) (by decide) rfl H
theorem b150_33 {x0 : Nat} {x1 : Int32} {x2 : Int32} {x3 : Int32} {s0 : Nat} {s1 : Int32} {h : iH} {Q : Option Value → iH → Prop} (H : (i_obj? h s0 11 ∧ i_C i_MT i_AT L xs 181 [.ref s0, .int s1] h (fun v h1 => ∃ r2 : Int32, v = some (.int r2) ∧ i_P i_MT i_AT L xs 150 36 [some (.ref x0), some (.int x1), some (.int x2), some (.int x3)] [.int r2] h1 0 0 Q))) : i_P i_MT i_AT L xs 150 33 [some (.ref x0), some (.int x1), some (.int x2), some (.int x3)] [.int s1, .ref s0] h 0 0 Q := by
  have hk := i_k150
  obtain ⟨ho, H⟩ := H
  refine g_call hk rfl rfl i_k181.1 ⟨rfl, rfl⟩ rfl (i_rcv_v ho rfl (by decide)) rfl ?_
  exact H.mono (fun v h2 q => by obtain ⟨r, rfl, q⟩ := q; exact q)
theorem b150_36 {x0 : Nat} {x1 : Int32} {x2 : Int32} {x3 : Int32} {s0 : Int32} {h : iH} {Q : Option Value → iH → Prop} (H : Q (some (.int s0)) h) : i_P i_MT i_AT L xs 150 36 [some (.ref x0), some (.int x1), some (.int x2), some (.int x3)] [.int s0] h 0 0 Q := by
  have hk := i_k150
  exact g_ireturn hk rfl (by decide) (by decide) rfl H
/-! StillTown.unseen(III)I -/
theorem e151 {x0 : Nat} {x1 : Int32} {x2 : Int32} {x3 : Int32} {h : iH} {Q : Option Value → iH → Prop} (H : i_P i_MT i_AT L xs 151 0 [some (.ref x0), some (.int x1), some (.int x2), some (.int x3), none, none] [] h 0 0 Q) : i_C i_MT i_AT L xs 151 [.ref x0, .int x1, .int x2, .int x3] h Q := ⟨i_m151, i_k151.1, Nat.le_of_ble_eq_true rfl, H⟩
theorem b151_0 {x0 : Nat} {x1 : Int32} {x2 : Int32} {x3 : Int32} {x4 : Option Value} {x5 : Option Value} {h : iH} {Q : Option Value → iH → Prop} (H : (i_obj? h x0 11 ∧ i_C i_MT i_AT L xs 187 [.ref x0, .int x1, .int x2] h (fun v h1 => ∃ r2 : Int32, v = some (.int r2) ∧ i_P i_MT i_AT L xs 151 6 [some (.ref x0), some (.int x1), some (.int x2), some (.int x3), x4, x5] [.int r2] h1 0 0 Q))) : i_P i_MT i_AT L xs 151 0 [some (.ref x0), some (.int x1), some (.int x2), some (.int x3), x4, x5] [] h 0 0 Q := by
  have hk := i_k151
  refine g_s1 (pc2 := 1) hk rfl rfl rfl rfl rfl ?_
  refine g_s1 (pc2 := 2) hk rfl rfl rfl rfl rfl ?_
  refine g_s1 (pc2 := 3) hk rfl rfl rfl rfl rfl ?_
  obtain ⟨ho, H⟩ := H
  refine g_call hk rfl rfl i_k187.1 ⟨rfl, rfl⟩ rfl (i_rcv_v ho rfl (by decide)) rfl ?_
  exact H.mono (fun v h2 q => by obtain ⟨r, rfl, q⟩ := q; exact q)
theorem b151_6 {x0 : Nat} {x1 : Int32} {x2 : Int32} {x3 : Int32} {x4 : Option Value} {x5 : Option Value} {s0 : Int32} {h : iH} {Q : Option Value → iH → Prop} (H : ((s0 = 0 → i_P i_MT i_AT L xs 151 16 [some (.ref x0), some (.int x1), some (.int x2), some (.int x3), x4, x5] [] h 0 0 Q) ∧ (¬ (s0 = 0) → (i_C i_MT i_AT L xs 190 [.int x3] h (fun v h1 => ∃ r2 : Int32, v = some (.int r2) ∧ i_P i_MT i_AT L xs 151 13 [some (.ref x0), some (.int x1), some (.int x2), some (.int x3), x4, x5] [.int r2] h1 0 0 Q))))) : i_P i_MT i_AT L xs 151 6 [some (.ref x0), some (.int x1), some (.int x2), some (.int x3), x4, x5] [.int s0] h 0 0 Q := by
  have hk := i_k151
  refine g_if_eq hk rfl (fun hc => ?_) (fun hc => ?_)
  · have H := H.1 hc
    exact H
  · have H := H.2 hc
    refine g_s1 (pc2 := 10) hk rfl rfl rfl rfl rfl ?_
    refine g_call hk rfl rfl i_k190.1 ⟨rfl, rfl⟩ rfl (i_rcv_0 rfl) rfl ?_
    exact H.mono (fun v h2 q => by obtain ⟨r, rfl, q⟩ := q; exact q)
theorem b151_13 {x0 : Nat} {x1 : Int32} {x2 : Int32} {x3 : Int32} {x4 : Option Value} {x5 : Option Value} {s0 : Int32} {h : iH} {Q : Option Value → iH → Prop} (H : ((¬ s0 = 0 → i_P i_MT i_AT L xs 151 30 [some (.ref x0), some (.int x1), some (.int x2), some (.int x3), some (.int (1000000 : Int32)), some (.int (1 : Int32))] [] h 0 0 Q) ∧ (¬ (¬ s0 = 0) → i_P i_MT i_AT L xs 151 16 [some (.ref x0), some (.int x1), some (.int x2), some (.int x3), x4, x5] [] h 0 0 Q))) : i_P i_MT i_AT L xs 151 13 [some (.ref x0), some (.int x1), some (.int x2), some (.int x3), x4, x5] [.int s0] h 0 0 Q := by
  have hk := i_k151
  refine g_if_ne hk rfl (fun hc => ?_) (fun hc => ?_)
  · have H := H.1 hc
    refine g_step (pc2 := 25) (st2 := [.int (1000000 : Int32)]) hk rfl rfl rfl rfl ?_
    refine g_s1 (pc2 := 27) (lo2 := [some (.ref x0), some (.int x1), some (.int x2), some (.int x3), some (.int (1000000 : Int32)), x5]) hk rfl rfl rfl rfl rfl ?_
    refine g_s1 (pc2 := 28) (st2 := [.int (1 : Int32)]) hk rfl rfl rfl rfl rfl ?_
    refine g_s1 (pc2 := 30) (lo2 := [some (.ref x0), some (.int x1), some (.int x2), some (.int x3), some (.int (1000000 : Int32)), some (.int (1 : Int32))]) hk rfl rfl rfl rfl rfl ?_
    exact H
  · have H := H.2 hc
    exact H
theorem b151_16 {x0 : Nat} {x1 : Int32} {x2 : Int32} {x3 : Int32} {x4 : Option Value} {x5 : Option Value} {h : iH} {Q : Option Value → iH → Prop} (H : (i_obj? h x0 11 ∧ i_C i_MT i_AT L xs 179 [.ref x0, .int (1 : Int32)] h (fun v h1 => ∃ r2 : Int32, v = some (.int r2) ∧ i_P i_MT i_AT L xs 151 21 [some (.ref x0), some (.int x1), some (.int x2), some (.int x3), x4, x5] [.int r2] h1 0 0 Q))) : i_P i_MT i_AT L xs 151 16 [some (.ref x0), some (.int x1), some (.int x2), some (.int x3), x4, x5] [] h 0 0 Q := by
  have hk := i_k151
  refine g_s1 (pc2 := 17) hk rfl rfl rfl rfl rfl ?_
  refine g_s1 (pc2 := 18) (st2 := [.int (1 : Int32), .ref x0]) hk rfl rfl rfl rfl rfl ?_
  obtain ⟨ho, H⟩ := H
  refine g_call hk rfl rfl i_k179.1 ⟨rfl, rfl⟩ rfl (i_rcv_v ho rfl (by decide)) rfl ?_
  exact H.mono (fun v h2 q => by obtain ⟨r, rfl, q⟩ := q; exact q)
theorem b151_21 {x0 : Nat} {x1 : Int32} {x2 : Int32} {x3 : Int32} {x4 : Option Value} {x5 : Option Value} {s0 : Int32} {h : iH} {Q : Option Value → iH → Prop} (H : Q (some (.int s0)) h) : i_P i_MT i_AT L xs 151 21 [some (.ref x0), some (.int x1), some (.int x2), some (.int x3), x4, x5] [.int s0] h 0 0 Q := by
  have hk := i_k151
  exact g_ireturn hk rfl (by decide) (by decide) rfl H
theorem b151_30 {x0 : Nat} {x1 : Int32} {x2 : Int32} {x3 : Int32} {x4 : Int32} {x5 : Int32} {h : iH} {Q : Option Value → iH → Prop} (H : ((x3 < x5 → (i_obj? h x0 11 ∧ i_C i_MT i_AT L xs 181 [.ref x0, .int x4] h (fun v h1 => ∃ r2 : Int32, v = some (.int r2) ∧ i_P i_MT i_AT L xs 151 66 [some (.ref x0), some (.int x1), some (.int x2), some (.int x3), some (.int x4), some (.int x5)] [.int r2] h1 0 0 Q))) ∧ (¬ (x3 < x5) → (∃ v3 : Nat, i_fld h x0 11 11 = some (.ref v3) ∧ (i_obj? h v3 0 ∧ i_C i_MT i_AT L xs 12 [.ref v3, .int x2, .int x1, .int x5] h (fun v h4 => ∃ r5 : Int32, v = some (.int r5) ∧ i_P i_MT i_AT L xs 151 49 [some (.ref x0), some (.int x1), some (.int x2), some (.int x3), some (.int x4), some (.int x5)] [.int r5, .int x4] h4 0 0 Q)))))) : i_P i_MT i_AT L xs 151 30 [some (.ref x0), some (.int x1), some (.int x2), some (.int x3), some (.int x4), some (.int x5)] [] h 0 0 Q := by
  have hk := i_k151
  refine g_s1 (pc2 := 32) hk rfl rfl rfl rfl rfl ?_
  refine g_s1 (pc2 := 33) hk rfl rfl rfl rfl rfl ?_
  refine g_icmp_gt hk rfl (fun hc => ?_) (fun hc => ?_)
  · have H := H.1 hc
    refine g_s1 (pc2 := 61) hk rfl rfl rfl rfl rfl ?_
    refine g_s1 (pc2 := 63) hk rfl rfl rfl rfl rfl ?_
    obtain ⟨ho, H⟩ := H
    refine g_call hk rfl rfl i_k181.1 ⟨rfl, rfl⟩ rfl (i_rcv_v ho rfl (by decide)) rfl ?_
    exact H.mono (fun v h2 q => by obtain ⟨r, rfl, q⟩ := q; exact q)
  · have H := H.2 hc
    refine g_s1 (pc2 := 38) hk rfl rfl rfl rfl rfl ?_
    refine g_s1 (pc2 := 39) hk rfl rfl rfl rfl rfl ?_
    obtain ⟨v3, ev3, H⟩ := H
    refine g_step (pc2 := 42) hk rfl rfl rfl (s_get ev3) ?_
    refine g_s1 (pc2 := 43) hk rfl rfl rfl rfl rfl ?_
    refine g_s1 (pc2 := 44) hk rfl rfl rfl rfl rfl ?_
    refine g_s1 (pc2 := 46) hk rfl rfl rfl rfl rfl ?_
    obtain ⟨ho, H⟩ := H
    refine g_call hk rfl rfl i_k12.1 ⟨rfl, rfl⟩ rfl (i_rcv_v ho rfl (by decide)) rfl ?_
    exact H.mono (fun v h2 q => by obtain ⟨r, rfl, q⟩ := q; exact q)
theorem b151_49 {x0 : Nat} {x1 : Int32} {x2 : Int32} {x3 : Int32} {x4 : Int32} {x5 : Int32} {s0 : Int32} {s1 : Int32} {h : iH} {Q : Option Value → iH → Prop} (H : (i_C i_MT i_AT L xs 194 [.int s0, .int s1] h (fun v h1 => ∃ r2 : Int32, v = some (.int r2) ∧ i_P i_MT i_AT L xs 151 52 [some (.ref x0), some (.int x1), some (.int x2), some (.int x3), some (.int x4), some (.int x5)] [.int r2] h1 0 0 Q))) : i_P i_MT i_AT L xs 151 49 [some (.ref x0), some (.int x1), some (.int x2), some (.int x3), some (.int x4), some (.int x5)] [.int s1, .int s0] h 0 0 Q := by
  have hk := i_k151
  refine g_call hk rfl rfl i_k194.1 ⟨rfl, rfl⟩ rfl (i_rcv_0 rfl) rfl ?_
  exact H.mono (fun v h2 q => by obtain ⟨r, rfl, q⟩ := q; exact q)
theorem b151_52 {x0 : Nat} {x1 : Int32} {x2 : Int32} {x3 : Int32} {x4 : Int32} {x5 : Int32} {s0 : Int32} {h : iH} {Q : Option Value → iH → Prop} (H : i_P i_MT i_AT L xs 151 30 [some (.ref x0), some (.int x1), some (.int x2), some (.int x3), some (.int s0), some (.int (x5 + 1))] [] h 0 0 Q) : i_P i_MT i_AT L xs 151 52 [some (.ref x0), some (.int x1), some (.int x2), some (.int x3), some (.int x4), some (.int x5)] [.int s0] h 0 0 Q := by
  have hk := i_k151
  refine g_s1 (pc2 := 54) (lo2 := [some (.ref x0), some (.int x1), some (.int x2), some (.int x3), some (.int s0), some (.int x5)]) hk rfl rfl rfl rfl rfl ?_
  refine g_s1 (pc2 := 57) (lo2 := [some (.ref x0), some (.int x1), some (.int x2), some (.int x3), some (.int s0), some (.int (x5 + 1))]) hk rfl rfl rfl rfl rfl ?_
  refine g_s1 (pc2 := 30) hk rfl rfl rfl rfl rfl ?_
  exact H
theorem b151_66 {x0 : Nat} {x1 : Int32} {x2 : Int32} {x3 : Int32} {x4 : Int32} {x5 : Int32} {s0 : Int32} {h : iH} {Q : Option Value → iH → Prop} (H : Q (some (.int s0)) h) : i_P i_MT i_AT L xs 151 66 [some (.ref x0), some (.int x1), some (.int x2), some (.int x3), some (.int x4), some (.int x5)] [.int s0] h 0 0 Q := by
  have hk := i_k151
  exact g_ireturn hk rfl (by decide) (by decide) rfl H
/-! StillTown.near(III)I -/
theorem e152 {x0 : Nat} {x1 : Int32} {x2 : Int32} {x3 : Int32} {h : iH} {Q : Option Value → iH → Prop} (H : i_P i_MT i_AT L xs 152 0 [some (.ref x0), some (.int x1), some (.int x2), some (.int x3), none, none] [] h 0 0 Q) : i_C i_MT i_AT L xs 152 [.ref x0, .int x1, .int x2, .int x3] h Q := ⟨i_m152, i_k152.1, Nat.le_of_ble_eq_true rfl, H⟩
theorem b152_0 {x0 : Nat} {x1 : Int32} {x2 : Int32} {x3 : Int32} {x4 : Option Value} {x5 : Option Value} {h : iH} {Q : Option Value → iH → Prop} (H : (i_obj? h x0 11 ∧ i_C i_MT i_AT L xs 187 [.ref x0, .int x1, .int x2] h (fun v h1 => ∃ r2 : Int32, v = some (.int r2) ∧ i_P i_MT i_AT L xs 152 6 [some (.ref x0), some (.int x1), some (.int x2), some (.int x3), x4, x5] [.int r2] h1 0 0 Q))) : i_P i_MT i_AT L xs 152 0 [some (.ref x0), some (.int x1), some (.int x2), some (.int x3), x4, x5] [] h 0 0 Q := by
  have hk := i_k152
  refine g_s1 (pc2 := 1) hk rfl rfl rfl rfl rfl ?_
  refine g_s1 (pc2 := 2) hk rfl rfl rfl rfl rfl ?_
  refine g_s1 (pc2 := 3) hk rfl rfl rfl rfl rfl ?_
  obtain ⟨ho, H⟩ := H
  refine g_call hk rfl rfl i_k187.1 ⟨rfl, rfl⟩ rfl (i_rcv_v ho rfl (by decide)) rfl ?_
  exact H.mono (fun v h2 q => by obtain ⟨r, rfl, q⟩ := q; exact q)
theorem b152_6 {x0 : Nat} {x1 : Int32} {x2 : Int32} {x3 : Int32} {x4 : Option Value} {x5 : Option Value} {s0 : Int32} {h : iH} {Q : Option Value → iH → Prop} (H : ((s0 = 0 → i_P i_MT i_AT L xs 152 16 [some (.ref x0), some (.int x1), some (.int x2), some (.int x3), x4, x5] [] h 0 0 Q) ∧ (¬ (s0 = 0) → (i_C i_MT i_AT L xs 190 [.int x3] h (fun v h1 => ∃ r2 : Int32, v = some (.int r2) ∧ i_P i_MT i_AT L xs 152 13 [some (.ref x0), some (.int x1), some (.int x2), some (.int x3), x4, x5] [.int r2] h1 0 0 Q))))) : i_P i_MT i_AT L xs 152 6 [some (.ref x0), some (.int x1), some (.int x2), some (.int x3), x4, x5] [.int s0] h 0 0 Q := by
  have hk := i_k152
  refine g_if_eq hk rfl (fun hc => ?_) (fun hc => ?_)
  · have H := H.1 hc
    exact H
  · have H := H.2 hc
    refine g_s1 (pc2 := 10) hk rfl rfl rfl rfl rfl ?_
    refine g_call hk rfl rfl i_k190.1 ⟨rfl, rfl⟩ rfl (i_rcv_0 rfl) rfl ?_
    exact H.mono (fun v h2 q => by obtain ⟨r, rfl, q⟩ := q; exact q)
theorem b152_13 {x0 : Nat} {x1 : Int32} {x2 : Int32} {x3 : Int32} {x4 : Option Value} {x5 : Option Value} {s0 : Int32} {h : iH} {Q : Option Value → iH → Prop} (H : ((¬ s0 = 0 → i_P i_MT i_AT L xs 152 28 [some (.ref x0), some (.int x1), some (.int x2), some (.int x3), some (.int (0 : Int32)), some (.int (1 : Int32))] [] h 0 0 Q) ∧ (¬ (¬ s0 = 0) → i_P i_MT i_AT L xs 152 16 [some (.ref x0), some (.int x1), some (.int x2), some (.int x3), x4, x5] [] h 0 0 Q))) : i_P i_MT i_AT L xs 152 13 [some (.ref x0), some (.int x1), some (.int x2), some (.int x3), x4, x5] [.int s0] h 0 0 Q := by
  have hk := i_k152
  refine g_if_ne hk rfl (fun hc => ?_) (fun hc => ?_)
  · have H := H.1 hc
    refine g_s1 (pc2 := 23) (st2 := [.int (0 : Int32)]) hk rfl rfl rfl rfl rfl ?_
    refine g_s1 (pc2 := 25) (lo2 := [some (.ref x0), some (.int x1), some (.int x2), some (.int x3), some (.int (0 : Int32)), x5]) hk rfl rfl rfl rfl rfl ?_
    refine g_s1 (pc2 := 26) (st2 := [.int (1 : Int32)]) hk rfl rfl rfl rfl rfl ?_
    refine g_s1 (pc2 := 28) (lo2 := [some (.ref x0), some (.int x1), some (.int x2), some (.int x3), some (.int (0 : Int32)), some (.int (1 : Int32))]) hk rfl rfl rfl rfl rfl ?_
    exact H
  · have H := H.2 hc
    exact H
theorem b152_16 {x0 : Nat} {x1 : Int32} {x2 : Int32} {x3 : Int32} {x4 : Option Value} {x5 : Option Value} {h : iH} {Q : Option Value → iH → Prop} (H : (i_obj? h x0 11 ∧ i_C i_MT i_AT L xs 179 [.ref x0, .int (1 : Int32)] h (fun v h1 => ∃ r2 : Int32, v = some (.int r2) ∧ i_P i_MT i_AT L xs 152 21 [some (.ref x0), some (.int x1), some (.int x2), some (.int x3), x4, x5] [.int r2] h1 0 0 Q))) : i_P i_MT i_AT L xs 152 16 [some (.ref x0), some (.int x1), some (.int x2), some (.int x3), x4, x5] [] h 0 0 Q := by
  have hk := i_k152
  refine g_s1 (pc2 := 17) hk rfl rfl rfl rfl rfl ?_
  refine g_s1 (pc2 := 18) (st2 := [.int (1 : Int32), .ref x0]) hk rfl rfl rfl rfl rfl ?_
  obtain ⟨ho, H⟩ := H
  refine g_call hk rfl rfl i_k179.1 ⟨rfl, rfl⟩ rfl (i_rcv_v ho rfl (by decide)) rfl ?_
  exact H.mono (fun v h2 q => by obtain ⟨r, rfl, q⟩ := q; exact q)
theorem b152_21 {x0 : Nat} {x1 : Int32} {x2 : Int32} {x3 : Int32} {x4 : Option Value} {x5 : Option Value} {s0 : Int32} {h : iH} {Q : Option Value → iH → Prop} (H : Q (some (.int s0)) h) : i_P i_MT i_AT L xs 152 21 [some (.ref x0), some (.int x1), some (.int x2), some (.int x3), x4, x5] [.int s0] h 0 0 Q := by
  have hk := i_k152
  exact g_ireturn hk rfl (by decide) (by decide) rfl H
theorem b152_28 {x0 : Nat} {x1 : Int32} {x2 : Int32} {x3 : Int32} {x4 : Int32} {x5 : Int32} {h : iH} {Q : Option Value → iH → Prop} (H : ((x3 < x5 → (i_obj? h x0 11 ∧ i_C i_MT i_AT L xs 181 [.ref x0, .int x4] h (fun v h1 => ∃ r2 : Int32, v = some (.int r2) ∧ i_P i_MT i_AT L xs 152 70 [some (.ref x0), some (.int x1), some (.int x2), some (.int x3), some (.int x4), some (.int x5)] [.int r2] h1 0 0 Q))) ∧ (¬ (x3 < x5) → (∃ v3 : Nat, i_fld h x0 11 11 = some (.ref v3) ∧ (i_obj? h v3 0 ∧ i_C i_MT i_AT L xs 13 [.ref v3, .int x1, .int x2, .int x5] h (fun v h4 => ∃ r5 : Int32, v = some (.int r5) ∧ i_P i_MT i_AT L xs 152 47 [some (.ref x0), some (.int x1), some (.int x2), some (.int x3), some (.int x4), some (.int x5)] [.int r5, .int x4] h4 0 0 Q)))))) : i_P i_MT i_AT L xs 152 28 [some (.ref x0), some (.int x1), some (.int x2), some (.int x3), some (.int x4), some (.int x5)] [] h 0 0 Q := by
  have hk := i_k152
  refine g_s1 (pc2 := 30) hk rfl rfl rfl rfl rfl ?_
  refine g_s1 (pc2 := 31) hk rfl rfl rfl rfl rfl ?_
  refine g_icmp_gt hk rfl (fun hc => ?_) (fun hc => ?_)
  · have H := H.1 hc
    refine g_s1 (pc2 := 65) hk rfl rfl rfl rfl rfl ?_
    refine g_s1 (pc2 := 67) hk rfl rfl rfl rfl rfl ?_
    obtain ⟨ho, H⟩ := H
    refine g_call hk rfl rfl i_k181.1 ⟨rfl, rfl⟩ rfl (i_rcv_v ho rfl (by decide)) rfl ?_
    exact H.mono (fun v h2 q => by obtain ⟨r, rfl, q⟩ := q; exact q)
  · have H := H.2 hc
    refine g_s1 (pc2 := 36) hk rfl rfl rfl rfl rfl ?_
    refine g_s1 (pc2 := 37) hk rfl rfl rfl rfl rfl ?_
    obtain ⟨v3, ev3, H⟩ := H
    refine g_step (pc2 := 40) hk rfl rfl rfl (s_get ev3) ?_
    refine g_s1 (pc2 := 41) hk rfl rfl rfl rfl rfl ?_
    refine g_s1 (pc2 := 42) hk rfl rfl rfl rfl rfl ?_
    refine g_s1 (pc2 := 44) hk rfl rfl rfl rfl rfl ?_
    obtain ⟨ho, H⟩ := H
    refine g_call hk rfl rfl i_k13.1 ⟨rfl, rfl⟩ rfl (i_rcv_v ho rfl (by decide)) rfl ?_
    exact H.mono (fun v h2 q => by obtain ⟨r, rfl, q⟩ := q; exact q)
theorem b152_47 {x0 : Nat} {x1 : Int32} {x2 : Int32} {x3 : Int32} {x4 : Int32} {x5 : Int32} {s0 : Int32} {s1 : Int32} {h : iH} {Q : Option Value → iH → Prop} (H : ((s1 = 0 → i_P i_MT i_AT L xs 152 55 [some (.ref x0), some (.int x1), some (.int x2), some (.int x3), some (.int x4), some (.int x5)] [.int (0 : Int32), .int s0] h 0 0 Q) ∧ (¬ (s1 = 0) → i_P i_MT i_AT L xs 152 55 [some (.ref x0), some (.int x1), some (.int x2), some (.int x3), some (.int x4), some (.int x5)] [.int (1 : Int32), .int s0] h 0 0 Q))) : i_P i_MT i_AT L xs 152 47 [some (.ref x0), some (.int x1), some (.int x2), some (.int x3), some (.int x4), some (.int x5)] [.int s1, .int s0] h 0 0 Q := by
  have hk := i_k152
  refine g_if_eq hk rfl (fun hc => ?_) (fun hc => ?_)
  · have H := H.1 hc
    refine g_s1 (pc2 := 55) (st2 := [.int (0 : Int32), .int s0]) hk rfl rfl rfl rfl rfl ?_
    exact H
  · have H := H.2 hc
    refine g_s1 (pc2 := 51) (st2 := [.int (1 : Int32), .int s0]) hk rfl rfl rfl rfl rfl ?_
    refine g_s1 (pc2 := 55) hk rfl rfl rfl rfl rfl ?_
    exact H
theorem b152_55 {x0 : Nat} {x1 : Int32} {x2 : Int32} {x3 : Int32} {x4 : Int32} {x5 : Int32} {s0 : Int32} {s1 : Int32} {h : iH} {Q : Option Value → iH → Prop} (H : i_P i_MT i_AT L xs 152 28 [some (.ref x0), some (.int x1), some (.int x2), some (.int x3), some (.int (s0 + s1)), some (.int (x5 + 1))] [] h 0 0 Q) : i_P i_MT i_AT L xs 152 55 [some (.ref x0), some (.int x1), some (.int x2), some (.int x3), some (.int x4), some (.int x5)] [.int s1, .int s0] h 0 0 Q := by
  have hk := i_k152
  refine g_s1 (pc2 := 56) hk rfl rfl rfl rfl rfl ?_
  refine g_s1 (pc2 := 58) (lo2 := [some (.ref x0), some (.int x1), some (.int x2), some (.int x3), some (.int (s0 + s1)), some (.int x5)]) hk rfl rfl rfl rfl rfl ?_
  refine g_s1 (pc2 := 61) (lo2 := [some (.ref x0), some (.int x1), some (.int x2), some (.int x3), some (.int (s0 + s1)), some (.int (x5 + 1))]) hk rfl rfl rfl rfl rfl ?_
  refine g_s1 (pc2 := 28) hk rfl rfl rfl rfl rfl ?_
  exact H
theorem b152_70 {x0 : Nat} {x1 : Int32} {x2 : Int32} {x3 : Int32} {x4 : Int32} {x5 : Int32} {s0 : Int32} {h : iH} {Q : Option Value → iH → Prop} (H : Q (some (.int s0)) h) : i_P i_MT i_AT L xs 152 70 [some (.ref x0), some (.int x1), some (.int x2), some (.int x3), some (.int x4), some (.int x5)] [.int s0] h 0 0 Q := by
  have hk := i_k152
  exact g_ireturn hk rfl (by decide) (by decide) rfl H
/-! StillTown.first(III)I -/
theorem e153 {x0 : Nat} {x1 : Int32} {x2 : Int32} {x3 : Int32} {h : iH} {Q : Option Value → iH → Prop} (H : i_P i_MT i_AT L xs 153 0 [some (.ref x0), some (.int x1), some (.int x2), some (.int x3), none] [] h 0 0 Q) : i_C i_MT i_AT L xs 153 [.ref x0, .int x1, .int x2, .int x3] h Q := ⟨i_m153, i_k153.1, Nat.le_of_ble_eq_true rfl, H⟩
theorem b153_0 {x0 : Nat} {x1 : Int32} {x2 : Int32} {x3 : Int32} {x4 : Option Value} {h : iH} {Q : Option Value → iH → Prop} (H : (i_obj? h x0 11 ∧ i_C i_MT i_AT L xs 187 [.ref x0, .int x1, .int x2] h (fun v h1 => ∃ r2 : Int32, v = some (.int r2) ∧ i_P i_MT i_AT L xs 153 6 [some (.ref x0), some (.int x1), some (.int x2), some (.int x3), x4] [.int r2] h1 0 0 Q))) : i_P i_MT i_AT L xs 153 0 [some (.ref x0), some (.int x1), some (.int x2), some (.int x3), x4] [] h 0 0 Q := by
  have hk := i_k153
  refine g_s1 (pc2 := 1) hk rfl rfl rfl rfl rfl ?_
  refine g_s1 (pc2 := 2) hk rfl rfl rfl rfl rfl ?_
  refine g_s1 (pc2 := 3) hk rfl rfl rfl rfl rfl ?_
  obtain ⟨ho, H⟩ := H
  refine g_call hk rfl rfl i_k187.1 ⟨rfl, rfl⟩ rfl (i_rcv_v ho rfl (by decide)) rfl ?_
  exact H.mono (fun v h2 q => by obtain ⟨r, rfl, q⟩ := q; exact q)
theorem b153_6 {x0 : Nat} {x1 : Int32} {x2 : Int32} {x3 : Int32} {x4 : Option Value} {s0 : Int32} {h : iH} {Q : Option Value → iH → Prop} (H : ((s0 = 0 → i_P i_MT i_AT L xs 153 19 [some (.ref x0), some (.int x1), some (.int x2), some (.int x3), x4] [] h 0 0 Q) ∧ (¬ (s0 = 0) → (i_C i_MT i_AT L xs 192 [.int x3, .int (1 : Int32), .int (16 : Int32)] h (fun v h1 => ∃ r2 : Int32, v = some (.int r2) ∧ i_P i_MT i_AT L xs 153 16 [some (.ref x0), some (.int x1), some (.int x2), some (.int x3), x4] [.int r2] h1 0 0 Q))))) : i_P i_MT i_AT L xs 153 6 [some (.ref x0), some (.int x1), some (.int x2), some (.int x3), x4] [.int s0] h 0 0 Q := by
  have hk := i_k153
  refine g_if_eq hk rfl (fun hc => ?_) (fun hc => ?_)
  · have H := H.1 hc
    exact H
  · have H := H.2 hc
    refine g_s1 (pc2 := 10) hk rfl rfl rfl rfl rfl ?_
    refine g_s1 (pc2 := 11) (st2 := [.int (1 : Int32), .int x3]) hk rfl rfl rfl rfl rfl ?_
    refine g_s1 (pc2 := 13) (st2 := [.int (16 : Int32), .int (1 : Int32), .int x3]) hk rfl rfl rfl rfl rfl ?_
    refine g_call hk rfl rfl i_k192.1 ⟨rfl, rfl⟩ rfl (i_rcv_0 rfl) rfl ?_
    exact H.mono (fun v h2 q => by obtain ⟨r, rfl, q⟩ := q; exact q)
theorem b153_16 {x0 : Nat} {x1 : Int32} {x2 : Int32} {x3 : Int32} {x4 : Option Value} {s0 : Int32} {h : iH} {Q : Option Value → iH → Prop} (H : ((¬ s0 = 0 → i_P i_MT i_AT L xs 153 28 [some (.ref x0), some (.int x1), some (.int x2), some (.int x3), some (.int (1 : Int32))] [] h 0 0 Q) ∧ (¬ (¬ s0 = 0) → i_P i_MT i_AT L xs 153 19 [some (.ref x0), some (.int x1), some (.int x2), some (.int x3), x4] [] h 0 0 Q))) : i_P i_MT i_AT L xs 153 16 [some (.ref x0), some (.int x1), some (.int x2), some (.int x3), x4] [.int s0] h 0 0 Q := by
  have hk := i_k153
  refine g_if_ne hk rfl (fun hc => ?_) (fun hc => ?_)
  · have H := H.1 hc
    refine g_s1 (pc2 := 26) (st2 := [.int (1 : Int32)]) hk rfl rfl rfl rfl rfl ?_
    refine g_s1 (pc2 := 28) (lo2 := [some (.ref x0), some (.int x1), some (.int x2), some (.int x3), some (.int (1 : Int32))]) hk rfl rfl rfl rfl rfl ?_
    exact H
  · have H := H.2 hc
    exact H
theorem b153_19 {x0 : Nat} {x1 : Int32} {x2 : Int32} {x3 : Int32} {x4 : Option Value} {h : iH} {Q : Option Value → iH → Prop} (H : (i_obj? h x0 11 ∧ i_C i_MT i_AT L xs 179 [.ref x0, .int (1 : Int32)] h (fun v h1 => ∃ r2 : Int32, v = some (.int r2) ∧ i_P i_MT i_AT L xs 153 24 [some (.ref x0), some (.int x1), some (.int x2), some (.int x3), x4] [.int r2] h1 0 0 Q))) : i_P i_MT i_AT L xs 153 19 [some (.ref x0), some (.int x1), some (.int x2), some (.int x3), x4] [] h 0 0 Q := by
  have hk := i_k153
  refine g_s1 (pc2 := 20) hk rfl rfl rfl rfl rfl ?_
  refine g_s1 (pc2 := 21) (st2 := [.int (1 : Int32), .ref x0]) hk rfl rfl rfl rfl rfl ?_
  obtain ⟨ho, H⟩ := H
  refine g_call hk rfl rfl i_k179.1 ⟨rfl, rfl⟩ rfl (i_rcv_v ho rfl (by decide)) rfl ?_
  exact H.mono (fun v h2 q => by obtain ⟨r, rfl, q⟩ := q; exact q)
theorem b153_24 {x0 : Nat} {x1 : Int32} {x2 : Int32} {x3 : Int32} {x4 : Option Value} {s0 : Int32} {h : iH} {Q : Option Value → iH → Prop} (H : Q (some (.int s0)) h) : i_P i_MT i_AT L xs 153 24 [some (.ref x0), some (.int x1), some (.int x2), some (.int x3), x4] [.int s0] h 0 0 Q := by
  have hk := i_k153
  exact g_ireturn hk rfl (by decide) (by decide) rfl H
theorem b153_28 {x0 : Nat} {x1 : Int32} {x2 : Int32} {x3 : Int32} {x4 : Int32} {h : iH} {Q : Option Value → iH → Prop} (H : (((60 : Int32) < x4 → (i_obj? h x0 11 ∧ i_C i_MT i_AT L xs 179 [.ref x0, .int (6 : Int32)] h (fun v h1 => ∃ r2 : Int32, v = some (.int r2) ∧ i_P i_MT i_AT L xs 153 69 [some (.ref x0), some (.int x1), some (.int x2), some (.int x3), some (.int x4)] [.int r2] h1 0 0 Q))) ∧ (¬ ((60 : Int32) < x4) → (∃ v3 : Nat, i_fld h x0 11 11 = some (.ref v3) ∧ (i_obj? h v3 0 ∧ i_C i_MT i_AT L xs 12 [.ref v3, .int x1, .int x2, .int x4] h (fun v h4 => ∃ r5 : Int32, v = some (.int r5) ∧ i_P i_MT i_AT L xs 153 46 [some (.ref x0), some (.int x1), some (.int x2), some (.int x3), some (.int x4)] [.int r5] h4 0 0 Q)))))) : i_P i_MT i_AT L xs 153 28 [some (.ref x0), some (.int x1), some (.int x2), some (.int x3), some (.int x4)] [] h 0 0 Q := by
  have hk := i_k153
  refine g_s1 (pc2 := 30) hk rfl rfl rfl rfl rfl ?_
  refine g_s1 (pc2 := 32) (st2 := [.int (60 : Int32), .int x4]) hk rfl rfl rfl rfl rfl ?_
  refine g_icmp_gt hk rfl (fun hc => ?_) (fun hc => ?_)
  · have H := H.1 hc
    refine g_s1 (pc2 := 64) hk rfl rfl rfl rfl rfl ?_
    refine g_s1 (pc2 := 66) (st2 := [.int (6 : Int32), .ref x0]) hk rfl rfl rfl rfl rfl ?_
    obtain ⟨ho, H⟩ := H
    refine g_call hk rfl rfl i_k179.1 ⟨rfl, rfl⟩ rfl (i_rcv_v ho rfl (by decide)) rfl ?_
    exact H.mono (fun v h2 q => by obtain ⟨r, rfl, q⟩ := q; exact q)
  · have H := H.2 hc
    refine g_s1 (pc2 := 36) hk rfl rfl rfl rfl rfl ?_
    obtain ⟨v3, ev3, H⟩ := H
    refine g_step (pc2 := 39) hk rfl rfl rfl (s_get ev3) ?_
    refine g_s1 (pc2 := 40) hk rfl rfl rfl rfl rfl ?_
    refine g_s1 (pc2 := 41) hk rfl rfl rfl rfl rfl ?_
    refine g_s1 (pc2 := 43) hk rfl rfl rfl rfl rfl ?_
    obtain ⟨ho, H⟩ := H
    refine g_call hk rfl rfl i_k12.1 ⟨rfl, rfl⟩ rfl (i_rcv_v ho rfl (by decide)) rfl ?_
    exact H.mono (fun v h2 q => by obtain ⟨r, rfl, q⟩ := q; exact q)
theorem b153_46 {x0 : Nat} {x1 : Int32} {x2 : Int32} {x3 : Int32} {x4 : Int32} {s0 : Int32} {h : iH} {Q : Option Value → iH → Prop} (H : ((s0 < x3 → i_P i_MT i_AT L xs 153 28 [some (.ref x0), some (.int x1), some (.int x2), some (.int x3), some (.int (x4 + 1))] [] h 0 0 Q) ∧ (¬ (s0 < x3) → (i_obj? h x0 11 ∧ i_C i_MT i_AT L xs 181 [.ref x0, .int x4] h (fun v h1 => ∃ r2 : Int32, v = some (.int r2) ∧ i_P i_MT i_AT L xs 153 56 [some (.ref x0), some (.int x1), some (.int x2), some (.int x3), some (.int x4)] [.int r2] h1 0 0 Q))))) : i_P i_MT i_AT L xs 153 46 [some (.ref x0), some (.int x1), some (.int x2), some (.int x3), some (.int x4)] [.int s0] h 0 0 Q := by
  have hk := i_k153
  refine g_s1 (pc2 := 47) hk rfl rfl rfl rfl rfl ?_
  refine g_icmp_lt hk rfl (fun hc => ?_) (fun hc => ?_)
  · have H := H.1 hc
    refine g_s1 (pc2 := 60) (lo2 := [some (.ref x0), some (.int x1), some (.int x2), some (.int x3), some (.int (x4 + 1))]) hk rfl rfl rfl rfl rfl ?_
    refine g_s1 (pc2 := 28) hk rfl rfl rfl rfl rfl ?_
    exact H
  · have H := H.2 hc
    refine g_s1 (pc2 := 51) hk rfl rfl rfl rfl rfl ?_
    refine g_s1 (pc2 := 53) hk rfl rfl rfl rfl rfl ?_
    obtain ⟨ho, H⟩ := H
    refine g_call hk rfl rfl i_k181.1 ⟨rfl, rfl⟩ rfl (i_rcv_v ho rfl (by decide)) rfl ?_
    exact H.mono (fun v h2 q => by obtain ⟨r, rfl, q⟩ := q; exact q)
theorem b153_56 {x0 : Nat} {x1 : Int32} {x2 : Int32} {x3 : Int32} {x4 : Int32} {s0 : Int32} {h : iH} {Q : Option Value → iH → Prop} (H : Q (some (.int s0)) h) : i_P i_MT i_AT L xs 153 56 [some (.ref x0), some (.int x1), some (.int x2), some (.int x3), some (.int x4)] [.int s0] h 0 0 Q := by
  have hk := i_k153
  exact g_ireturn hk rfl (by decide) (by decide) rfl H
theorem b153_69 {x0 : Nat} {x1 : Int32} {x2 : Int32} {x3 : Int32} {x4 : Int32} {s0 : Int32} {h : iH} {Q : Option Value → iH → Prop} (H : Q (some (.int s0)) h) : i_P i_MT i_AT L xs 153 69 [some (.ref x0), some (.int x1), some (.int x2), some (.int x3), some (.int x4)] [.int s0] h 0 0 Q := by
  have hk := i_k153
  exact g_ireturn hk rfl (by decide) (by decide) rfl H
/-! StillTown.judged(I)I -/
theorem e154 {x0 : Nat} {x1 : Int32} {h : iH} {Q : Option Value → iH → Prop} (H : i_P i_MT i_AT L xs 154 0 [some (.ref x0), some (.int x1), none, none, none] [] h 0 0 Q) : i_C i_MT i_AT L xs 154 [.ref x0, .int x1] h Q := ⟨i_m154, i_k154.1, Nat.le_of_ble_eq_true rfl, H⟩
theorem b154_0 {x0 : Nat} {x1 : Int32} {x2 : Option Value} {x3 : Option Value} {x4 : Option Value} {h : iH} {Q : Option Value → iH → Prop} (H : (i_C i_MT i_AT L xs 192 [.int x1, .int (0 : Int32), .int (2 : Int32)] h (fun v h1 => ∃ r2 : Int32, v = some (.int r2) ∧ i_P i_MT i_AT L xs 154 6 [some (.ref x0), some (.int x1), x2, x3, x4] [.int r2] h1 0 0 Q))) : i_P i_MT i_AT L xs 154 0 [some (.ref x0), some (.int x1), x2, x3, x4] [] h 0 0 Q := by
  have hk := i_k154
  refine g_s1 (pc2 := 1) hk rfl rfl rfl rfl rfl ?_
  refine g_s1 (pc2 := 2) (st2 := [.int (0 : Int32), .int x1]) hk rfl rfl rfl rfl rfl ?_
  refine g_s1 (pc2 := 3) (st2 := [.int (2 : Int32), .int (0 : Int32), .int x1]) hk rfl rfl rfl rfl rfl ?_
  refine g_call hk rfl rfl i_k192.1 ⟨rfl, rfl⟩ rfl (i_rcv_0 rfl) rfl ?_
  exact H.mono (fun v h2 q => by obtain ⟨r, rfl, q⟩ := q; exact q)
theorem b154_6 {x0 : Nat} {x1 : Int32} {x2 : Option Value} {x3 : Option Value} {x4 : Option Value} {s0 : Int32} {h : iH} {Q : Option Value → iH → Prop} (H : ((¬ s0 = 0 → i_P i_MT i_AT L xs 154 17 [some (.ref x0), some (.int x1), some (.int (1 : Int32)), x3, x4] [] h 0 0 Q) ∧ (¬ (¬ s0 = 0) → (i_obj? h x0 11 ∧ i_C i_MT i_AT L xs 179 [.ref x0, .int (1 : Int32)] h (fun v h1 => ∃ r2 : Int32, v = some (.int r2) ∧ i_P i_MT i_AT L xs 154 14 [some (.ref x0), some (.int x1), x2, x3, x4] [.int r2] h1 0 0 Q))))) : i_P i_MT i_AT L xs 154 6 [some (.ref x0), some (.int x1), x2, x3, x4] [.int s0] h 0 0 Q := by
  have hk := i_k154
  refine g_if_ne hk rfl (fun hc => ?_) (fun hc => ?_)
  · have H := H.1 hc
    refine g_s1 (pc2 := 16) (st2 := [.int (1 : Int32)]) hk rfl rfl rfl rfl rfl ?_
    refine g_s1 (pc2 := 17) (lo2 := [some (.ref x0), some (.int x1), some (.int (1 : Int32)), x3, x4]) hk rfl rfl rfl rfl rfl ?_
    exact H
  · have H := H.2 hc
    refine g_s1 (pc2 := 10) hk rfl rfl rfl rfl rfl ?_
    refine g_s1 (pc2 := 11) (st2 := [.int (1 : Int32), .ref x0]) hk rfl rfl rfl rfl rfl ?_
    obtain ⟨ho, H⟩ := H
    refine g_call hk rfl rfl i_k179.1 ⟨rfl, rfl⟩ rfl (i_rcv_v ho rfl (by decide)) rfl ?_
    exact H.mono (fun v h2 q => by obtain ⟨r, rfl, q⟩ := q; exact q)
theorem b154_14 {x0 : Nat} {x1 : Int32} {x2 : Option Value} {x3 : Option Value} {x4 : Option Value} {s0 : Int32} {h : iH} {Q : Option Value → iH → Prop} (H : Q (some (.int s0)) h) : i_P i_MT i_AT L xs 154 14 [some (.ref x0), some (.int x1), x2, x3, x4] [.int s0] h 0 0 Q := by
  have hk := i_k154
  exact g_ireturn hk rfl (by decide) (by decide) rfl H
theorem b154_17 {x0 : Nat} {x1 : Int32} {x2 : Int32} {x3 : Option Value} {x4 : Option Value} {h : iH} {Q : Option Value → iH → Prop} (H : (((60 : Int32) < x2 → (i_obj? h x0 11 ∧ i_C i_MT i_AT L xs 179 [.ref x0, .int (6 : Int32)] h (fun v h1 => ∃ r2 : Int32, v = some (.int r2) ∧ i_P i_MT i_AT L xs 154 98 [some (.ref x0), some (.int x1), some (.int x2), x3, x4] [.int r2] h1 0 0 Q))) ∧ (¬ ((60 : Int32) < x2) → i_P i_MT i_AT L xs 154 25 [some (.ref x0), some (.int x1), some (.int x2), some (.int (0 : Int32)), x4] [] h 0 0 Q))) : i_P i_MT i_AT L xs 154 17 [some (.ref x0), some (.int x1), some (.int x2), x3, x4] [] h 0 0 Q := by
  have hk := i_k154
  refine g_s1 (pc2 := 18) hk rfl rfl rfl rfl rfl ?_
  refine g_s1 (pc2 := 20) (st2 := [.int (60 : Int32), .int x2]) hk rfl rfl rfl rfl rfl ?_
  refine g_icmp_gt hk rfl (fun hc => ?_) (fun hc => ?_)
  · have H := H.1 hc
    refine g_s1 (pc2 := 93) hk rfl rfl rfl rfl rfl ?_
    refine g_s1 (pc2 := 95) (st2 := [.int (6 : Int32), .ref x0]) hk rfl rfl rfl rfl rfl ?_
    obtain ⟨ho, H⟩ := H
    refine g_call hk rfl rfl i_k179.1 ⟨rfl, rfl⟩ rfl (i_rcv_v ho rfl (by decide)) rfl ?_
    exact H.mono (fun v h2 q => by obtain ⟨r, rfl, q⟩ := q; exact q)
  · have H := H.2 hc
    refine g_s1 (pc2 := 24) (st2 := [.int (0 : Int32)]) hk rfl rfl rfl rfl rfl ?_
    refine g_s1 (pc2 := 25) (lo2 := [some (.ref x0), some (.int x1), some (.int x2), some (.int (0 : Int32)), x4]) hk rfl rfl rfl rfl rfl ?_
    exact H
theorem b154_25 {x0 : Nat} {x1 : Int32} {x2 : Int32} {x3 : Int32} {x4 : Option Value} {h : iH} {Q : Option Value → iH → Prop} (H : (∃ v1 : Nat, i_fld h x0 11 5 = some (.ref v1) ∧ (∃ v2 : Nat, i_fld h v1 8 12 = some (.ref v2) ∧ (∃ v3 : Int32, i_fld h v2 3 0 = some (.int v3) ∧ ((v3 ≤ x3 → i_P i_MT i_AT L xs 154 17 [some (.ref x0), some (.int x1), some (.int (x2 + 1)), some (.int x3), x4] [] h 0 0 Q) ∧ (¬ (v3 ≤ x3) → (∃ v4 : Nat, i_fld h x0 11 11 = some (.ref v4) ∧ (i_obj? h v4 0 ∧ i_C i_MT i_AT L xs 14 [.ref v4, .int x3, .int x2] h (fun v h5 => ∃ r6 : Int32, v = some (.int r6) ∧ i_P i_MT i_AT L xs 154 48 [some (.ref x0), some (.int x1), some (.int x2), some (.int x3), x4] [.int r6] h5 0 0 Q))))))))) : i_P i_MT i_AT L xs 154 25 [some (.ref x0), some (.int x1), some (.int x2), some (.int x3), x4] [] h 0 0 Q := by
  have hk := i_k154
  refine g_s1 (pc2 := 26) hk rfl rfl rfl rfl rfl ?_
  refine g_s1 (pc2 := 27) hk rfl rfl rfl rfl rfl ?_
  obtain ⟨v1, ev1, H⟩ := H
  refine g_step (pc2 := 30) hk rfl rfl rfl (s_get ev1) ?_
  obtain ⟨v2, ev2, H⟩ := H
  refine g_step (pc2 := 33) hk rfl rfl rfl (s_get ev2) ?_
  obtain ⟨v3, ev3, H⟩ := H
  refine g_step (pc2 := 36) hk rfl rfl rfl (s_get ev3) ?_
  refine g_icmp_ge hk rfl (fun hc => ?_) (fun hc => ?_)
  · have H := H.1 hc
    refine g_s1 (pc2 := 89) (lo2 := [some (.ref x0), some (.int x1), some (.int (x2 + 1)), some (.int x3), x4]) hk rfl rfl rfl rfl rfl ?_
    refine g_s1 (pc2 := 17) hk rfl rfl rfl rfl rfl ?_
    exact H
  · have H := H.2 hc
    refine g_s1 (pc2 := 40) hk rfl rfl rfl rfl rfl ?_
    obtain ⟨v4, ev4, H⟩ := H
    refine g_step (pc2 := 43) hk rfl rfl rfl (s_get ev4) ?_
    refine g_s1 (pc2 := 44) hk rfl rfl rfl rfl rfl ?_
    refine g_s1 (pc2 := 45) hk rfl rfl rfl rfl rfl ?_
    obtain ⟨ho, H⟩ := H
    refine g_call hk rfl rfl i_k14.1 ⟨rfl, rfl⟩ rfl (i_rcv_v ho rfl (by decide)) rfl ?_
    exact H.mono (fun v h2 q => by obtain ⟨r, rfl, q⟩ := q; exact q)
theorem b154_48 {x0 : Nat} {x1 : Int32} {x2 : Int32} {x3 : Int32} {x4 : Option Value} {s0 : Int32} {h : iH} {Q : Option Value → iH → Prop} (H : ((s0 = (-1 : Int32) → i_P i_MT i_AT L xs 154 25 [some (.ref x0), some (.int x1), some (.int x2), some (.int (x3 + 1)), some (.int s0)] [] h 0 0 Q) ∧ (¬ (s0 = (-1 : Int32)) → ((¬ x1 = 0 → ((¬ x1 = (1 : Int32) → i_P i_MT i_AT L xs 154 76 [some (.ref x0), some (.int x1), some (.int x2), some (.int x3), some (.int s0)] [.int s0, .ref x0] h 0 0 Q) ∧ (¬ (¬ x1 = (1 : Int32)) → i_P i_MT i_AT L xs 154 76 [some (.ref x0), some (.int x1), some (.int x2), some (.int x3), some (.int s0)] [.int x3, .ref x0] h 0 0 Q))) ∧ (¬ (¬ x1 = 0) → i_P i_MT i_AT L xs 154 76 [some (.ref x0), some (.int x1), some (.int x2), some (.int x3), some (.int s0)] [.int x2, .ref x0] h 0 0 Q))))) : i_P i_MT i_AT L xs 154 48 [some (.ref x0), some (.int x1), some (.int x2), some (.int x3), x4] [.int s0] h 0 0 Q := by
  have hk := i_k154
  refine g_s1 (pc2 := 50) (lo2 := [some (.ref x0), some (.int x1), some (.int x2), some (.int x3), some (.int s0)]) hk rfl rfl rfl rfl rfl ?_
  refine g_s1 (pc2 := 52) hk rfl rfl rfl rfl rfl ?_
  refine g_s1 (pc2 := 53) (st2 := [.int (-1 : Int32), .int s0]) hk rfl rfl rfl rfl rfl ?_
  refine g_icmp_eq hk rfl (fun hc => ?_) (fun hc => ?_)
  · have H := H.1 hc
    refine g_s1 (pc2 := 83) (lo2 := [some (.ref x0), some (.int x1), some (.int x2), some (.int (x3 + 1)), some (.int s0)]) hk rfl rfl rfl rfl rfl ?_
    refine g_s1 (pc2 := 25) hk rfl rfl rfl rfl rfl ?_
    exact H
  · have H := H.2 hc
    refine g_s1 (pc2 := 57) hk rfl rfl rfl rfl rfl ?_
    refine g_s1 (pc2 := 58) hk rfl rfl rfl rfl rfl ?_
    refine g_if_ne hk rfl (fun hc => ?_) (fun hc => ?_)
    · have H := H.1 hc
      refine g_s1 (pc2 := 66) hk rfl rfl rfl rfl rfl ?_
      refine g_s1 (pc2 := 67) (st2 := [.int (1 : Int32), .int x1, .ref x0]) hk rfl rfl rfl rfl rfl ?_
      refine g_icmp_ne hk rfl (fun hc => ?_) (fun hc => ?_)
      · have H := H.1 hc
        refine g_s1 (pc2 := 76) hk rfl rfl rfl rfl rfl ?_
        exact H
      · have H := H.2 hc
        refine g_s1 (pc2 := 71) hk rfl rfl rfl rfl rfl ?_
        refine g_s1 (pc2 := 76) hk rfl rfl rfl rfl rfl ?_
        exact H
    · have H := H.2 hc
      refine g_s1 (pc2 := 62) hk rfl rfl rfl rfl rfl ?_
      refine g_s1 (pc2 := 76) hk rfl rfl rfl rfl rfl ?_
      exact H
theorem b154_76 {x0 : Nat} {x1 : Int32} {x2 : Int32} {x3 : Int32} {x4 : Int32} {s0 : Nat} {s1 : Int32} {h : iH} {Q : Option Value → iH → Prop} (H : (i_obj? h s0 11 ∧ i_C i_MT i_AT L xs 181 [.ref s0, .int s1] h (fun v h1 => ∃ r2 : Int32, v = some (.int r2) ∧ i_P i_MT i_AT L xs 154 79 [some (.ref x0), some (.int x1), some (.int x2), some (.int x3), some (.int x4)] [.int r2] h1 0 0 Q))) : i_P i_MT i_AT L xs 154 76 [some (.ref x0), some (.int x1), some (.int x2), some (.int x3), some (.int x4)] [.int s1, .ref s0] h 0 0 Q := by
  have hk := i_k154
  obtain ⟨ho, H⟩ := H
  refine g_call hk rfl rfl i_k181.1 ⟨rfl, rfl⟩ rfl (i_rcv_v ho rfl (by decide)) rfl ?_
  exact H.mono (fun v h2 q => by obtain ⟨r, rfl, q⟩ := q; exact q)
theorem b154_79 {x0 : Nat} {x1 : Int32} {x2 : Int32} {x3 : Int32} {x4 : Int32} {s0 : Int32} {h : iH} {Q : Option Value → iH → Prop} (H : Q (some (.int s0)) h) : i_P i_MT i_AT L xs 154 79 [some (.ref x0), some (.int x1), some (.int x2), some (.int x3), some (.int x4)] [.int s0] h 0 0 Q := by
  have hk := i_k154
  exact g_ireturn hk rfl (by decide) (by decide) rfl H
theorem b154_98 {x0 : Nat} {x1 : Int32} {x2 : Int32} {x3 : Option Value} {x4 : Option Value} {s0 : Int32} {h : iH} {Q : Option Value → iH → Prop} (H : Q (some (.int s0)) h) : i_P i_MT i_AT L xs 154 98 [some (.ref x0), some (.int x1), some (.int x2), x3, x4] [.int s0] h 0 0 Q := by
  have hk := i_k154
  exact g_ireturn hk rfl (by decide) (by decide) rfl H
/-! StillTown.way(II)I -/
theorem e155 {x0 : Nat} {x1 : Int32} {x2 : Int32} {h : iH} {Q : Option Value → iH → Prop} (H : i_P i_MT i_AT L xs 155 0 [some (.ref x0), some (.int x1), some (.int x2)] [] h 0 0 Q) : i_C i_MT i_AT L xs 155 [.ref x0, .int x1, .int x2] h Q := ⟨i_m155, i_k155.1, Nat.le_of_ble_eq_true rfl, H⟩
theorem b155_0 {x0 : Nat} {x1 : Int32} {x2 : Int32} {h : iH} {Q : Option Value → iH → Prop} (H : (i_obj? h x0 11 ∧ i_C i_MT i_AT L xs 186 [.ref x0, .int x1] h (fun v h1 => ∃ r2 : Int32, v = some (.int r2) ∧ i_P i_MT i_AT L xs 155 5 [some (.ref x0), some (.int x1), some (.int x2)] [.int r2] h1 0 0 Q))) : i_P i_MT i_AT L xs 155 0 [some (.ref x0), some (.int x1), some (.int x2)] [] h 0 0 Q := by
  have hk := i_k155
  refine g_s1 (pc2 := 1) hk rfl rfl rfl rfl rfl ?_
  refine g_s1 (pc2 := 2) hk rfl rfl rfl rfl rfl ?_
  obtain ⟨ho, H⟩ := H
  refine g_call hk rfl rfl i_k186.1 ⟨rfl, rfl⟩ rfl (i_rcv_v ho rfl (by decide)) rfl ?_
  exact H.mono (fun v h2 q => by obtain ⟨r, rfl, q⟩ := q; exact q)
theorem b155_5 {x0 : Nat} {x1 : Int32} {x2 : Int32} {s0 : Int32} {h : iH} {Q : Option Value → iH → Prop} (H : ((s0 = 0 → i_P i_MT i_AT L xs 155 16 [some (.ref x0), some (.int x1), some (.int x2)] [] h 0 0 Q) ∧ (¬ (s0 = 0) → (i_obj? h x0 11 ∧ i_C i_MT i_AT L xs 189 [.ref x0, .int x2] h (fun v h1 => ∃ r2 : Int32, v = some (.int r2) ∧ i_P i_MT i_AT L xs 155 13 [some (.ref x0), some (.int x1), some (.int x2)] [.int r2] h1 0 0 Q))))) : i_P i_MT i_AT L xs 155 5 [some (.ref x0), some (.int x1), some (.int x2)] [.int s0] h 0 0 Q := by
  have hk := i_k155
  refine g_if_eq hk rfl (fun hc => ?_) (fun hc => ?_)
  · have H := H.1 hc
    exact H
  · have H := H.2 hc
    refine g_s1 (pc2 := 9) hk rfl rfl rfl rfl rfl ?_
    refine g_s1 (pc2 := 10) hk rfl rfl rfl rfl rfl ?_
    obtain ⟨ho, H⟩ := H
    refine g_call hk rfl rfl i_k189.1 ⟨rfl, rfl⟩ rfl (i_rcv_v ho rfl (by decide)) rfl ?_
    exact H.mono (fun v h2 q => by obtain ⟨r, rfl, q⟩ := q; exact q)
theorem b155_13 {x0 : Nat} {x1 : Int32} {x2 : Int32} {s0 : Int32} {h : iH} {Q : Option Value → iH → Prop} (H : ((¬ s0 = 0 → (∃ v1 : Nat, i_fld h x0 11 12 = some (.ref v1) ∧ (i_obj? h v1 6 ∧ i_C i_MT i_AT L xs 70 [.ref v1, .int x1, .int x2] h (fun v h2 => ∃ r3 : Int32, v = some (.int r3) ∧ i_P i_MT i_AT L xs 155 32 [some (.ref x0), some (.int x1), some (.int x2)] [.int r3, .ref x0] h2 0 0 Q)))) ∧ (¬ (¬ s0 = 0) → i_P i_MT i_AT L xs 155 16 [some (.ref x0), some (.int x1), some (.int x2)] [] h 0 0 Q))) : i_P i_MT i_AT L xs 155 13 [some (.ref x0), some (.int x1), some (.int x2)] [.int s0] h 0 0 Q := by
  have hk := i_k155
  refine g_if_ne hk rfl (fun hc => ?_) (fun hc => ?_)
  · have H := H.1 hc
    refine g_s1 (pc2 := 23) hk rfl rfl rfl rfl rfl ?_
    refine g_s1 (pc2 := 24) hk rfl rfl rfl rfl rfl ?_
    obtain ⟨v1, ev1, H⟩ := H
    refine g_step (pc2 := 27) hk rfl rfl rfl (s_get ev1) ?_
    refine g_s1 (pc2 := 28) hk rfl rfl rfl rfl rfl ?_
    refine g_s1 (pc2 := 29) hk rfl rfl rfl rfl rfl ?_
    obtain ⟨ho, H⟩ := H
    refine g_call hk rfl rfl i_k70.1 ⟨rfl, rfl⟩ rfl (i_rcv_v ho rfl (by decide)) rfl ?_
    exact H.mono (fun v h2 q => by obtain ⟨r, rfl, q⟩ := q; exact q)
  · have H := H.2 hc
    exact H
theorem b155_16 {x0 : Nat} {x1 : Int32} {x2 : Int32} {h : iH} {Q : Option Value → iH → Prop} (H : (i_obj? h x0 11 ∧ i_C i_MT i_AT L xs 179 [.ref x0, .int (1 : Int32)] h (fun v h1 => ∃ r2 : Int32, v = some (.int r2) ∧ i_P i_MT i_AT L xs 155 21 [some (.ref x0), some (.int x1), some (.int x2)] [.int r2] h1 0 0 Q))) : i_P i_MT i_AT L xs 155 16 [some (.ref x0), some (.int x1), some (.int x2)] [] h 0 0 Q := by
  have hk := i_k155
  refine g_s1 (pc2 := 17) hk rfl rfl rfl rfl rfl ?_
  refine g_s1 (pc2 := 18) (st2 := [.int (1 : Int32), .ref x0]) hk rfl rfl rfl rfl rfl ?_
  obtain ⟨ho, H⟩ := H
  refine g_call hk rfl rfl i_k179.1 ⟨rfl, rfl⟩ rfl (i_rcv_v ho rfl (by decide)) rfl ?_
  exact H.mono (fun v h2 q => by obtain ⟨r, rfl, q⟩ := q; exact q)
theorem b155_21 {x0 : Nat} {x1 : Int32} {x2 : Int32} {s0 : Int32} {h : iH} {Q : Option Value → iH → Prop} (H : Q (some (.int s0)) h) : i_P i_MT i_AT L xs 155 21 [some (.ref x0), some (.int x1), some (.int x2)] [.int s0] h 0 0 Q := by
  have hk := i_k155
  exact g_ireturn hk rfl (by decide) (by decide) rfl H
theorem b155_32 {x0 : Nat} {x1 : Int32} {x2 : Int32} {s0 : Nat} {s1 : Int32} {h : iH} {Q : Option Value → iH → Prop} (H : (i_obj? h s0 11 ∧ i_C i_MT i_AT L xs 183 [.ref s0, .int s1] h (fun v h1 => ∃ r2 : Int32, v = some (.int r2) ∧ i_P i_MT i_AT L xs 155 35 [some (.ref x0), some (.int x1), some (.int x2)] [.int r2] h1 0 0 Q))) : i_P i_MT i_AT L xs 155 32 [some (.ref x0), some (.int x1), some (.int x2)] [.int s1, .ref s0] h 0 0 Q := by
  have hk := i_k155
  obtain ⟨ho, H⟩ := H
  refine g_call hk rfl rfl i_k183.1 ⟨rfl, rfl⟩ rfl (i_rcv_v ho rfl (by decide)) rfl ?_
  exact H.mono (fun v h2 q => by obtain ⟨r, rfl, q⟩ := q; exact q)
theorem b155_35 {x0 : Nat} {x1 : Int32} {x2 : Int32} {s0 : Int32} {h : iH} {Q : Option Value → iH → Prop} (H : Q (some (.int s0)) h) : i_P i_MT i_AT L xs 155 35 [some (.ref x0), some (.int x1), some (.int x2)] [.int s0] h 0 0 Q := by
  have hk := i_k155
  exact g_ireturn hk rfl (by decide) (by decide) rfl H
/-! StillTown.wayCell(I)I -/
theorem e156 {x0 : Nat} {x1 : Int32} {h : iH} {Q : Option Value → iH → Prop} (H : i_P i_MT i_AT L xs 156 0 [some (.ref x0), some (.int x1)] [] h 0 0 Q) : i_C i_MT i_AT L xs 156 [.ref x0, .int x1] h Q := ⟨i_m156, i_k156.1, Nat.le_of_ble_eq_true rfl, H⟩
theorem b156_0 {x0 : Nat} {x1 : Int32} {h : iH} {Q : Option Value → iH → Prop} (H : (∃ v1 : Nat, i_fld h x0 11 12 = some (.ref v1) ∧ (∃ v2 : Int32, i_fld h v1 6 1 = some (.int v2) ∧ (i_C i_MT i_AT L xs 192 [.int x1, .int (0 : Int32), .int v2] h (fun v h3 => ∃ r4 : Int32, v = some (.int r4) ∧ i_P i_MT i_AT L xs 156 12 [some (.ref x0), some (.int x1)] [.int r4] h3 0 0 Q))))) : i_P i_MT i_AT L xs 156 0 [some (.ref x0), some (.int x1)] [] h 0 0 Q := by
  have hk := i_k156
  refine g_s1 (pc2 := 1) hk rfl rfl rfl rfl rfl ?_
  refine g_s1 (pc2 := 2) (st2 := [.int (0 : Int32), .int x1]) hk rfl rfl rfl rfl rfl ?_
  refine g_s1 (pc2 := 3) hk rfl rfl rfl rfl rfl ?_
  obtain ⟨v1, ev1, H⟩ := H
  refine g_step (pc2 := 6) hk rfl rfl rfl (s_get ev1) ?_
  obtain ⟨v2, ev2, H⟩ := H
  refine g_step (pc2 := 9) hk rfl rfl rfl (s_get ev2) ?_
  refine g_call hk rfl rfl i_k192.1 ⟨rfl, rfl⟩ rfl (i_rcv_0 rfl) rfl ?_
  exact H.mono (fun v h2 q => by obtain ⟨r, rfl, q⟩ := q; exact q)
theorem b156_12 {x0 : Nat} {x1 : Int32} {s0 : Int32} {h : iH} {Q : Option Value → iH → Prop} (H : ((¬ s0 = 0 → (∃ v1 : Nat, i_fld h x0 11 12 = some (.ref v1) ∧ (∃ v2 : Nat, i_fld h v1 6 2 = some (.ref v2) ∧ (∃ (n3 : Nat) (f4 : Nat → Int32), i_arI h 0 v2 = some (n3, f4) ∧ ¬ (x1 < 0 ∨ n3 ≤ x1.toNatClampNeg) ∧ (i_obj? h x0 11 ∧ i_C i_MT i_AT L xs 181 [.ref x0, .int (f4 x1.toNatClampNeg)] h (fun v h5 => ∃ r6 : Int32, v = some (.int r6) ∧ i_P i_MT i_AT L xs 156 35 [some (.ref x0), some (.int x1)] [.int r6] h5 0 0 Q)))))) ∧ (¬ (¬ s0 = 0) → (i_obj? h x0 11 ∧ i_C i_MT i_AT L xs 179 [.ref x0, .int (6 : Int32)] h (fun v h7 => ∃ r8 : Int32, v = some (.int r8) ∧ i_P i_MT i_AT L xs 156 21 [some (.ref x0), some (.int x1)] [.int r8] h7 0 0 Q))))) : i_P i_MT i_AT L xs 156 12 [some (.ref x0), some (.int x1)] [.int s0] h 0 0 Q := by
  have hk := i_k156
  refine g_if_ne hk rfl (fun hc => ?_) (fun hc => ?_)
  · have H := H.1 hc
    refine g_s1 (pc2 := 23) hk rfl rfl rfl rfl rfl ?_
    refine g_s1 (pc2 := 24) hk rfl rfl rfl rfl rfl ?_
    obtain ⟨v1, ev1, H⟩ := H
    refine g_step (pc2 := 27) hk rfl rfl rfl (s_get ev1) ?_
    obtain ⟨v2, ev2, H⟩ := H
    refine g_step (pc2 := 30) hk rfl rfl rfl (s_get ev2) ?_
    refine g_s1 (pc2 := 31) hk rfl rfl rfl rfl rfl ?_
    obtain ⟨n3, f4, ef4, hi, H⟩ := H
    refine g_step (pc2 := 32) hk rfl rfl rfl (s_aget (L := L) (xs := xs) ef4 hi) ?_
    obtain ⟨ho, H⟩ := H
    refine g_call hk rfl rfl i_k181.1 ⟨rfl, rfl⟩ rfl (i_rcv_v ho rfl (by decide)) rfl ?_
    exact H.mono (fun v h2 q => by obtain ⟨r, rfl, q⟩ := q; exact q)
  · have H := H.2 hc
    refine g_s1 (pc2 := 16) hk rfl rfl rfl rfl rfl ?_
    refine g_s1 (pc2 := 18) (st2 := [.int (6 : Int32), .ref x0]) hk rfl rfl rfl rfl rfl ?_
    obtain ⟨ho, H⟩ := H
    refine g_call hk rfl rfl i_k179.1 ⟨rfl, rfl⟩ rfl (i_rcv_v ho rfl (by decide)) rfl ?_
    exact H.mono (fun v h2 q => by obtain ⟨r, rfl, q⟩ := q; exact q)
theorem b156_21 {x0 : Nat} {x1 : Int32} {s0 : Int32} {h : iH} {Q : Option Value → iH → Prop} (H : Q (some (.int s0)) h) : i_P i_MT i_AT L xs 156 21 [some (.ref x0), some (.int x1)] [.int s0] h 0 0 Q := by
  have hk := i_k156
  exact g_ireturn hk rfl (by decide) (by decide) rfl H
theorem b156_35 {x0 : Nat} {x1 : Int32} {s0 : Int32} {h : iH} {Q : Option Value → iH → Prop} (H : Q (some (.int s0)) h) : i_P i_MT i_AT L xs 156 35 [some (.ref x0), some (.int x1)] [.int s0] h 0 0 Q := by
  have hk := i_k156
  exact g_ireturn hk rfl (by decide) (by decide) rfl H
end
