/-! BLOCKS, 0: what it takes to go on from a label; by program -/
section
variable {L : Nat} {xs : Nat → Int32}
set_option maxRecDepth 20000
set_option maxHeartbeats 1000000
/-! StillTown$Course.follow(LStillTown$Town;)V -/
theorem e1 {x0 : Nat} {x1 : Nat} {h : iH} {Q : Option Value → iH → Prop} (H : i_P i_MT i_AT L xs 1 0 [some (.ref x0), some (.ref x1), none] [] h 0 0 Q) : i_C i_MT i_AT L xs 1 [.ref x0, .ref x1] h Q := ⟨i_m1, i_k1.1, Nat.le_of_ble_eq_true rfl, H⟩
theorem b1_0 {x0 : Nat} {x1 : Nat} {x2 : Option Value} {h : iH} {Q : Option Value → iH → Prop} (H : ((∃ o, i_fld h x0 0 1 = some o) ∧ i_P i_MT i_AT L xs 1 5 [some (.ref x0), some (.ref x1), x2] [] (i_sf h x0 1 (.ref x1)) 0 0 Q)) : i_P i_MT i_AT L xs 1 0 [some (.ref x0), some (.ref x1), x2] [] h 0 0 Q := by
  have hk := i_k1
  refine g_s1 (pc2 := 1) hk rfl rfl rfl rfl rfl ?_
  refine g_s1 (pc2 := 2) hk rfl rfl rfl rfl rfl ?_
  obtain ⟨⟨o, ho⟩, H⟩ := H
  refine g_step (pc2 := 5) hk rfl rfl rfl (s_put ho rfl) ?_
  exact H
theorem b1_5 {x0 : Nat} {x1 : Nat} {x2 : Option Value} {h : iH} {Q : Option Value → iH → Prop} (H : (∃ v1 : Nat, i_fld h x0 0 0 = some (.ref v1) ∧ (∃ v2 : Nat, i_fld h x0 0 1 = some (.ref v2) ∧ (i_obj? h v1 2 ∧ i_C i_MT i_AT L xs 21 [.ref v1, .ref v2] h (fun v h3 => v = none ∧ i_P i_MT i_AT L xs 1 16 [some (.ref x0), some (.ref x1), x2] [] h3 0 0 Q))))) : i_P i_MT i_AT L xs 1 5 [some (.ref x0), some (.ref x1), x2] [] h 0 0 Q := by
  have hk := i_k1
  refine g_s1 (pc2 := 6) hk rfl rfl rfl rfl rfl ?_
  obtain ⟨v1, ev1, H⟩ := H
  refine g_step (pc2 := 9) hk rfl rfl rfl (s_get ev1) ?_
  refine g_s1 (pc2 := 10) hk rfl rfl rfl rfl rfl ?_
  obtain ⟨v2, ev2, H⟩ := H
  refine g_step (pc2 := 13) hk rfl rfl rfl (s_get ev2) ?_
  obtain ⟨ho, H⟩ := H
  refine g_call hk rfl rfl i_k21.1 ⟨rfl, rfl⟩ rfl (i_rcv_v ho rfl (by decide)) rfl ?_
  exact H.mono (fun v h2 q => by obtain ⟨rfl, q⟩ := q; exact q)
theorem b1_16 {x0 : Nat} {x1 : Nat} {x2 : Option Value} {h : iH} {Q : Option Value → iH → Prop} (H : (∃ v1 : Nat, i_fld h x0 0 7 = some (.ref v1) ∧ (i_C i_MT i_AT L xs 348 [.ref v1, .long (-1 : Int64)] h (fun v h2 => v = none ∧ i_P i_MT i_AT L xs 1 26 [some (.ref x0), some (.ref x1), x2] [] h2 0 0 Q)))) : i_P i_MT i_AT L xs 1 16 [some (.ref x0), some (.ref x1), x2] [] h 0 0 Q := by
  have hk := i_k1
  refine g_s1 (pc2 := 17) hk rfl rfl rfl rfl rfl ?_
  obtain ⟨v1, ev1, H⟩ := H
  refine g_step (pc2 := 20) hk rfl rfl rfl (s_get ev1) ?_
  refine g_step (pc2 := 23) (st2 := [.long (-1 : Int64), .ref v1]) hk rfl rfl rfl rfl ?_
  refine g_call hk rfl rfl i_k348.1 ⟨rfl, rfl⟩ rfl (i_rcv_0 rfl) rfl ?_
  exact H.mono (fun v h2 q => by obtain ⟨rfl, q⟩ := q; exact q)
theorem b1_26 {x0 : Nat} {x1 : Nat} {x2 : Option Value} {h : iH} {Q : Option Value → iH → Prop} (H : (∃ v1 : Nat, i_fld h x0 0 8 = some (.ref v1) ∧ (i_C i_MT i_AT L xs 349 [.ref v1, .int (-1 : Int32)] h (fun v h2 => v = none ∧ i_P i_MT i_AT L xs 1 34 [some (.ref x0), some (.ref x1), x2] [] h2 0 0 Q)))) : i_P i_MT i_AT L xs 1 26 [some (.ref x0), some (.ref x1), x2] [] h 0 0 Q := by
  have hk := i_k1
  refine g_s1 (pc2 := 27) hk rfl rfl rfl rfl rfl ?_
  obtain ⟨v1, ev1, H⟩ := H
  refine g_step (pc2 := 30) hk rfl rfl rfl (s_get ev1) ?_
  refine g_s1 (pc2 := 31) (st2 := [.int (-1 : Int32), .ref v1]) hk rfl rfl rfl rfl rfl ?_
  refine g_call hk rfl rfl i_k349.1 ⟨rfl, rfl⟩ rfl (i_rcv_0 rfl) rfl ?_
  exact H.mono (fun v h2 q => by obtain ⟨rfl, q⟩ := q; exact q)
theorem b1_34 {x0 : Nat} {x1 : Nat} {x2 : Option Value} {h : iH} {Q : Option Value → iH → Prop} (H : (∃ v1 : Nat, i_fld h x0 0 2 = some (.ref v1) ∧ (∃ v2 : Nat, i_fld h x0 0 1 = some (.ref v2) ∧ (∃ v3 : Int64, i_fld h v2 8 2 = some (.long v3) ∧ (i_C i_MT i_AT L xs 348 [.ref v1, .long v3] h (fun v h4 => v = none ∧ i_P i_MT i_AT L xs 1 48 [some (.ref x0), some (.ref x1), x2] [] h4 0 0 Q)))))) : i_P i_MT i_AT L xs 1 34 [some (.ref x0), some (.ref x1), x2] [] h 0 0 Q := by
  have hk := i_k1
  refine g_s1 (pc2 := 35) hk rfl rfl rfl rfl rfl ?_
  obtain ⟨v1, ev1, H⟩ := H
  refine g_step (pc2 := 38) hk rfl rfl rfl (s_get ev1) ?_
  refine g_s1 (pc2 := 39) hk rfl rfl rfl rfl rfl ?_
  obtain ⟨v2, ev2, H⟩ := H
  refine g_step (pc2 := 42) hk rfl rfl rfl (s_get ev2) ?_
  obtain ⟨v3, ev3, H⟩ := H
  refine g_step (pc2 := 45) hk rfl rfl rfl (s_get ev3) ?_
  refine g_call hk rfl rfl i_k348.1 ⟨rfl, rfl⟩ rfl (i_rcv_0 rfl) rfl ?_
  exact H.mono (fun v h2 q => by obtain ⟨rfl, q⟩ := q; exact q)
theorem b1_48 {x0 : Nat} {x1 : Nat} {x2 : Option Value} {h : iH} {Q : Option Value → iH → Prop} (H : i_P i_MT i_AT L xs 1 50 [some (.ref x0), some (.ref x1), some (.int (0 : Int32))] [] h 0 0 Q) : i_P i_MT i_AT L xs 1 48 [some (.ref x0), some (.ref x1), x2] [] h 0 0 Q := by
  have hk := i_k1
  refine g_s1 (pc2 := 49) (st2 := [.int (0 : Int32)]) hk rfl rfl rfl rfl rfl ?_
  refine g_s1 (pc2 := 50) (lo2 := [some (.ref x0), some (.ref x1), some (.int (0 : Int32))]) hk rfl rfl rfl rfl rfl ?_
  exact H
theorem b1_50 {x0 : Nat} {x1 : Nat} {x2 : Int32} {h : iH} {Q : Option Value → iH → Prop} (H : (∃ v1 : Nat, i_fld h x0 0 1 = some (.ref v1) ∧ (∃ v2 : Int32, i_fld h v1 8 5 = some (.int v2) ∧ ((v2 ≤ x2 → i_P i_MT i_AT L xs 1 74 [some (.ref x0), some (.ref x1), some (.int (0 : Int32))] [] h 0 0 Q) ∧ (¬ (v2 ≤ x2) → (i_obj? h x0 0 ∧ i_C i_MT i_AT L xs 2 [.ref x0, .int x2] h (fun v h3 => v = none ∧ i_P i_MT i_AT L xs 1 66 [some (.ref x0), some (.ref x1), some (.int x2)] [] h3 0 0 Q))))))) : i_P i_MT i_AT L xs 1 50 [some (.ref x0), some (.ref x1), some (.int x2)] [] h 0 0 Q := by
  have hk := i_k1
  refine g_s1 (pc2 := 51) hk rfl rfl rfl rfl rfl ?_
  refine g_s1 (pc2 := 52) hk rfl rfl rfl rfl rfl ?_
  obtain ⟨v1, ev1, H⟩ := H
  refine g_step (pc2 := 55) hk rfl rfl rfl (s_get ev1) ?_
  obtain ⟨v2, ev2, H⟩ := H
  refine g_step (pc2 := 58) hk rfl rfl rfl (s_get ev2) ?_
  refine g_icmp_ge hk rfl (fun hc => ?_) (fun hc => ?_)
  · have H := H.1 hc
    refine g_s1 (pc2 := 73) (st2 := [.int (0 : Int32)]) hk rfl rfl rfl rfl rfl ?_
    refine g_s1 (pc2 := 74) (lo2 := [some (.ref x0), some (.ref x1), some (.int (0 : Int32))]) hk rfl rfl rfl rfl rfl ?_
    exact H
  · have H := H.2 hc
    refine g_s1 (pc2 := 62) hk rfl rfl rfl rfl rfl ?_
    refine g_s1 (pc2 := 63) hk rfl rfl rfl rfl rfl ?_
    obtain ⟨ho, H⟩ := H
    refine g_call hk rfl rfl i_k2.1 ⟨rfl, rfl⟩ rfl (i_rcv_v ho rfl (by decide)) rfl ?_
    exact H.mono (fun v h2 q => by obtain ⟨rfl, q⟩ := q; exact q)
theorem b1_66 {x0 : Nat} {x1 : Nat} {x2 : Int32} {h : iH} {Q : Option Value → iH → Prop} (H : i_P i_MT i_AT L xs 1 50 [some (.ref x0), some (.ref x1), some (.int (x2 + 1))] [] h 0 0 Q) : i_P i_MT i_AT L xs 1 66 [some (.ref x0), some (.ref x1), some (.int x2)] [] h 0 0 Q := by
  have hk := i_k1
  refine g_s1 (pc2 := 69) (lo2 := [some (.ref x0), some (.ref x1), some (.int (x2 + 1))]) hk rfl rfl rfl rfl rfl ?_
  refine g_s1 (pc2 := 50) hk rfl rfl rfl rfl rfl ?_
  exact H
theorem b1_74 {x0 : Nat} {x1 : Nat} {x2 : Int32} {h : iH} {Q : Option Value → iH → Prop} (H : (∃ v1 : Nat, i_fld h x0 0 1 = some (.ref v1) ∧ (∃ v2 : Nat, i_fld h v1 8 12 = some (.ref v2) ∧ (∃ v3 : Int32, i_fld h v2 3 0 = some (.int v3) ∧ ((v3 ≤ x2 → Q none h) ∧ (¬ (v3 ≤ x2) → (i_obj? h x0 0 ∧ i_C i_MT i_AT L xs 3 [.ref x0, .int x2] h (fun v h4 => v = none ∧ i_P i_MT i_AT L xs 1 93 [some (.ref x0), some (.ref x1), some (.int x2)] [] h4 0 0 Q)))))))) : i_P i_MT i_AT L xs 1 74 [some (.ref x0), some (.ref x1), some (.int x2)] [] h 0 0 Q := by
  have hk := i_k1
  refine g_s1 (pc2 := 75) hk rfl rfl rfl rfl rfl ?_
  refine g_s1 (pc2 := 76) hk rfl rfl rfl rfl rfl ?_
  obtain ⟨v1, ev1, H⟩ := H
  refine g_step (pc2 := 79) hk rfl rfl rfl (s_get ev1) ?_
  obtain ⟨v2, ev2, H⟩ := H
  refine g_step (pc2 := 82) hk rfl rfl rfl (s_get ev2) ?_
  obtain ⟨v3, ev3, H⟩ := H
  refine g_step (pc2 := 85) hk rfl rfl rfl (s_get ev3) ?_
  refine g_icmp_ge hk rfl (fun hc => ?_) (fun hc => ?_)
  · have H := H.1 hc
    exact g_return hk rfl (by decide) (by decide) rfl H
  · have H := H.2 hc
    refine g_s1 (pc2 := 89) hk rfl rfl rfl rfl rfl ?_
    refine g_s1 (pc2 := 90) hk rfl rfl rfl rfl rfl ?_
    obtain ⟨ho, H⟩ := H
    refine g_call hk rfl rfl i_k3.1 ⟨rfl, rfl⟩ rfl (i_rcv_v ho rfl (by decide)) rfl ?_
    exact H.mono (fun v h2 q => by obtain ⟨rfl, q⟩ := q; exact q)
theorem b1_93 {x0 : Nat} {x1 : Nat} {x2 : Int32} {h : iH} {Q : Option Value → iH → Prop} (H : i_P i_MT i_AT L xs 1 74 [some (.ref x0), some (.ref x1), some (.int (x2 + 1))] [] h 0 0 Q) : i_P i_MT i_AT L xs 1 93 [some (.ref x0), some (.ref x1), some (.int x2)] [] h 0 0 Q := by
  have hk := i_k1
  refine g_s1 (pc2 := 96) (lo2 := [some (.ref x0), some (.ref x1), some (.int (x2 + 1))]) hk rfl rfl rfl rfl rfl ?_
  refine g_s1 (pc2 := 74) hk rfl rfl rfl rfl rfl ?_
  exact H
/-! StillTown$Course.drive(I)V -/
theorem e2 {x0 : Nat} {x1 : Int32} {h : iH} {Q : Option Value → iH → Prop} (H : i_P i_MT i_AT L xs 2 0 [some (.ref x0), some (.int x1), none, none, none, none] [] h 0 0 Q) : i_C i_MT i_AT L xs 2 [.ref x0, .int x1] h Q := ⟨i_m2, i_k2.1, Nat.le_of_ble_eq_true rfl, H⟩
theorem b2_0 {x0 : Nat} {x1 : Int32} {x2 : Option Value} {x3 : Option Value} {x4 : Option Value} {x5 : Option Value} {h : iH} {Q : Option Value → iH → Prop} (H : (∃ v1 : Nat, i_fld h x0 0 1 = some (.ref v1) ∧ (∃ v2 : Nat, i_fld h v1 8 7 = some (.ref v2) ∧ (∃ (n3 : Nat) (f4 : Nat → Int32), i_arI h 0 v2 = some (n3, f4) ∧ ¬ (x1 < 0 ∨ n3 ≤ x1.toNatClampNeg) ∧ (i_C i_MT i_AT L xs 336 [.int (1 : Int32), .int (f4 x1.toNatClampNeg)] h (fun v h5 => ∃ r6 : Int32, v = some (.int r6) ∧ i_P i_MT i_AT L xs 2 13 [some (.ref x0), some (.int x1), x2, x3, x4, x5] [.int r6] h5 0 0 Q)))))) : i_P i_MT i_AT L xs 2 0 [some (.ref x0), some (.int x1), x2, x3, x4, x5] [] h 0 0 Q := by
  have hk := i_k2
  refine g_s1 (pc2 := 1) (st2 := [.int (1 : Int32)]) hk rfl rfl rfl rfl rfl ?_
  refine g_s1 (pc2 := 2) hk rfl rfl rfl rfl rfl ?_
  obtain ⟨v1, ev1, H⟩ := H
  refine g_step (pc2 := 5) hk rfl rfl rfl (s_get ev1) ?_
  obtain ⟨v2, ev2, H⟩ := H
  refine g_step (pc2 := 8) hk rfl rfl rfl (s_get ev2) ?_
  refine g_s1 (pc2 := 9) hk rfl rfl rfl rfl rfl ?_
  obtain ⟨n3, f4, ef4, hi, H⟩ := H
  refine g_step (pc2 := 10) hk rfl rfl rfl (s_aget (L := L) (xs := xs) ef4 hi) ?_
  refine g_call hk rfl rfl i_k336.1 ⟨rfl, rfl⟩ rfl (i_rcv_0 rfl) rfl ?_
  exact H.mono (fun v h2 q => by obtain ⟨r, rfl, q⟩ := q; exact q)
theorem b2_13 {x0 : Nat} {x1 : Int32} {x2 : Option Value} {x3 : Option Value} {x4 : Option Value} {x5 : Option Value} {s0 : Int32} {h : iH} {Q : Option Value → iH → Prop} (H : (∃ v1 : Nat, i_fld h x0 0 1 = some (.ref v1) ∧ (∃ v2 : Nat, i_fld h v1 8 6 = some (.ref v2) ∧ (∃ (n3 : Nat) (f4 : Nat → Int32), i_arI h 0 v2 = some (n3, f4) ∧ ¬ (x1 < 0 ∨ n3 ≤ x1.toNatClampNeg) ∧ i_P i_MT i_AT L xs 2 27 [some (.ref x0), some (.int x1), some (.int s0), some (.int (f4 x1.toNatClampNeg)), some (.int (0 : Int32)), x5] [] h 0 0 Q)))) : i_P i_MT i_AT L xs 2 13 [some (.ref x0), some (.int x1), x2, x3, x4, x5] [.int s0] h 0 0 Q := by
  have hk := i_k2
  refine g_s1 (pc2 := 14) (lo2 := [some (.ref x0), some (.int x1), some (.int s0), x3, x4, x5]) hk rfl rfl rfl rfl rfl ?_
  refine g_s1 (pc2 := 15) hk rfl rfl rfl rfl rfl ?_
  obtain ⟨v1, ev1, H⟩ := H
  refine g_step (pc2 := 18) hk rfl rfl rfl (s_get ev1) ?_
  obtain ⟨v2, ev2, H⟩ := H
  refine g_step (pc2 := 21) hk rfl rfl rfl (s_get ev2) ?_
  refine g_s1 (pc2 := 22) hk rfl rfl rfl rfl rfl ?_
  obtain ⟨n3, f4, ef4, hi, H⟩ := H
  refine g_step (pc2 := 23) hk rfl rfl rfl (s_aget (L := L) (xs := xs) ef4 hi) ?_
  refine g_s1 (pc2 := 24) (lo2 := [some (.ref x0), some (.int x1), some (.int s0), some (.int (f4 x1.toNatClampNeg)), x4, x5]) hk rfl rfl rfl rfl rfl ?_
  refine g_s1 (pc2 := 25) (st2 := [.int (0 : Int32)]) hk rfl rfl rfl rfl rfl ?_
  refine g_s1 (pc2 := 27) (lo2 := [some (.ref x0), some (.int x1), some (.int s0), some (.int (f4 x1.toNatClampNeg)), some (.int (0 : Int32)), x5]) hk rfl rfl rfl rfl rfl ?_
  exact H
theorem b2_27 {x0 : Nat} {x1 : Int32} {x2 : Int32} {x3 : Int32} {x4 : Int32} {x5 : Option Value} {h : iH} {Q : Option Value → iH → Prop} (H : (((60 : Int32) < x4 → Q none h) ∧ (¬ ((60 : Int32) < x4) → ((x4 ≤ 0 → i_P i_MT i_AT L xs 2 81 [some (.ref x0), some (.int x1), some (.int x2), some (.int x3), some (.int x4), x5] [] h 0 0 Q) ∧ (¬ (x4 ≤ 0) → (∃ v1 : Nat, i_fld h x0 0 0 = some (.ref v1) ∧ (∃ v2 : Nat, i_fld h x0 0 1 = some (.ref v2) ∧ (∃ v3 : Nat, i_fld h v2 8 8 = some (.ref v3) ∧ (¬ x2 = 0 ∧ (∃ (n4 : Nat) (f5 : Nat → Int32), i_arI h 0 v3 = some (n4, f5) ∧ ¬ (((x1 * (8 : Int32)) + ((x4 - (1 : Int32)) - (x4 - (1 : Int32)) / x2 * x2)) < 0 ∨ n4 ≤ ((x1 * (8 : Int32)) + ((x4 - (1 : Int32)) - (x4 - (1 : Int32)) / x2 * x2)).toNatClampNeg) ∧ (i_obj? h v1 2 ∧ i_C i_MT i_AT L xs 25 [.ref v1, .int x3, .int (f5 ((x1 * (8 : Int32)) + ((x4 - (1 : Int32)) - (x4 - (1 : Int32)) / x2 * x2)).toNatClampNeg)] h (fun v h6 => ∃ r7 : Int32, v = some (.int r7) ∧ i_P i_MT i_AT L xs 2 66 [some (.ref x0), some (.int x1), some (.int x2), some (.int x3), some (.int x4), x5] [.int r7] h6 0 0 Q)))))))))))) : i_P i_MT i_AT L xs 2 27 [some (.ref x0), some (.int x1), some (.int x2), some (.int x3), some (.int x4), x5] [] h 0 0 Q := by
  have hk := i_k2
  refine g_s1 (pc2 := 29) hk rfl rfl rfl rfl rfl ?_
  refine g_s1 (pc2 := 31) (st2 := [.int (60 : Int32), .int x4]) hk rfl rfl rfl rfl rfl ?_
  refine g_icmp_gt hk rfl (fun hc => ?_) (fun hc => ?_)
  · have H := H.1 hc
    exact g_return hk rfl (by decide) (by decide) rfl H
  · have H := H.2 hc
    refine g_s1 (pc2 := 36) hk rfl rfl rfl rfl rfl ?_
    refine g_if_le hk rfl (fun hc => ?_) (fun hc => ?_)
    · have H := H.1 hc
      exact H
    · have H := H.2 hc
      refine g_s1 (pc2 := 40) hk rfl rfl rfl rfl rfl ?_
      obtain ⟨v1, ev1, H⟩ := H
      refine g_step (pc2 := 43) hk rfl rfl rfl (s_get ev1) ?_
      refine g_s1 (pc2 := 44) hk rfl rfl rfl rfl rfl ?_
      refine g_s1 (pc2 := 45) hk rfl rfl rfl rfl rfl ?_
      obtain ⟨v2, ev2, H⟩ := H
      refine g_step (pc2 := 48) hk rfl rfl rfl (s_get ev2) ?_
      obtain ⟨v3, ev3, H⟩ := H
      refine g_step (pc2 := 51) hk rfl rfl rfl (s_get ev3) ?_
      refine g_s1 (pc2 := 52) hk rfl rfl rfl rfl rfl ?_
      refine g_s1 (pc2 := 54) (st2 := [.int (8 : Int32), .int x1, .ref v3, .int x3, .ref v1]) hk rfl rfl rfl rfl rfl ?_
      refine g_s1 (pc2 := 55) hk rfl rfl rfl rfl rfl ?_
      refine g_s1 (pc2 := 57) hk rfl rfl rfl rfl rfl ?_
      refine g_s1 (pc2 := 58) (st2 := [.int (1 : Int32), .int x4, .int (x1 * (8 : Int32)), .ref v3, .int x3, .ref v1]) hk rfl rfl rfl rfl rfl ?_
      refine g_s1 (pc2 := 59) hk rfl rfl rfl rfl rfl ?_
      refine g_s1 (pc2 := 60) hk rfl rfl rfl rfl rfl ?_
      obtain ⟨hz, H⟩ := H
      refine g_s1 (pc2 := 61) hk rfl rfl rfl rfl (s_if hz) ?_
      refine g_s1 (pc2 := 62) hk rfl rfl rfl rfl rfl ?_
      obtain ⟨n4, f5, ef5, hi, H⟩ := H
      refine g_step (pc2 := 63) hk rfl rfl rfl (s_aget (L := L) (xs := xs) ef5 hi) ?_
      obtain ⟨ho, H⟩ := H
      refine g_call hk rfl rfl i_k25.1 ⟨rfl, rfl⟩ rfl (i_rcv_v ho rfl (by decide)) rfl ?_
      exact H.mono (fun v h2 q => by obtain ⟨r, rfl, q⟩ := q; exact q)
theorem b2_66 {x0 : Nat} {x1 : Int32} {x2 : Int32} {x3 : Int32} {x4 : Int32} {x5 : Option Value} {s0 : Int32} {h : iH} {Q : Option Value → iH → Prop} (H : ((¬ s0 = (-1 : Int32) → i_P i_MT i_AT L xs 2 80 [some (.ref x0), some (.int x1), some (.int x2), some (.int x3), some (.int x4), some (.int s0)] [.int s0] h 0 0 Q) ∧ (¬ (¬ s0 = (-1 : Int32)) → i_P i_MT i_AT L xs 2 80 [some (.ref x0), some (.int x1), some (.int x2), some (.int x3), some (.int x4), some (.int s0)] [.int x3] h 0 0 Q))) : i_P i_MT i_AT L xs 2 66 [some (.ref x0), some (.int x1), some (.int x2), some (.int x3), some (.int x4), x5] [.int s0] h 0 0 Q := by
  have hk := i_k2
  refine g_s1 (pc2 := 68) (lo2 := [some (.ref x0), some (.int x1), some (.int x2), some (.int x3), some (.int x4), some (.int s0)]) hk rfl rfl rfl rfl rfl ?_
  refine g_s1 (pc2 := 70) hk rfl rfl rfl rfl rfl ?_
  refine g_s1 (pc2 := 71) (st2 := [.int (-1 : Int32), .int s0]) hk rfl rfl rfl rfl rfl ?_
  refine g_icmp_ne hk rfl (fun hc => ?_) (fun hc => ?_)
  · have H := H.1 hc
    refine g_s1 (pc2 := 80) hk rfl rfl rfl rfl rfl ?_
    exact H
  · have H := H.2 hc
    refine g_s1 (pc2 := 75) hk rfl rfl rfl rfl rfl ?_
    refine g_s1 (pc2 := 80) hk rfl rfl rfl rfl rfl ?_
    exact H
theorem b2_80 {x0 : Nat} {x1 : Int32} {x2 : Int32} {x3 : Int32} {x4 : Int32} {x5 : Int32} {s0 : Int32} {h : iH} {Q : Option Value → iH → Prop} (H : i_P i_MT i_AT L xs 2 81 [some (.ref x0), some (.int x1), some (.int x2), some (.int s0), some (.int x4), some (.int x5)] [] h 0 0 Q) : i_P i_MT i_AT L xs 2 80 [some (.ref x0), some (.int x1), some (.int x2), some (.int x3), some (.int x4), some (.int x5)] [.int s0] h 0 0 Q := by
  have hk := i_k2
  refine g_s1 (pc2 := 81) (lo2 := [some (.ref x0), some (.int x1), some (.int x2), some (.int s0), some (.int x4), some (.int x5)]) hk rfl rfl rfl rfl rfl ?_
  exact H
theorem b2_81 {x0 : Nat} {x1 : Int32} {x2 : Int32} {x3 : Int32} {x4 : Int32} {x5 : Option Value} {h : iH} {Q : Option Value → iH → Prop} (H : (∃ v1 : Nat, i_fld h x0 0 6 = some (.ref v1) ∧ (∃ (n2 : Nat) (f3 : Nat → Int32), i_arI h 0 v1 = some (n2, f3) ∧ ¬ (((x1 * (61 : Int32)) + x4) < 0 ∨ n2 ≤ ((x1 * (61 : Int32)) + x4).toNatClampNeg) ∧ i_P i_MT i_AT L xs 2 94 [some (.ref x0), some (.int x1), some (.int x2), some (.int x3), some (.int x4), x5] [] (i_siI h v1 ((x1 * (61 : Int32)) + x4).toNatClampNeg x3) 0 0 Q))) : i_P i_MT i_AT L xs 2 81 [some (.ref x0), some (.int x1), some (.int x2), some (.int x3), some (.int x4), x5] [] h 0 0 Q := by
  have hk := i_k2
  refine g_s1 (pc2 := 82) hk rfl rfl rfl rfl rfl ?_
  obtain ⟨v1, ev1, H⟩ := H
  refine g_step (pc2 := 85) hk rfl rfl rfl (s_get ev1) ?_
  refine g_s1 (pc2 := 86) hk rfl rfl rfl rfl rfl ?_
  refine g_s1 (pc2 := 88) (st2 := [.int (61 : Int32), .int x1, .ref v1]) hk rfl rfl rfl rfl rfl ?_
  refine g_s1 (pc2 := 89) hk rfl rfl rfl rfl rfl ?_
  refine g_s1 (pc2 := 91) hk rfl rfl rfl rfl rfl ?_
  refine g_s1 (pc2 := 92) hk rfl rfl rfl rfl rfl ?_
  refine g_s1 (pc2 := 93) hk rfl rfl rfl rfl rfl ?_
  obtain ⟨n2, f3, ef3, hi, H⟩ := H
  refine g_step (pc2 := 94) hk rfl rfl rfl (s_aput ef3 hi) ?_
  exact H
theorem b2_94 {x0 : Nat} {x1 : Int32} {x2 : Int32} {x3 : Int32} {x4 : Int32} {x5 : Option Value} {h : iH} {Q : Option Value → iH → Prop} (H : (∃ v1 : Nat, i_fld h x0 0 2 = some (.ref v1) ∧ (∃ (n2 : Nat) (f3 : Nat → Int64), i_arJ h v1 = some (n2, f3) ∧ ¬ (x4 < 0 ∨ n2 ≤ x4.toNatClampNeg) ∧ (∃ (n4 : Nat) (f5 : Nat → Int64), i_arJ h v1 = some (n4, f5) ∧ ¬ (x4 < 0 ∨ n4 ≤ x4.toNatClampNeg) ∧ i_P i_MT i_AT L xs 2 107 [some (.ref x0), some (.int x1), some (.int x2), some (.int x3), some (.int x4), x5] [] (i_siJ h v1 x4.toNatClampNeg ((f3 x4.toNatClampNeg) ||| ((1 : Int64) <<< (x3.toInt64 &&& 63)))) 0 0 Q)))) : i_P i_MT i_AT L xs 2 94 [some (.ref x0), some (.int x1), some (.int x2), some (.int x3), some (.int x4), x5] [] h 0 0 Q := by
  have hk := i_k2
  refine g_s1 (pc2 := 95) hk rfl rfl rfl rfl rfl ?_
  obtain ⟨v1, ev1, H⟩ := H
  refine g_step (pc2 := 98) hk rfl rfl rfl (s_get ev1) ?_
  refine g_s1 (pc2 := 100) hk rfl rfl rfl rfl rfl ?_
  refine g_s1 (pc2 := 101) hk rfl rfl rfl rfl rfl ?_
  obtain ⟨n2, f3, ef3, hi, H⟩ := H
  refine g_step (pc2 := 102) hk rfl rfl rfl (s_lget ef3 hi) ?_
  refine g_s1 (pc2 := 103) (st2 := [.long (1 : Int64), .long (f3 x4.toNatClampNeg), .int x4, .ref v1]) hk rfl rfl rfl rfl rfl ?_
  refine g_s1 (pc2 := 104) hk rfl rfl rfl rfl rfl ?_
  refine g_s1 (pc2 := 105) hk rfl rfl rfl rfl rfl ?_
  refine g_s1 (pc2 := 106) hk rfl rfl rfl rfl rfl ?_
  obtain ⟨n4, f5, ef5, hi, H⟩ := H
  refine g_step (pc2 := 107) hk rfl rfl rfl (s_lput ef5 hi) ?_
  exact H
theorem b2_107 {x0 : Nat} {x1 : Int32} {x2 : Int32} {x3 : Int32} {x4 : Int32} {x5 : Option Value} {h : iH} {Q : Option Value → iH → Prop} (H : i_P i_MT i_AT L xs 2 27 [some (.ref x0), some (.int x1), some (.int x2), some (.int x3), some (.int (x4 + 1)), x5] [] h 0 0 Q) : i_P i_MT i_AT L xs 2 107 [some (.ref x0), some (.int x1), some (.int x2), some (.int x3), some (.int x4), x5] [] h 0 0 Q := by
  have hk := i_k2
  refine g_s1 (pc2 := 110) (lo2 := [some (.ref x0), some (.int x1), some (.int x2), some (.int x3), some (.int (x4 + 1)), x5]) hk rfl rfl rfl rfl rfl ?_
  refine g_s1 (pc2 := 27) hk rfl rfl rfl rfl rfl ?_
  exact H
/-! StillTown$Course.walk(I)V -/
theorem e3 {x0 : Nat} {x1 : Int32} {h : iH} {Q : Option Value → iH → Prop} (H : i_P i_MT i_AT L xs 3 0 [some (.ref x0), some (.int x1), none, none, none, none, none, none, none, none] [] h 0 0 Q) : i_C i_MT i_AT L xs 3 [.ref x0, .int x1] h Q := ⟨i_m3, i_k3.1, Nat.le_of_ble_eq_true rfl, H⟩
theorem b3_0 {x0 : Nat} {x1 : Int32} {x2 : Option Value} {x3 : Option Value} {x4 : Option Value} {x5 : Option Value} {x6 : Option Value} {x7 : Option Value} {x8 : Option Value} {x9 : Option Value} {h : iH} {Q : Option Value → iH → Prop} (H : (∃ v1 : Nat, i_fld h x0 0 1 = some (.ref v1) ∧ (∃ v2 : Nat, i_fld h v1 8 12 = some (.ref v2) ∧ (∃ v3 : Nat, i_fld h v2 3 2 = some (.ref v3) ∧ (∃ (n4 : Nat) (f5 : Nat → Int32), i_arI h 0 v3 = some (n4, f5) ∧ ¬ (x1 < 0 ∨ n4 ≤ x1.toNatClampNeg) ∧ (∃ v6 : Nat, i_fld h x0 0 1 = some (.ref v6) ∧ (∃ v7 : Nat, i_fld h v6 8 12 = some (.ref v7) ∧ (∃ v8 : Nat, i_fld h v7 3 3 = some (.ref v8) ∧ (∃ (n9 : Nat) (f10 : Nat → Int32), i_arI h 0 v8 = some (n9, f10) ∧ ¬ (x1 < 0 ∨ n9 ≤ x1.toNatClampNeg) ∧ (∃ v11 : Nat, i_fld h x0 0 3 = some (.ref v11) ∧ (∃ (n12 : Nat) (f13 : Nat → Int32), i_arI h 0 v11 = some (n12, f13) ∧ ¬ ((x1 * (61 : Int32)) < 0 ∨ n12 ≤ (x1 * (61 : Int32)).toNatClampNeg) ∧ i_P i_MT i_AT L xs 3 40 [some (.ref x0), some (.int x1), some (.int (f5 x1.toNatClampNeg)), some (.int (f10 x1.toNatClampNeg)), some (.int (x1 * (61 : Int32))), x5, x6, x7, x8, x9] [] (i_siI h v11 (x1 * (61 : Int32)).toNatClampNeg (f5 x1.toNatClampNeg)) 0 0 Q))))))))))) : i_P i_MT i_AT L xs 3 0 [some (.ref x0), some (.int x1), x2, x3, x4, x5, x6, x7, x8, x9] [] h 0 0 Q := by
  have hk := i_k3
  refine g_s1 (pc2 := 1) hk rfl rfl rfl rfl rfl ?_
  obtain ⟨v1, ev1, H⟩ := H
  refine g_step (pc2 := 4) hk rfl rfl rfl (s_get ev1) ?_
  obtain ⟨v2, ev2, H⟩ := H
  refine g_step (pc2 := 7) hk rfl rfl rfl (s_get ev2) ?_
  obtain ⟨v3, ev3, H⟩ := H
  refine g_step (pc2 := 10) hk rfl rfl rfl (s_get ev3) ?_
  refine g_s1 (pc2 := 11) hk rfl rfl rfl rfl rfl ?_
  obtain ⟨n4, f5, ef5, hi, H⟩ := H
  refine g_step (pc2 := 12) hk rfl rfl rfl (s_aget (L := L) (xs := xs) ef5 hi) ?_
  refine g_s1 (pc2 := 13) (lo2 := [some (.ref x0), some (.int x1), some (.int (f5 x1.toNatClampNeg)), x3, x4, x5, x6, x7, x8, x9]) hk rfl rfl rfl rfl rfl ?_
  refine g_s1 (pc2 := 14) hk rfl rfl rfl rfl rfl ?_
  obtain ⟨v6, ev6, H⟩ := H
  refine g_step (pc2 := 17) hk rfl rfl rfl (s_get ev6) ?_
  obtain ⟨v7, ev7, H⟩ := H
  refine g_step (pc2 := 20) hk rfl rfl rfl (s_get ev7) ?_
  obtain ⟨v8, ev8, H⟩ := H
  refine g_step (pc2 := 23) hk rfl rfl rfl (s_get ev8) ?_
  refine g_s1 (pc2 := 24) hk rfl rfl rfl rfl rfl ?_
  obtain ⟨n9, f10, ef10, hi, H⟩ := H
  refine g_step (pc2 := 25) hk rfl rfl rfl (s_aget (L := L) (xs := xs) ef10 hi) ?_
  refine g_s1 (pc2 := 26) (lo2 := [some (.ref x0), some (.int x1), some (.int (f5 x1.toNatClampNeg)), some (.int (f10 x1.toNatClampNeg)), x4, x5, x6, x7, x8, x9]) hk rfl rfl rfl rfl rfl ?_
  refine g_s1 (pc2 := 27) hk rfl rfl rfl rfl rfl ?_
  refine g_s1 (pc2 := 29) (st2 := [.int (61 : Int32), .int x1]) hk rfl rfl rfl rfl rfl ?_
  refine g_s1 (pc2 := 30) hk rfl rfl rfl rfl rfl ?_
  refine g_s1 (pc2 := 32) (lo2 := [some (.ref x0), some (.int x1), some (.int (f5 x1.toNatClampNeg)), some (.int (f10 x1.toNatClampNeg)), some (.int (x1 * (61 : Int32))), x5, x6, x7, x8, x9]) hk rfl rfl rfl rfl rfl ?_
  refine g_s1 (pc2 := 33) hk rfl rfl rfl rfl rfl ?_
  obtain ⟨v11, ev11, H⟩ := H
  refine g_step (pc2 := 36) hk rfl rfl rfl (s_get ev11) ?_
  refine g_s1 (pc2 := 38) hk rfl rfl rfl rfl rfl ?_
  refine g_s1 (pc2 := 39) hk rfl rfl rfl rfl rfl ?_
  obtain ⟨n12, f13, ef13, hi, H⟩ := H
  refine g_step (pc2 := 40) hk rfl rfl rfl (s_aput ef13 hi) ?_
  exact H
theorem b3_40 {x0 : Nat} {x1 : Int32} {x2 : Int32} {x3 : Int32} {x4 : Int32} {x5 : Option Value} {x6 : Option Value} {x7 : Option Value} {x8 : Option Value} {x9 : Option Value} {h : iH} {Q : Option Value → iH → Prop} (H : (∃ v1 : Nat, i_fld h x0 0 4 = some (.ref v1) ∧ (∃ (n2 : Nat) (f3 : Nat → Int32), i_arI h 0 v1 = some (n2, f3) ∧ ¬ (x4 < 0 ∨ n2 ≤ x4.toNatClampNeg) ∧ i_P i_MT i_AT L xs 3 48 [some (.ref x0), some (.int x1), some (.int x2), some (.int x3), some (.int x4), x5, x6, x7, x8, x9] [] (i_siI h v1 x4.toNatClampNeg x3) 0 0 Q))) : i_P i_MT i_AT L xs 3 40 [some (.ref x0), some (.int x1), some (.int x2), some (.int x3), some (.int x4), x5, x6, x7, x8, x9] [] h 0 0 Q := by
  have hk := i_k3
  refine g_s1 (pc2 := 41) hk rfl rfl rfl rfl rfl ?_
  obtain ⟨v1, ev1, H⟩ := H
  refine g_step (pc2 := 44) hk rfl rfl rfl (s_get ev1) ?_
  refine g_s1 (pc2 := 46) hk rfl rfl rfl rfl rfl ?_
  refine g_s1 (pc2 := 47) hk rfl rfl rfl rfl rfl ?_
  obtain ⟨n2, f3, ef3, hi, H⟩ := H
  refine g_step (pc2 := 48) hk rfl rfl rfl (s_aput ef3 hi) ?_
  exact H
theorem b3_48 {x0 : Nat} {x1 : Int32} {x2 : Int32} {x3 : Int32} {x4 : Int32} {x5 : Option Value} {x6 : Option Value} {x7 : Option Value} {x8 : Option Value} {x9 : Option Value} {h : iH} {Q : Option Value → iH → Prop} (H : (∃ v1 : Nat, i_fld h x0 0 5 = some (.ref v1) ∧ (∃ (n2 : Nat) (f3 : Nat → Int32), i_arI h 0 v1 = some (n2, f3) ∧ ¬ (x4 < 0 ∨ n2 ≤ x4.toNatClampNeg) ∧ i_P i_MT i_AT L xs 3 56 [some (.ref x0), some (.int x1), some (.int x2), some (.int x3), some (.int x4), x5, x6, x7, x8, x9] [] (i_siI h v1 x4.toNatClampNeg (0 : Int32)) 0 0 Q))) : i_P i_MT i_AT L xs 3 48 [some (.ref x0), some (.int x1), some (.int x2), some (.int x3), some (.int x4), x5, x6, x7, x8, x9] [] h 0 0 Q := by
  have hk := i_k3
  refine g_s1 (pc2 := 49) hk rfl rfl rfl rfl rfl ?_
  obtain ⟨v1, ev1, H⟩ := H
  refine g_step (pc2 := 52) hk rfl rfl rfl (s_get ev1) ?_
  refine g_s1 (pc2 := 54) hk rfl rfl rfl rfl rfl ?_
  refine g_s1 (pc2 := 55) (st2 := [.int (0 : Int32), .int x4, .ref v1]) hk rfl rfl rfl rfl rfl ?_
  obtain ⟨n2, f3, ef3, hi, H⟩ := H
  refine g_step (pc2 := 56) hk rfl rfl rfl (s_aput ef3 hi) ?_
  exact H
theorem b3_56 {x0 : Nat} {x1 : Int32} {x2 : Int32} {x3 : Int32} {x4 : Int32} {x5 : Option Value} {x6 : Option Value} {x7 : Option Value} {x8 : Option Value} {x9 : Option Value} {h : iH} {Q : Option Value → iH → Prop} (H : i_P i_MT i_AT L xs 3 59 [some (.ref x0), some (.int x1), some (.int x2), some (.int x3), some (.int x4), some (.int (1 : Int32)), x6, x7, x8, x9] [] h 0 0 Q) : i_P i_MT i_AT L xs 3 56 [some (.ref x0), some (.int x1), some (.int x2), some (.int x3), some (.int x4), x5, x6, x7, x8, x9] [] h 0 0 Q := by
  have hk := i_k3
  refine g_s1 (pc2 := 57) (st2 := [.int (1 : Int32)]) hk rfl rfl rfl rfl rfl ?_
  refine g_s1 (pc2 := 59) (lo2 := [some (.ref x0), some (.int x1), some (.int x2), some (.int x3), some (.int x4), some (.int (1 : Int32)), x6, x7, x8, x9]) hk rfl rfl rfl rfl rfl ?_
  exact H
theorem b3_59 {x0 : Nat} {x1 : Int32} {x2 : Int32} {x3 : Int32} {x4 : Int32} {x5 : Int32} {x6 : Option Value} {x7 : Option Value} {x8 : Option Value} {x9 : Option Value} {h : iH} {Q : Option Value → iH → Prop} (H : (((60 : Int32) < x5 → Q none h) ∧ (¬ ((60 : Int32) < x5) → (∃ v1 : Nat, i_fld h x0 0 1 = some (.ref v1) ∧ (∃ v2 : Nat, i_fld h v1 8 13 = some (.ref v2) ∧ (∃ (n3 : Nat) (f4 : Nat → Int32), i_arI h 0 v2 = some (n3, f4) ∧ ¬ ((((x1 * (60 : Int32)) + x5) - (1 : Int32)) < 0 ∨ n3 ≤ (((x1 * (60 : Int32)) + x5) - (1 : Int32)).toNatClampNeg) ∧ (¬ (8 : Int32) = 0 ∧ (¬ (8 : Int32) = 0 ∧ ((((f4 (((x1 * (60 : Int32)) + x5) - (1 : Int32)).toNatClampNeg) / (8 : Int32)) = (1 : Int32) → i_P i_MT i_AT L xs 3 111 [some (.ref x0), some (.int x1), some (.int x2), some (.int x3), some (.int x4), some (.int x5), some (.int (f4 (((x1 * (60 : Int32)) + x5) - (1 : Int32)).toNatClampNeg)), some (.int ((f4 (((x1 * (60 : Int32)) + x5) - (1 : Int32)).toNatClampNeg) / (8 : Int32))), some (.int ((f4 (((x1 * (60 : Int32)) + x5) - (1 : Int32)).toNatClampNeg) - (f4 (((x1 * (60 : Int32)) + x5) - (1 : Int32)).toNatClampNeg) / (8 : Int32) * (8 : Int32))), x9] [] h 0 0 Q) ∧ (¬ (((f4 (((x1 * (60 : Int32)) + x5) - (1 : Int32)).toNatClampNeg) / (8 : Int32)) = (1 : Int32)) → ((¬ ((f4 (((x1 * (60 : Int32)) + x5) - (1 : Int32)).toNatClampNeg) / (8 : Int32)) = (2 : Int32) → i_P i_MT i_AT L xs 3 140 [some (.ref x0), some (.int x1), some (.int x2), some (.int x3), some (.int x4), some (.int x5), some (.int (f4 (((x1 * (60 : Int32)) + x5) - (1 : Int32)).toNatClampNeg)), some (.int ((f4 (((x1 * (60 : Int32)) + x5) - (1 : Int32)).toNatClampNeg) / (8 : Int32))), some (.int ((f4 (((x1 * (60 : Int32)) + x5) - (1 : Int32)).toNatClampNeg) - (f4 (((x1 * (60 : Int32)) + x5) - (1 : Int32)).toNatClampNeg) / (8 : Int32) * (8 : Int32))), x9] [] h 0 0 Q) ∧ (¬ (¬ ((f4 (((x1 * (60 : Int32)) + x5) - (1 : Int32)).toNatClampNeg) / (8 : Int32)) = (2 : Int32)) → i_P i_MT i_AT L xs 3 111 [some (.ref x0), some (.int x1), some (.int x2), some (.int x3), some (.int x4), some (.int x5), some (.int (f4 (((x1 * (60 : Int32)) + x5) - (1 : Int32)).toNatClampNeg)), some (.int ((f4 (((x1 * (60 : Int32)) + x5) - (1 : Int32)).toNatClampNeg) / (8 : Int32))), some (.int ((f4 (((x1 * (60 : Int32)) + x5) - (1 : Int32)).toNatClampNeg) - (f4 (((x1 * (60 : Int32)) + x5) - (1 : Int32)).toNatClampNeg) / (8 : Int32) * (8 : Int32))), x9] [] h 0 0 Q)))))))))))) : i_P i_MT i_AT L xs 3 59 [some (.ref x0), some (.int x1), some (.int x2), some (.int x3), some (.int x4), some (.int x5), x6, x7, x8, x9] [] h 0 0 Q := by
  have hk := i_k3
  refine g_s1 (pc2 := 61) hk rfl rfl rfl rfl rfl ?_
  refine g_s1 (pc2 := 63) (st2 := [.int (60 : Int32), .int x5]) hk rfl rfl rfl rfl rfl ?_
  refine g_icmp_gt hk rfl (fun hc => ?_) (fun hc => ?_)
  · have H := H.1 hc
    exact g_return hk rfl (by decide) (by decide) rfl H
  · have H := H.2 hc
    refine g_s1 (pc2 := 67) hk rfl rfl rfl rfl rfl ?_
    obtain ⟨v1, ev1, H⟩ := H
    refine g_step (pc2 := 70) hk rfl rfl rfl (s_get ev1) ?_
    obtain ⟨v2, ev2, H⟩ := H
    refine g_step (pc2 := 73) hk rfl rfl rfl (s_get ev2) ?_
    refine g_s1 (pc2 := 74) hk rfl rfl rfl rfl rfl ?_
    refine g_s1 (pc2 := 76) (st2 := [.int (60 : Int32), .int x1, .ref v2]) hk rfl rfl rfl rfl rfl ?_
    refine g_s1 (pc2 := 77) hk rfl rfl rfl rfl rfl ?_
    refine g_s1 (pc2 := 79) hk rfl rfl rfl rfl rfl ?_
    refine g_s1 (pc2 := 80) hk rfl rfl rfl rfl rfl ?_
    refine g_s1 (pc2 := 81) (st2 := [.int (1 : Int32), .int ((x1 * (60 : Int32)) + x5), .ref v2]) hk rfl rfl rfl rfl rfl ?_
    refine g_s1 (pc2 := 82) hk rfl rfl rfl rfl rfl ?_
    obtain ⟨n3, f4, ef4, hi, H⟩ := H
    refine g_step (pc2 := 83) hk rfl rfl rfl (s_aget (L := L) (xs := xs) ef4 hi) ?_
    refine g_s1 (pc2 := 85) (lo2 := [some (.ref x0), some (.int x1), some (.int x2), some (.int x3), some (.int x4), some (.int x5), some (.int (f4 (((x1 * (60 : Int32)) + x5) - (1 : Int32)).toNatClampNeg)), x7, x8, x9]) hk rfl rfl rfl rfl rfl ?_
    refine g_s1 (pc2 := 87) hk rfl rfl rfl rfl rfl ?_
    refine g_s1 (pc2 := 89) (st2 := [.int (8 : Int32), .int (f4 (((x1 * (60 : Int32)) + x5) - (1 : Int32)).toNatClampNeg)]) hk rfl rfl rfl rfl rfl ?_
    obtain ⟨hz, H⟩ := H
    refine g_s1 (pc2 := 90) hk rfl rfl rfl rfl (s_if hz) ?_
    refine g_s1 (pc2 := 92) (lo2 := [some (.ref x0), some (.int x1), some (.int x2), some (.int x3), some (.int x4), some (.int x5), some (.int (f4 (((x1 * (60 : Int32)) + x5) - (1 : Int32)).toNatClampNeg)), some (.int ((f4 (((x1 * (60 : Int32)) + x5) - (1 : Int32)).toNatClampNeg) / (8 : Int32))), x8, x9]) hk rfl rfl rfl rfl rfl ?_
    refine g_s1 (pc2 := 94) hk rfl rfl rfl rfl rfl ?_
    refine g_s1 (pc2 := 96) (st2 := [.int (8 : Int32), .int (f4 (((x1 * (60 : Int32)) + x5) - (1 : Int32)).toNatClampNeg)]) hk rfl rfl rfl rfl rfl ?_
    obtain ⟨hz, H⟩ := H
    refine g_s1 (pc2 := 97) hk rfl rfl rfl rfl (s_if hz) ?_
    refine g_s1 (pc2 := 99) (lo2 := [some (.ref x0), some (.int x1), some (.int x2), some (.int x3), some (.int x4), some (.int x5), some (.int (f4 (((x1 * (60 : Int32)) + x5) - (1 : Int32)).toNatClampNeg)), some (.int ((f4 (((x1 * (60 : Int32)) + x5) - (1 : Int32)).toNatClampNeg) / (8 : Int32))), some (.int ((f4 (((x1 * (60 : Int32)) + x5) - (1 : Int32)).toNatClampNeg) - (f4 (((x1 * (60 : Int32)) + x5) - (1 : Int32)).toNatClampNeg) / (8 : Int32) * (8 : Int32))), x9]) hk rfl rfl rfl rfl rfl ?_
    refine g_s1 (pc2 := 101) hk rfl rfl rfl rfl rfl ?_
    refine g_s1 (pc2 := 102) (st2 := [.int (1 : Int32), .int ((f4 (((x1 * (60 : Int32)) + x5) - (1 : Int32)).toNatClampNeg) / (8 : Int32))]) hk rfl rfl rfl rfl rfl ?_
    refine g_icmp_eq hk rfl (fun hc => ?_) (fun hc => ?_)
    · have H := H.1 hc
      exact H
    · have H := H.2 hc
      refine g_s1 (pc2 := 107) hk rfl rfl rfl rfl rfl ?_
      refine g_s1 (pc2 := 108) (st2 := [.int (2 : Int32), .int ((f4 (((x1 * (60 : Int32)) + x5) - (1 : Int32)).toNatClampNeg) / (8 : Int32))]) hk rfl rfl rfl rfl rfl ?_
      refine g_icmp_ne hk rfl (fun hc => ?_) (fun hc => ?_)
      · have H := H.1 hc
        exact H
      · have H := H.2 hc
        exact H
theorem b3_111 {x0 : Nat} {x1 : Int32} {x2 : Int32} {x3 : Int32} {x4 : Int32} {x5 : Int32} {x6 : Int32} {x7 : Int32} {x8 : Int32} {x9 : Option Value} {h : iH} {Q : Option Value → iH → Prop} (H : (∃ v1 : Nat, i_fld h x0 0 0 = some (.ref v1) ∧ (i_obj? h v1 2 ∧ i_C i_MT i_AT L xs 26 [.ref v1, .int x2, .int x8] h (fun v h2 => ∃ r3 : Int32, v = some (.int r3) ∧ i_P i_MT i_AT L xs 3 121 [some (.ref x0), some (.int x1), some (.int x2), some (.int x3), some (.int x4), some (.int x5), some (.int x6), some (.int x7), some (.int x8), x9] [.int r3] h2 0 0 Q)))) : i_P i_MT i_AT L xs 3 111 [some (.ref x0), some (.int x1), some (.int x2), some (.int x3), some (.int x4), some (.int x5), some (.int x6), some (.int x7), some (.int x8), x9] [] h 0 0 Q := by
  have hk := i_k3
  refine g_s1 (pc2 := 112) hk rfl rfl rfl rfl rfl ?_
  obtain ⟨v1, ev1, H⟩ := H
  refine g_step (pc2 := 115) hk rfl rfl rfl (s_get ev1) ?_
  refine g_s1 (pc2 := 116) hk rfl rfl rfl rfl rfl ?_
  refine g_s1 (pc2 := 118) hk rfl rfl rfl rfl rfl ?_
  obtain ⟨ho, H⟩ := H
  refine g_call hk rfl rfl i_k26.1 ⟨rfl, rfl⟩ rfl (i_rcv_v ho rfl (by decide)) rfl ?_
  exact H.mono (fun v h2 q => by obtain ⟨r, rfl, q⟩ := q; exact q)
theorem b3_121 {x0 : Nat} {x1 : Int32} {x2 : Int32} {x3 : Int32} {x4 : Int32} {x5 : Int32} {x6 : Int32} {x7 : Int32} {x8 : Int32} {x9 : Option Value} {s0 : Int32} {h : iH} {Q : Option Value → iH → Prop} (H : ((¬ s0 = x2 → i_P i_MT i_AT L xs 3 135 [some (.ref x0), some (.int x1), some (.int x2), some (.int x3), some (.int x4), some (.int x5), some (.int x6), some (.int x7), some (.int x8), some (.int s0)] [.int x7] h 0 0 Q) ∧ (¬ (¬ s0 = x2) → i_P i_MT i_AT L xs 3 135 [some (.ref x0), some (.int x1), some (.int x2), some (.int x3), some (.int x4), some (.int x5), some (.int x6), some (.int x7), some (.int x8), some (.int s0)] [.int (0 : Int32)] h 0 0 Q))) : i_P i_MT i_AT L xs 3 121 [some (.ref x0), some (.int x1), some (.int x2), some (.int x3), some (.int x4), some (.int x5), some (.int x6), some (.int x7), some (.int x8), x9] [.int s0] h 0 0 Q := by
  have hk := i_k3
  refine g_s1 (pc2 := 123) (lo2 := [some (.ref x0), some (.int x1), some (.int x2), some (.int x3), some (.int x4), some (.int x5), some (.int x6), some (.int x7), some (.int x8), some (.int s0)]) hk rfl rfl rfl rfl rfl ?_
  refine g_s1 (pc2 := 125) hk rfl rfl rfl rfl rfl ?_
  refine g_s1 (pc2 := 126) hk rfl rfl rfl rfl rfl ?_
  refine g_icmp_ne hk rfl (fun hc => ?_) (fun hc => ?_)
  · have H := H.1 hc
    refine g_s1 (pc2 := 135) hk rfl rfl rfl rfl rfl ?_
    exact H
  · have H := H.2 hc
    refine g_s1 (pc2 := 130) (st2 := [.int (0 : Int32)]) hk rfl rfl rfl rfl rfl ?_
    refine g_s1 (pc2 := 135) hk rfl rfl rfl rfl rfl ?_
    exact H
theorem b3_135 {x0 : Nat} {x1 : Int32} {x2 : Int32} {x3 : Int32} {x4 : Int32} {x5 : Int32} {x6 : Int32} {x7 : Int32} {x8 : Int32} {x9 : Int32} {s0 : Int32} {h : iH} {Q : Option Value → iH → Prop} (H : i_P i_MT i_AT L xs 3 140 [some (.ref x0), some (.int x1), some (.int x9), some (.int x3), some (.int x4), some (.int x5), some (.int x6), some (.int s0), some (.int x8), some (.int x9)] [] h 0 0 Q) : i_P i_MT i_AT L xs 3 135 [some (.ref x0), some (.int x1), some (.int x2), some (.int x3), some (.int x4), some (.int x5), some (.int x6), some (.int x7), some (.int x8), some (.int x9)] [.int s0] h 0 0 Q := by
  have hk := i_k3
  refine g_s1 (pc2 := 137) (lo2 := [some (.ref x0), some (.int x1), some (.int x2), some (.int x3), some (.int x4), some (.int x5), some (.int x6), some (.int s0), some (.int x8), some (.int x9)]) hk rfl rfl rfl rfl rfl ?_
  refine g_s1 (pc2 := 139) hk rfl rfl rfl rfl rfl ?_
  refine g_s1 (pc2 := 140) (lo2 := [some (.ref x0), some (.int x1), some (.int x9), some (.int x3), some (.int x4), some (.int x5), some (.int x6), some (.int s0), some (.int x8), some (.int x9)]) hk rfl rfl rfl rfl rfl ?_
  exact H
theorem b3_140 {x0 : Nat} {x1 : Int32} {x2 : Int32} {x3 : Int32} {x4 : Int32} {x5 : Int32} {x6 : Int32} {x7 : Int32} {x8 : Int32} {x9 : Option Value} {h : iH} {Q : Option Value → iH → Prop} (H : ((x7 = (1 : Int32) → i_P i_MT i_AT L xs 3 158 [some (.ref x0), some (.int x1), some (.int x2), some (.int x3), some (.int x4), some (.int x5), some (.int x6), some (.int x7), some (.int x8), x9] [] h 0 0 Q) ∧ (¬ (x7 = (1 : Int32)) → ((x7 = (2 : Int32) → i_P i_MT i_AT L xs 3 158 [some (.ref x0), some (.int x1), some (.int x2), some (.int x3), some (.int x4), some (.int x5), some (.int x6), some (.int x7), some (.int x8), x9] [] h 0 0 Q) ∧ (¬ (x7 = (2 : Int32)) → ((¬ x7 = (3 : Int32) → i_P i_MT i_AT L xs 3 161 [some (.ref x0), some (.int x1), some (.int x2), some (.int x3), some (.int x4), some (.int x5), some (.int x6), some (.int x7), some (.int x8), x9] [] h 0 0 Q) ∧ (¬ (¬ x7 = (3 : Int32)) → i_P i_MT i_AT L xs 3 158 [some (.ref x0), some (.int x1), some (.int x2), some (.int x3), some (.int x4), some (.int x5), some (.int x6), some (.int x7), some (.int x8), x9] [] h 0 0 Q))))))) : i_P i_MT i_AT L xs 3 140 [some (.ref x0), some (.int x1), some (.int x2), some (.int x3), some (.int x4), some (.int x5), some (.int x6), some (.int x7), some (.int x8), x9] [] h 0 0 Q := by
  have hk := i_k3
  refine g_s1 (pc2 := 142) hk rfl rfl rfl rfl rfl ?_
  refine g_s1 (pc2 := 143) (st2 := [.int (1 : Int32), .int x7]) hk rfl rfl rfl rfl rfl ?_
  refine g_icmp_eq hk rfl (fun hc => ?_) (fun hc => ?_)
  · have H := H.1 hc
    exact H
  · have H := H.2 hc
    refine g_s1 (pc2 := 148) hk rfl rfl rfl rfl rfl ?_
    refine g_s1 (pc2 := 149) (st2 := [.int (2 : Int32), .int x7]) hk rfl rfl rfl rfl rfl ?_
    refine g_icmp_eq hk rfl (fun hc => ?_) (fun hc => ?_)
    · have H := H.1 hc
      exact H
    · have H := H.2 hc
      refine g_s1 (pc2 := 154) hk rfl rfl rfl rfl rfl ?_
      refine g_s1 (pc2 := 155) (st2 := [.int (3 : Int32), .int x7]) hk rfl rfl rfl rfl rfl ?_
      refine g_icmp_ne hk rfl (fun hc => ?_) (fun hc => ?_)
      · have H := H.1 hc
        exact H
      · have H := H.2 hc
        exact H
theorem b3_158 {x0 : Nat} {x1 : Int32} {x2 : Int32} {x3 : Int32} {x4 : Int32} {x5 : Int32} {x6 : Int32} {x7 : Int32} {x8 : Int32} {x9 : Option Value} {h : iH} {Q : Option Value → iH → Prop} (H : i_P i_MT i_AT L xs 3 161 [some (.ref x0), some (.int x1), some (.int x2), some (.int x8), some (.int x4), some (.int x5), some (.int x6), some (.int x7), some (.int x8), x9] [] h 0 0 Q) : i_P i_MT i_AT L xs 3 158 [some (.ref x0), some (.int x1), some (.int x2), some (.int x3), some (.int x4), some (.int x5), some (.int x6), some (.int x7), some (.int x8), x9] [] h 0 0 Q := by
  have hk := i_k3
  refine g_s1 (pc2 := 160) hk rfl rfl rfl rfl rfl ?_
  refine g_s1 (pc2 := 161) (lo2 := [some (.ref x0), some (.int x1), some (.int x2), some (.int x8), some (.int x4), some (.int x5), some (.int x6), some (.int x7), some (.int x8), x9]) hk rfl rfl rfl rfl rfl ?_
  exact H
theorem b3_161 {x0 : Nat} {x1 : Int32} {x2 : Int32} {x3 : Int32} {x4 : Int32} {x5 : Int32} {x6 : Int32} {x7 : Int32} {x8 : Int32} {x9 : Option Value} {h : iH} {Q : Option Value → iH → Prop} (H : (∃ v1 : Nat, i_fld h x0 0 3 = some (.ref v1) ∧ (∃ (n2 : Nat) (f3 : Nat → Int32), i_arI h 0 v1 = some (n2, f3) ∧ ¬ ((x4 + x5) < 0 ∨ n2 ≤ (x4 + x5).toNatClampNeg) ∧ i_P i_MT i_AT L xs 3 172 [some (.ref x0), some (.int x1), some (.int x2), some (.int x3), some (.int x4), some (.int x5), some (.int x6), some (.int x7), some (.int x8), x9] [] (i_siI h v1 (x4 + x5).toNatClampNeg x2) 0 0 Q))) : i_P i_MT i_AT L xs 3 161 [some (.ref x0), some (.int x1), some (.int x2), some (.int x3), some (.int x4), some (.int x5), some (.int x6), some (.int x7), some (.int x8), x9] [] h 0 0 Q := by
  have hk := i_k3
  refine g_s1 (pc2 := 162) hk rfl rfl rfl rfl rfl ?_
  obtain ⟨v1, ev1, H⟩ := H
  refine g_step (pc2 := 165) hk rfl rfl rfl (s_get ev1) ?_
  refine g_s1 (pc2 := 167) hk rfl rfl rfl rfl rfl ?_
  refine g_s1 (pc2 := 169) hk rfl rfl rfl rfl rfl ?_
  refine g_s1 (pc2 := 170) hk rfl rfl rfl rfl rfl ?_
  refine g_s1 (pc2 := 171) hk rfl rfl rfl rfl rfl ?_
  obtain ⟨n2, f3, ef3, hi, H⟩ := H
  refine g_step (pc2 := 172) hk rfl rfl rfl (s_aput ef3 hi) ?_
  exact H
theorem b3_172 {x0 : Nat} {x1 : Int32} {x2 : Int32} {x3 : Int32} {x4 : Int32} {x5 : Int32} {x6 : Int32} {x7 : Int32} {x8 : Int32} {x9 : Option Value} {h : iH} {Q : Option Value → iH → Prop} (H : (∃ v1 : Nat, i_fld h x0 0 4 = some (.ref v1) ∧ (∃ (n2 : Nat) (f3 : Nat → Int32), i_arI h 0 v1 = some (n2, f3) ∧ ¬ ((x4 + x5) < 0 ∨ n2 ≤ (x4 + x5).toNatClampNeg) ∧ i_P i_MT i_AT L xs 3 183 [some (.ref x0), some (.int x1), some (.int x2), some (.int x3), some (.int x4), some (.int x5), some (.int x6), some (.int x7), some (.int x8), x9] [] (i_siI h v1 (x4 + x5).toNatClampNeg x3) 0 0 Q))) : i_P i_MT i_AT L xs 3 172 [some (.ref x0), some (.int x1), some (.int x2), some (.int x3), some (.int x4), some (.int x5), some (.int x6), some (.int x7), some (.int x8), x9] [] h 0 0 Q := by
  have hk := i_k3
  refine g_s1 (pc2 := 173) hk rfl rfl rfl rfl rfl ?_
  obtain ⟨v1, ev1, H⟩ := H
  refine g_step (pc2 := 176) hk rfl rfl rfl (s_get ev1) ?_
  refine g_s1 (pc2 := 178) hk rfl rfl rfl rfl rfl ?_
  refine g_s1 (pc2 := 180) hk rfl rfl rfl rfl rfl ?_
  refine g_s1 (pc2 := 181) hk rfl rfl rfl rfl rfl ?_
  refine g_s1 (pc2 := 182) hk rfl rfl rfl rfl rfl ?_
  obtain ⟨n2, f3, ef3, hi, H⟩ := H
  refine g_step (pc2 := 183) hk rfl rfl rfl (s_aput ef3 hi) ?_
  exact H
theorem b3_183 {x0 : Nat} {x1 : Int32} {x2 : Int32} {x3 : Int32} {x4 : Int32} {x5 : Int32} {x6 : Int32} {x7 : Int32} {x8 : Int32} {x9 : Option Value} {h : iH} {Q : Option Value → iH → Prop} (H : (∃ v1 : Nat, i_fld h x0 0 5 = some (.ref v1) ∧ (∃ (n2 : Nat) (f3 : Nat → Int32), i_arI h 0 v1 = some (n2, f3) ∧ ¬ ((x4 + x5) < 0 ∨ n2 ≤ (x4 + x5).toNatClampNeg) ∧ i_P i_MT i_AT L xs 3 195 [some (.ref x0), some (.int x1), some (.int x2), some (.int x3), some (.int x4), some (.int x5), some (.int x6), some (.int x7), some (.int x8), x9] [] (i_siI h v1 (x4 + x5).toNatClampNeg x7) 0 0 Q))) : i_P i_MT i_AT L xs 3 183 [some (.ref x0), some (.int x1), some (.int x2), some (.int x3), some (.int x4), some (.int x5), some (.int x6), some (.int x7), some (.int x8), x9] [] h 0 0 Q := by
  have hk := i_k3
  refine g_s1 (pc2 := 184) hk rfl rfl rfl rfl rfl ?_
  obtain ⟨v1, ev1, H⟩ := H
  refine g_step (pc2 := 187) hk rfl rfl rfl (s_get ev1) ?_
  refine g_s1 (pc2 := 189) hk rfl rfl rfl rfl rfl ?_
  refine g_s1 (pc2 := 191) hk rfl rfl rfl rfl rfl ?_
  refine g_s1 (pc2 := 192) hk rfl rfl rfl rfl rfl ?_
  refine g_s1 (pc2 := 194) hk rfl rfl rfl rfl rfl ?_
  obtain ⟨n2, f3, ef3, hi, H⟩ := H
  refine g_step (pc2 := 195) hk rfl rfl rfl (s_aput ef3 hi) ?_
  exact H
theorem b3_195 {x0 : Nat} {x1 : Int32} {x2 : Int32} {x3 : Int32} {x4 : Int32} {x5 : Int32} {x6 : Int32} {x7 : Int32} {x8 : Int32} {x9 : Option Value} {h : iH} {Q : Option Value → iH → Prop} (H : i_P i_MT i_AT L xs 3 59 [some (.ref x0), some (.int x1), some (.int x2), some (.int x3), some (.int x4), some (.int (x5 + 1)), some (.int x6), some (.int x7), some (.int x8), x9] [] h 0 0 Q) : i_P i_MT i_AT L xs 3 195 [some (.ref x0), some (.int x1), some (.int x2), some (.int x3), some (.int x4), some (.int x5), some (.int x6), some (.int x7), some (.int x8), x9] [] h 0 0 Q := by
  have hk := i_k3
  refine g_s1 (pc2 := 198) (lo2 := [some (.ref x0), some (.int x1), some (.int x2), some (.int x3), some (.int x4), some (.int (x5 + 1)), some (.int x6), some (.int x7), some (.int x8), x9]) hk rfl rfl rfl rfl rfl ?_
  refine g_s1 (pc2 := 59) hk rfl rfl rfl rfl rfl ?_
  exact H
/-! StillTown$Course.cellOf(II)I -/
theorem e4 {x0 : Nat} {x1 : Int32} {x2 : Int32} {h : iH} {Q : Option Value → iH → Prop} (H : i_P i_MT i_AT L xs 4 0 [some (.ref x0), some (.int x1), some (.int x2)] [] h 0 0 Q) : i_C i_MT i_AT L xs 4 [.ref x0, .int x1, .int x2] h Q := ⟨i_m4, i_k4.1, Nat.le_of_ble_eq_true rfl, H⟩
theorem b4_0 {x0 : Nat} {x1 : Int32} {x2 : Int32} {h : iH} {Q : Option Value → iH → Prop} (H : (∃ v1 : Nat, i_fld h x0 0 3 = some (.ref v1) ∧ (∃ (n2 : Nat) (f3 : Nat → Int32), i_arI h 0 v1 = some (n2, f3) ∧ ¬ (((x1 * (61 : Int32)) + x2) < 0 ∨ n2 ≤ ((x1 * (61 : Int32)) + x2).toNatClampNeg) ∧ Q (some (.int (f3 ((x1 * (61 : Int32)) + x2).toNatClampNeg))) h))) : i_P i_MT i_AT L xs 4 0 [some (.ref x0), some (.int x1), some (.int x2)] [] h 0 0 Q := by
  have hk := i_k4
  refine g_s1 (pc2 := 1) hk rfl rfl rfl rfl rfl ?_
  obtain ⟨v1, ev1, H⟩ := H
  refine g_step (pc2 := 4) hk rfl rfl rfl (s_get ev1) ?_
  refine g_s1 (pc2 := 5) hk rfl rfl rfl rfl rfl ?_
  refine g_s1 (pc2 := 7) (st2 := [.int (61 : Int32), .int x1, .ref v1]) hk rfl rfl rfl rfl rfl ?_
  refine g_s1 (pc2 := 8) hk rfl rfl rfl rfl rfl ?_
  refine g_s1 (pc2 := 9) hk rfl rfl rfl rfl rfl ?_
  refine g_s1 (pc2 := 10) hk rfl rfl rfl rfl rfl ?_
  obtain ⟨n2, f3, ef3, hi, H⟩ := H
  refine g_step (pc2 := 11) hk rfl rfl rfl (s_aget (L := L) (xs := xs) ef3 hi) ?_
  exact g_ireturn hk rfl (by decide) (by decide) rfl H
/-! StillTown$Course.lookOf(II)I -/
theorem e5 {x0 : Nat} {x1 : Int32} {x2 : Int32} {h : iH} {Q : Option Value → iH → Prop} (H : i_P i_MT i_AT L xs 5 0 [some (.ref x0), some (.int x1), some (.int x2)] [] h 0 0 Q) : i_C i_MT i_AT L xs 5 [.ref x0, .int x1, .int x2] h Q := ⟨i_m5, i_k5.1, Nat.le_of_ble_eq_true rfl, H⟩
theorem b5_0 {x0 : Nat} {x1 : Int32} {x2 : Int32} {h : iH} {Q : Option Value → iH → Prop} (H : (∃ v1 : Nat, i_fld h x0 0 4 = some (.ref v1) ∧ (∃ (n2 : Nat) (f3 : Nat → Int32), i_arI h 0 v1 = some (n2, f3) ∧ ¬ (((x1 * (61 : Int32)) + x2) < 0 ∨ n2 ≤ ((x1 * (61 : Int32)) + x2).toNatClampNeg) ∧ Q (some (.int (f3 ((x1 * (61 : Int32)) + x2).toNatClampNeg))) h))) : i_P i_MT i_AT L xs 5 0 [some (.ref x0), some (.int x1), some (.int x2)] [] h 0 0 Q := by
  have hk := i_k5
  refine g_s1 (pc2 := 1) hk rfl rfl rfl rfl rfl ?_
  obtain ⟨v1, ev1, H⟩ := H
  refine g_step (pc2 := 4) hk rfl rfl rfl (s_get ev1) ?_
  refine g_s1 (pc2 := 5) hk rfl rfl rfl rfl rfl ?_
  refine g_s1 (pc2 := 7) (st2 := [.int (61 : Int32), .int x1, .ref v1]) hk rfl rfl rfl rfl rfl ?_
  refine g_s1 (pc2 := 8) hk rfl rfl rfl rfl rfl ?_
  refine g_s1 (pc2 := 9) hk rfl rfl rfl rfl rfl ?_
  refine g_s1 (pc2 := 10) hk rfl rfl rfl rfl rfl ?_
  obtain ⟨n2, f3, ef3, hi, H⟩ := H
  refine g_step (pc2 := 11) hk rfl rfl rfl (s_aget (L := L) (xs := xs) ef3 hi) ?_
  exact g_ireturn hk rfl (by decide) (by decide) rfl H
/-! StillTown$Course.moveOf(II)I -/
theorem e6 {x0 : Nat} {x1 : Int32} {x2 : Int32} {h : iH} {Q : Option Value → iH → Prop} (H : i_P i_MT i_AT L xs 6 0 [some (.ref x0), some (.int x1), some (.int x2)] [] h 0 0 Q) : i_C i_MT i_AT L xs 6 [.ref x0, .int x1, .int x2] h Q := ⟨i_m6, i_k6.1, Nat.le_of_ble_eq_true rfl, H⟩
theorem b6_0 {x0 : Nat} {x1 : Int32} {x2 : Int32} {h : iH} {Q : Option Value → iH → Prop} (H : (∃ v1 : Nat, i_fld h x0 0 5 = some (.ref v1) ∧ (∃ (n2 : Nat) (f3 : Nat → Int32), i_arI h 0 v1 = some (n2, f3) ∧ ¬ (((x1 * (61 : Int32)) + x2) < 0 ∨ n2 ≤ ((x1 * (61 : Int32)) + x2).toNatClampNeg) ∧ Q (some (.int (f3 ((x1 * (61 : Int32)) + x2).toNatClampNeg))) h))) : i_P i_MT i_AT L xs 6 0 [some (.ref x0), some (.int x1), some (.int x2)] [] h 0 0 Q := by
  have hk := i_k6
  refine g_s1 (pc2 := 1) hk rfl rfl rfl rfl rfl ?_
  obtain ⟨v1, ev1, H⟩ := H
  refine g_step (pc2 := 4) hk rfl rfl rfl (s_get ev1) ?_
  refine g_s1 (pc2 := 5) hk rfl rfl rfl rfl rfl ?_
  refine g_s1 (pc2 := 7) (st2 := [.int (61 : Int32), .int x1, .ref v1]) hk rfl rfl rfl rfl rfl ?_
  refine g_s1 (pc2 := 8) hk rfl rfl rfl rfl rfl ?_
  refine g_s1 (pc2 := 9) hk rfl rfl rfl rfl rfl ?_
  refine g_s1 (pc2 := 10) hk rfl rfl rfl rfl rfl ?_
  obtain ⟨n2, f3, ef3, hi, H⟩ := H
  refine g_step (pc2 := 11) hk rfl rfl rfl (s_aget (L := L) (xs := xs) ef3 hi) ?_
  exact g_ireturn hk rfl (by decide) (by decide) rfl H
/-! StillTown$Course.cartCell(II)I -/
theorem e7 {x0 : Nat} {x1 : Int32} {x2 : Int32} {h : iH} {Q : Option Value → iH → Prop} (H : i_P i_MT i_AT L xs 7 0 [some (.ref x0), some (.int x1), some (.int x2)] [] h 0 0 Q) : i_C i_MT i_AT L xs 7 [.ref x0, .int x1, .int x2] h Q := ⟨i_m7, i_k7.1, Nat.le_of_ble_eq_true rfl, H⟩
theorem b7_0 {x0 : Nat} {x1 : Int32} {x2 : Int32} {h : iH} {Q : Option Value → iH → Prop} (H : (∃ v1 : Nat, i_fld h x0 0 6 = some (.ref v1) ∧ (∃ (n2 : Nat) (f3 : Nat → Int32), i_arI h 0 v1 = some (n2, f3) ∧ ¬ (((x1 * (61 : Int32)) + x2) < 0 ∨ n2 ≤ ((x1 * (61 : Int32)) + x2).toNatClampNeg) ∧ Q (some (.int (f3 ((x1 * (61 : Int32)) + x2).toNatClampNeg))) h))) : i_P i_MT i_AT L xs 7 0 [some (.ref x0), some (.int x1), some (.int x2)] [] h 0 0 Q := by
  have hk := i_k7
  refine g_s1 (pc2 := 1) hk rfl rfl rfl rfl rfl ?_
  obtain ⟨v1, ev1, H⟩ := H
  refine g_step (pc2 := 4) hk rfl rfl rfl (s_get ev1) ?_
  refine g_s1 (pc2 := 5) hk rfl rfl rfl rfl rfl ?_
  refine g_s1 (pc2 := 7) (st2 := [.int (61 : Int32), .int x1, .ref v1]) hk rfl rfl rfl rfl rfl ?_
  refine g_s1 (pc2 := 8) hk rfl rfl rfl rfl rfl ?_
  refine g_s1 (pc2 := 9) hk rfl rfl rfl rfl rfl ?_
  refine g_s1 (pc2 := 10) hk rfl rfl rfl rfl rfl ?_
  obtain ⟨n2, f3, ef3, hi, H⟩ := H
  refine g_step (pc2 := 11) hk rfl rfl rfl (s_aget (L := L) (xs := xs) ef3 hi) ?_
  exact g_ireturn hk rfl (by decide) (by decide) rfl H
/-! StillTown$Course.cartMoved(II)Z -/
theorem e8 {x0 : Nat} {x1 : Int32} {x2 : Int32} {h : iH} {Q : Option Value → iH → Prop} (H : i_P i_MT i_AT L xs 8 0 [some (.ref x0), some (.int x1), some (.int x2)] [] h 0 0 Q) : i_C i_MT i_AT L xs 8 [.ref x0, .int x1, .int x2] h Q := ⟨i_m8, i_k8.1, Nat.le_of_ble_eq_true rfl, H⟩
theorem b8_0 {x0 : Nat} {x1 : Int32} {x2 : Int32} {h : iH} {Q : Option Value → iH → Prop} (H : (i_obj? h x0 0 ∧ i_C i_MT i_AT L xs 7 [.ref x0, .int x1, .int x2] h (fun v h1 => ∃ r2 : Int32, v = some (.int r2) ∧ i_P i_MT i_AT L xs 8 6 [some (.ref x0), some (.int x1), some (.int x2)] [.int r2] h1 0 0 Q))) : i_P i_MT i_AT L xs 8 0 [some (.ref x0), some (.int x1), some (.int x2)] [] h 0 0 Q := by
  have hk := i_k8
  refine g_s1 (pc2 := 1) hk rfl rfl rfl rfl rfl ?_
  refine g_s1 (pc2 := 2) hk rfl rfl rfl rfl rfl ?_
  refine g_s1 (pc2 := 3) hk rfl rfl rfl rfl rfl ?_
  obtain ⟨ho, H⟩ := H
  refine g_call hk rfl rfl i_k7.1 ⟨rfl, rfl⟩ rfl (i_rcv_v ho rfl (by decide)) rfl ?_
  exact H.mono (fun v h2 q => by obtain ⟨r, rfl, q⟩ := q; exact q)
theorem b8_6 {x0 : Nat} {x1 : Int32} {x2 : Int32} {s0 : Int32} {h : iH} {Q : Option Value → iH → Prop} (H : (i_obj? h x0 0 ∧ i_C i_MT i_AT L xs 7 [.ref x0, .int x1, .int (x2 - (1 : Int32))] h (fun v h1 => ∃ r2 : Int32, v = some (.int r2) ∧ i_P i_MT i_AT L xs 8 14 [some (.ref x0), some (.int x1), some (.int x2)] [.int r2, .int s0] h1 0 0 Q))) : i_P i_MT i_AT L xs 8 6 [some (.ref x0), some (.int x1), some (.int x2)] [.int s0] h 0 0 Q := by
  have hk := i_k8
  refine g_s1 (pc2 := 7) hk rfl rfl rfl rfl rfl ?_
  refine g_s1 (pc2 := 8) hk rfl rfl rfl rfl rfl ?_
  refine g_s1 (pc2 := 9) hk rfl rfl rfl rfl rfl ?_
  refine g_s1 (pc2 := 10) (st2 := [.int (1 : Int32), .int x2, .int x1, .ref x0, .int s0]) hk rfl rfl rfl rfl rfl ?_
  refine g_s1 (pc2 := 11) hk rfl rfl rfl rfl rfl ?_
  obtain ⟨ho, H⟩ := H
  refine g_call hk rfl rfl i_k7.1 ⟨rfl, rfl⟩ rfl (i_rcv_v ho rfl (by decide)) rfl ?_
  exact H.mono (fun v h2 q => by obtain ⟨r, rfl, q⟩ := q; exact q)
theorem b8_14 {x0 : Nat} {x1 : Int32} {x2 : Int32} {s0 : Int32} {s1 : Int32} {h : iH} {Q : Option Value → iH → Prop} (H : ((s0 = s1 → i_P i_MT i_AT L xs 8 22 [some (.ref x0), some (.int x1), some (.int x2)] [.int (0 : Int32)] h 0 0 Q) ∧ (¬ (s0 = s1) → i_P i_MT i_AT L xs 8 22 [some (.ref x0), some (.int x1), some (.int x2)] [.int (1 : Int32)] h 0 0 Q))) : i_P i_MT i_AT L xs 8 14 [some (.ref x0), some (.int x1), some (.int x2)] [.int s1, .int s0] h 0 0 Q := by
  have hk := i_k8
  refine g_icmp_eq hk rfl (fun hc => ?_) (fun hc => ?_)
  · have H := H.1 hc
    refine g_s1 (pc2 := 22) (st2 := [.int (0 : Int32)]) hk rfl rfl rfl rfl rfl ?_
    exact H
  · have H := H.2 hc
    refine g_s1 (pc2 := 18) (st2 := [.int (1 : Int32)]) hk rfl rfl rfl rfl rfl ?_
    refine g_s1 (pc2 := 22) hk rfl rfl rfl rfl rfl ?_
    exact H
theorem b8_22 {x0 : Nat} {x1 : Int32} {x2 : Int32} {s0 : Int32} {h : iH} {Q : Option Value → iH → Prop} (H : (i_ret (some .boolean) s0 = true ∧ Q (some (.int s0)) h)) : i_P i_MT i_AT L xs 8 22 [some (.ref x0), some (.int x1), some (.int x2)] [.int s0] h 0 0 Q := by
  have hk := i_k8
  exact g_ireturn hk rfl (by decide) (by decide) H.1 H.2
/-! StillTown$Course.moved(II)Z -/
theorem e9 {x0 : Nat} {x1 : Int32} {x2 : Int32} {h : iH} {Q : Option Value → iH → Prop} (H : i_P i_MT i_AT L xs 9 0 [some (.ref x0), some (.int x1), some (.int x2), none] [] h 0 0 Q) : i_C i_MT i_AT L xs 9 [.ref x0, .int x1, .int x2] h Q := ⟨i_m9, i_k9.1, Nat.le_of_ble_eq_true rfl, H⟩
theorem b9_0 {x0 : Nat} {x1 : Int32} {x2 : Int32} {x3 : Option Value} {h : iH} {Q : Option Value → iH → Prop} (H : (i_obj? h x0 0 ∧ i_C i_MT i_AT L xs 6 [.ref x0, .int x1, .int x2] h (fun v h1 => ∃ r2 : Int32, v = some (.int r2) ∧ i_P i_MT i_AT L xs 9 6 [some (.ref x0), some (.int x1), some (.int x2), x3] [.int r2] h1 0 0 Q))) : i_P i_MT i_AT L xs 9 0 [some (.ref x0), some (.int x1), some (.int x2), x3] [] h 0 0 Q := by
  have hk := i_k9
  refine g_s1 (pc2 := 1) hk rfl rfl rfl rfl rfl ?_
  refine g_s1 (pc2 := 2) hk rfl rfl rfl rfl rfl ?_
  refine g_s1 (pc2 := 3) hk rfl rfl rfl rfl rfl ?_
  obtain ⟨ho, H⟩ := H
  refine g_call hk rfl rfl i_k6.1 ⟨rfl, rfl⟩ rfl (i_rcv_v ho rfl (by decide)) rfl ?_
  exact H.mono (fun v h2 q => by obtain ⟨r, rfl, q⟩ := q; exact q)
theorem b9_6 {x0 : Nat} {x1 : Int32} {x2 : Int32} {x3 : Option Value} {s0 : Int32} {h : iH} {Q : Option Value → iH → Prop} (H : ((s0 = (1 : Int32) → i_P i_MT i_AT L xs 9 22 [some (.ref x0), some (.int x1), some (.int x2), some (.int s0)] [] h 0 0 Q) ∧ (¬ (s0 = (1 : Int32)) → ((s0 = (2 : Int32) → i_P i_MT i_AT L xs 9 22 [some (.ref x0), some (.int x1), some (.int x2), some (.int s0)] [] h 0 0 Q) ∧ (¬ (s0 = (2 : Int32)) → ((¬ s0 = (3 : Int32) → i_P i_MT i_AT L xs 9 27 [some (.ref x0), some (.int x1), some (.int x2), some (.int s0)] [.int (0 : Int32)] h 0 0 Q) ∧ (¬ (¬ s0 = (3 : Int32)) → i_P i_MT i_AT L xs 9 22 [some (.ref x0), some (.int x1), some (.int x2), some (.int s0)] [] h 0 0 Q))))))) : i_P i_MT i_AT L xs 9 6 [some (.ref x0), some (.int x1), some (.int x2), x3] [.int s0] h 0 0 Q := by
  have hk := i_k9
  refine g_s1 (pc2 := 7) (lo2 := [some (.ref x0), some (.int x1), some (.int x2), some (.int s0)]) hk rfl rfl rfl rfl rfl ?_
  refine g_s1 (pc2 := 8) hk rfl rfl rfl rfl rfl ?_
  refine g_s1 (pc2 := 9) (st2 := [.int (1 : Int32), .int s0]) hk rfl rfl rfl rfl rfl ?_
  refine g_icmp_eq hk rfl (fun hc => ?_) (fun hc => ?_)
  · have H := H.1 hc
    exact H
  · have H := H.2 hc
    refine g_s1 (pc2 := 13) hk rfl rfl rfl rfl rfl ?_
    refine g_s1 (pc2 := 14) (st2 := [.int (2 : Int32), .int s0]) hk rfl rfl rfl rfl rfl ?_
    refine g_icmp_eq hk rfl (fun hc => ?_) (fun hc => ?_)
    · have H := H.1 hc
      exact H
    · have H := H.2 hc
      refine g_s1 (pc2 := 18) hk rfl rfl rfl rfl rfl ?_
      refine g_s1 (pc2 := 19) (st2 := [.int (3 : Int32), .int s0]) hk rfl rfl rfl rfl rfl ?_
      refine g_icmp_ne hk rfl (fun hc => ?_) (fun hc => ?_)
      · have H := H.1 hc
        refine g_s1 (pc2 := 27) (st2 := [.int (0 : Int32)]) hk rfl rfl rfl rfl rfl ?_
        exact H
      · have H := H.2 hc
        exact H
theorem b9_22 {x0 : Nat} {x1 : Int32} {x2 : Int32} {x3 : Int32} {h : iH} {Q : Option Value → iH → Prop} (H : i_P i_MT i_AT L xs 9 27 [some (.ref x0), some (.int x1), some (.int x2), some (.int x3)] [.int (1 : Int32)] h 0 0 Q) : i_P i_MT i_AT L xs 9 22 [some (.ref x0), some (.int x1), some (.int x2), some (.int x3)] [] h 0 0 Q := by
  have hk := i_k9
  refine g_s1 (pc2 := 23) (st2 := [.int (1 : Int32)]) hk rfl rfl rfl rfl rfl ?_
  refine g_s1 (pc2 := 27) hk rfl rfl rfl rfl rfl ?_
  exact H
theorem b9_27 {x0 : Nat} {x1 : Int32} {x2 : Int32} {x3 : Int32} {s0 : Int32} {h : iH} {Q : Option Value → iH → Prop} (H : (i_ret (some .boolean) s0 = true ∧ Q (some (.int s0)) h)) : i_P i_MT i_AT L xs 9 27 [some (.ref x0), some (.int x1), some (.int x2), some (.int x3)] [.int s0] h 0 0 Q := by
  have hk := i_k9
  exact g_ireturn hk rfl (by decide) (by decide) H.1 H.2
/-! StillTown$Course.viewOf(II)J -/
theorem e10 {x0 : Nat} {x1 : Int32} {x2 : Int32} {h : iH} {Q : Option Value → iH → Prop} (H : i_P i_MT i_AT L xs 10 0 [some (.ref x0), some (.int x1), some (.int x2), none] [] h 0 0 Q) : i_C i_MT i_AT L xs 10 [.ref x0, .int x1, .int x2] h Q := ⟨i_m10, i_k10.1, Nat.le_of_ble_eq_true rfl, H⟩
theorem b10_0 {x0 : Nat} {x1 : Int32} {x2 : Int32} {x3 : Option Value} {h : iH} {Q : Option Value → iH → Prop} (H : (∃ v1 : Nat, i_fld h x0 0 7 = some (.ref v1) ∧ (∃ (n2 : Nat) (f3 : Nat → Int64), i_arJ h v1 = some (n2, f3) ∧ ¬ (((x1 * (61 : Int32)) + x2) < 0 ∨ n2 ≤ ((x1 * (61 : Int32)) + x2).toNatClampNeg) ∧ ((¬ (lg_cmp (f3 ((x1 * (61 : Int32)) + x2).toNatClampNeg) (-1 : Int64)) = 0 → i_P i_MT i_AT L xs 10 63 [some (.ref x0), some (.int x1), some (.int x2), some (.int ((x1 * (61 : Int32)) + x2))] [] h 0 0 Q) ∧ (¬ (¬ (lg_cmp (f3 ((x1 * (61 : Int32)) + x2).toNatClampNeg) (-1 : Int64)) = 0) → (∃ v4 : Nat, i_fld h x0 0 7 = some (.ref v4) ∧ (∃ v5 : Nat, i_fld h x0 0 0 = some (.ref v5) ∧ (∃ v6 : Nat, i_fld h x0 0 3 = some (.ref v6) ∧ (∃ (n7 : Nat) (f8 : Nat → Int32), i_arI h 0 v6 = some (n7, f8) ∧ ¬ (((x1 * (61 : Int32)) + x2) < 0 ∨ n7 ≤ ((x1 * (61 : Int32)) + x2).toNatClampNeg) ∧ (∃ v9 : Nat, i_fld h x0 0 4 = some (.ref v9) ∧ (∃ (n10 : Nat) (f11 : Nat → Int32), i_arI h 0 v9 = some (n10, f11) ∧ ¬ (((x1 * (61 : Int32)) + x2) < 0 ∨ n10 ≤ ((x1 * (61 : Int32)) + x2).toNatClampNeg) ∧ (∃ v12 : Nat, i_fld h x0 0 1 = some (.ref v12) ∧ (∃ v13 : Nat, i_fld h v12 8 12 = some (.ref v13) ∧ (∃ v14 : Nat, i_fld h v13 3 4 = some (.ref v14) ∧ (∃ (n15 : Nat) (f16 : Nat → Int32), i_arI h 0 v14 = some (n15, f16) ∧ ¬ (x1 < 0 ∨ n15 ≤ x1.toNatClampNeg) ∧ (∃ v17 : Nat, i_fld h x0 0 2 = some (.ref v17) ∧ (∃ (n18 : Nat) (f19 : Nat → Int64), i_arJ h v17 = some (n18, f19) ∧ ¬ (x2 < 0 ∨ n18 ≤ x2.toNatClampNeg) ∧ (i_obj? h v5 2 ∧ i_C i_MT i_AT L xs 31 [.ref v5, .int (f8 ((x1 * (61 : Int32)) + x2).toNatClampNeg), .int (f11 ((x1 * (61 : Int32)) + x2).toNatClampNeg), .int (f16 x1.toNatClampNeg), .long (f19 x2.toNatClampNeg)] h (fun v h20 => ∃ r21 : Int64, v = some (.long r21) ∧ i_P i_MT i_AT L xs 10 62 [some (.ref x0), some (.int x1), some (.int x2), some (.int ((x1 * (61 : Int32)) + x2))] [.long r21, .int ((x1 * (61 : Int32)) + x2), .ref v4] h20 0 0 Q))))))))))))))))))) : i_P i_MT i_AT L xs 10 0 [some (.ref x0), some (.int x1), some (.int x2), x3] [] h 0 0 Q := by
  have hk := i_k10
  refine g_s1 (pc2 := 1) hk rfl rfl rfl rfl rfl ?_
  refine g_s1 (pc2 := 3) (st2 := [.int (61 : Int32), .int x1]) hk rfl rfl rfl rfl rfl ?_
  refine g_s1 (pc2 := 4) hk rfl rfl rfl rfl rfl ?_
  refine g_s1 (pc2 := 5) hk rfl rfl rfl rfl rfl ?_
  refine g_s1 (pc2 := 6) hk rfl rfl rfl rfl rfl ?_
  refine g_s1 (pc2 := 7) (lo2 := [some (.ref x0), some (.int x1), some (.int x2), some (.int ((x1 * (61 : Int32)) + x2))]) hk rfl rfl rfl rfl rfl ?_
  refine g_s1 (pc2 := 8) hk rfl rfl rfl rfl rfl ?_
  obtain ⟨v1, ev1, H⟩ := H
  refine g_step (pc2 := 11) hk rfl rfl rfl (s_get ev1) ?_
  refine g_s1 (pc2 := 12) hk rfl rfl rfl rfl rfl ?_
  obtain ⟨n2, f3, ef3, hi, H⟩ := H
  refine g_step (pc2 := 13) hk rfl rfl rfl (s_lget ef3 hi) ?_
  refine g_step (pc2 := 16) (st2 := [.long (-1 : Int64), .long (f3 ((x1 * (61 : Int32)) + x2).toNatClampNeg)]) hk rfl rfl rfl rfl ?_
  refine g_s1 (pc2 := 17) hk rfl rfl rfl rfl rfl ?_
  refine g_if_ne hk rfl (fun hc => ?_) (fun hc => ?_)
  · have H := H.1 hc
    exact H
  · have H := H.2 hc
    refine g_s1 (pc2 := 21) hk rfl rfl rfl rfl rfl ?_
    obtain ⟨v4, ev4, H⟩ := H
    refine g_step (pc2 := 24) hk rfl rfl rfl (s_get ev4) ?_
    refine g_s1 (pc2 := 25) hk rfl rfl rfl rfl rfl ?_
    refine g_s1 (pc2 := 26) hk rfl rfl rfl rfl rfl ?_
    obtain ⟨v5, ev5, H⟩ := H
    refine g_step (pc2 := 29) hk rfl rfl rfl (s_get ev5) ?_
    refine g_s1 (pc2 := 30) hk rfl rfl rfl rfl rfl ?_
    obtain ⟨v6, ev6, H⟩ := H
    refine g_step (pc2 := 33) hk rfl rfl rfl (s_get ev6) ?_
    refine g_s1 (pc2 := 34) hk rfl rfl rfl rfl rfl ?_
    obtain ⟨n7, f8, ef8, hi, H⟩ := H
    refine g_step (pc2 := 35) hk rfl rfl rfl (s_aget (L := L) (xs := xs) ef8 hi) ?_
    refine g_s1 (pc2 := 36) hk rfl rfl rfl rfl rfl ?_
    obtain ⟨v9, ev9, H⟩ := H
    refine g_step (pc2 := 39) hk rfl rfl rfl (s_get ev9) ?_
    refine g_s1 (pc2 := 40) hk rfl rfl rfl rfl rfl ?_
    obtain ⟨n10, f11, ef11, hi, H⟩ := H
    refine g_step (pc2 := 41) hk rfl rfl rfl (s_aget (L := L) (xs := xs) ef11 hi) ?_
    refine g_s1 (pc2 := 42) hk rfl rfl rfl rfl rfl ?_
    obtain ⟨v12, ev12, H⟩ := H
    refine g_step (pc2 := 45) hk rfl rfl rfl (s_get ev12) ?_
    obtain ⟨v13, ev13, H⟩ := H
    refine g_step (pc2 := 48) hk rfl rfl rfl (s_get ev13) ?_
    obtain ⟨v14, ev14, H⟩ := H
    refine g_step (pc2 := 51) hk rfl rfl rfl (s_get ev14) ?_
    refine g_s1 (pc2 := 52) hk rfl rfl rfl rfl rfl ?_
    obtain ⟨n15, f16, ef16, hi, H⟩ := H
    refine g_step (pc2 := 53) hk rfl rfl rfl (s_aget (L := L) (xs := xs) ef16 hi) ?_
    refine g_s1 (pc2 := 54) hk rfl rfl rfl rfl rfl ?_
    obtain ⟨v17, ev17, H⟩ := H
    refine g_step (pc2 := 57) hk rfl rfl rfl (s_get ev17) ?_
    refine g_s1 (pc2 := 58) hk rfl rfl rfl rfl rfl ?_
    obtain ⟨n18, f19, ef19, hi, H⟩ := H
    refine g_step (pc2 := 59) hk rfl rfl rfl (s_lget ef19 hi) ?_
    obtain ⟨ho, H⟩ := H
    refine g_call hk rfl rfl i_k31.1 ⟨rfl, rfl⟩ rfl (i_rcv_v ho rfl (by decide)) rfl ?_
    exact H.mono (fun v h2 q => by obtain ⟨r, rfl, q⟩ := q; exact q)
theorem b10_62 {x0 : Nat} {x1 : Int32} {x2 : Int32} {x3 : Int32} {s0 : Nat} {s1 : Int32} {s2 : Int64} {h : iH} {Q : Option Value → iH → Prop} (H : (∃ (n1 : Nat) (f2 : Nat → Int64), i_arJ h s0 = some (n1, f2) ∧ ¬ (s1 < 0 ∨ n1 ≤ s1.toNatClampNeg) ∧ i_P i_MT i_AT L xs 10 63 [some (.ref x0), some (.int x1), some (.int x2), some (.int x3)] [] (i_siJ h s0 s1.toNatClampNeg s2) 0 0 Q)) : i_P i_MT i_AT L xs 10 62 [some (.ref x0), some (.int x1), some (.int x2), some (.int x3)] [.long s2, .int s1, .ref s0] h 0 0 Q := by
  have hk := i_k10
  obtain ⟨n1, f2, ef2, hi, H⟩ := H
  refine g_step (pc2 := 63) hk rfl rfl rfl (s_lput ef2 hi) ?_
  exact H
theorem b10_63 {x0 : Nat} {x1 : Int32} {x2 : Int32} {x3 : Int32} {h : iH} {Q : Option Value → iH → Prop} (H : (∃ v1 : Nat, i_fld h x0 0 7 = some (.ref v1) ∧ (∃ (n2 : Nat) (f3 : Nat → Int64), i_arJ h v1 = some (n2, f3) ∧ ¬ (x3 < 0 ∨ n2 ≤ x3.toNatClampNeg) ∧ Q (some (.long (f3 x3.toNatClampNeg))) h))) : i_P i_MT i_AT L xs 10 63 [some (.ref x0), some (.int x1), some (.int x2), some (.int x3)] [] h 0 0 Q := by
  have hk := i_k10
  refine g_s1 (pc2 := 64) hk rfl rfl rfl rfl rfl ?_
  obtain ⟨v1, ev1, H⟩ := H
  refine g_step (pc2 := 67) hk rfl rfl rfl (s_get ev1) ?_
  refine g_s1 (pc2 := 68) hk rfl rfl rfl rfl rfl ?_
  obtain ⟨n2, f3, ef3, hi, H⟩ := H
  refine g_step (pc2 := 69) hk rfl rfl rfl (s_lget ef3 hi) ?_
  exact g_lreturn hk rfl (by decide) (by decide) rfl H
/-! StillTown$Course.weightAs(IIII)I -/
theorem e11 {x0 : Nat} {x1 : Int32} {x2 : Int32} {x3 : Int32} {x4 : Int32} {h : iH} {Q : Option Value → iH → Prop} (H : i_P i_MT i_AT L xs 11 0 [some (.ref x0), some (.int x1), some (.int x2), some (.int x3), some (.int x4)] [] h 0 0 Q) : i_C i_MT i_AT L xs 11 [.ref x0, .int x1, .int x2, .int x3, .int x4] h Q := ⟨i_m11, i_k11.1, Nat.le_of_ble_eq_true rfl, H⟩
theorem b11_0 {x0 : Nat} {x1 : Int32} {x2 : Int32} {x3 : Int32} {x4 : Int32} {h : iH} {Q : Option Value → iH → Prop} (H : (i_obj? h x0 0 ∧ i_C i_MT i_AT L xs 10 [.ref x0, .int x1, .int x4] h (fun v h1 => ∃ r2 : Int64, v = some (.long r2) ∧ i_P i_MT i_AT L xs 11 7 [some (.ref x0), some (.int x1), some (.int x2), some (.int x3), some (.int x4)] [.long r2] h1 0 0 Q))) : i_P i_MT i_AT L xs 11 0 [some (.ref x0), some (.int x1), some (.int x2), some (.int x3), some (.int x4)] [] h 0 0 Q := by
  have hk := i_k11
  refine g_s1 (pc2 := 1) hk rfl rfl rfl rfl rfl ?_
  refine g_s1 (pc2 := 2) hk rfl rfl rfl rfl rfl ?_
  refine g_s1 (pc2 := 4) hk rfl rfl rfl rfl rfl ?_
  obtain ⟨ho, H⟩ := H
  refine g_call hk rfl rfl i_k10.1 ⟨rfl, rfl⟩ rfl (i_rcv_v ho rfl (by decide)) rfl ?_
  exact H.mono (fun v h2 q => by obtain ⟨r, rfl, q⟩ := q; exact q)
theorem b11_7 {x0 : Nat} {x1 : Int32} {x2 : Int32} {x3 : Int32} {x4 : Int32} {s0 : Int64} {h : iH} {Q : Option Value → iH → Prop} (H : (i_C i_MT i_AT L xs 193 [.long s0, .int x2] h (fun v h1 => ∃ r2 : Int32, v = some (.int r2) ∧ i_P i_MT i_AT L xs 11 11 [some (.ref x0), some (.int x1), some (.int x2), some (.int x3), some (.int x4)] [.int r2] h1 0 0 Q))) : i_P i_MT i_AT L xs 11 7 [some (.ref x0), some (.int x1), some (.int x2), some (.int x3), some (.int x4)] [.long s0] h 0 0 Q := by
  have hk := i_k11
  refine g_s1 (pc2 := 8) hk rfl rfl rfl rfl rfl ?_
  refine g_call hk rfl rfl i_k193.1 ⟨rfl, rfl⟩ rfl (i_rcv_0 rfl) rfl ?_
  exact H.mono (fun v h2 q => by obtain ⟨r, rfl, q⟩ := q; exact q)
theorem b11_11 {x0 : Nat} {x1 : Int32} {x2 : Int32} {x3 : Int32} {x4 : Int32} {s0 : Int32} {h : iH} {Q : Option Value → iH → Prop} (H : ((s0 = 0 → i_P i_MT i_AT L xs 11 28 [some (.ref x0), some (.int x1), some (.int x2), some (.int x3), some (.int x4)] [] h 0 0 Q) ∧ (¬ (s0 = 0) → ((¬ x3 = 0 → i_P i_MT i_AT L xs 11 30 [some (.ref x0), some (.int x1), some (.int x2), some (.int x3), some (.int x4)] [] h 0 0 Q) ∧ (¬ (¬ x3 = 0) → (i_obj? h x0 0 ∧ i_C i_MT i_AT L xs 9 [.ref x0, .int x1, .int x4] h (fun v h1 => ∃ r2 : Int32, v = some (.int r2) ∧ i_P i_MT i_AT L xs 11 25 [some (.ref x0), some (.int x1), some (.int x2), some (.int x3), some (.int x4)] [.int r2] h1 0 0 Q))))))) : i_P i_MT i_AT L xs 11 11 [some (.ref x0), some (.int x1), some (.int x2), some (.int x3), some (.int x4)] [.int s0] h 0 0 Q := by
  have hk := i_k11
  refine g_if_eq hk rfl (fun hc => ?_) (fun hc => ?_)
  · have H := H.1 hc
    exact H
  · have H := H.2 hc
    refine g_s1 (pc2 := 15) hk rfl rfl rfl rfl rfl ?_
    refine g_if_ne hk rfl (fun hc => ?_) (fun hc => ?_)
    · have H := H.1 hc
      exact H
    · have H := H.2 hc
      refine g_s1 (pc2 := 19) hk rfl rfl rfl rfl rfl ?_
      refine g_s1 (pc2 := 20) hk rfl rfl rfl rfl rfl ?_
      refine g_s1 (pc2 := 22) hk rfl rfl rfl rfl rfl ?_
      obtain ⟨ho, H⟩ := H
      refine g_call hk rfl rfl i_k9.1 ⟨rfl, rfl⟩ rfl (i_rcv_v ho rfl (by decide)) rfl ?_
      exact H.mono (fun v h2 q => by obtain ⟨r, rfl, q⟩ := q; exact q)
theorem b11_25 {x0 : Nat} {x1 : Int32} {x2 : Int32} {x3 : Int32} {x4 : Int32} {s0 : Int32} {h : iH} {Q : Option Value → iH → Prop} (H : ((¬ s0 = 0 → i_P i_MT i_AT L xs 11 30 [some (.ref x0), some (.int x1), some (.int x2), some (.int x3), some (.int x4)] [] h 0 0 Q) ∧ (¬ (¬ s0 = 0) → i_P i_MT i_AT L xs 11 28 [some (.ref x0), some (.int x1), some (.int x2), some (.int x3), some (.int x4)] [] h 0 0 Q))) : i_P i_MT i_AT L xs 11 25 [some (.ref x0), some (.int x1), some (.int x2), some (.int x3), some (.int x4)] [.int s0] h 0 0 Q := by
  have hk := i_k11
  refine g_if_ne hk rfl (fun hc => ?_) (fun hc => ?_)
  · have H := H.1 hc
    exact H
  · have H := H.2 hc
    exact H
theorem b11_28 {x0 : Nat} {x1 : Int32} {x2 : Int32} {x3 : Int32} {x4 : Int32} {h : iH} {Q : Option Value → iH → Prop} (H : Q (some (.int (0 : Int32))) h) : i_P i_MT i_AT L xs 11 28 [some (.ref x0), some (.int x1), some (.int x2), some (.int x3), some (.int x4)] [] h 0 0 Q := by
  have hk := i_k11
  refine g_s1 (pc2 := 29) (st2 := [.int (0 : Int32)]) hk rfl rfl rfl rfl rfl ?_
  exact g_ireturn hk rfl (by decide) (by decide) rfl H
theorem b11_30 {x0 : Nat} {x1 : Int32} {x2 : Int32} {x3 : Int32} {x4 : Int32} {h : iH} {Q : Option Value → iH → Prop} (H : (∃ v1 : Nat, i_fld h x0 0 1 = some (.ref v1) ∧ (i_obj? h v1 8 ∧ i_C i_MT i_AT L xs 101 [.ref v1, .int x2, .int x3] h (fun v h2 => ∃ r3 : Int32, v = some (.int r3) ∧ i_P i_MT i_AT L xs 11 39 [some (.ref x0), some (.int x1), some (.int x2), some (.int x3), some (.int x4)] [.int r3] h2 0 0 Q)))) : i_P i_MT i_AT L xs 11 30 [some (.ref x0), some (.int x1), some (.int x2), some (.int x3), some (.int x4)] [] h 0 0 Q := by
  have hk := i_k11
  refine g_s1 (pc2 := 31) hk rfl rfl rfl rfl rfl ?_
  obtain ⟨v1, ev1, H⟩ := H
  refine g_step (pc2 := 34) hk rfl rfl rfl (s_get ev1) ?_
  refine g_s1 (pc2 := 35) hk rfl rfl rfl rfl rfl ?_
  refine g_s1 (pc2 := 36) hk rfl rfl rfl rfl rfl ?_
  obtain ⟨ho, H⟩ := H
  refine g_call hk rfl rfl i_k101.1 ⟨rfl, rfl⟩ rfl (i_rcv_v ho rfl (by decide)) rfl ?_
  exact H.mono (fun v h2 q => by obtain ⟨r, rfl, q⟩ := q; exact q)
theorem b11_39 {x0 : Nat} {x1 : Int32} {x2 : Int32} {x3 : Int32} {x4 : Int32} {s0 : Int32} {h : iH} {Q : Option Value → iH → Prop} (H : Q (some (.int s0)) h) : i_P i_MT i_AT L xs 11 39 [some (.ref x0), some (.int x1), some (.int x2), some (.int x3), some (.int x4)] [.int s0] h 0 0 Q := by
  have hk := i_k11
  exact g_ireturn hk rfl (by decide) (by decide) rfl H
/-! StillTown$Course.weightOf(III)I -/
theorem e12 {x0 : Nat} {x1 : Int32} {x2 : Int32} {x3 : Int32} {h : iH} {Q : Option Value → iH → Prop} (H : i_P i_MT i_AT L xs 12 0 [some (.ref x0), some (.int x1), some (.int x2), some (.int x3), none] [] h 0 0 Q) : i_C i_MT i_AT L xs 12 [.ref x0, .int x1, .int x2, .int x3] h Q := ⟨i_m12, i_k12.1, Nat.le_of_ble_eq_true rfl, H⟩
theorem b12_0 {x0 : Nat} {x1 : Int32} {x2 : Int32} {x3 : Int32} {x4 : Option Value} {h : iH} {Q : Option Value → iH → Prop} (H : (∃ v1 : Nat, i_fld h x0 0 8 = some (.ref v1) ∧ (∃ (n2 : Nat) (f3 : Nat → Int32), i_arI h 0 v1 = some (n2, f3) ∧ ¬ (((((x3 * (8 : Int32)) + x1) * (8 : Int32)) + x2) < 0 ∨ n2 ≤ ((((x3 * (8 : Int32)) + x1) * (8 : Int32)) + x2).toNatClampNeg) ∧ ((¬ (f3 ((((x3 * (8 : Int32)) + x1) * (8 : Int32)) + x2).toNatClampNeg) = (-1 : Int32) → i_P i_MT i_AT L xs 12 49 [some (.ref x0), some (.int x1), some (.int x2), some (.int x3), some (.int ((((x3 * (8 : Int32)) + x1) * (8 : Int32)) + x2))] [] h 0 0 Q) ∧ (¬ (¬ (f3 ((((x3 * (8 : Int32)) + x1) * (8 : Int32)) + x2).toNatClampNeg) = (-1 : Int32)) → (∃ v4 : Nat, i_fld h x0 0 8 = some (.ref v4) ∧ (i_obj? h x0 0 ∧ i_C i_MT i_AT L xs 4 [.ref x0, .int x2, .int x3] h (fun v h5 => ∃ r6 : Int32, v = some (.int r6) ∧ i_P i_MT i_AT L xs 12 38 [some (.ref x0), some (.int x1), some (.int x2), some (.int x3), some (.int ((((x3 * (8 : Int32)) + x1) * (8 : Int32)) + x2))] [.int r6, .int x1, .ref x0, .int ((((x3 * (8 : Int32)) + x1) * (8 : Int32)) + x2), .ref v4] h5 0 0 Q)))))))) : i_P i_MT i_AT L xs 12 0 [some (.ref x0), some (.int x1), some (.int x2), some (.int x3), x4] [] h 0 0 Q := by
  have hk := i_k12
  refine g_s1 (pc2 := 1) hk rfl rfl rfl rfl rfl ?_
  refine g_s1 (pc2 := 3) (st2 := [.int (8 : Int32), .int x3]) hk rfl rfl rfl rfl rfl ?_
  refine g_s1 (pc2 := 4) hk rfl rfl rfl rfl rfl ?_
  refine g_s1 (pc2 := 5) hk rfl rfl rfl rfl rfl ?_
  refine g_s1 (pc2 := 6) hk rfl rfl rfl rfl rfl ?_
  refine g_s1 (pc2 := 8) (st2 := [.int (8 : Int32), .int ((x3 * (8 : Int32)) + x1)]) hk rfl rfl rfl rfl rfl ?_
  refine g_s1 (pc2 := 9) hk rfl rfl rfl rfl rfl ?_
  refine g_s1 (pc2 := 10) hk rfl rfl rfl rfl rfl ?_
  refine g_s1 (pc2 := 11) hk rfl rfl rfl rfl rfl ?_
  refine g_s1 (pc2 := 13) (lo2 := [some (.ref x0), some (.int x1), some (.int x2), some (.int x3), some (.int ((((x3 * (8 : Int32)) + x1) * (8 : Int32)) + x2))]) hk rfl rfl rfl rfl rfl ?_
  refine g_s1 (pc2 := 14) hk rfl rfl rfl rfl rfl ?_
  obtain ⟨v1, ev1, H⟩ := H
  refine g_step (pc2 := 17) hk rfl rfl rfl (s_get ev1) ?_
  refine g_s1 (pc2 := 19) hk rfl rfl rfl rfl rfl ?_
  obtain ⟨n2, f3, ef3, hi, H⟩ := H
  refine g_step (pc2 := 20) hk rfl rfl rfl (s_aget (L := L) (xs := xs) ef3 hi) ?_
  refine g_s1 (pc2 := 21) (st2 := [.int (-1 : Int32), .int (f3 ((((x3 * (8 : Int32)) + x1) * (8 : Int32)) + x2).toNatClampNeg)]) hk rfl rfl rfl rfl rfl ?_
  refine g_icmp_ne hk rfl (fun hc => ?_) (fun hc => ?_)
  · have H := H.1 hc
    exact H
  · have H := H.2 hc
    refine g_s1 (pc2 := 25) hk rfl rfl rfl rfl rfl ?_
    obtain ⟨v4, ev4, H⟩ := H
    refine g_step (pc2 := 28) hk rfl rfl rfl (s_get ev4) ?_
    refine g_s1 (pc2 := 30) hk rfl rfl rfl rfl rfl ?_
    refine g_s1 (pc2 := 31) hk rfl rfl rfl rfl rfl ?_
    refine g_s1 (pc2 := 32) hk rfl rfl rfl rfl rfl ?_
    refine g_s1 (pc2 := 33) hk rfl rfl rfl rfl rfl ?_
    refine g_s1 (pc2 := 34) hk rfl rfl rfl rfl rfl ?_
    refine g_s1 (pc2 := 35) hk rfl rfl rfl rfl rfl ?_
    obtain ⟨ho, H⟩ := H
    refine g_call hk rfl rfl i_k4.1 ⟨rfl, rfl⟩ rfl (i_rcv_v ho rfl (by decide)) rfl ?_
    exact H.mono (fun v h2 q => by obtain ⟨r, rfl, q⟩ := q; exact q)
theorem b12_38 {x0 : Nat} {x1 : Int32} {x2 : Int32} {x3 : Int32} {x4 : Int32} {s0 : Nat} {s1 : Int32} {s2 : Nat} {s3 : Int32} {s4 : Int32} {h : iH} {Q : Option Value → iH → Prop} (H : (i_obj? h x0 0 ∧ i_C i_MT i_AT L xs 6 [.ref x0, .int x2, .int x3] h (fun v h1 => ∃ r2 : Int32, v = some (.int r2) ∧ i_P i_MT i_AT L xs 12 44 [some (.ref x0), some (.int x1), some (.int x2), some (.int x3), some (.int x4)] [.int r2, .int s4, .int s3, .ref s2, .int s1, .ref s0] h1 0 0 Q))) : i_P i_MT i_AT L xs 12 38 [some (.ref x0), some (.int x1), some (.int x2), some (.int x3), some (.int x4)] [.int s4, .int s3, .ref s2, .int s1, .ref s0] h 0 0 Q := by
  have hk := i_k12
  refine g_s1 (pc2 := 39) hk rfl rfl rfl rfl rfl ?_
  refine g_s1 (pc2 := 40) hk rfl rfl rfl rfl rfl ?_
  refine g_s1 (pc2 := 41) hk rfl rfl rfl rfl rfl ?_
  obtain ⟨ho, H⟩ := H
  refine g_call hk rfl rfl i_k6.1 ⟨rfl, rfl⟩ rfl (i_rcv_v ho rfl (by decide)) rfl ?_
  exact H.mono (fun v h2 q => by obtain ⟨r, rfl, q⟩ := q; exact q)
theorem b12_44 {x0 : Nat} {x1 : Int32} {x2 : Int32} {x3 : Int32} {x4 : Int32} {s0 : Nat} {s1 : Int32} {s2 : Nat} {s3 : Int32} {s4 : Int32} {s5 : Int32} {h : iH} {Q : Option Value → iH → Prop} (H : (i_obj? h s2 0 ∧ i_C i_MT i_AT L xs 11 [.ref s2, .int s3, .int s4, .int s5, .int x3] h (fun v h1 => ∃ r2 : Int32, v = some (.int r2) ∧ i_P i_MT i_AT L xs 12 48 [some (.ref x0), some (.int x1), some (.int x2), some (.int x3), some (.int x4)] [.int r2, .int s1, .ref s0] h1 0 0 Q))) : i_P i_MT i_AT L xs 12 44 [some (.ref x0), some (.int x1), some (.int x2), some (.int x3), some (.int x4)] [.int s5, .int s4, .int s3, .ref s2, .int s1, .ref s0] h 0 0 Q := by
  have hk := i_k12
  refine g_s1 (pc2 := 45) hk rfl rfl rfl rfl rfl ?_
  obtain ⟨ho, H⟩ := H
  refine g_call hk rfl rfl i_k11.1 ⟨rfl, rfl⟩ rfl (i_rcv_v ho rfl (by decide)) rfl ?_
  exact H.mono (fun v h2 q => by obtain ⟨r, rfl, q⟩ := q; exact q)
theorem b12_48 {x0 : Nat} {x1 : Int32} {x2 : Int32} {x3 : Int32} {x4 : Int32} {s0 : Nat} {s1 : Int32} {s2 : Int32} {h : iH} {Q : Option Value → iH → Prop} (H : (∃ (n1 : Nat) (f2 : Nat → Int32), i_arI h 0 s0 = some (n1, f2) ∧ ¬ (s1 < 0 ∨ n1 ≤ s1.toNatClampNeg) ∧ i_P i_MT i_AT L xs 12 49 [some (.ref x0), some (.int x1), some (.int x2), some (.int x3), some (.int x4)] [] (i_siI h s0 s1.toNatClampNeg s2) 0 0 Q)) : i_P i_MT i_AT L xs 12 48 [some (.ref x0), some (.int x1), some (.int x2), some (.int x3), some (.int x4)] [.int s2, .int s1, .ref s0] h 0 0 Q := by
  have hk := i_k12
  obtain ⟨n1, f2, ef2, hi, H⟩ := H
  refine g_step (pc2 := 49) hk rfl rfl rfl (s_aput ef2 hi) ?_
  exact H
theorem b12_49 {x0 : Nat} {x1 : Int32} {x2 : Int32} {x3 : Int32} {x4 : Int32} {h : iH} {Q : Option Value → iH → Prop} (H : (∃ v1 : Nat, i_fld h x0 0 8 = some (.ref v1) ∧ (∃ (n2 : Nat) (f3 : Nat → Int32), i_arI h 0 v1 = some (n2, f3) ∧ ¬ (x4 < 0 ∨ n2 ≤ x4.toNatClampNeg) ∧ Q (some (.int (f3 x4.toNatClampNeg))) h))) : i_P i_MT i_AT L xs 12 49 [some (.ref x0), some (.int x1), some (.int x2), some (.int x3), some (.int x4)] [] h 0 0 Q := by
  have hk := i_k12
  refine g_s1 (pc2 := 50) hk rfl rfl rfl rfl rfl ?_
  obtain ⟨v1, ev1, H⟩ := H
  refine g_step (pc2 := 53) hk rfl rfl rfl (s_get ev1) ?_
  refine g_s1 (pc2 := 55) hk rfl rfl rfl rfl rfl ?_
  obtain ⟨n2, f3, ef3, hi, H⟩ := H
  refine g_step (pc2 := 56) hk rfl rfl rfl (s_aget (L := L) (xs := xs) ef3 hi) ?_
  exact g_ireturn hk rfl (by decide) (by decide) rfl H
/-! StillTown$Course.isNear(III)Z -/
theorem e13 {x0 : Nat} {x1 : Int32} {x2 : Int32} {x3 : Int32} {h : iH} {Q : Option Value → iH → Prop} (H : i_P i_MT i_AT L xs 13 0 [some (.ref x0), some (.int x1), some (.int x2), some (.int x3)] [] h 0 0 Q) : i_C i_MT i_AT L xs 13 [.ref x0, .int x1, .int x2, .int x3] h Q := ⟨i_m13, i_k13.1, Nat.le_of_ble_eq_true rfl, H⟩
theorem b13_0 {x0 : Nat} {x1 : Int32} {x2 : Int32} {x3 : Int32} {h : iH} {Q : Option Value → iH → Prop} (H : (∃ v1 : Nat, i_fld h x0 0 0 = some (.ref v1) ∧ (i_obj? h x0 0 ∧ i_C i_MT i_AT L xs 4 [.ref x0, .int x1, .int x3] h (fun v h2 => ∃ r3 : Int32, v = some (.int r3) ∧ i_P i_MT i_AT L xs 13 10 [some (.ref x0), some (.int x1), some (.int x2), some (.int x3)] [.int r3, .ref v1] h2 0 0 Q)))) : i_P i_MT i_AT L xs 13 0 [some (.ref x0), some (.int x1), some (.int x2), some (.int x3)] [] h 0 0 Q := by
  have hk := i_k13
  refine g_s1 (pc2 := 1) hk rfl rfl rfl rfl rfl ?_
  obtain ⟨v1, ev1, H⟩ := H
  refine g_step (pc2 := 4) hk rfl rfl rfl (s_get ev1) ?_
  refine g_s1 (pc2 := 5) hk rfl rfl rfl rfl rfl ?_
  refine g_s1 (pc2 := 6) hk rfl rfl rfl rfl rfl ?_
  refine g_s1 (pc2 := 7) hk rfl rfl rfl rfl rfl ?_
  obtain ⟨ho, H⟩ := H
  refine g_call hk rfl rfl i_k4.1 ⟨rfl, rfl⟩ rfl (i_rcv_v ho rfl (by decide)) rfl ?_
  exact H.mono (fun v h2 q => by obtain ⟨r, rfl, q⟩ := q; exact q)
theorem b13_10 {x0 : Nat} {x1 : Int32} {x2 : Int32} {x3 : Int32} {s0 : Nat} {s1 : Int32} {h : iH} {Q : Option Value → iH → Prop} (H : (i_obj? h x0 0 ∧ i_C i_MT i_AT L xs 4 [.ref x0, .int x2, .int x3] h (fun v h1 => ∃ r2 : Int32, v = some (.int r2) ∧ i_P i_MT i_AT L xs 13 16 [some (.ref x0), some (.int x1), some (.int x2), some (.int x3)] [.int r2, .int s1, .ref s0] h1 0 0 Q))) : i_P i_MT i_AT L xs 13 10 [some (.ref x0), some (.int x1), some (.int x2), some (.int x3)] [.int s1, .ref s0] h 0 0 Q := by
  have hk := i_k13
  refine g_s1 (pc2 := 11) hk rfl rfl rfl rfl rfl ?_
  refine g_s1 (pc2 := 12) hk rfl rfl rfl rfl rfl ?_
  refine g_s1 (pc2 := 13) hk rfl rfl rfl rfl rfl ?_
  obtain ⟨ho, H⟩ := H
  refine g_call hk rfl rfl i_k4.1 ⟨rfl, rfl⟩ rfl (i_rcv_v ho rfl (by decide)) rfl ?_
  exact H.mono (fun v h2 q => by obtain ⟨r, rfl, q⟩ := q; exact q)
theorem b13_16 {x0 : Nat} {x1 : Int32} {x2 : Int32} {x3 : Int32} {s0 : Nat} {s1 : Int32} {s2 : Int32} {h : iH} {Q : Option Value → iH → Prop} (H : (i_obj? h s0 2 ∧ i_C i_MT i_AT L xs 27 [.ref s0, .int s1, .int s2] h (fun v h1 => ∃ r2 : Int32, v = some (.int r2) ∧ i_P i_MT i_AT L xs 13 19 [some (.ref x0), some (.int x1), some (.int x2), some (.int x3)] [.int r2] h1 0 0 Q))) : i_P i_MT i_AT L xs 13 16 [some (.ref x0), some (.int x1), some (.int x2), some (.int x3)] [.int s2, .int s1, .ref s0] h 0 0 Q := by
  have hk := i_k13
  obtain ⟨ho, H⟩ := H
  refine g_call hk rfl rfl i_k27.1 ⟨rfl, rfl⟩ rfl (i_rcv_v ho rfl (by decide)) rfl ?_
  exact H.mono (fun v h2 q => by obtain ⟨r, rfl, q⟩ := q; exact q)
theorem b13_19 {x0 : Nat} {x1 : Int32} {x2 : Int32} {x3 : Int32} {s0 : Int32} {h : iH} {Q : Option Value → iH → Prop} (H : (∃ v1 : Nat, i_fld h x0 0 1 = some (.ref v1) ∧ (∃ v2 : Nat, i_fld h v1 8 12 = some (.ref v2) ∧ (∃ v3 : Nat, i_fld h v2 3 4 = some (.ref v3) ∧ (∃ (n4 : Nat) (f5 : Nat → Int32), i_arI h 0 v3 = some (n4, f5) ∧ ¬ (x2 < 0 ∨ n4 ≤ x2.toNatClampNeg) ∧ (((f5 x2.toNatClampNeg) < s0 → i_P i_MT i_AT L xs 13 48 [some (.ref x0), some (.int x1), some (.int x2), some (.int x3)] [] h 0 0 Q) ∧ (¬ ((f5 x2.toNatClampNeg) < s0) → (i_obj? h x0 0 ∧ i_C i_MT i_AT L xs 12 [.ref x0, .int x2, .int x1, .int x3] h (fun v h6 => ∃ r7 : Int32, v = some (.int r7) ∧ i_P i_MT i_AT L xs 13 41 [some (.ref x0), some (.int x1), some (.int x2), some (.int x3)] [.int r7] h6 0 0 Q))))))))) : i_P i_MT i_AT L xs 13 19 [some (.ref x0), some (.int x1), some (.int x2), some (.int x3)] [.int s0] h 0 0 Q := by
  have hk := i_k13
  refine g_s1 (pc2 := 20) hk rfl rfl rfl rfl rfl ?_
  obtain ⟨v1, ev1, H⟩ := H
  refine g_step (pc2 := 23) hk rfl rfl rfl (s_get ev1) ?_
  obtain ⟨v2, ev2, H⟩ := H
  refine g_step (pc2 := 26) hk rfl rfl rfl (s_get ev2) ?_
  obtain ⟨v3, ev3, H⟩ := H
  refine g_step (pc2 := 29) hk rfl rfl rfl (s_get ev3) ?_
  refine g_s1 (pc2 := 30) hk rfl rfl rfl rfl rfl ?_
  obtain ⟨n4, f5, ef5, hi, H⟩ := H
  refine g_step (pc2 := 31) hk rfl rfl rfl (s_aget (L := L) (xs := xs) ef5 hi) ?_
  refine g_icmp_gt hk rfl (fun hc => ?_) (fun hc => ?_)
  · have H := H.1 hc
    exact H
  · have H := H.2 hc
    refine g_s1 (pc2 := 35) hk rfl rfl rfl rfl rfl ?_
    refine g_s1 (pc2 := 36) hk rfl rfl rfl rfl rfl ?_
    refine g_s1 (pc2 := 37) hk rfl rfl rfl rfl rfl ?_
    refine g_s1 (pc2 := 38) hk rfl rfl rfl rfl rfl ?_
    obtain ⟨ho, H⟩ := H
    refine g_call hk rfl rfl i_k12.1 ⟨rfl, rfl⟩ rfl (i_rcv_v ho rfl (by decide)) rfl ?_
    exact H.mono (fun v h2 q => by obtain ⟨r, rfl, q⟩ := q; exact q)
theorem b13_41 {x0 : Nat} {x1 : Int32} {x2 : Int32} {x3 : Int32} {s0 : Int32} {h : iH} {Q : Option Value → iH → Prop} (H : ((¬ s0 = 0 → i_P i_MT i_AT L xs 13 48 [some (.ref x0), some (.int x1), some (.int x2), some (.int x3)] [] h 0 0 Q) ∧ (¬ (¬ s0 = 0) → i_P i_MT i_AT L xs 13 49 [some (.ref x0), some (.int x1), some (.int x2), some (.int x3)] [.int (1 : Int32)] h 0 0 Q))) : i_P i_MT i_AT L xs 13 41 [some (.ref x0), some (.int x1), some (.int x2), some (.int x3)] [.int s0] h 0 0 Q := by
  have hk := i_k13
  refine g_if_ne hk rfl (fun hc => ?_) (fun hc => ?_)
  · have H := H.1 hc
    exact H
  · have H := H.2 hc
    refine g_s1 (pc2 := 45) (st2 := [.int (1 : Int32)]) hk rfl rfl rfl rfl rfl ?_
    refine g_s1 (pc2 := 49) hk rfl rfl rfl rfl rfl ?_
    exact H
theorem b13_48 {x0 : Nat} {x1 : Int32} {x2 : Int32} {x3 : Int32} {h : iH} {Q : Option Value → iH → Prop} (H : i_P i_MT i_AT L xs 13 49 [some (.ref x0), some (.int x1), some (.int x2), some (.int x3)] [.int (0 : Int32)] h 0 0 Q) : i_P i_MT i_AT L xs 13 48 [some (.ref x0), some (.int x1), some (.int x2), some (.int x3)] [] h 0 0 Q := by
  have hk := i_k13
  refine g_s1 (pc2 := 49) (st2 := [.int (0 : Int32)]) hk rfl rfl rfl rfl rfl ?_
  exact H
theorem b13_49 {x0 : Nat} {x1 : Int32} {x2 : Int32} {x3 : Int32} {s0 : Int32} {h : iH} {Q : Option Value → iH → Prop} (H : (i_ret (some .boolean) s0 = true ∧ Q (some (.int s0)) h)) : i_P i_MT i_AT L xs 13 49 [some (.ref x0), some (.int x1), some (.int x2), some (.int x3)] [.int s0] h 0 0 Q := by
  have hk := i_k13
  exact g_ireturn hk rfl (by decide) (by decide) H.1 H.2
/-! StillTown$Course.firstWatcherSeeing(II)I -/
theorem e14 {x0 : Nat} {x1 : Int32} {x2 : Int32} {h : iH} {Q : Option Value → iH → Prop} (H : i_P i_MT i_AT L xs 14 0 [some (.ref x0), some (.int x1), some (.int x2), none] [] h 0 0 Q) : i_C i_MT i_AT L xs 14 [.ref x0, .int x1, .int x2] h Q := ⟨i_m14, i_k14.1, Nat.le_of_ble_eq_true rfl, H⟩
theorem b14_0 {x0 : Nat} {x1 : Int32} {x2 : Int32} {x3 : Option Value} {h : iH} {Q : Option Value → iH → Prop} (H : i_P i_MT i_AT L xs 14 2 [some (.ref x0), some (.int x1), some (.int x2), some (.int (0 : Int32))] [] h 0 0 Q) : i_P i_MT i_AT L xs 14 0 [some (.ref x0), some (.int x1), some (.int x2), x3] [] h 0 0 Q := by
  have hk := i_k14
  refine g_s1 (pc2 := 1) (st2 := [.int (0 : Int32)]) hk rfl rfl rfl rfl rfl ?_
  refine g_s1 (pc2 := 2) (lo2 := [some (.ref x0), some (.int x1), some (.int x2), some (.int (0 : Int32))]) hk rfl rfl rfl rfl rfl ?_
  exact H
theorem b14_2 {x0 : Nat} {x1 : Int32} {x2 : Int32} {x3 : Int32} {h : iH} {Q : Option Value → iH → Prop} (H : (∃ v1 : Nat, i_fld h x0 0 1 = some (.ref v1) ∧ (∃ v2 : Nat, i_fld h v1 8 12 = some (.ref v2) ∧ (∃ v3 : Int32, i_fld h v2 3 0 = some (.int v3) ∧ ((v3 ≤ x3 → Q (some (.int (-1 : Int32))) h) ∧ (¬ (v3 ≤ x3) → (∃ v4 : Nat, i_fld h x0 0 1 = some (.ref v4) ∧ (∃ v5 : Nat, i_fld h v4 8 12 = some (.ref v5) ∧ (∃ v6 : Nat, i_fld h v5 3 5 = some (.ref v6) ∧ (∃ (n7 : Nat) (f8 : Nat → Int32), i_arI h 0 v6 = some (n7, f8) ∧ ¬ (x1 < 0 ∨ n7 ≤ x1.toNatClampNeg) ∧ (i_C i_MT i_AT L xs 193 [.long ((f8 x1.toNatClampNeg).toInt64), .int x3] h (fun v h9 => ∃ r10 : Int32, v = some (.int r10) ∧ i_P i_MT i_AT L xs 14 33 [some (.ref x0), some (.int x1), some (.int x2), some (.int x3)] [.int r10] h9 0 0 Q)))))))))))) : i_P i_MT i_AT L xs 14 2 [some (.ref x0), some (.int x1), some (.int x2), some (.int x3)] [] h 0 0 Q := by
  have hk := i_k14
  refine g_s1 (pc2 := 3) hk rfl rfl rfl rfl rfl ?_
  refine g_s1 (pc2 := 4) hk rfl rfl rfl rfl rfl ?_
  obtain ⟨v1, ev1, H⟩ := H
  refine g_step (pc2 := 7) hk rfl rfl rfl (s_get ev1) ?_
  obtain ⟨v2, ev2, H⟩ := H
  refine g_step (pc2 := 10) hk rfl rfl rfl (s_get ev2) ?_
  obtain ⟨v3, ev3, H⟩ := H
  refine g_step (pc2 := 13) hk rfl rfl rfl (s_get ev3) ?_
  refine g_icmp_ge hk rfl (fun hc => ?_) (fun hc => ?_)
  · have H := H.1 hc
    refine g_s1 (pc2 := 55) (st2 := [.int (-1 : Int32)]) hk rfl rfl rfl rfl rfl ?_
    exact g_ireturn hk rfl (by decide) (by decide) rfl H
  · have H := H.2 hc
    refine g_s1 (pc2 := 17) hk rfl rfl rfl rfl rfl ?_
    obtain ⟨v4, ev4, H⟩ := H
    refine g_step (pc2 := 20) hk rfl rfl rfl (s_get ev4) ?_
    obtain ⟨v5, ev5, H⟩ := H
    refine g_step (pc2 := 23) hk rfl rfl rfl (s_get ev5) ?_
    obtain ⟨v6, ev6, H⟩ := H
    refine g_step (pc2 := 26) hk rfl rfl rfl (s_get ev6) ?_
    refine g_s1 (pc2 := 27) hk rfl rfl rfl rfl rfl ?_
    obtain ⟨n7, f8, ef8, hi, H⟩ := H
    refine g_step (pc2 := 28) hk rfl rfl rfl (s_aget (L := L) (xs := xs) ef8 hi) ?_
    refine g_s1 (pc2 := 29) hk rfl rfl rfl rfl rfl ?_
    refine g_s1 (pc2 := 30) hk rfl rfl rfl rfl rfl ?_
    refine g_call hk rfl rfl i_k193.1 ⟨rfl, rfl⟩ rfl (i_rcv_0 rfl) rfl ?_
    exact H.mono (fun v h2 q => by obtain ⟨r, rfl, q⟩ := q; exact q)
theorem b14_33 {x0 : Nat} {x1 : Int32} {x2 : Int32} {x3 : Int32} {s0 : Int32} {h : iH} {Q : Option Value → iH → Prop} (H : ((s0 = 0 → i_P i_MT i_AT L xs 14 48 [some (.ref x0), some (.int x1), some (.int x2), some (.int x3)] [] h 0 0 Q) ∧ (¬ (s0 = 0) → (i_obj? h x0 0 ∧ i_C i_MT i_AT L xs 12 [.ref x0, .int x3, .int x1, .int x2] h (fun v h1 => ∃ r2 : Int32, v = some (.int r2) ∧ i_P i_MT i_AT L xs 14 43 [some (.ref x0), some (.int x1), some (.int x2), some (.int x3)] [.int r2] h1 0 0 Q))))) : i_P i_MT i_AT L xs 14 33 [some (.ref x0), some (.int x1), some (.int x2), some (.int x3)] [.int s0] h 0 0 Q := by
  have hk := i_k14
  refine g_if_eq hk rfl (fun hc => ?_) (fun hc => ?_)
  · have H := H.1 hc
    exact H
  · have H := H.2 hc
    refine g_s1 (pc2 := 37) hk rfl rfl rfl rfl rfl ?_
    refine g_s1 (pc2 := 38) hk rfl rfl rfl rfl rfl ?_
    refine g_s1 (pc2 := 39) hk rfl rfl rfl rfl rfl ?_
    refine g_s1 (pc2 := 40) hk rfl rfl rfl rfl rfl ?_
    obtain ⟨ho, H⟩ := H
    refine g_call hk rfl rfl i_k12.1 ⟨rfl, rfl⟩ rfl (i_rcv_v ho rfl (by decide)) rfl ?_
    exact H.mono (fun v h2 q => by obtain ⟨r, rfl, q⟩ := q; exact q)
theorem b14_43 {x0 : Nat} {x1 : Int32} {x2 : Int32} {x3 : Int32} {s0 : Int32} {h : iH} {Q : Option Value → iH → Prop} (H : ((s0 ≤ 0 → i_P i_MT i_AT L xs 14 48 [some (.ref x0), some (.int x1), some (.int x2), some (.int x3)] [] h 0 0 Q) ∧ (¬ (s0 ≤ 0) → Q (some (.int x3)) h))) : i_P i_MT i_AT L xs 14 43 [some (.ref x0), some (.int x1), some (.int x2), some (.int x3)] [.int s0] h 0 0 Q := by
  have hk := i_k14
  refine g_if_le hk rfl (fun hc => ?_) (fun hc => ?_)
  · have H := H.1 hc
    exact H
  · have H := H.2 hc
    refine g_s1 (pc2 := 47) hk rfl rfl rfl rfl rfl ?_
    exact g_ireturn hk rfl (by decide) (by decide) rfl H
theorem b14_48 {x0 : Nat} {x1 : Int32} {x2 : Int32} {x3 : Int32} {h : iH} {Q : Option Value → iH → Prop} (H : i_P i_MT i_AT L xs 14 2 [some (.ref x0), some (.int x1), some (.int x2), some (.int (x3 + 1))] [] h 0 0 Q) : i_P i_MT i_AT L xs 14 48 [some (.ref x0), some (.int x1), some (.int x2), some (.int x3)] [] h 0 0 Q := by
  have hk := i_k14
  refine g_s1 (pc2 := 51) (lo2 := [some (.ref x0), some (.int x1), some (.int x2), some (.int (x3 + 1))]) hk rfl rfl rfl rfl rfl ?_
  refine g_s1 (pc2 := 2) hk rfl rfl rfl rfl rfl ?_
  exact H
/-! StillTown$Course.seesMovement(II)Z -/
theorem e15 {x0 : Nat} {x1 : Int32} {x2 : Int32} {h : iH} {Q : Option Value → iH → Prop} (H : i_P i_MT i_AT L xs 15 0 [some (.ref x0), some (.int x1), some (.int x2), none] [] h 0 0 Q) : i_C i_MT i_AT L xs 15 [.ref x0, .int x1, .int x2] h Q := ⟨i_m15, i_k15.1, Nat.le_of_ble_eq_true rfl, H⟩
theorem b15_0 {x0 : Nat} {x1 : Int32} {x2 : Int32} {x3 : Option Value} {h : iH} {Q : Option Value → iH → Prop} (H : i_P i_MT i_AT L xs 15 2 [some (.ref x0), some (.int x1), some (.int x2), some (.int (0 : Int32))] [] h 0 0 Q) : i_P i_MT i_AT L xs 15 0 [some (.ref x0), some (.int x1), some (.int x2), x3] [] h 0 0 Q := by
  have hk := i_k15
  refine g_s1 (pc2 := 1) (st2 := [.int (0 : Int32)]) hk rfl rfl rfl rfl rfl ?_
  refine g_s1 (pc2 := 2) (lo2 := [some (.ref x0), some (.int x1), some (.int x2), some (.int (0 : Int32))]) hk rfl rfl rfl rfl rfl ?_
  exact H
theorem b15_2 {x0 : Nat} {x1 : Int32} {x2 : Int32} {x3 : Int32} {h : iH} {Q : Option Value → iH → Prop} (H : (∃ v1 : Nat, i_fld h x0 0 1 = some (.ref v1) ∧ (∃ v2 : Nat, i_fld h v1 8 12 = some (.ref v2) ∧ (∃ v3 : Int32, i_fld h v2 3 0 = some (.int v3) ∧ ((v3 ≤ x3 → i_P i_MT i_AT L xs 15 41 [some (.ref x0), some (.int x1), some (.int x2), some (.int (0 : Int32))] [] h 0 0 Q) ∧ (¬ (v3 ≤ x3) → ((x3 = x1 → i_P i_MT i_AT L xs 15 33 [some (.ref x0), some (.int x1), some (.int x2), some (.int x3)] [] h 0 0 Q) ∧ (¬ (x3 = x1) → (i_obj? h x0 0 ∧ i_C i_MT i_AT L xs 12 [.ref x0, .int x1, .int x3, .int x2] h (fun v h4 => ∃ r5 : Int32, v = some (.int r5) ∧ i_P i_MT i_AT L xs 15 28 [some (.ref x0), some (.int x1), some (.int x2), some (.int x3)] [.int r5] h4 0 0 Q)))))))))) : i_P i_MT i_AT L xs 15 2 [some (.ref x0), some (.int x1), some (.int x2), some (.int x3)] [] h 0 0 Q := by
  have hk := i_k15
  refine g_s1 (pc2 := 3) hk rfl rfl rfl rfl rfl ?_
  refine g_s1 (pc2 := 4) hk rfl rfl rfl rfl rfl ?_
  obtain ⟨v1, ev1, H⟩ := H
  refine g_step (pc2 := 7) hk rfl rfl rfl (s_get ev1) ?_
  obtain ⟨v2, ev2, H⟩ := H
  refine g_step (pc2 := 10) hk rfl rfl rfl (s_get ev2) ?_
  obtain ⟨v3, ev3, H⟩ := H
  refine g_step (pc2 := 13) hk rfl rfl rfl (s_get ev3) ?_
  refine g_icmp_ge hk rfl (fun hc => ?_) (fun hc => ?_)
  · have H := H.1 hc
    refine g_s1 (pc2 := 40) (st2 := [.int (0 : Int32)]) hk rfl rfl rfl rfl rfl ?_
    refine g_s1 (pc2 := 41) (lo2 := [some (.ref x0), some (.int x1), some (.int x2), some (.int (0 : Int32))]) hk rfl rfl rfl rfl rfl ?_
    exact H
  · have H := H.2 hc
    refine g_s1 (pc2 := 17) hk rfl rfl rfl rfl rfl ?_
    refine g_s1 (pc2 := 18) hk rfl rfl rfl rfl rfl ?_
    refine g_icmp_eq hk rfl (fun hc => ?_) (fun hc => ?_)
    · have H := H.1 hc
      exact H
    · have H := H.2 hc
      refine g_s1 (pc2 := 22) hk rfl rfl rfl rfl rfl ?_
      refine g_s1 (pc2 := 23) hk rfl rfl rfl rfl rfl ?_
      refine g_s1 (pc2 := 24) hk rfl rfl rfl rfl rfl ?_
      refine g_s1 (pc2 := 25) hk rfl rfl rfl rfl rfl ?_
      obtain ⟨ho, H⟩ := H
      refine g_call hk rfl rfl i_k12.1 ⟨rfl, rfl⟩ rfl (i_rcv_v ho rfl (by decide)) rfl ?_
      exact H.mono (fun v h2 q => by obtain ⟨r, rfl, q⟩ := q; exact q)
theorem b15_28 {x0 : Nat} {x1 : Int32} {x2 : Int32} {x3 : Int32} {s0 : Int32} {h : iH} {Q : Option Value → iH → Prop} (H : ((s0 ≤ 0 → i_P i_MT i_AT L xs 15 33 [some (.ref x0), some (.int x1), some (.int x2), some (.int x3)] [] h 0 0 Q) ∧ (¬ (s0 ≤ 0) → Q (some (.int 1)) h))) : i_P i_MT i_AT L xs 15 28 [some (.ref x0), some (.int x1), some (.int x2), some (.int x3)] [.int s0] h 0 0 Q := by
  have hk := i_k15
  refine g_if_le hk rfl (fun hc => ?_) (fun hc => ?_)
  · have H := H.1 hc
    exact H
  · have H := H.2 hc
    refine g_s1 (pc2 := 32) (st2 := [.int (1 : Int32)]) hk rfl rfl rfl rfl rfl ?_
    exact g_ireturn hk rfl (by decide) (by decide) rfl H
theorem b15_33 {x0 : Nat} {x1 : Int32} {x2 : Int32} {x3 : Int32} {h : iH} {Q : Option Value → iH → Prop} (H : i_P i_MT i_AT L xs 15 2 [some (.ref x0), some (.int x1), some (.int x2), some (.int (x3 + 1))] [] h 0 0 Q) : i_P i_MT i_AT L xs 15 33 [some (.ref x0), some (.int x1), some (.int x2), some (.int x3)] [] h 0 0 Q := by
  have hk := i_k15
  refine g_s1 (pc2 := 36) (lo2 := [some (.ref x0), some (.int x1), some (.int x2), some (.int (x3 + 1))]) hk rfl rfl rfl rfl rfl ?_
  refine g_s1 (pc2 := 2) hk rfl rfl rfl rfl rfl ?_
  exact H
theorem b15_41 {x0 : Nat} {x1 : Int32} {x2 : Int32} {x3 : Int32} {h : iH} {Q : Option Value → iH → Prop} (H : (∃ v1 : Nat, i_fld h x0 0 1 = some (.ref v1) ∧ (∃ v2 : Int32, i_fld h v1 8 5 = some (.int v2) ∧ ((v2 ≤ x3 → Q (some (.int 0)) h) ∧ (¬ (v2 ≤ x3) → (i_obj? h x0 0 ∧ i_C i_MT i_AT L xs 8 [.ref x0, .int x3, .int x2] h (fun v h3 => ∃ r4 : Int32, v = some (.int r4) ∧ i_P i_MT i_AT L xs 15 58 [some (.ref x0), some (.int x1), some (.int x2), some (.int x3)] [.int r4] h3 0 0 Q))))))) : i_P i_MT i_AT L xs 15 41 [some (.ref x0), some (.int x1), some (.int x2), some (.int x3)] [] h 0 0 Q := by
  have hk := i_k15
  refine g_s1 (pc2 := 42) hk rfl rfl rfl rfl rfl ?_
  refine g_s1 (pc2 := 43) hk rfl rfl rfl rfl rfl ?_
  obtain ⟨v1, ev1, H⟩ := H
  refine g_step (pc2 := 46) hk rfl rfl rfl (s_get ev1) ?_
  obtain ⟨v2, ev2, H⟩ := H
  refine g_step (pc2 := 49) hk rfl rfl rfl (s_get ev2) ?_
  refine g_icmp_ge hk rfl (fun hc => ?_) (fun hc => ?_)
  · have H := H.1 hc
    refine g_s1 (pc2 := 88) (st2 := [.int (0 : Int32)]) hk rfl rfl rfl rfl rfl ?_
    exact g_ireturn hk rfl (by decide) (by decide) rfl H
  · have H := H.2 hc
    refine g_s1 (pc2 := 53) hk rfl rfl rfl rfl rfl ?_
    refine g_s1 (pc2 := 54) hk rfl rfl rfl rfl rfl ?_
    refine g_s1 (pc2 := 55) hk rfl rfl rfl rfl rfl ?_
    obtain ⟨ho, H⟩ := H
    refine g_call hk rfl rfl i_k8.1 ⟨rfl, rfl⟩ rfl (i_rcv_v ho rfl (by decide)) rfl ?_
    exact H.mono (fun v h2 q => by obtain ⟨r, rfl, q⟩ := q; exact q)
theorem b15_58 {x0 : Nat} {x1 : Int32} {x2 : Int32} {x3 : Int32} {s0 : Int32} {h : iH} {Q : Option Value → iH → Prop} (H : ((s0 = 0 → i_P i_MT i_AT L xs 15 81 [some (.ref x0), some (.int x1), some (.int x2), some (.int x3)] [] h 0 0 Q) ∧ (¬ (s0 = 0) → (i_obj? h x0 0 ∧ i_C i_MT i_AT L xs 10 [.ref x0, .int x1, .int x2] h (fun v h1 => ∃ r2 : Int64, v = some (.long r2) ∧ i_P i_MT i_AT L xs 15 67 [some (.ref x0), some (.int x1), some (.int x2), some (.int x3)] [.long r2] h1 0 0 Q))))) : i_P i_MT i_AT L xs 15 58 [some (.ref x0), some (.int x1), some (.int x2), some (.int x3)] [.int s0] h 0 0 Q := by
  have hk := i_k15
  refine g_if_eq hk rfl (fun hc => ?_) (fun hc => ?_)
  · have H := H.1 hc
    exact H
  · have H := H.2 hc
    refine g_s1 (pc2 := 62) hk rfl rfl rfl rfl rfl ?_
    refine g_s1 (pc2 := 63) hk rfl rfl rfl rfl rfl ?_
    refine g_s1 (pc2 := 64) hk rfl rfl rfl rfl rfl ?_
    obtain ⟨ho, H⟩ := H
    refine g_call hk rfl rfl i_k10.1 ⟨rfl, rfl⟩ rfl (i_rcv_v ho rfl (by decide)) rfl ?_
    exact H.mono (fun v h2 q => by obtain ⟨r, rfl, q⟩ := q; exact q)
theorem b15_67 {x0 : Nat} {x1 : Int32} {x2 : Int32} {x3 : Int32} {s0 : Int64} {h : iH} {Q : Option Value → iH → Prop} (H : (i_obj? h x0 0 ∧ i_C i_MT i_AT L xs 7 [.ref x0, .int x3, .int x2] h (fun v h1 => ∃ r2 : Int32, v = some (.int r2) ∧ i_P i_MT i_AT L xs 15 73 [some (.ref x0), some (.int x1), some (.int x2), some (.int x3)] [.int r2, .long s0] h1 0 0 Q))) : i_P i_MT i_AT L xs 15 67 [some (.ref x0), some (.int x1), some (.int x2), some (.int x3)] [.long s0] h 0 0 Q := by
  have hk := i_k15
  refine g_s1 (pc2 := 68) hk rfl rfl rfl rfl rfl ?_
  refine g_s1 (pc2 := 69) hk rfl rfl rfl rfl rfl ?_
  refine g_s1 (pc2 := 70) hk rfl rfl rfl rfl rfl ?_
  obtain ⟨ho, H⟩ := H
  refine g_call hk rfl rfl i_k7.1 ⟨rfl, rfl⟩ rfl (i_rcv_v ho rfl (by decide)) rfl ?_
  exact H.mono (fun v h2 q => by obtain ⟨r, rfl, q⟩ := q; exact q)
theorem b15_73 {x0 : Nat} {x1 : Int32} {x2 : Int32} {x3 : Int32} {s0 : Int64} {s1 : Int32} {h : iH} {Q : Option Value → iH → Prop} (H : (i_C i_MT i_AT L xs 193 [.long s0, .int s1] h (fun v h1 => ∃ r2 : Int32, v = some (.int r2) ∧ i_P i_MT i_AT L xs 15 76 [some (.ref x0), some (.int x1), some (.int x2), some (.int x3)] [.int r2] h1 0 0 Q))) : i_P i_MT i_AT L xs 15 73 [some (.ref x0), some (.int x1), some (.int x2), some (.int x3)] [.int s1, .long s0] h 0 0 Q := by
  have hk := i_k15
  refine g_call hk rfl rfl i_k193.1 ⟨rfl, rfl⟩ rfl (i_rcv_0 rfl) rfl ?_
  exact H.mono (fun v h2 q => by obtain ⟨r, rfl, q⟩ := q; exact q)
theorem b15_76 {x0 : Nat} {x1 : Int32} {x2 : Int32} {x3 : Int32} {s0 : Int32} {h : iH} {Q : Option Value → iH → Prop} (H : ((s0 = 0 → i_P i_MT i_AT L xs 15 81 [some (.ref x0), some (.int x1), some (.int x2), some (.int x3)] [] h 0 0 Q) ∧ (¬ (s0 = 0) → Q (some (.int 1)) h))) : i_P i_MT i_AT L xs 15 76 [some (.ref x0), some (.int x1), some (.int x2), some (.int x3)] [.int s0] h 0 0 Q := by
  have hk := i_k15
  refine g_if_eq hk rfl (fun hc => ?_) (fun hc => ?_)
  · have H := H.1 hc
    exact H
  · have H := H.2 hc
    refine g_s1 (pc2 := 80) (st2 := [.int (1 : Int32)]) hk rfl rfl rfl rfl rfl ?_
    exact g_ireturn hk rfl (by decide) (by decide) rfl H
theorem b15_81 {x0 : Nat} {x1 : Int32} {x2 : Int32} {x3 : Int32} {h : iH} {Q : Option Value → iH → Prop} (H : i_P i_MT i_AT L xs 15 41 [some (.ref x0), some (.int x1), some (.int x2), some (.int (x3 + 1))] [] h 0 0 Q) : i_P i_MT i_AT L xs 15 81 [some (.ref x0), some (.int x1), some (.int x2), some (.int x3)] [] h 0 0 Q := by
  have hk := i_k15
  refine g_s1 (pc2 := 84) (lo2 := [some (.ref x0), some (.int x1), some (.int x2), some (.int (x3 + 1))]) hk rfl rfl rfl rfl rfl ?_
  refine g_s1 (pc2 := 41) hk rfl rfl rfl rfl rfl ?_
  exact H
/-! StillTown$Day.pass(LStillTown$Course;I)V -/
theorem e17 {x0 : Nat} {x1 : Nat} {x2 : Int32} {h : iH} {Q : Option Value → iH → Prop} (H : i_P i_MT i_AT L xs 17 0 [some (.ref x0), some (.ref x1), some (.int x2), none, none, none] [] h 0 0 Q) : i_C i_MT i_AT L xs 17 [.ref x0, .ref x1, .int x2] h Q := ⟨i_m17, i_k17.1, Nat.le_of_ble_eq_true rfl, H⟩
theorem b17_0 {x0 : Nat} {x1 : Nat} {x2 : Int32} {x3 : Option Value} {x4 : Option Value} {x5 : Option Value} {h : iH} {Q : Option Value → iH → Prop} (H : (∃ v1 : Nat, i_fld h x1 0 1 = some (.ref v1) ∧ (∃ v2 : Nat, i_fld h v1 8 12 = some (.ref v2) ∧ (∃ v3 : Int32, i_fld h v2 3 0 = some (.int v3) ∧ ((∃ o, i_fld h x0 1 0 = some o) ∧ i_P i_MT i_AT L xs 17 14 [some (.ref x0), some (.ref x1), some (.int x2), x3, x4, x5] [] (i_sf h x0 0 (.int v3)) 0 0 Q))))) : i_P i_MT i_AT L xs 17 0 [some (.ref x0), some (.ref x1), some (.int x2), x3, x4, x5] [] h 0 0 Q := by
  have hk := i_k17
  refine g_s1 (pc2 := 1) hk rfl rfl rfl rfl rfl ?_
  refine g_s1 (pc2 := 2) hk rfl rfl rfl rfl rfl ?_
  obtain ⟨v1, ev1, H⟩ := H
  refine g_step (pc2 := 5) hk rfl rfl rfl (s_get ev1) ?_
  obtain ⟨v2, ev2, H⟩ := H
  refine g_step (pc2 := 8) hk rfl rfl rfl (s_get ev2) ?_
  obtain ⟨v3, ev3, H⟩ := H
  refine g_step (pc2 := 11) hk rfl rfl rfl (s_get ev3) ?_
  obtain ⟨⟨o, ho⟩, H⟩ := H
  refine g_step (pc2 := 14) hk rfl rfl rfl (s_put ho rfl) ?_
  exact H
theorem b17_14 {x0 : Nat} {x1 : Nat} {x2 : Int32} {x3 : Option Value} {x4 : Option Value} {x5 : Option Value} {h : iH} {Q : Option Value → iH → Prop} (H : ((∃ o, i_fld h x0 1 1 = some o) ∧ i_P i_MT i_AT L xs 17 19 [some (.ref x0), some (.ref x1), some (.int x2), x3, x4, x5] [] (i_sf h x0 1 (.int (0 : Int32))) 0 0 Q)) : i_P i_MT i_AT L xs 17 14 [some (.ref x0), some (.ref x1), some (.int x2), x3, x4, x5] [] h 0 0 Q := by
  have hk := i_k17
  refine g_s1 (pc2 := 15) hk rfl rfl rfl rfl rfl ?_
  refine g_s1 (pc2 := 16) (st2 := [.int (0 : Int32), .ref x0]) hk rfl rfl rfl rfl rfl ?_
  obtain ⟨⟨o, ho⟩, H⟩ := H
  refine g_step (pc2 := 19) hk rfl rfl rfl (s_put ho rfl) ?_
  exact H
theorem b17_19 {x0 : Nat} {x1 : Nat} {x2 : Int32} {x3 : Option Value} {x4 : Option Value} {x5 : Option Value} {h : iH} {Q : Option Value → iH → Prop} (H : ((∃ o, i_fld h x0 1 4 = some o) ∧ i_P i_MT i_AT L xs 17 24 [some (.ref x0), some (.ref x1), some (.int x2), x3, x4, x5] [] (i_sf h x0 4 (.int x2)) 0 0 Q)) : i_P i_MT i_AT L xs 17 19 [some (.ref x0), some (.ref x1), some (.int x2), x3, x4, x5] [] h 0 0 Q := by
  have hk := i_k17
  refine g_s1 (pc2 := 20) hk rfl rfl rfl rfl rfl ?_
  refine g_s1 (pc2 := 21) hk rfl rfl rfl rfl rfl ?_
  obtain ⟨⟨o, ho⟩, H⟩ := H
  refine g_step (pc2 := 24) hk rfl rfl rfl (s_put ho rfl) ?_
  exact H
theorem b17_24 {x0 : Nat} {x1 : Nat} {x2 : Int32} {x3 : Option Value} {x4 : Option Value} {x5 : Option Value} {h : iH} {Q : Option Value → iH → Prop} (H : (∃ v1 : Nat, i_fld h x0 1 3 = some (.ref v1) ∧ (i_C i_MT i_AT L xs 349 [.ref v1, .int (0 : Int32)] h (fun v h2 => v = none ∧ i_P i_MT i_AT L xs 17 32 [some (.ref x0), some (.ref x1), some (.int x2), x3, x4, x5] [] h2 0 0 Q)))) : i_P i_MT i_AT L xs 17 24 [some (.ref x0), some (.ref x1), some (.int x2), x3, x4, x5] [] h 0 0 Q := by
  have hk := i_k17
  refine g_s1 (pc2 := 25) hk rfl rfl rfl rfl rfl ?_
  obtain ⟨v1, ev1, H⟩ := H
  refine g_step (pc2 := 28) hk rfl rfl rfl (s_get ev1) ?_
  refine g_s1 (pc2 := 29) (st2 := [.int (0 : Int32), .ref v1]) hk rfl rfl rfl rfl rfl ?_
  refine g_call hk rfl rfl i_k349.1 ⟨rfl, rfl⟩ rfl (i_rcv_0 rfl) rfl ?_
  exact H.mono (fun v h2 q => by obtain ⟨rfl, q⟩ := q; exact q)
theorem b17_32 {x0 : Nat} {x1 : Nat} {x2 : Int32} {x3 : Option Value} {x4 : Option Value} {x5 : Option Value} {h : iH} {Q : Option Value → iH → Prop} (H : i_P i_MT i_AT L xs 17 34 [some (.ref x0), some (.ref x1), some (.int x2), some (.int (1 : Int32)), x4, x5] [] h 0 0 Q) : i_P i_MT i_AT L xs 17 32 [some (.ref x0), some (.ref x1), some (.int x2), x3, x4, x5] [] h 0 0 Q := by
  have hk := i_k17
  refine g_s1 (pc2 := 33) (st2 := [.int (1 : Int32)]) hk rfl rfl rfl rfl rfl ?_
  refine g_s1 (pc2 := 34) (lo2 := [some (.ref x0), some (.ref x1), some (.int x2), some (.int (1 : Int32)), x4, x5]) hk rfl rfl rfl rfl rfl ?_
  exact H
theorem b17_34 {x0 : Nat} {x1 : Nat} {x2 : Int32} {x3 : Int32} {x4 : Option Value} {x5 : Option Value} {h : iH} {Q : Option Value → iH → Prop} (H : (((60 : Int32) < x3 → ((∃ o, i_fld h x0 1 2 = some o) ∧ i_P i_MT i_AT L xs 17 134 [some (.ref x0), some (.ref x1), some (.int x2), some (.int x3), x4, x5] [] (i_sf h x0 2 (.int (0 : Int32))) 0 0 Q)) ∧ (¬ ((60 : Int32) < x3) → i_P i_MT i_AT L xs 17 43 [some (.ref x0), some (.ref x1), some (.int x2), some (.int x3), some (.int (0 : Int32)), x5] [] h 0 0 Q))) : i_P i_MT i_AT L xs 17 34 [some (.ref x0), some (.ref x1), some (.int x2), some (.int x3), x4, x5] [] h 0 0 Q := by
  have hk := i_k17
  refine g_s1 (pc2 := 35) hk rfl rfl rfl rfl rfl ?_
  refine g_s1 (pc2 := 37) (st2 := [.int (60 : Int32), .int x3]) hk rfl rfl rfl rfl rfl ?_
  refine g_icmp_gt hk rfl (fun hc => ?_) (fun hc => ?_)
  · have H := H.1 hc
    refine g_s1 (pc2 := 130) hk rfl rfl rfl rfl rfl ?_
    refine g_s1 (pc2 := 131) (st2 := [.int (0 : Int32), .ref x0]) hk rfl rfl rfl rfl rfl ?_
    obtain ⟨⟨o, ho⟩, H⟩ := H
    refine g_step (pc2 := 134) hk rfl rfl rfl (s_put ho rfl) ?_
    exact H
  · have H := H.2 hc
    refine g_s1 (pc2 := 41) (st2 := [.int (0 : Int32)]) hk rfl rfl rfl rfl rfl ?_
    refine g_s1 (pc2 := 43) (lo2 := [some (.ref x0), some (.ref x1), some (.int x2), some (.int x3), some (.int (0 : Int32)), x5]) hk rfl rfl rfl rfl rfl ?_
    exact H
theorem b17_43 {x0 : Nat} {x1 : Nat} {x2 : Int32} {x3 : Int32} {x4 : Int32} {x5 : Option Value} {h : iH} {Q : Option Value → iH → Prop} (H : (∃ v1 : Int32, i_fld h x0 1 0 = some (.int v1) ∧ ((v1 ≤ x4 → i_P i_MT i_AT L xs 17 34 [some (.ref x0), some (.ref x1), some (.int x2), some (.int (x3 + 1)), some (.int x4), x5] [] h 0 0 Q) ∧ (¬ (v1 ≤ x4) → i_P i_MT i_AT L xs 17 55 [some (.ref x0), some (.ref x1), some (.int x2), some (.int x3), some (.int x4), some (.int (0 : Int32))] [] h 0 0 Q)))) : i_P i_MT i_AT L xs 17 43 [some (.ref x0), some (.ref x1), some (.int x2), some (.int x3), some (.int x4), x5] [] h 0 0 Q := by
  have hk := i_k17
  refine g_s1 (pc2 := 45) hk rfl rfl rfl rfl rfl ?_
  refine g_s1 (pc2 := 46) hk rfl rfl rfl rfl rfl ?_
  obtain ⟨v1, ev1, H⟩ := H
  refine g_step (pc2 := 49) hk rfl rfl rfl (s_get ev1) ?_
  refine g_icmp_ge hk rfl (fun hc => ?_) (fun hc => ?_)
  · have H := H.1 hc
    refine g_s1 (pc2 := 126) (lo2 := [some (.ref x0), some (.ref x1), some (.int x2), some (.int (x3 + 1)), some (.int x4), x5]) hk rfl rfl rfl rfl rfl ?_
    refine g_s1 (pc2 := 34) hk rfl rfl rfl rfl rfl ?_
    exact H
  · have H := H.2 hc
    refine g_s1 (pc2 := 53) (st2 := [.int (0 : Int32)]) hk rfl rfl rfl rfl rfl ?_
    refine g_s1 (pc2 := 55) (lo2 := [some (.ref x0), some (.ref x1), some (.int x2), some (.int x3), some (.int x4), some (.int (0 : Int32))]) hk rfl rfl rfl rfl rfl ?_
    exact H
theorem b17_55 {x0 : Nat} {x1 : Nat} {x2 : Int32} {x3 : Int32} {x4 : Int32} {x5 : Int32} {h : iH} {Q : Option Value → iH → Prop} (H : (∃ v1 : Int32, i_fld h x0 1 0 = some (.int v1) ∧ ((v1 ≤ x5 → i_P i_MT i_AT L xs 17 43 [some (.ref x0), some (.ref x1), some (.int x2), some (.int x3), some (.int (x4 + 1)), some (.int x5)] [] h 0 0 Q) ∧ (¬ (v1 ≤ x5) → ((x5 = x4 → i_P i_MT i_AT L xs 17 111 [some (.ref x0), some (.ref x1), some (.int x2), some (.int x3), some (.int x4), some (.int x5)] [] h 0 0 Q) ∧ (¬ (x5 = x4) → (i_obj? h x1 0 ∧ i_C i_MT i_AT L xs 12 [.ref x1, .int x4, .int x5, .int x3] h (fun v h2 => ∃ r3 : Int32, v = some (.int r3) ∧ i_P i_MT i_AT L xs 17 81 [some (.ref x0), some (.ref x1), some (.int x2), some (.int x3), some (.int x4), some (.int x5)] [.int r3, .ref x0] h2 0 0 Q)))))))) : i_P i_MT i_AT L xs 17 55 [some (.ref x0), some (.ref x1), some (.int x2), some (.int x3), some (.int x4), some (.int x5)] [] h 0 0 Q := by
  have hk := i_k17
  refine g_s1 (pc2 := 57) hk rfl rfl rfl rfl rfl ?_
  refine g_s1 (pc2 := 58) hk rfl rfl rfl rfl rfl ?_
  obtain ⟨v1, ev1, H⟩ := H
  refine g_step (pc2 := 61) hk rfl rfl rfl (s_get ev1) ?_
  refine g_icmp_ge hk rfl (fun hc => ?_) (fun hc => ?_)
  · have H := H.1 hc
    refine g_s1 (pc2 := 120) (lo2 := [some (.ref x0), some (.ref x1), some (.int x2), some (.int x3), some (.int (x4 + 1)), some (.int x5)]) hk rfl rfl rfl rfl rfl ?_
    refine g_s1 (pc2 := 43) hk rfl rfl rfl rfl rfl ?_
    exact H
  · have H := H.2 hc
    refine g_s1 (pc2 := 66) hk rfl rfl rfl rfl rfl ?_
    refine g_s1 (pc2 := 68) hk rfl rfl rfl rfl rfl ?_
    refine g_icmp_eq hk rfl (fun hc => ?_) (fun hc => ?_)
    · have H := H.1 hc
      exact H
    · have H := H.2 hc
      refine g_s1 (pc2 := 72) hk rfl rfl rfl rfl rfl ?_
      refine g_s1 (pc2 := 73) hk rfl rfl rfl rfl rfl ?_
      refine g_s1 (pc2 := 75) hk rfl rfl rfl rfl rfl ?_
      refine g_s1 (pc2 := 77) hk rfl rfl rfl rfl rfl ?_
      refine g_s1 (pc2 := 78) hk rfl rfl rfl rfl rfl ?_
      obtain ⟨ho, H⟩ := H
      refine g_call hk rfl rfl i_k12.1 ⟨rfl, rfl⟩ rfl (i_rcv_v ho rfl (by decide)) rfl ?_
      exact H.mono (fun v h2 q => by obtain ⟨r, rfl, q⟩ := q; exact q)
theorem b17_81 {x0 : Nat} {x1 : Nat} {x2 : Int32} {x3 : Int32} {x4 : Int32} {x5 : Int32} {s0 : Nat} {s1 : Int32} {h : iH} {Q : Option Value → iH → Prop} (H : (i_obj? h s0 1 ∧ i_C i_MT i_AT L xs 18 [.ref s0, .int s1] h (fun v h1 => ∃ r2 : Int32, v = some (.int r2) ∧ i_P i_MT i_AT L xs 17 84 [some (.ref x0), some (.ref x1), some (.int x2), some (.int x3), some (.int x4), some (.int x5)] [.int r2] h1 0 0 Q))) : i_P i_MT i_AT L xs 17 81 [some (.ref x0), some (.ref x1), some (.int x2), some (.int x3), some (.int x4), some (.int x5)] [.int s1, .ref s0] h 0 0 Q := by
  have hk := i_k17
  obtain ⟨ho, H⟩ := H
  refine g_call hk rfl rfl i_k18.1 ⟨rfl, rfl⟩ rfl (i_rcv_v ho rfl (by decide)) rfl ?_
  exact H.mono (fun v h2 q => by obtain ⟨r, rfl, q⟩ := q; exact q)
theorem b17_84 {x0 : Nat} {x1 : Nat} {x2 : Int32} {x3 : Int32} {x4 : Int32} {x5 : Int32} {s0 : Int32} {h : iH} {Q : Option Value → iH → Prop} (H : ((s0 = 0 → i_P i_MT i_AT L xs 17 111 [some (.ref x0), some (.ref x1), some (.int x2), some (.int x3), some (.int x4), some (.int x5)] [] h 0 0 Q) ∧ (¬ (s0 = 0) → (∃ v1 : Nat, i_fld h x0 1 3 = some (.ref v1) ∧ (∃ (n2 : Nat) (f3 : Nat → Int32), i_arI h 0 v1 = some (n2, f3) ∧ ¬ (x4 < 0 ∨ n2 ≤ x4.toNatClampNeg) ∧ (∃ (n4 : Nat) (f5 : Nat → Int32), i_arI h 0 v1 = some (n4, f5) ∧ ¬ (x4 < 0 ∨ n4 ≤ x4.toNatClampNeg) ∧ i_P i_MT i_AT L xs 17 101 [some (.ref x0), some (.ref x1), some (.int x2), some (.int x3), some (.int x4), some (.int x5)] [] (i_siI h v1 x4.toNatClampNeg ((f3 x4.toNatClampNeg) ||| ((1 : Int32) <<< (x5 &&& 31)))) 0 0 Q)))))) : i_P i_MT i_AT L xs 17 84 [some (.ref x0), some (.ref x1), some (.int x2), some (.int x3), some (.int x4), some (.int x5)] [.int s0] h 0 0 Q := by
  have hk := i_k17
  refine g_if_eq hk rfl (fun hc => ?_) (fun hc => ?_)
  · have H := H.1 hc
    exact H
  · have H := H.2 hc
    refine g_s1 (pc2 := 88) hk rfl rfl rfl rfl rfl ?_
    obtain ⟨v1, ev1, H⟩ := H
    refine g_step (pc2 := 91) hk rfl rfl rfl (s_get ev1) ?_
    refine g_s1 (pc2 := 93) hk rfl rfl rfl rfl rfl ?_
    refine g_s1 (pc2 := 94) hk rfl rfl rfl rfl rfl ?_
    obtain ⟨n2, f3, ef3, hi, H⟩ := H
    refine g_step (pc2 := 95) hk rfl rfl rfl (s_aget (L := L) (xs := xs) ef3 hi) ?_
    refine g_s1 (pc2 := 96) (st2 := [.int (1 : Int32), .int (f3 x4.toNatClampNeg), .int x4, .ref v1]) hk rfl rfl rfl rfl rfl ?_
    refine g_s1 (pc2 := 98) hk rfl rfl rfl rfl rfl ?_
    refine g_s1 (pc2 := 99) hk rfl rfl rfl rfl rfl ?_
    refine g_s1 (pc2 := 100) hk rfl rfl rfl rfl rfl ?_
    obtain ⟨n4, f5, ef5, hi, H⟩ := H
    refine g_step (pc2 := 101) hk rfl rfl rfl (s_aput ef5 hi) ?_
    exact H
theorem b17_101 {x0 : Nat} {x1 : Nat} {x2 : Int32} {x3 : Int32} {x4 : Int32} {x5 : Int32} {h : iH} {Q : Option Value → iH → Prop} (H : (∃ v1 : Int32, i_fld h x0 1 1 = some (.int v1) ∧ ((∃ o, i_fld h x0 1 1 = some o) ∧ i_P i_MT i_AT L xs 17 111 [some (.ref x0), some (.ref x1), some (.int x2), some (.int x3), some (.int x4), some (.int x5)] [] (i_sf h x0 1 (.int (v1 + (1 : Int32)))) 0 0 Q))) : i_P i_MT i_AT L xs 17 101 [some (.ref x0), some (.ref x1), some (.int x2), some (.int x3), some (.int x4), some (.int x5)] [] h 0 0 Q := by
  have hk := i_k17
  refine g_s1 (pc2 := 102) hk rfl rfl rfl rfl rfl ?_
  refine g_s1 (pc2 := 103) hk rfl rfl rfl rfl rfl ?_
  obtain ⟨v1, ev1, H⟩ := H
  refine g_step (pc2 := 106) hk rfl rfl rfl (s_get ev1) ?_
  refine g_s1 (pc2 := 107) (st2 := [.int (1 : Int32), .int v1, .ref x0]) hk rfl rfl rfl rfl rfl ?_
  refine g_s1 (pc2 := 108) hk rfl rfl rfl rfl rfl ?_
  obtain ⟨⟨o, ho⟩, H⟩ := H
  refine g_step (pc2 := 111) hk rfl rfl rfl (s_put ho rfl) ?_
  exact H
theorem b17_111 {x0 : Nat} {x1 : Nat} {x2 : Int32} {x3 : Int32} {x4 : Int32} {x5 : Int32} {h : iH} {Q : Option Value → iH → Prop} (H : i_P i_MT i_AT L xs 17 55 [some (.ref x0), some (.ref x1), some (.int x2), some (.int x3), some (.int x4), some (.int (x5 + 1))] [] h 0 0 Q) : i_P i_MT i_AT L xs 17 111 [some (.ref x0), some (.ref x1), some (.int x2), some (.int x3), some (.int x4), some (.int x5)] [] h 0 0 Q := by
  have hk := i_k17
  refine g_s1 (pc2 := 114) (lo2 := [some (.ref x0), some (.ref x1), some (.int x2), some (.int x3), some (.int x4), some (.int (x5 + 1))]) hk rfl rfl rfl rfl rfl ?_
  refine g_s1 (pc2 := 55) hk rfl rfl rfl rfl rfl ?_
  exact H
theorem b17_134 {x0 : Nat} {x1 : Nat} {x2 : Int32} {x3 : Int32} {x4 : Option Value} {x5 : Option Value} {h : iH} {Q : Option Value → iH → Prop} (H : i_P i_MT i_AT L xs 17 136 [some (.ref x0), some (.ref x1), some (.int x2), some (.int (0 : Int32)), x4, x5] [] h 0 0 Q) : i_P i_MT i_AT L xs 17 134 [some (.ref x0), some (.ref x1), some (.int x2), some (.int x3), x4, x5] [] h 0 0 Q := by
  have hk := i_k17
  refine g_s1 (pc2 := 135) (st2 := [.int (0 : Int32)]) hk rfl rfl rfl rfl rfl ?_
  refine g_s1 (pc2 := 136) (lo2 := [some (.ref x0), some (.ref x1), some (.int x2), some (.int (0 : Int32)), x4, x5]) hk rfl rfl rfl rfl rfl ?_
  exact H
theorem b17_136 {x0 : Nat} {x1 : Nat} {x2 : Int32} {x3 : Int32} {x4 : Option Value} {x5 : Option Value} {h : iH} {Q : Option Value → iH → Prop} (H : (∃ v1 : Int32, i_fld h x0 1 0 = some (.int v1) ∧ ((v1 ≤ x3 → Q none h) ∧ (¬ (v1 ≤ x3) → (∃ v2 : Int32, i_fld h x0 1 2 = some (.int v2) ∧ (∃ v3 : Nat, i_fld h x1 0 1 = some (.ref v3) ∧ (∃ v4 : Nat, i_fld h v3 8 12 = some (.ref v4) ∧ (∃ v5 : Nat, i_fld h v4 3 5 = some (.ref v5) ∧ (∃ (n6 : Nat) (f7 : Nat → Int32), i_arI h 0 v5 = some (n6, f7) ∧ ¬ (x3 < 0 ∨ n6 ≤ x3.toNatClampNeg) ∧ (i_obj? h x0 1 ∧ i_C i_MT i_AT L xs 19 [.ref x0, .int x3, .int (f7 x3.toNatClampNeg)] h (fun v h8 => ∃ r9 : Int32, v = some (.int r9) ∧ i_P i_MT i_AT L xs 17 166 [some (.ref x0), some (.ref x1), some (.int x2), some (.int x3), x4, x5] [.int r9, .int v2, .ref x0] h8 0 0 Q))))))))))) : i_P i_MT i_AT L xs 17 136 [some (.ref x0), some (.ref x1), some (.int x2), some (.int x3), x4, x5] [] h 0 0 Q := by
  have hk := i_k17
  refine g_s1 (pc2 := 137) hk rfl rfl rfl rfl rfl ?_
  refine g_s1 (pc2 := 138) hk rfl rfl rfl rfl rfl ?_
  obtain ⟨v1, ev1, H⟩ := H
  refine g_step (pc2 := 141) hk rfl rfl rfl (s_get ev1) ?_
  refine g_icmp_ge hk rfl (fun hc => ?_) (fun hc => ?_)
  · have H := H.1 hc
    exact g_return hk rfl (by decide) (by decide) rfl H
  · have H := H.2 hc
    refine g_s1 (pc2 := 145) hk rfl rfl rfl rfl rfl ?_
    refine g_s1 (pc2 := 146) hk rfl rfl rfl rfl rfl ?_
    obtain ⟨v2, ev2, H⟩ := H
    refine g_step (pc2 := 149) hk rfl rfl rfl (s_get ev2) ?_
    refine g_s1 (pc2 := 150) hk rfl rfl rfl rfl rfl ?_
    refine g_s1 (pc2 := 151) hk rfl rfl rfl rfl rfl ?_
    refine g_s1 (pc2 := 152) hk rfl rfl rfl rfl rfl ?_
    obtain ⟨v3, ev3, H⟩ := H
    refine g_step (pc2 := 155) hk rfl rfl rfl (s_get ev3) ?_
    obtain ⟨v4, ev4, H⟩ := H
    refine g_step (pc2 := 158) hk rfl rfl rfl (s_get ev4) ?_
    obtain ⟨v5, ev5, H⟩ := H
    refine g_step (pc2 := 161) hk rfl rfl rfl (s_get ev5) ?_
    refine g_s1 (pc2 := 162) hk rfl rfl rfl rfl rfl ?_
    obtain ⟨n6, f7, ef7, hi, H⟩ := H
    refine g_step (pc2 := 163) hk rfl rfl rfl (s_aget (L := L) (xs := xs) ef7 hi) ?_
    obtain ⟨ho, H⟩ := H
    refine g_call hk rfl rfl i_k19.1 ⟨rfl, rfl⟩ rfl (i_rcv_v ho rfl (by decide)) rfl ?_
    exact H.mono (fun v h2 q => by obtain ⟨r, rfl, q⟩ := q; exact q)
theorem b17_166 {x0 : Nat} {x1 : Nat} {x2 : Int32} {x3 : Int32} {x4 : Option Value} {x5 : Option Value} {s0 : Nat} {s1 : Int32} {s2 : Int32} {h : iH} {Q : Option Value → iH → Prop} (H : ((s2 = 0 → i_P i_MT i_AT L xs 17 174 [some (.ref x0), some (.ref x1), some (.int x2), some (.int x3), x4, x5] [.int (0 : Int32), .int s1, .ref s0] h 0 0 Q) ∧ (¬ (s2 = 0) → i_P i_MT i_AT L xs 17 174 [some (.ref x0), some (.ref x1), some (.int x2), some (.int x3), x4, x5] [.int (1 : Int32), .int s1, .ref s0] h 0 0 Q))) : i_P i_MT i_AT L xs 17 166 [some (.ref x0), some (.ref x1), some (.int x2), some (.int x3), x4, x5] [.int s2, .int s1, .ref s0] h 0 0 Q := by
  have hk := i_k17
  refine g_if_eq hk rfl (fun hc => ?_) (fun hc => ?_)
  · have H := H.1 hc
    refine g_s1 (pc2 := 174) (st2 := [.int (0 : Int32), .int s1, .ref s0]) hk rfl rfl rfl rfl rfl ?_
    exact H
  · have H := H.2 hc
    refine g_s1 (pc2 := 170) (st2 := [.int (1 : Int32), .int s1, .ref s0]) hk rfl rfl rfl rfl rfl ?_
    refine g_s1 (pc2 := 174) hk rfl rfl rfl rfl rfl ?_
    exact H
theorem b17_174 {x0 : Nat} {x1 : Nat} {x2 : Int32} {x3 : Int32} {x4 : Option Value} {x5 : Option Value} {s0 : Nat} {s1 : Int32} {s2 : Int32} {h : iH} {Q : Option Value → iH → Prop} (H : ((∃ o, i_fld h s0 1 2 = some o) ∧ i_P i_MT i_AT L xs 17 178 [some (.ref x0), some (.ref x1), some (.int x2), some (.int x3), x4, x5] [] (i_sf h s0 2 (.int (s1 + s2))) 0 0 Q)) : i_P i_MT i_AT L xs 17 174 [some (.ref x0), some (.ref x1), some (.int x2), some (.int x3), x4, x5] [.int s2, .int s1, .ref s0] h 0 0 Q := by
  have hk := i_k17
  refine g_s1 (pc2 := 175) hk rfl rfl rfl rfl rfl ?_
  obtain ⟨⟨o, ho⟩, H⟩ := H
  refine g_step (pc2 := 178) hk rfl rfl rfl (s_put ho rfl) ?_
  exact H
theorem b17_178 {x0 : Nat} {x1 : Nat} {x2 : Int32} {x3 : Int32} {x4 : Option Value} {x5 : Option Value} {h : iH} {Q : Option Value → iH → Prop} (H : i_P i_MT i_AT L xs 17 136 [some (.ref x0), some (.ref x1), some (.int x2), some (.int (x3 + 1)), x4, x5] [] h 0 0 Q) : i_P i_MT i_AT L xs 17 178 [some (.ref x0), some (.ref x1), some (.int x2), some (.int x3), x4, x5] [] h 0 0 Q := by
  have hk := i_k17
  refine g_s1 (pc2 := 181) (lo2 := [some (.ref x0), some (.ref x1), some (.int x2), some (.int (x3 + 1)), x4, x5]) hk rfl rfl rfl rfl rfl ?_
  refine g_s1 (pc2 := 136) hk rfl rfl rfl rfl rfl ?_
  exact H
/-! StillTown$Day.isSeen(I)Z -/
theorem e18 {x0 : Nat} {x1 : Int32} {h : iH} {Q : Option Value → iH → Prop} (H : i_P i_MT i_AT L xs 18 0 [some (.ref x0), some (.int x1)] [] h 0 0 Q) : i_C i_MT i_AT L xs 18 [.ref x0, .int x1] h Q := ⟨i_m18, i_k18.1, Nat.le_of_ble_eq_true rfl, H⟩
theorem b18_0 {x0 : Nat} {x1 : Int32} {h : iH} {Q : Option Value → iH → Prop} (H : ((0 < x1 → (∃ v1 : Int32, i_fld h x0 1 4 = some (.int v1) ∧ (¬ (65536 : Int32) = 0 ∧ ((∃ o, i_fld h x0 1 4 = some o) ∧ i_P i_MT i_AT L xs 18 25 [some (.ref x0), some (.int x1)] [] (i_sf h x0 4 (.int (((v1 * (2677 : Int32)) + (9029 : Int32)) - ((v1 * (2677 : Int32)) + (9029 : Int32)) / (65536 : Int32) * (65536 : Int32)))) 0 0 Q)))) ∧ (¬ (0 < x1) → Q (some (.int 0)) h))) : i_P i_MT i_AT L xs 18 0 [some (.ref x0), some (.int x1)] [] h 0 0 Q := by
  have hk := i_k18
  refine g_s1 (pc2 := 1) hk rfl rfl rfl rfl rfl ?_
  refine g_if_gt hk rfl (fun hc => ?_) (fun hc => ?_)
  · have H := H.1 hc
    refine g_s1 (pc2 := 7) hk rfl rfl rfl rfl rfl ?_
    refine g_s1 (pc2 := 8) hk rfl rfl rfl rfl rfl ?_
    obtain ⟨v1, ev1, H⟩ := H
    refine g_step (pc2 := 11) hk rfl rfl rfl (s_get ev1) ?_
    refine g_s1 (pc2 := 14) (st2 := [.int (2677 : Int32), .int v1, .ref x0]) hk rfl rfl rfl rfl rfl ?_
    refine g_s1 (pc2 := 15) hk rfl rfl rfl rfl rfl ?_
    refine g_s1 (pc2 := 18) (st2 := [.int (9029 : Int32), .int (v1 * (2677 : Int32)), .ref x0]) hk rfl rfl rfl rfl rfl ?_
    refine g_s1 (pc2 := 19) hk rfl rfl rfl rfl rfl ?_
    refine g_step (pc2 := 21) (st2 := [.int (65536 : Int32), .int ((v1 * (2677 : Int32)) + (9029 : Int32)), .ref x0]) hk rfl rfl rfl rfl ?_
    obtain ⟨hz, H⟩ := H
    refine g_s1 (pc2 := 22) hk rfl rfl rfl rfl (s_if hz) ?_
    obtain ⟨⟨o, ho⟩, H⟩ := H
    refine g_step (pc2 := 25) hk rfl rfl rfl (s_put ho rfl) ?_
    exact H
  · have H := H.2 hc
    refine g_s1 (pc2 := 5) (st2 := [.int (0 : Int32)]) hk rfl rfl rfl rfl rfl ?_
    exact g_ireturn hk rfl (by decide) (by decide) rfl H
theorem b18_25 {x0 : Nat} {x1 : Int32} {h : iH} {Q : Option Value → iH → Prop} (H : (∃ v1 : Int32, i_fld h x0 1 4 = some (.int v1) ∧ (¬ (8 : Int32) = 0 ∧ (¬ (16 : Int32) = 0 ∧ ((x1 ≤ ((v1 / (8 : Int32)) - (v1 / (8 : Int32)) / (16 : Int32) * (16 : Int32)) → i_P i_MT i_AT L xs 18 44 [some (.ref x0), some (.int x1)] [.int (0 : Int32)] h 0 0 Q) ∧ (¬ (x1 ≤ ((v1 / (8 : Int32)) - (v1 / (8 : Int32)) / (16 : Int32) * (16 : Int32))) → i_P i_MT i_AT L xs 18 44 [some (.ref x0), some (.int x1)] [.int (1 : Int32)] h 0 0 Q)))))) : i_P i_MT i_AT L xs 18 25 [some (.ref x0), some (.int x1)] [] h 0 0 Q := by
  have hk := i_k18
  refine g_s1 (pc2 := 26) hk rfl rfl rfl rfl rfl ?_
  obtain ⟨v1, ev1, H⟩ := H
  refine g_step (pc2 := 29) hk rfl rfl rfl (s_get ev1) ?_
  refine g_s1 (pc2 := 31) (st2 := [.int (8 : Int32), .int v1]) hk rfl rfl rfl rfl rfl ?_
  obtain ⟨hz, H⟩ := H
  refine g_s1 (pc2 := 32) hk rfl rfl rfl rfl (s_if hz) ?_
  refine g_s1 (pc2 := 34) (st2 := [.int (16 : Int32), .int (v1 / (8 : Int32))]) hk rfl rfl rfl rfl rfl ?_
  obtain ⟨hz, H⟩ := H
  refine g_s1 (pc2 := 35) hk rfl rfl rfl rfl (s_if hz) ?_
  refine g_s1 (pc2 := 36) hk rfl rfl rfl rfl rfl ?_
  refine g_icmp_ge hk rfl (fun hc => ?_) (fun hc => ?_)
  · have H := H.1 hc
    refine g_s1 (pc2 := 44) (st2 := [.int (0 : Int32)]) hk rfl rfl rfl rfl rfl ?_
    exact H
  · have H := H.2 hc
    refine g_s1 (pc2 := 40) (st2 := [.int (1 : Int32)]) hk rfl rfl rfl rfl rfl ?_
    refine g_s1 (pc2 := 44) hk rfl rfl rfl rfl rfl ?_
    exact H
theorem b18_44 {x0 : Nat} {x1 : Int32} {s0 : Int32} {h : iH} {Q : Option Value → iH → Prop} (H : (i_ret (some .boolean) s0 = true ∧ Q (some (.int s0)) h)) : i_P i_MT i_AT L xs 18 44 [some (.ref x0), some (.int x1)] [.int s0] h 0 0 Q := by
  have hk := i_k18
  exact g_ireturn hk rfl (by decide) (by decide) H.1 H.2
/-! StillTown$Day.isCaught(II)Z -/
theorem e19 {x0 : Nat} {x1 : Int32} {x2 : Int32} {h : iH} {Q : Option Value → iH → Prop} (H : i_P i_MT i_AT L xs 19 0 [some (.ref x0), some (.int x1), some (.int x2), none] [] h 0 0 Q) : i_C i_MT i_AT L xs 19 [.ref x0, .int x1, .int x2] h Q := ⟨i_m19, i_k19.1, Nat.le_of_ble_eq_true rfl, H⟩
theorem b19_0 {x0 : Nat} {x1 : Int32} {x2 : Int32} {x3 : Option Value} {h : iH} {Q : Option Value → iH → Prop} (H : i_P i_MT i_AT L xs 19 2 [some (.ref x0), some (.int x1), some (.int x2), some (.int (0 : Int32))] [] h 0 0 Q) : i_P i_MT i_AT L xs 19 0 [some (.ref x0), some (.int x1), some (.int x2), x3] [] h 0 0 Q := by
  have hk := i_k19
  refine g_s1 (pc2 := 1) (st2 := [.int (0 : Int32)]) hk rfl rfl rfl rfl rfl ?_
  refine g_s1 (pc2 := 2) (lo2 := [some (.ref x0), some (.int x1), some (.int x2), some (.int (0 : Int32))]) hk rfl rfl rfl rfl rfl ?_
  exact H
theorem b19_2 {x0 : Nat} {x1 : Int32} {x2 : Int32} {x3 : Int32} {h : iH} {Q : Option Value → iH → Prop} (H : (∃ v1 : Int32, i_fld h x0 1 0 = some (.int v1) ∧ ((v1 ≤ x3 → Q (some (.int 0)) h) ∧ (¬ (v1 ≤ x3) → (i_C i_MT i_AT L xs 193 [.long (x2.toInt64), .int x3] h (fun v h2 => ∃ r3 : Int32, v = some (.int r3) ∧ i_P i_MT i_AT L xs 19 16 [some (.ref x0), some (.int x1), some (.int x2), some (.int x3)] [.int r3] h2 0 0 Q)))))) : i_P i_MT i_AT L xs 19 2 [some (.ref x0), some (.int x1), some (.int x2), some (.int x3)] [] h 0 0 Q := by
  have hk := i_k19
  refine g_s1 (pc2 := 3) hk rfl rfl rfl rfl rfl ?_
  refine g_s1 (pc2 := 4) hk rfl rfl rfl rfl rfl ?_
  obtain ⟨v1, ev1, H⟩ := H
  refine g_step (pc2 := 7) hk rfl rfl rfl (s_get ev1) ?_
  refine g_icmp_ge hk rfl (fun hc => ?_) (fun hc => ?_)
  · have H := H.1 hc
    refine g_s1 (pc2 := 42) (st2 := [.int (0 : Int32)]) hk rfl rfl rfl rfl rfl ?_
    exact g_ireturn hk rfl (by decide) (by decide) rfl H
  · have H := H.2 hc
    refine g_s1 (pc2 := 11) hk rfl rfl rfl rfl rfl ?_
    refine g_s1 (pc2 := 12) hk rfl rfl rfl rfl rfl ?_
    refine g_s1 (pc2 := 13) hk rfl rfl rfl rfl rfl ?_
    refine g_call hk rfl rfl i_k193.1 ⟨rfl, rfl⟩ rfl (i_rcv_0 rfl) rfl ?_
    exact H.mono (fun v h2 q => by obtain ⟨r, rfl, q⟩ := q; exact q)
theorem b19_16 {x0 : Nat} {x1 : Int32} {x2 : Int32} {x3 : Int32} {s0 : Int32} {h : iH} {Q : Option Value → iH → Prop} (H : ((s0 = 0 → i_P i_MT i_AT L xs 19 35 [some (.ref x0), some (.int x1), some (.int x2), some (.int x3)] [] h 0 0 Q) ∧ (¬ (s0 = 0) → (∃ v1 : Nat, i_fld h x0 1 3 = some (.ref v1) ∧ (∃ (n2 : Nat) (f3 : Nat → Int32), i_arI h 0 v1 = some (n2, f3) ∧ ¬ (x3 < 0 ∨ n2 ≤ x3.toNatClampNeg) ∧ (i_C i_MT i_AT L xs 193 [.long ((f3 x3.toNatClampNeg).toInt64), .int x1] h (fun v h4 => ∃ r5 : Int32, v = some (.int r5) ∧ i_P i_MT i_AT L xs 19 30 [some (.ref x0), some (.int x1), some (.int x2), some (.int x3)] [.int r5] h4 0 0 Q))))))) : i_P i_MT i_AT L xs 19 16 [some (.ref x0), some (.int x1), some (.int x2), some (.int x3)] [.int s0] h 0 0 Q := by
  have hk := i_k19
  refine g_if_eq hk rfl (fun hc => ?_) (fun hc => ?_)
  · have H := H.1 hc
    exact H
  · have H := H.2 hc
    refine g_s1 (pc2 := 20) hk rfl rfl rfl rfl rfl ?_
    obtain ⟨v1, ev1, H⟩ := H
    refine g_step (pc2 := 23) hk rfl rfl rfl (s_get ev1) ?_
    refine g_s1 (pc2 := 24) hk rfl rfl rfl rfl rfl ?_
    obtain ⟨n2, f3, ef3, hi, H⟩ := H
    refine g_step (pc2 := 25) hk rfl rfl rfl (s_aget (L := L) (xs := xs) ef3 hi) ?_
    refine g_s1 (pc2 := 26) hk rfl rfl rfl rfl rfl ?_
    refine g_s1 (pc2 := 27) hk rfl rfl rfl rfl rfl ?_
    refine g_call hk rfl rfl i_k193.1 ⟨rfl, rfl⟩ rfl (i_rcv_0 rfl) rfl ?_
    exact H.mono (fun v h2 q => by obtain ⟨r, rfl, q⟩ := q; exact q)
theorem b19_30 {x0 : Nat} {x1 : Int32} {x2 : Int32} {x3 : Int32} {s0 : Int32} {h : iH} {Q : Option Value → iH → Prop} (H : ((s0 = 0 → i_P i_MT i_AT L xs 19 35 [some (.ref x0), some (.int x1), some (.int x2), some (.int x3)] [] h 0 0 Q) ∧ (¬ (s0 = 0) → Q (some (.int 1)) h))) : i_P i_MT i_AT L xs 19 30 [some (.ref x0), some (.int x1), some (.int x2), some (.int x3)] [.int s0] h 0 0 Q := by
  have hk := i_k19
  refine g_if_eq hk rfl (fun hc => ?_) (fun hc => ?_)
  · have H := H.1 hc
    exact H
  · have H := H.2 hc
    refine g_s1 (pc2 := 34) (st2 := [.int (1 : Int32)]) hk rfl rfl rfl rfl rfl ?_
    exact g_ireturn hk rfl (by decide) (by decide) rfl H
theorem b19_35 {x0 : Nat} {x1 : Int32} {x2 : Int32} {x3 : Int32} {h : iH} {Q : Option Value → iH → Prop} (H : i_P i_MT i_AT L xs 19 2 [some (.ref x0), some (.int x1), some (.int x2), some (.int (x3 + 1))] [] h 0 0 Q) : i_P i_MT i_AT L xs 19 35 [some (.ref x0), some (.int x1), some (.int x2), some (.int x3)] [] h 0 0 Q := by
  have hk := i_k19
  refine g_s1 (pc2 := 38) (lo2 := [some (.ref x0), some (.int x1), some (.int x2), some (.int (x3 + 1))]) hk rfl rfl rfl rfl rfl ?_
  refine g_s1 (pc2 := 2) hk rfl rfl rfl rfl rfl ?_
  exact H
/-! StillTown$Grid.shape(LStillTown$Town;)V -/
theorem e21 {x0 : Nat} {x1 : Nat} {h : iH} {Q : Option Value → iH → Prop} (H : i_P i_MT i_AT L xs 21 0 [some (.ref x0), some (.ref x1)] [] h 0 0 Q) : i_C i_MT i_AT L xs 21 [.ref x0, .ref x1] h Q := ⟨i_m21, i_k21.1, Nat.le_of_ble_eq_true rfl, H⟩
theorem b21_0 {x0 : Nat} {x1 : Nat} {h : iH} {Q : Option Value → iH → Prop} (H : (∃ v1 : Int32, i_fld h x1 8 0 = some (.int v1) ∧ (∃ v2 : Int32, i_fld h x0 2 0 = some (.int v2) ∧ ((¬ v1 = v2 → i_P i_MT i_AT L xs 21 22 [some (.ref x0), some (.ref x1)] [] h 0 0 Q) ∧ (¬ (¬ v1 = v2) → (∃ v3 : Int32, i_fld h x1 8 1 = some (.int v3) ∧ (∃ v4 : Int32, i_fld h x0 2 1 = some (.int v4) ∧ ((v3 = v4 → i_P i_MT i_AT L xs 21 75 [some (.ref x0), some (.ref x1)] [] h 0 0 Q) ∧ (¬ (v3 = v4) → i_P i_MT i_AT L xs 21 22 [some (.ref x0), some (.ref x1)] [] h 0 0 Q))))))))) : i_P i_MT i_AT L xs 21 0 [some (.ref x0), some (.ref x1)] [] h 0 0 Q := by
  have hk := i_k21
  refine g_s1 (pc2 := 1) hk rfl rfl rfl rfl rfl ?_
  obtain ⟨v1, ev1, H⟩ := H
  refine g_step (pc2 := 4) hk rfl rfl rfl (s_get ev1) ?_
  refine g_s1 (pc2 := 5) hk rfl rfl rfl rfl rfl ?_
  obtain ⟨v2, ev2, H⟩ := H
  refine g_step (pc2 := 8) hk rfl rfl rfl (s_get ev2) ?_
  refine g_icmp_ne hk rfl (fun hc => ?_) (fun hc => ?_)
  · have H := H.1 hc
    exact H
  · have H := H.2 hc
    refine g_s1 (pc2 := 12) hk rfl rfl rfl rfl rfl ?_
    obtain ⟨v3, ev3, H⟩ := H
    refine g_step (pc2 := 15) hk rfl rfl rfl (s_get ev3) ?_
    refine g_s1 (pc2 := 16) hk rfl rfl rfl rfl rfl ?_
    obtain ⟨v4, ev4, H⟩ := H
    refine g_step (pc2 := 19) hk rfl rfl rfl (s_get ev4) ?_
    refine g_icmp_eq hk rfl (fun hc => ?_) (fun hc => ?_)
    · have H := H.1 hc
      exact H
    · have H := H.2 hc
      exact H
theorem b21_22 {x0 : Nat} {x1 : Nat} {h : iH} {Q : Option Value → iH → Prop} (H : (∃ v1 : Int32, i_fld h x1 8 0 = some (.int v1) ∧ ((∃ o, i_fld h x0 2 0 = some o) ∧ i_P i_MT i_AT L xs 21 30 [some (.ref x0), some (.ref x1)] [] (i_sf h x0 0 (.int v1)) 0 0 Q))) : i_P i_MT i_AT L xs 21 22 [some (.ref x0), some (.ref x1)] [] h 0 0 Q := by
  have hk := i_k21
  refine g_s1 (pc2 := 23) hk rfl rfl rfl rfl rfl ?_
  refine g_s1 (pc2 := 24) hk rfl rfl rfl rfl rfl ?_
  obtain ⟨v1, ev1, H⟩ := H
  refine g_step (pc2 := 27) hk rfl rfl rfl (s_get ev1) ?_
  obtain ⟨⟨o, ho⟩, H⟩ := H
  refine g_step (pc2 := 30) hk rfl rfl rfl (s_put ho rfl) ?_
  exact H
theorem b21_30 {x0 : Nat} {x1 : Nat} {h : iH} {Q : Option Value → iH → Prop} (H : (∃ v1 : Int32, i_fld h x1 8 1 = some (.int v1) ∧ ((∃ o, i_fld h x0 2 1 = some o) ∧ i_P i_MT i_AT L xs 21 38 [some (.ref x0), some (.ref x1)] [] (i_sf h x0 1 (.int v1)) 0 0 Q))) : i_P i_MT i_AT L xs 21 30 [some (.ref x0), some (.ref x1)] [] h 0 0 Q := by
  have hk := i_k21
  refine g_s1 (pc2 := 31) hk rfl rfl rfl rfl rfl ?_
  refine g_s1 (pc2 := 32) hk rfl rfl rfl rfl rfl ?_
  obtain ⟨v1, ev1, H⟩ := H
  refine g_step (pc2 := 35) hk rfl rfl rfl (s_get ev1) ?_
  obtain ⟨⟨o, ho⟩, H⟩ := H
  refine g_step (pc2 := 38) hk rfl rfl rfl (s_put ho rfl) ?_
  exact H
theorem b21_38 {x0 : Nat} {x1 : Nat} {h : iH} {Q : Option Value → iH → Prop} (H : (∃ v1 : Int32, i_fld h x0 2 0 = some (.int v1) ∧ (∃ v2 : Int32, i_fld h x0 2 1 = some (.int v2) ∧ ((∃ o, i_fld h x0 2 2 = some o) ∧ i_P i_MT i_AT L xs 21 51 [some (.ref x0), some (.ref x1)] [] (i_sf h x0 2 (.int (v1 * v2))) 0 0 Q)))) : i_P i_MT i_AT L xs 21 38 [some (.ref x0), some (.ref x1)] [] h 0 0 Q := by
  have hk := i_k21
  refine g_s1 (pc2 := 39) hk rfl rfl rfl rfl rfl ?_
  refine g_s1 (pc2 := 40) hk rfl rfl rfl rfl rfl ?_
  obtain ⟨v1, ev1, H⟩ := H
  refine g_step (pc2 := 43) hk rfl rfl rfl (s_get ev1) ?_
  refine g_s1 (pc2 := 44) hk rfl rfl rfl rfl rfl ?_
  obtain ⟨v2, ev2, H⟩ := H
  refine g_step (pc2 := 47) hk rfl rfl rfl (s_get ev2) ?_
  refine g_s1 (pc2 := 48) hk rfl rfl rfl rfl rfl ?_
  obtain ⟨⟨o, ho⟩, H⟩ := H
  refine g_step (pc2 := 51) hk rfl rfl rfl (s_put ho rfl) ?_
  exact H
theorem b21_51 {x0 : Nat} {x1 : Nat} {h : iH} {Q : Option Value → iH → Prop} (H : (∃ v1 : Nat, i_fld h x0 2 9 = some (.ref v1) ∧ (i_C i_MT i_AT L xs 348 [.ref v1, .long (-1 : Int64)] h (fun v h2 => v = none ∧ i_P i_MT i_AT L xs 21 61 [some (.ref x0), some (.ref x1)] [] h2 0 0 Q)))) : i_P i_MT i_AT L xs 21 51 [some (.ref x0), some (.ref x1)] [] h 0 0 Q := by
  have hk := i_k21
  refine g_s1 (pc2 := 52) hk rfl rfl rfl rfl rfl ?_
  obtain ⟨v1, ev1, H⟩ := H
  refine g_step (pc2 := 55) hk rfl rfl rfl (s_get ev1) ?_
  refine g_step (pc2 := 58) (st2 := [.long (-1 : Int64), .ref v1]) hk rfl rfl rfl rfl ?_
  refine g_call hk rfl rfl i_k348.1 ⟨rfl, rfl⟩ rfl (i_rcv_0 rfl) rfl ?_
  exact H.mono (fun v h2 q => by obtain ⟨rfl, q⟩ := q; exact q)
theorem b21_61 {x0 : Nat} {x1 : Nat} {h : iH} {Q : Option Value → iH → Prop} (H : (∃ v1 : Nat, i_fld h x0 2 10 = some (.ref v1) ∧ (i_C i_MT i_AT L xs 348 [.ref v1, .long (-1 : Int64)] h (fun v h2 => v = none ∧ i_P i_MT i_AT L xs 21 71 [some (.ref x0), some (.ref x1)] [] h2 0 0 Q)))) : i_P i_MT i_AT L xs 21 61 [some (.ref x0), some (.ref x1)] [] h 0 0 Q := by
  have hk := i_k21
  refine g_s1 (pc2 := 62) hk rfl rfl rfl rfl rfl ?_
  obtain ⟨v1, ev1, H⟩ := H
  refine g_step (pc2 := 65) hk rfl rfl rfl (s_get ev1) ?_
  refine g_step (pc2 := 68) (st2 := [.long (-1 : Int64), .ref v1]) hk rfl rfl rfl rfl ?_
  refine g_call hk rfl rfl i_k348.1 ⟨rfl, rfl⟩ rfl (i_rcv_0 rfl) rfl ?_
  exact H.mono (fun v h2 q => by obtain ⟨rfl, q⟩ := q; exact q)
theorem b21_71 {x0 : Nat} {x1 : Nat} {h : iH} {Q : Option Value → iH → Prop} (H : (i_obj? h x0 2 ∧ i_C i_MT i_AT L xs 22 [.ref x0] h (fun v h1 => v = none ∧ i_P i_MT i_AT L xs 21 75 [some (.ref x0), some (.ref x1)] [] h1 0 0 Q))) : i_P i_MT i_AT L xs 21 71 [some (.ref x0), some (.ref x1)] [] h 0 0 Q := by
  have hk := i_k21
  refine g_s1 (pc2 := 72) hk rfl rfl rfl rfl rfl ?_
  obtain ⟨ho, H⟩ := H
  refine g_call hk rfl rfl i_k22.1 ⟨rfl, rfl⟩ rfl (i_rcv_v ho rfl (by decide)) rfl ?_
  exact H.mono (fun v h2 q => by obtain ⟨rfl, q⟩ := q; exact q)
theorem b21_75 {x0 : Nat} {x1 : Nat} {h : iH} {Q : Option Value → iH → Prop} (H : (∃ v1 : Int64, i_fld h x0 2 3 = some (.long v1) ∧ (∃ v2 : Int64, i_fld h x1 8 2 = some (.long v2) ∧ ((∃ o, i_fld h x0 2 4 = some o) ∧ i_P i_MT i_AT L xs 21 92 [some (.ref x0), some (.ref x1)] [] (i_sf h x0 4 (.long (v1 &&& (v2 ^^^ (-1 : Int64))))) 0 0 Q)))) : i_P i_MT i_AT L xs 21 75 [some (.ref x0), some (.ref x1)] [] h 0 0 Q := by
  have hk := i_k21
  refine g_s1 (pc2 := 76) hk rfl rfl rfl rfl rfl ?_
  refine g_s1 (pc2 := 77) hk rfl rfl rfl rfl rfl ?_
  obtain ⟨v1, ev1, H⟩ := H
  refine g_step (pc2 := 80) hk rfl rfl rfl (s_get ev1) ?_
  refine g_s1 (pc2 := 81) hk rfl rfl rfl rfl rfl ?_
  obtain ⟨v2, ev2, H⟩ := H
  refine g_step (pc2 := 84) hk rfl rfl rfl (s_get ev2) ?_
  refine g_step (pc2 := 87) (st2 := [.long (-1 : Int64), .long v2, .long v1, .ref x0]) hk rfl rfl rfl rfl ?_
  refine g_s1 (pc2 := 88) hk rfl rfl rfl rfl rfl ?_
  refine g_s1 (pc2 := 89) hk rfl rfl rfl rfl rfl ?_
  obtain ⟨⟨o, ho⟩, H⟩ := H
  refine g_step (pc2 := 92) hk rfl rfl rfl (s_put ho rfl) ?_
  exact H
theorem b21_92 {x0 : Nat} {x1 : Nat} {h : iH} {Q : Option Value → iH → Prop} (H : Q none h) : i_P i_MT i_AT L xs 21 92 [some (.ref x0), some (.ref x1)] [] h 0 0 Q := by
  have hk := i_k21
  exact g_return hk rfl (by decide) (by decide) rfl H
/-! StillTown$Grid.lay()V -/
theorem e22 {x0 : Nat} {h : iH} {Q : Option Value → iH → Prop} (H : i_P i_MT i_AT L xs 22 0 [some (.ref x0), none, none, none] [] h 0 0 Q) : i_C i_MT i_AT L xs 22 [.ref x0] h Q := ⟨i_m22, i_k22.1, Nat.le_of_ble_eq_true rfl, H⟩
theorem b22_0 {x0 : Nat} {x1 : Option Value} {x2 : Option Value} {x3 : Option Value} {h : iH} {Q : Option Value → iH → Prop} (H : ((∃ o, i_fld h x0 2 3 = some o) ∧ i_P i_MT i_AT L xs 22 5 [some (.ref x0), x1, x2, x3] [] (i_sf h x0 3 (.long (0 : Int64))) 0 0 Q)) : i_P i_MT i_AT L xs 22 0 [some (.ref x0), x1, x2, x3] [] h 0 0 Q := by
  have hk := i_k22
  refine g_s1 (pc2 := 1) hk rfl rfl rfl rfl rfl ?_
  refine g_s1 (pc2 := 2) (st2 := [.long (0 : Int64), .ref x0]) hk rfl rfl rfl rfl rfl ?_
  obtain ⟨⟨o, ho⟩, H⟩ := H
  refine g_step (pc2 := 5) hk rfl rfl rfl (s_put ho rfl) ?_
  exact H
theorem b22_5 {x0 : Nat} {x1 : Option Value} {x2 : Option Value} {x3 : Option Value} {h : iH} {Q : Option Value → iH → Prop} (H : ((∃ o, i_fld h x0 2 5 = some o) ∧ i_P i_MT i_AT L xs 22 10 [some (.ref x0), x1, x2, x3] [] (i_sf h x0 5 (.long (0 : Int64))) 0 0 Q)) : i_P i_MT i_AT L xs 22 5 [some (.ref x0), x1, x2, x3] [] h 0 0 Q := by
  have hk := i_k22
  refine g_s1 (pc2 := 6) hk rfl rfl rfl rfl rfl ?_
  refine g_s1 (pc2 := 7) (st2 := [.long (0 : Int64), .ref x0]) hk rfl rfl rfl rfl rfl ?_
  obtain ⟨⟨o, ho⟩, H⟩ := H
  refine g_step (pc2 := 10) hk rfl rfl rfl (s_put ho rfl) ?_
  exact H
theorem b22_10 {x0 : Nat} {x1 : Option Value} {x2 : Option Value} {x3 : Option Value} {h : iH} {Q : Option Value → iH → Prop} (H : ((∃ o, i_fld h x0 2 6 = some o) ∧ i_P i_MT i_AT L xs 22 15 [some (.ref x0), x1, x2, x3] [] (i_sf h x0 6 (.long (0 : Int64))) 0 0 Q)) : i_P i_MT i_AT L xs 22 10 [some (.ref x0), x1, x2, x3] [] h 0 0 Q := by
  have hk := i_k22
  refine g_s1 (pc2 := 11) hk rfl rfl rfl rfl rfl ?_
  refine g_s1 (pc2 := 12) (st2 := [.long (0 : Int64), .ref x0]) hk rfl rfl rfl rfl rfl ?_
  obtain ⟨⟨o, ho⟩, H⟩ := H
  refine g_step (pc2 := 15) hk rfl rfl rfl (s_put ho rfl) ?_
  exact H
theorem b22_15 {x0 : Nat} {x1 : Option Value} {x2 : Option Value} {x3 : Option Value} {h : iH} {Q : Option Value → iH → Prop} (H : i_P i_MT i_AT L xs 22 17 [some (.ref x0), some (.int (0 : Int32)), x2, x3] [] h 0 0 Q) : i_P i_MT i_AT L xs 22 15 [some (.ref x0), x1, x2, x3] [] h 0 0 Q := by
  have hk := i_k22
  refine g_s1 (pc2 := 16) (st2 := [.int (0 : Int32)]) hk rfl rfl rfl rfl rfl ?_
  refine g_s1 (pc2 := 17) (lo2 := [some (.ref x0), some (.int (0 : Int32)), x2, x3]) hk rfl rfl rfl rfl rfl ?_
  exact H
theorem b22_17 {x0 : Nat} {x1 : Int32} {x2 : Option Value} {x3 : Option Value} {h : iH} {Q : Option Value → iH → Prop} (H : (∃ v1 : Int32, i_fld h x0 2 1 = some (.int v1) ∧ ((v1 ≤ x1 → Q none h) ∧ (¬ (v1 ≤ x1) → i_P i_MT i_AT L xs 22 27 [some (.ref x0), some (.int x1), some (.int (0 : Int32)), x3] [] h 0 0 Q)))) : i_P i_MT i_AT L xs 22 17 [some (.ref x0), some (.int x1), x2, x3] [] h 0 0 Q := by
  have hk := i_k22
  refine g_s1 (pc2 := 18) hk rfl rfl rfl rfl rfl ?_
  refine g_s1 (pc2 := 19) hk rfl rfl rfl rfl rfl ?_
  obtain ⟨v1, ev1, H⟩ := H
  refine g_step (pc2 := 22) hk rfl rfl rfl (s_get ev1) ?_
  refine g_icmp_ge hk rfl (fun hc => ?_) (fun hc => ?_)
  · have H := H.1 hc
    exact g_return hk rfl (by decide) (by decide) rfl H
  · have H := H.2 hc
    refine g_s1 (pc2 := 26) (st2 := [.int (0 : Int32)]) hk rfl rfl rfl rfl rfl ?_
    refine g_s1 (pc2 := 27) (lo2 := [some (.ref x0), some (.int x1), some (.int (0 : Int32)), x3]) hk rfl rfl rfl rfl rfl ?_
    exact H
theorem b22_27 {x0 : Nat} {x1 : Int32} {x2 : Int32} {x3 : Option Value} {h : iH} {Q : Option Value → iH → Prop} (H : (∃ v1 : Int32, i_fld h x0 2 0 = some (.int v1) ∧ ((v1 ≤ x2 → i_P i_MT i_AT L xs 22 17 [some (.ref x0), some (.int (x1 + 1)), some (.int x2), x3] [] h 0 0 Q) ∧ (¬ (v1 ≤ x2) → (∃ v2 : Int32, i_fld h x0 2 0 = some (.int v2) ∧ (∃ v3 : Nat, i_fld h x0 2 7 = some (.ref v3) ∧ (∃ (n4 : Nat) (f5 : Nat → Int32), i_arI h 0 v3 = some (n4, f5) ∧ ¬ (((x1 * v2) + x2) < 0 ∨ n4 ≤ ((x1 * v2) + x2).toNatClampNeg) ∧ i_P i_MT i_AT L xs 22 51 [some (.ref x0), some (.int x1), some (.int x2), some (.int ((x1 * v2) + x2))] [] (i_siI h v3 ((x1 * v2) + x2).toNatClampNeg x2) 0 0 Q))))))) : i_P i_MT i_AT L xs 22 27 [some (.ref x0), some (.int x1), some (.int x2), x3] [] h 0 0 Q := by
  have hk := i_k22
  refine g_s1 (pc2 := 28) hk rfl rfl rfl rfl rfl ?_
  refine g_s1 (pc2 := 29) hk rfl rfl rfl rfl rfl ?_
  obtain ⟨v1, ev1, H⟩ := H
  refine g_step (pc2 := 32) hk rfl rfl rfl (s_get ev1) ?_
  refine g_icmp_ge hk rfl (fun hc => ?_) (fun hc => ?_)
  · have H := H.1 hc
    refine g_s1 (pc2 := 125) (lo2 := [some (.ref x0), some (.int (x1 + 1)), some (.int x2), x3]) hk rfl rfl rfl rfl rfl ?_
    refine g_s1 (pc2 := 17) hk rfl rfl rfl rfl rfl ?_
    exact H
  · have H := H.2 hc
    refine g_s1 (pc2 := 36) hk rfl rfl rfl rfl rfl ?_
    refine g_s1 (pc2 := 37) hk rfl rfl rfl rfl rfl ?_
    obtain ⟨v2, ev2, H⟩ := H
    refine g_step (pc2 := 40) hk rfl rfl rfl (s_get ev2) ?_
    refine g_s1 (pc2 := 41) hk rfl rfl rfl rfl rfl ?_
    refine g_s1 (pc2 := 42) hk rfl rfl rfl rfl rfl ?_
    refine g_s1 (pc2 := 43) hk rfl rfl rfl rfl rfl ?_
    refine g_s1 (pc2 := 44) (lo2 := [some (.ref x0), some (.int x1), some (.int x2), some (.int ((x1 * v2) + x2))]) hk rfl rfl rfl rfl rfl ?_
    refine g_s1 (pc2 := 45) hk rfl rfl rfl rfl rfl ?_
    obtain ⟨v3, ev3, H⟩ := H
    refine g_step (pc2 := 48) hk rfl rfl rfl (s_get ev3) ?_
    refine g_s1 (pc2 := 49) hk rfl rfl rfl rfl rfl ?_
    refine g_s1 (pc2 := 50) hk rfl rfl rfl rfl rfl ?_
    obtain ⟨n4, f5, ef5, hi, H⟩ := H
    refine g_step (pc2 := 51) hk rfl rfl rfl (s_aput ef5 hi) ?_
    exact H
theorem b22_51 {x0 : Nat} {x1 : Int32} {x2 : Int32} {x3 : Int32} {h : iH} {Q : Option Value → iH → Prop} (H : (∃ v1 : Nat, i_fld h x0 2 8 = some (.ref v1) ∧ (∃ (n2 : Nat) (f3 : Nat → Int32), i_arI h 0 v1 = some (n2, f3) ∧ ¬ (x3 < 0 ∨ n2 ≤ x3.toNatClampNeg) ∧ i_P i_MT i_AT L xs 22 58 [some (.ref x0), some (.int x1), some (.int x2), some (.int x3)] [] (i_siI h v1 x3.toNatClampNeg x1) 0 0 Q))) : i_P i_MT i_AT L xs 22 51 [some (.ref x0), some (.int x1), some (.int x2), some (.int x3)] [] h 0 0 Q := by
  have hk := i_k22
  refine g_s1 (pc2 := 52) hk rfl rfl rfl rfl rfl ?_
  obtain ⟨v1, ev1, H⟩ := H
  refine g_step (pc2 := 55) hk rfl rfl rfl (s_get ev1) ?_
  refine g_s1 (pc2 := 56) hk rfl rfl rfl rfl rfl ?_
  refine g_s1 (pc2 := 57) hk rfl rfl rfl rfl rfl ?_
  obtain ⟨n2, f3, ef3, hi, H⟩ := H
  refine g_step (pc2 := 58) hk rfl rfl rfl (s_aput ef3 hi) ?_
  exact H
theorem b22_58 {x0 : Nat} {x1 : Int32} {x2 : Int32} {x3 : Int32} {h : iH} {Q : Option Value → iH → Prop} (H : (∃ v1 : Int64, i_fld h x0 2 3 = some (.long v1) ∧ ((∃ o, i_fld h x0 2 3 = some o) ∧ i_P i_MT i_AT L xs 22 70 [some (.ref x0), some (.int x1), some (.int x2), some (.int x3)] [] (i_sf h x0 3 (.long (v1 ||| ((1 : Int64) <<< (x3.toInt64 &&& 63))))) 0 0 Q))) : i_P i_MT i_AT L xs 22 58 [some (.ref x0), some (.int x1), some (.int x2), some (.int x3)] [] h 0 0 Q := by
  have hk := i_k22
  refine g_s1 (pc2 := 59) hk rfl rfl rfl rfl rfl ?_
  refine g_s1 (pc2 := 60) hk rfl rfl rfl rfl rfl ?_
  obtain ⟨v1, ev1, H⟩ := H
  refine g_step (pc2 := 63) hk rfl rfl rfl (s_get ev1) ?_
  refine g_s1 (pc2 := 64) (st2 := [.long (1 : Int64), .long v1, .ref x0]) hk rfl rfl rfl rfl rfl ?_
  refine g_s1 (pc2 := 65) hk rfl rfl rfl rfl rfl ?_
  refine g_s1 (pc2 := 66) hk rfl rfl rfl rfl rfl ?_
  refine g_s1 (pc2 := 67) hk rfl rfl rfl rfl rfl ?_
  obtain ⟨⟨o, ho⟩, H⟩ := H
  refine g_step (pc2 := 70) hk rfl rfl rfl (s_put ho rfl) ?_
  exact H
theorem b22_70 {x0 : Nat} {x1 : Int32} {x2 : Int32} {x3 : Int32} {h : iH} {Q : Option Value → iH → Prop} (H : (∃ v1 : Int64, i_fld h x0 2 5 = some (.long v1) ∧ ((¬ x2 = 0 → i_P i_MT i_AT L xs 22 86 [some (.ref x0), some (.int x1), some (.int x2), some (.int x3)] [.long (0 : Int64), .long v1, .ref x0] h 0 0 Q) ∧ (¬ (¬ x2 = 0) → i_P i_MT i_AT L xs 22 86 [some (.ref x0), some (.int x1), some (.int x2), some (.int x3)] [.long ((1 : Int64) <<< (x3.toInt64 &&& 63)), .long v1, .ref x0] h 0 0 Q)))) : i_P i_MT i_AT L xs 22 70 [some (.ref x0), some (.int x1), some (.int x2), some (.int x3)] [] h 0 0 Q := by
  have hk := i_k22
  refine g_s1 (pc2 := 71) hk rfl rfl rfl rfl rfl ?_
  refine g_s1 (pc2 := 72) hk rfl rfl rfl rfl rfl ?_
  obtain ⟨v1, ev1, H⟩ := H
  refine g_step (pc2 := 75) hk rfl rfl rfl (s_get ev1) ?_
  refine g_s1 (pc2 := 76) hk rfl rfl rfl rfl rfl ?_
  refine g_if_ne hk rfl (fun hc => ?_) (fun hc => ?_)
  · have H := H.1 hc
    refine g_s1 (pc2 := 86) (st2 := [.long (0 : Int64), .long v1, .ref x0]) hk rfl rfl rfl rfl rfl ?_
    exact H
  · have H := H.2 hc
    refine g_s1 (pc2 := 80) (st2 := [.long (1 : Int64), .long v1, .ref x0]) hk rfl rfl rfl rfl rfl ?_
    refine g_s1 (pc2 := 81) hk rfl rfl rfl rfl rfl ?_
    refine g_s1 (pc2 := 82) hk rfl rfl rfl rfl rfl ?_
    refine g_s1 (pc2 := 86) hk rfl rfl rfl rfl rfl ?_
    exact H
theorem b22_86 {x0 : Nat} {x1 : Int32} {x2 : Int32} {x3 : Int32} {s0 : Nat} {s1 : Int64} {s2 : Int64} {h : iH} {Q : Option Value → iH → Prop} (H : ((∃ o, i_fld h s0 2 5 = some o) ∧ i_P i_MT i_AT L xs 22 90 [some (.ref x0), some (.int x1), some (.int x2), some (.int x3)] [] (i_sf h s0 5 (.long (s1 ||| s2))) 0 0 Q)) : i_P i_MT i_AT L xs 22 86 [some (.ref x0), some (.int x1), some (.int x2), some (.int x3)] [.long s2, .long s1, .ref s0] h 0 0 Q := by
  have hk := i_k22
  refine g_s1 (pc2 := 87) hk rfl rfl rfl rfl rfl ?_
  obtain ⟨⟨o, ho⟩, H⟩ := H
  refine g_step (pc2 := 90) hk rfl rfl rfl (s_put ho rfl) ?_
  exact H
theorem b22_90 {x0 : Nat} {x1 : Int32} {x2 : Int32} {x3 : Int32} {h : iH} {Q : Option Value → iH → Prop} (H : (∃ v1 : Int64, i_fld h x0 2 6 = some (.long v1) ∧ (∃ v2 : Int32, i_fld h x0 2 0 = some (.int v2) ∧ ((¬ x2 = (v2 - (1 : Int32)) → i_P i_MT i_AT L xs 22 112 [some (.ref x0), some (.int x1), some (.int x2), some (.int x3)] [.long (0 : Int64), .long v1, .ref x0] h 0 0 Q) ∧ (¬ (¬ x2 = (v2 - (1 : Int32))) → i_P i_MT i_AT L xs 22 112 [some (.ref x0), some (.int x1), some (.int x2), some (.int x3)] [.long ((1 : Int64) <<< (x3.toInt64 &&& 63)), .long v1, .ref x0] h 0 0 Q))))) : i_P i_MT i_AT L xs 22 90 [some (.ref x0), some (.int x1), some (.int x2), some (.int x3)] [] h 0 0 Q := by
  have hk := i_k22
  refine g_s1 (pc2 := 91) hk rfl rfl rfl rfl rfl ?_
  refine g_s1 (pc2 := 92) hk rfl rfl rfl rfl rfl ?_
  obtain ⟨v1, ev1, H⟩ := H
  refine g_step (pc2 := 95) hk rfl rfl rfl (s_get ev1) ?_
  refine g_s1 (pc2 := 96) hk rfl rfl rfl rfl rfl ?_
  refine g_s1 (pc2 := 97) hk rfl rfl rfl rfl rfl ?_
  obtain ⟨v2, ev2, H⟩ := H
  refine g_step (pc2 := 100) hk rfl rfl rfl (s_get ev2) ?_
  refine g_s1 (pc2 := 101) (st2 := [.int (1 : Int32), .int v2, .int x2, .long v1, .ref x0]) hk rfl rfl rfl rfl rfl ?_
  refine g_s1 (pc2 := 102) hk rfl rfl rfl rfl rfl ?_
  refine g_icmp_ne hk rfl (fun hc => ?_) (fun hc => ?_)
  · have H := H.1 hc
    refine g_s1 (pc2 := 112) (st2 := [.long (0 : Int64), .long v1, .ref x0]) hk rfl rfl rfl rfl rfl ?_
    exact H
  · have H := H.2 hc
    refine g_s1 (pc2 := 106) (st2 := [.long (1 : Int64), .long v1, .ref x0]) hk rfl rfl rfl rfl rfl ?_
    refine g_s1 (pc2 := 107) hk rfl rfl rfl rfl rfl ?_
    refine g_s1 (pc2 := 108) hk rfl rfl rfl rfl rfl ?_
    refine g_s1 (pc2 := 112) hk rfl rfl rfl rfl rfl ?_
    exact H
theorem b22_112 {x0 : Nat} {x1 : Int32} {x2 : Int32} {x3 : Int32} {s0 : Nat} {s1 : Int64} {s2 : Int64} {h : iH} {Q : Option Value → iH → Prop} (H : ((∃ o, i_fld h s0 2 6 = some o) ∧ i_P i_MT i_AT L xs 22 116 [some (.ref x0), some (.int x1), some (.int x2), some (.int x3)] [] (i_sf h s0 6 (.long (s1 ||| s2))) 0 0 Q)) : i_P i_MT i_AT L xs 22 112 [some (.ref x0), some (.int x1), some (.int x2), some (.int x3)] [.long s2, .long s1, .ref s0] h 0 0 Q := by
  have hk := i_k22
  refine g_s1 (pc2 := 113) hk rfl rfl rfl rfl rfl ?_
  obtain ⟨⟨o, ho⟩, H⟩ := H
  refine g_step (pc2 := 116) hk rfl rfl rfl (s_put ho rfl) ?_
  exact H
theorem b22_116 {x0 : Nat} {x1 : Int32} {x2 : Int32} {x3 : Int32} {h : iH} {Q : Option Value → iH → Prop} (H : i_P i_MT i_AT L xs 22 27 [some (.ref x0), some (.int x1), some (.int (x2 + 1)), some (.int x3)] [] h 0 0 Q) : i_P i_MT i_AT L xs 22 116 [some (.ref x0), some (.int x1), some (.int x2), some (.int x3)] [] h 0 0 Q := by
  have hk := i_k22
  refine g_s1 (pc2 := 119) (lo2 := [some (.ref x0), some (.int x1), some (.int (x2 + 1)), some (.int x3)]) hk rfl rfl rfl rfl rfl ?_
  refine g_s1 (pc2 := 27) hk rfl rfl rfl rfl rfl ?_
  exact H
/-! StillTown$Grid.beside(J)J -/
theorem e23 {x0 : Nat} {x1 : Int64} {h : iH} {Q : Option Value → iH → Prop} (H : i_P i_MT i_AT L xs 23 0 [some (.ref x0), some (.long x1), none, none, none, none, none, none, none] [] h 0 0 Q) : i_C i_MT i_AT L xs 23 [.ref x0, .long x1] h Q := ⟨i_m23, i_k23.1, Nat.le_of_ble_eq_true rfl, H⟩
theorem b23_0 {x0 : Nat} {x1 : Int64} {x3 : Option Value} {x4 : Option Value} {x5 : Option Value} {x6 : Option Value} {x7 : Option Value} {x8 : Option Value} {h : iH} {Q : Option Value → iH → Prop} (H : (∃ v1 : Int64, i_fld h x0 2 6 = some (.long v1) ∧ (∃ v2 : Int64, i_fld h x0 2 5 = some (.long v2) ∧ (∃ v3 : Int32, i_fld h x0 2 0 = some (.int v3) ∧ (∃ v4 : Int32, i_fld h x0 2 0 = some (.int v4) ∧ (∃ v5 : Int64, i_fld h x0 2 4 = some (.long v5) ∧ Q (some (.long ((((((x1 &&& (v1 ^^^ (-1 : Int64))) <<< ((1 : Int32).toInt64 &&& 63)) ||| (((x1 &&& (v2 ^^^ (-1 : Int64))).toUInt64 >>> ((1 : Int32).toInt64.toUInt64 &&& Int64.toUInt64 63)).toInt64)) ||| (((x1 ||| ((x1 &&& (v1 ^^^ (-1 : Int64))) <<< ((1 : Int32).toInt64 &&& 63))) ||| (((x1 &&& (v2 ^^^ (-1 : Int64))).toUInt64 >>> ((1 : Int32).toInt64.toUInt64 &&& Int64.toUInt64 63)).toInt64)) <<< (v3.toInt64 &&& 63))) ||| ((((x1 ||| ((x1 &&& (v1 ^^^ (-1 : Int64))) <<< ((1 : Int32).toInt64 &&& 63))) ||| (((x1 &&& (v2 ^^^ (-1 : Int64))).toUInt64 >>> ((1 : Int32).toInt64.toUInt64 &&& Int64.toUInt64 63)).toInt64)).toUInt64 >>> (v4.toInt64.toUInt64 &&& Int64.toUInt64 63)).toInt64)) &&& v5))) h)))))) : i_P i_MT i_AT L xs 23 0 [some (.ref x0), some (.long x1), none, x3, x4, x5, x6, x7, x8] [] h 0 0 Q := by
  have hk := i_k23
  refine g_s1 (pc2 := 1) hk rfl rfl rfl rfl rfl ?_
  refine g_s1 (pc2 := 2) hk rfl rfl rfl rfl rfl ?_
  obtain ⟨v1, ev1, H⟩ := H
  refine g_step (pc2 := 5) hk rfl rfl rfl (s_get ev1) ?_
  refine g_step (pc2 := 8) (st2 := [.long (-1 : Int64), .long v1, .long x1]) hk rfl rfl rfl rfl ?_
  refine g_s1 (pc2 := 9) hk rfl rfl rfl rfl rfl ?_
  refine g_s1 (pc2 := 10) hk rfl rfl rfl rfl rfl ?_
  refine g_s1 (pc2 := 11) (st2 := [.int (1 : Int32), .long (x1 &&& (v1 ^^^ (-1 : Int64)))]) hk rfl rfl rfl rfl rfl ?_
  refine g_s1 (pc2 := 12) hk rfl rfl rfl rfl rfl ?_
  refine g_s1 (pc2 := 13) (lo2 := [some (.ref x0), some (.long x1), none, some (.long ((x1 &&& (v1 ^^^ (-1 : Int64))) <<< ((1 : Int32).toInt64 &&& 63))), none, x5, x6, x7, x8]) hk rfl rfl rfl rfl rfl ?_
  refine g_s1 (pc2 := 14) hk rfl rfl rfl rfl rfl ?_
  refine g_s1 (pc2 := 15) hk rfl rfl rfl rfl rfl ?_
  obtain ⟨v2, ev2, H⟩ := H
  refine g_step (pc2 := 18) hk rfl rfl rfl (s_get ev2) ?_
  refine g_step (pc2 := 21) (st2 := [.long (-1 : Int64), .long v2, .long x1]) hk rfl rfl rfl rfl ?_
  refine g_s1 (pc2 := 22) hk rfl rfl rfl rfl rfl ?_
  refine g_s1 (pc2 := 23) hk rfl rfl rfl rfl rfl ?_
  refine g_s1 (pc2 := 24) (st2 := [.int (1 : Int32), .long (x1 &&& (v2 ^^^ (-1 : Int64)))]) hk rfl rfl rfl rfl rfl ?_
  refine g_s1 (pc2 := 25) hk rfl rfl rfl rfl rfl ?_
  refine g_s1 (pc2 := 27) (lo2 := [some (.ref x0), some (.long x1), none, some (.long ((x1 &&& (v1 ^^^ (-1 : Int64))) <<< ((1 : Int32).toInt64 &&& 63))), none, some (.long (((x1 &&& (v2 ^^^ (-1 : Int64))).toUInt64 >>> ((1 : Int32).toInt64.toUInt64 &&& Int64.toUInt64 63)).toInt64)), none, x7, x8]) hk rfl rfl rfl rfl rfl ?_
  refine g_s1 (pc2 := 28) hk rfl rfl rfl rfl rfl ?_
  refine g_s1 (pc2 := 29) hk rfl rfl rfl rfl rfl ?_
  refine g_s1 (pc2 := 30) hk rfl rfl rfl rfl rfl ?_
  refine g_s1 (pc2 := 32) hk rfl rfl rfl rfl rfl ?_
  refine g_s1 (pc2 := 33) hk rfl rfl rfl rfl rfl ?_
  refine g_s1 (pc2 := 35) (lo2 := [some (.ref x0), some (.long x1), none, some (.long ((x1 &&& (v1 ^^^ (-1 : Int64))) <<< ((1 : Int32).toInt64 &&& 63))), none, some (.long (((x1 &&& (v2 ^^^ (-1 : Int64))).toUInt64 >>> ((1 : Int32).toInt64.toUInt64 &&& Int64.toUInt64 63)).toInt64)), none, some (.long ((x1 ||| ((x1 &&& (v1 ^^^ (-1 : Int64))) <<< ((1 : Int32).toInt64 &&& 63))) ||| (((x1 &&& (v2 ^^^ (-1 : Int64))).toUInt64 >>> ((1 : Int32).toInt64.toUInt64 &&& Int64.toUInt64 63)).toInt64))), none]) hk rfl rfl rfl rfl rfl ?_
  refine g_s1 (pc2 := 36) hk rfl rfl rfl rfl rfl ?_
  refine g_s1 (pc2 := 38) hk rfl rfl rfl rfl rfl ?_
  refine g_s1 (pc2 := 39) hk rfl rfl rfl rfl rfl ?_
  refine g_s1 (pc2 := 41) hk rfl rfl rfl rfl rfl ?_
  refine g_s1 (pc2 := 42) hk rfl rfl rfl rfl rfl ?_
  obtain ⟨v3, ev3, H⟩ := H
  refine g_step (pc2 := 45) hk rfl rfl rfl (s_get ev3) ?_
  refine g_s1 (pc2 := 46) hk rfl rfl rfl rfl rfl ?_
  refine g_s1 (pc2 := 47) hk rfl rfl rfl rfl rfl ?_
  refine g_s1 (pc2 := 49) hk rfl rfl rfl rfl rfl ?_
  refine g_s1 (pc2 := 50) hk rfl rfl rfl rfl rfl ?_
  obtain ⟨v4, ev4, H⟩ := H
  refine g_step (pc2 := 53) hk rfl rfl rfl (s_get ev4) ?_
  refine g_s1 (pc2 := 54) hk rfl rfl rfl rfl rfl ?_
  refine g_s1 (pc2 := 55) hk rfl rfl rfl rfl rfl ?_
  refine g_s1 (pc2 := 56) hk rfl rfl rfl rfl rfl ?_
  obtain ⟨v5, ev5, H⟩ := H
  refine g_step (pc2 := 59) hk rfl rfl rfl (s_get ev5) ?_
  refine g_s1 (pc2 := 60) hk rfl rfl rfl rfl rfl ?_
  exact g_lreturn hk rfl (by decide) (by decide) rfl H
/-! StillTown$Grid.stepped(JI)J -/
theorem e24 {x0 : Nat} {x1 : Int64} {x3 : Int32} {h : iH} {Q : Option Value → iH → Prop} (H : i_P i_MT i_AT L xs 24 0 [some (.ref x0), some (.long x1), none, some (.int x3), none, none, none, none] [] h 0 0 Q) : i_C i_MT i_AT L xs 24 [.ref x0, .long x1, .int x3] h Q := ⟨i_m24, i_k24.1, Nat.le_of_ble_eq_true rfl, H⟩
theorem b24_0 {x0 : Nat} {x1 : Int64} {x3 : Int32} {x4 : Option Value} {x5 : Option Value} {x6 : Option Value} {x7 : Option Value} {h : iH} {Q : Option Value → iH → Prop} (H : (¬ (x3 < 0 ∨ 8 ≤ x3.toNatClampNeg) ∧ (((i_EAST x3.toNatClampNeg) ≤ 0 → ((0 ≤ (i_EAST x3.toNatClampNeg) → i_P i_MT i_AT L xs 24 48 [some (.ref x0), some (.long x1), none, some (.int x3), some (.int (i_EAST x3.toNatClampNeg)), x5, x6, x7] [.long x1] h 0 0 Q) ∧ (¬ (0 ≤ (i_EAST x3.toNatClampNeg)) → (∃ v3 : Int64, i_fld h x0 2 5 = some (.long v3) ∧ i_P i_MT i_AT L xs 24 48 [some (.ref x0), some (.long x1), none, some (.int x3), some (.int (i_EAST x3.toNatClampNeg)), x5, x6, x7] [.long (((x1 &&& (v3 ^^^ (-1 : Int64))).toUInt64 >>> ((1 : Int32).toInt64.toUInt64 &&& Int64.toUInt64 63)).toInt64)] h 0 0 Q)))) ∧ (¬ ((i_EAST x3.toNatClampNeg) ≤ 0) → (∃ v4 : Int64, i_fld h x0 2 6 = some (.long v4) ∧ i_P i_MT i_AT L xs 24 48 [some (.ref x0), some (.long x1), none, some (.int x3), some (.int (i_EAST x3.toNatClampNeg)), x5, x6, x7] [.long ((x1 &&& (v4 ^^^ (-1 : Int64))) <<< ((1 : Int32).toInt64 &&& 63))] h 0 0 Q))))) : i_P i_MT i_AT L xs 24 0 [some (.ref x0), some (.long x1), none, some (.int x3), x4, x5, x6, x7] [] h 0 0 Q := by
  have hk := i_k24
  refine g_step (pc2 := 3) (st2 := [.retAddr 0]) hk rfl rfl rfl rfl ?_
  refine g_s1 (pc2 := 4) hk rfl rfl rfl rfl rfl ?_
  obtain ⟨hi, H⟩ := H
  refine g_step (pc2 := 5) hk rfl rfl rfl (s_agetX (L := L) (xs := xs) (j := 0) rfl hi) ?_
  refine g_s1 (pc2 := 7) (lo2 := [some (.ref x0), some (.long x1), none, some (.int x3), some (.int (i_EAST x3.toNatClampNeg)), x5, x6, x7]) hk rfl rfl rfl rfl rfl ?_
  refine g_s1 (pc2 := 9) hk rfl rfl rfl rfl rfl ?_
  refine g_if_le hk rfl (fun hc => ?_) (fun hc => ?_)
  · have H := H.1 hc
    refine g_s1 (pc2 := 29) hk rfl rfl rfl rfl rfl ?_
    refine g_if_ge hk rfl (fun hc => ?_) (fun hc => ?_)
    · have H := H.1 hc
      refine g_s1 (pc2 := 48) hk rfl rfl rfl rfl rfl ?_
      exact H
    · have H := H.2 hc
      refine g_s1 (pc2 := 33) hk rfl rfl rfl rfl rfl ?_
      refine g_s1 (pc2 := 34) hk rfl rfl rfl rfl rfl ?_
      obtain ⟨v3, ev3, H⟩ := H
      refine g_step (pc2 := 37) hk rfl rfl rfl (s_get ev3) ?_
      refine g_step (pc2 := 40) (st2 := [.long (-1 : Int64), .long v3, .long x1]) hk rfl rfl rfl rfl ?_
      refine g_s1 (pc2 := 41) hk rfl rfl rfl rfl rfl ?_
      refine g_s1 (pc2 := 42) hk rfl rfl rfl rfl rfl ?_
      refine g_s1 (pc2 := 43) (st2 := [.int (1 : Int32), .long (x1 &&& (v3 ^^^ (-1 : Int64)))]) hk rfl rfl rfl rfl rfl ?_
      refine g_s1 (pc2 := 44) hk rfl rfl rfl rfl rfl ?_
      refine g_s1 (pc2 := 48) hk rfl rfl rfl rfl rfl ?_
      exact H
  · have H := H.2 hc
    refine g_s1 (pc2 := 13) hk rfl rfl rfl rfl rfl ?_
    refine g_s1 (pc2 := 14) hk rfl rfl rfl rfl rfl ?_
    obtain ⟨v4, ev4, H⟩ := H
    refine g_step (pc2 := 17) hk rfl rfl rfl (s_get ev4) ?_
    refine g_step (pc2 := 20) (st2 := [.long (-1 : Int64), .long v4, .long x1]) hk rfl rfl rfl rfl ?_
    refine g_s1 (pc2 := 21) hk rfl rfl rfl rfl rfl ?_
    refine g_s1 (pc2 := 22) hk rfl rfl rfl rfl rfl ?_
    refine g_s1 (pc2 := 23) (st2 := [.int (1 : Int32), .long (x1 &&& (v4 ^^^ (-1 : Int64)))]) hk rfl rfl rfl rfl rfl ?_
    refine g_s1 (pc2 := 24) hk rfl rfl rfl rfl rfl ?_
    refine g_s1 (pc2 := 48) hk rfl rfl rfl rfl rfl ?_
    exact H
theorem b24_48 {x0 : Nat} {x1 : Int64} {x3 : Int32} {x4 : Int32} {x5 : Option Value} {x6 : Option Value} {x7 : Option Value} {s0 : Int64} {h : iH} {Q : Option Value → iH → Prop} (H : (¬ (x3 < 0 ∨ 8 ≤ x3.toNatClampNeg) ∧ (((i_SOUTH x3.toNatClampNeg) ≤ 0 → ((0 ≤ (i_SOUTH x3.toNatClampNeg) → i_P i_MT i_AT L xs 24 89 [some (.ref x0), some (.long x1), none, some (.int x3), some (.int x4), some (.long s0), none, some (.int (i_SOUTH x3.toNatClampNeg))] [.long s0] h 0 0 Q) ∧ (¬ (0 ≤ (i_SOUTH x3.toNatClampNeg)) → (∃ v3 : Int32, i_fld h x0 2 0 = some (.int v3) ∧ i_P i_MT i_AT L xs 24 89 [some (.ref x0), some (.long x1), none, some (.int x3), some (.int x4), some (.long s0), none, some (.int (i_SOUTH x3.toNatClampNeg))] [.long ((s0.toUInt64 >>> (v3.toInt64.toUInt64 &&& Int64.toUInt64 63)).toInt64)] h 0 0 Q)))) ∧ (¬ ((i_SOUTH x3.toNatClampNeg) ≤ 0) → (∃ v4 : Int32, i_fld h x0 2 0 = some (.int v4) ∧ i_P i_MT i_AT L xs 24 89 [some (.ref x0), some (.long x1), none, some (.int x3), some (.int x4), some (.long s0), none, some (.int (i_SOUTH x3.toNatClampNeg))] [.long (s0 <<< (v4.toInt64 &&& 63))] h 0 0 Q))))) : i_P i_MT i_AT L xs 24 48 [some (.ref x0), some (.long x1), none, some (.int x3), some (.int x4), x5, x6, x7] [.long s0] h 0 0 Q := by
  have hk := i_k24
  refine g_s1 (pc2 := 50) (lo2 := [some (.ref x0), some (.long x1), none, some (.int x3), some (.int x4), some (.long s0), none, x7]) hk rfl rfl rfl rfl rfl ?_
  refine g_step (pc2 := 53) (st2 := [.retAddr 1]) hk rfl rfl rfl rfl ?_
  refine g_s1 (pc2 := 54) hk rfl rfl rfl rfl rfl ?_
  obtain ⟨hi, H⟩ := H
  refine g_step (pc2 := 55) hk rfl rfl rfl (s_agetX (L := L) (xs := xs) (j := 1) rfl hi) ?_
  refine g_s1 (pc2 := 57) (lo2 := [some (.ref x0), some (.long x1), none, some (.int x3), some (.int x4), some (.long s0), none, some (.int (i_SOUTH x3.toNatClampNeg))]) hk rfl rfl rfl rfl rfl ?_
  refine g_s1 (pc2 := 59) hk rfl rfl rfl rfl rfl ?_
  refine g_if_le hk rfl (fun hc => ?_) (fun hc => ?_)
  · have H := H.1 hc
    refine g_s1 (pc2 := 74) hk rfl rfl rfl rfl rfl ?_
    refine g_if_ge hk rfl (fun hc => ?_) (fun hc => ?_)
    · have H := H.1 hc
      refine g_s1 (pc2 := 89) hk rfl rfl rfl rfl rfl ?_
      exact H
    · have H := H.2 hc
      refine g_s1 (pc2 := 79) hk rfl rfl rfl rfl rfl ?_
      refine g_s1 (pc2 := 80) hk rfl rfl rfl rfl rfl ?_
      obtain ⟨v3, ev3, H⟩ := H
      refine g_step (pc2 := 83) hk rfl rfl rfl (s_get ev3) ?_
      refine g_s1 (pc2 := 84) hk rfl rfl rfl rfl rfl ?_
      refine g_s1 (pc2 := 89) hk rfl rfl rfl rfl rfl ?_
      exact H
  · have H := H.2 hc
    refine g_s1 (pc2 := 64) hk rfl rfl rfl rfl rfl ?_
    refine g_s1 (pc2 := 65) hk rfl rfl rfl rfl rfl ?_
    obtain ⟨v4, ev4, H⟩ := H
    refine g_step (pc2 := 68) hk rfl rfl rfl (s_get ev4) ?_
    refine g_s1 (pc2 := 69) hk rfl rfl rfl rfl rfl ?_
    refine g_s1 (pc2 := 89) hk rfl rfl rfl rfl rfl ?_
    exact H
theorem b24_89 {x0 : Nat} {x1 : Int64} {x3 : Int32} {x4 : Int32} {x5 : Int64} {x7 : Int32} {s0 : Int64} {h : iH} {Q : Option Value → iH → Prop} (H : (∃ v1 : Int64, i_fld h x0 2 4 = some (.long v1) ∧ Q (some (.long (s0 &&& v1))) h)) : i_P i_MT i_AT L xs 24 89 [some (.ref x0), some (.long x1), none, some (.int x3), some (.int x4), some (.long x5), none, some (.int x7)] [.long s0] h 0 0 Q := by
  have hk := i_k24
  refine g_s1 (pc2 := 90) hk rfl rfl rfl rfl rfl ?_
  obtain ⟨v1, ev1, H⟩ := H
  refine g_step (pc2 := 93) hk rfl rfl rfl (s_get ev1) ?_
  refine g_s1 (pc2 := 94) hk rfl rfl rfl rfl rfl ?_
  exact g_lreturn hk rfl (by decide) (by decide) rfl H
/-! StillTown$Grid.next(II)I -/
theorem e25 {x0 : Nat} {x1 : Int32} {x2 : Int32} {h : iH} {Q : Option Value → iH → Prop} (H : i_P i_MT i_AT L xs 25 0 [some (.ref x0), some (.int x1), some (.int x2), none, none] [] h 0 0 Q) : i_C i_MT i_AT L xs 25 [.ref x0, .int x1, .int x2] h Q := ⟨i_m25, i_k25.1, Nat.le_of_ble_eq_true rfl, H⟩
theorem b25_0 {x0 : Nat} {x1 : Int32} {x2 : Int32} {x3 : Option Value} {x4 : Option Value} {h : iH} {Q : Option Value → iH → Prop} (H : (∃ v1 : Nat, i_fld h x0 2 7 = some (.ref v1) ∧ (∃ (n2 : Nat) (f3 : Nat → Int32), i_arI h 0 v1 = some (n2, f3) ∧ ¬ (x1 < 0 ∨ n2 ≤ x1.toNatClampNeg) ∧ (¬ (x2 < 0 ∨ 8 ≤ x2.toNatClampNeg) ∧ (∃ v6 : Nat, i_fld h x0 2 8 = some (.ref v6) ∧ (∃ (n7 : Nat) (f8 : Nat → Int32), i_arI h 0 v6 = some (n7, f8) ∧ ¬ (x1 < 0 ∨ n7 ≤ x1.toNatClampNeg) ∧ (¬ (x2 < 0 ∨ 8 ≤ x2.toNatClampNeg) ∧ (∃ v11 : Int32, i_fld h x0 2 0 = some (.int v11) ∧ (i_C i_MT i_AT L xs 192 [.int ((f3 x1.toNatClampNeg) + (i_EAST x2.toNatClampNeg)), .int (0 : Int32), .int (v11 - (1 : Int32))] h (fun v h12 => ∃ r13 : Int32, v = some (.int r13) ∧ i_P i_MT i_AT L xs 25 38 [some (.ref x0), some (.int x1), some (.int x2), some (.int ((f3 x1.toNatClampNeg) + (i_EAST x2.toNatClampNeg))), some (.int ((f8 x1.toNatClampNeg) + (i_SOUTH x2.toNatClampNeg)))] [.int r13] h12 0 0 Q)))))))))) : i_P i_MT i_AT L xs 25 0 [some (.ref x0), some (.int x1), some (.int x2), x3, x4] [] h 0 0 Q := by
  have hk := i_k25
  refine g_s1 (pc2 := 1) hk rfl rfl rfl rfl rfl ?_
  obtain ⟨v1, ev1, H⟩ := H
  refine g_step (pc2 := 4) hk rfl rfl rfl (s_get ev1) ?_
  refine g_s1 (pc2 := 5) hk rfl rfl rfl rfl rfl ?_
  obtain ⟨n2, f3, ef3, hi, H⟩ := H
  refine g_step (pc2 := 6) hk rfl rfl rfl (s_aget (L := L) (xs := xs) ef3 hi) ?_
  refine g_step (pc2 := 9) (st2 := [.retAddr 0, .int (f3 x1.toNatClampNeg)]) hk rfl rfl rfl rfl ?_
  refine g_s1 (pc2 := 10) hk rfl rfl rfl rfl rfl ?_
  obtain ⟨hi, H⟩ := H
  refine g_step (pc2 := 11) hk rfl rfl rfl (s_agetX (L := L) (xs := xs) (j := 0) rfl hi) ?_
  refine g_s1 (pc2 := 12) hk rfl rfl rfl rfl rfl ?_
  refine g_s1 (pc2 := 13) (lo2 := [some (.ref x0), some (.int x1), some (.int x2), some (.int ((f3 x1.toNatClampNeg) + (i_EAST x2.toNatClampNeg))), x4]) hk rfl rfl rfl rfl rfl ?_
  refine g_s1 (pc2 := 14) hk rfl rfl rfl rfl rfl ?_
  obtain ⟨v6, ev6, H⟩ := H
  refine g_step (pc2 := 17) hk rfl rfl rfl (s_get ev6) ?_
  refine g_s1 (pc2 := 18) hk rfl rfl rfl rfl rfl ?_
  obtain ⟨n7, f8, ef8, hi, H⟩ := H
  refine g_step (pc2 := 19) hk rfl rfl rfl (s_aget (L := L) (xs := xs) ef8 hi) ?_
  refine g_step (pc2 := 22) (st2 := [.retAddr 1, .int (f8 x1.toNatClampNeg)]) hk rfl rfl rfl rfl ?_
  refine g_s1 (pc2 := 23) hk rfl rfl rfl rfl rfl ?_
  obtain ⟨hi, H⟩ := H
  refine g_step (pc2 := 24) hk rfl rfl rfl (s_agetX (L := L) (xs := xs) (j := 1) rfl hi) ?_
  refine g_s1 (pc2 := 25) hk rfl rfl rfl rfl rfl ?_
  refine g_s1 (pc2 := 27) (lo2 := [some (.ref x0), some (.int x1), some (.int x2), some (.int ((f3 x1.toNatClampNeg) + (i_EAST x2.toNatClampNeg))), some (.int ((f8 x1.toNatClampNeg) + (i_SOUTH x2.toNatClampNeg)))]) hk rfl rfl rfl rfl rfl ?_
  refine g_s1 (pc2 := 28) hk rfl rfl rfl rfl rfl ?_
  refine g_s1 (pc2 := 29) (st2 := [.int (0 : Int32), .int ((f3 x1.toNatClampNeg) + (i_EAST x2.toNatClampNeg))]) hk rfl rfl rfl rfl rfl ?_
  refine g_s1 (pc2 := 30) hk rfl rfl rfl rfl rfl ?_
  obtain ⟨v11, ev11, H⟩ := H
  refine g_step (pc2 := 33) hk rfl rfl rfl (s_get ev11) ?_
  refine g_s1 (pc2 := 34) (st2 := [.int (1 : Int32), .int v11, .int (0 : Int32), .int ((f3 x1.toNatClampNeg) + (i_EAST x2.toNatClampNeg))]) hk rfl rfl rfl rfl rfl ?_
  refine g_s1 (pc2 := 35) hk rfl rfl rfl rfl rfl ?_
  refine g_call hk rfl rfl i_k192.1 ⟨rfl, rfl⟩ rfl (i_rcv_0 rfl) rfl ?_
  exact H.mono (fun v h2 q => by obtain ⟨r, rfl, q⟩ := q; exact q)
theorem b25_38 {x0 : Nat} {x1 : Int32} {x2 : Int32} {x3 : Int32} {x4 : Int32} {s0 : Int32} {h : iH} {Q : Option Value → iH → Prop} (H : ((s0 = 0 → i_P i_MT i_AT L xs 25 68 [some (.ref x0), some (.int x1), some (.int x2), some (.int x3), some (.int x4)] [] h 0 0 Q) ∧ (¬ (s0 = 0) → (∃ v1 : Int32, i_fld h x0 2 1 = some (.int v1) ∧ (i_C i_MT i_AT L xs 192 [.int x4, .int (0 : Int32), .int (v1 - (1 : Int32))] h (fun v h2 => ∃ r3 : Int32, v = some (.int r3) ∧ i_P i_MT i_AT L xs 25 53 [some (.ref x0), some (.int x1), some (.int x2), some (.int x3), some (.int x4)] [.int r3] h2 0 0 Q)))))) : i_P i_MT i_AT L xs 25 38 [some (.ref x0), some (.int x1), some (.int x2), some (.int x3), some (.int x4)] [.int s0] h 0 0 Q := by
  have hk := i_k25
  refine g_if_eq hk rfl (fun hc => ?_) (fun hc => ?_)
  · have H := H.1 hc
    exact H
  · have H := H.2 hc
    refine g_s1 (pc2 := 43) hk rfl rfl rfl rfl rfl ?_
    refine g_s1 (pc2 := 44) (st2 := [.int (0 : Int32), .int x4]) hk rfl rfl rfl rfl rfl ?_
    refine g_s1 (pc2 := 45) hk rfl rfl rfl rfl rfl ?_
    obtain ⟨v1, ev1, H⟩ := H
    refine g_step (pc2 := 48) hk rfl rfl rfl (s_get ev1) ?_
    refine g_s1 (pc2 := 49) (st2 := [.int (1 : Int32), .int v1, .int (0 : Int32), .int x4]) hk rfl rfl rfl rfl rfl ?_
    refine g_s1 (pc2 := 50) hk rfl rfl rfl rfl rfl ?_
    refine g_call hk rfl rfl i_k192.1 ⟨rfl, rfl⟩ rfl (i_rcv_0 rfl) rfl ?_
    exact H.mono (fun v h2 q => by obtain ⟨r, rfl, q⟩ := q; exact q)
theorem b25_53 {x0 : Nat} {x1 : Int32} {x2 : Int32} {x3 : Int32} {x4 : Int32} {s0 : Int32} {h : iH} {Q : Option Value → iH → Prop} (H : ((s0 = 0 → i_P i_MT i_AT L xs 25 68 [some (.ref x0), some (.int x1), some (.int x2), some (.int x3), some (.int x4)] [] h 0 0 Q) ∧ (¬ (s0 = 0) → (∃ v1 : Int32, i_fld h x0 2 0 = some (.int v1) ∧ i_P i_MT i_AT L xs 25 69 [some (.ref x0), some (.int x1), some (.int x2), some (.int x3), some (.int x4)] [.int ((x4 * v1) + x3)] h 0 0 Q)))) : i_P i_MT i_AT L xs 25 53 [some (.ref x0), some (.int x1), some (.int x2), some (.int x3), some (.int x4)] [.int s0] h 0 0 Q := by
  have hk := i_k25
  refine g_if_eq hk rfl (fun hc => ?_) (fun hc => ?_)
  · have H := H.1 hc
    exact H
  · have H := H.2 hc
    refine g_s1 (pc2 := 58) hk rfl rfl rfl rfl rfl ?_
    refine g_s1 (pc2 := 59) hk rfl rfl rfl rfl rfl ?_
    obtain ⟨v1, ev1, H⟩ := H
    refine g_step (pc2 := 62) hk rfl rfl rfl (s_get ev1) ?_
    refine g_s1 (pc2 := 63) hk rfl rfl rfl rfl rfl ?_
    refine g_s1 (pc2 := 64) hk rfl rfl rfl rfl rfl ?_
    refine g_s1 (pc2 := 65) hk rfl rfl rfl rfl rfl ?_
    refine g_s1 (pc2 := 69) hk rfl rfl rfl rfl rfl ?_
    exact H
theorem b25_68 {x0 : Nat} {x1 : Int32} {x2 : Int32} {x3 : Int32} {x4 : Int32} {h : iH} {Q : Option Value → iH → Prop} (H : i_P i_MT i_AT L xs 25 69 [some (.ref x0), some (.int x1), some (.int x2), some (.int x3), some (.int x4)] [.int (-1 : Int32)] h 0 0 Q) : i_P i_MT i_AT L xs 25 68 [some (.ref x0), some (.int x1), some (.int x2), some (.int x3), some (.int x4)] [] h 0 0 Q := by
  have hk := i_k25
  refine g_s1 (pc2 := 69) (st2 := [.int (-1 : Int32)]) hk rfl rfl rfl rfl rfl ?_
  exact H
theorem b25_69 {x0 : Nat} {x1 : Int32} {x2 : Int32} {x3 : Int32} {x4 : Int32} {s0 : Int32} {h : iH} {Q : Option Value → iH → Prop} (H : Q (some (.int s0)) h) : i_P i_MT i_AT L xs 25 69 [some (.ref x0), some (.int x1), some (.int x2), some (.int x3), some (.int x4)] [.int s0] h 0 0 Q := by
  have hk := i_k25
  exact g_ireturn hk rfl (by decide) (by decide) rfl H
/-! StillTown$Grid.nextFree(II)I -/
theorem e26 {x0 : Nat} {x1 : Int32} {x2 : Int32} {h : iH} {Q : Option Value → iH → Prop} (H : i_P i_MT i_AT L xs 26 0 [some (.ref x0), some (.int x1), some (.int x2), none] [] h 0 0 Q) : i_C i_MT i_AT L xs 26 [.ref x0, .int x1, .int x2] h Q := ⟨i_m26, i_k26.1, Nat.le_of_ble_eq_true rfl, H⟩
theorem b26_0 {x0 : Nat} {x1 : Int32} {x2 : Int32} {x3 : Option Value} {h : iH} {Q : Option Value → iH → Prop} (H : (i_obj? h x0 2 ∧ i_C i_MT i_AT L xs 25 [.ref x0, .int x1, .int x2] h (fun v h1 => ∃ r2 : Int32, v = some (.int r2) ∧ i_P i_MT i_AT L xs 26 6 [some (.ref x0), some (.int x1), some (.int x2), x3] [.int r2] h1 0 0 Q))) : i_P i_MT i_AT L xs 26 0 [some (.ref x0), some (.int x1), some (.int x2), x3] [] h 0 0 Q := by
  have hk := i_k26
  refine g_s1 (pc2 := 1) hk rfl rfl rfl rfl rfl ?_
  refine g_s1 (pc2 := 2) hk rfl rfl rfl rfl rfl ?_
  refine g_s1 (pc2 := 3) hk rfl rfl rfl rfl rfl ?_
  obtain ⟨ho, H⟩ := H
  refine g_call hk rfl rfl i_k25.1 ⟨rfl, rfl⟩ rfl (i_rcv_v ho rfl (by decide)) rfl ?_
  exact H.mono (fun v h2 q => by obtain ⟨r, rfl, q⟩ := q; exact q)
theorem b26_6 {x0 : Nat} {x1 : Int32} {x2 : Int32} {x3 : Option Value} {s0 : Int32} {h : iH} {Q : Option Value → iH → Prop} (H : ((s0 = (-1 : Int32) → i_P i_MT i_AT L xs 26 27 [some (.ref x0), some (.int x1), some (.int x2), some (.int s0)] [] h 0 0 Q) ∧ (¬ (s0 = (-1 : Int32)) → (∃ v1 : Int64, i_fld h x0 2 4 = some (.long v1) ∧ (i_C i_MT i_AT L xs 193 [.long v1, .int s0] h (fun v h2 => ∃ r3 : Int32, v = some (.int r3) ∧ i_P i_MT i_AT L xs 26 20 [some (.ref x0), some (.int x1), some (.int x2), some (.int s0)] [.int r3] h2 0 0 Q)))))) : i_P i_MT i_AT L xs 26 6 [some (.ref x0), some (.int x1), some (.int x2), x3] [.int s0] h 0 0 Q := by
  have hk := i_k26
  refine g_s1 (pc2 := 7) (lo2 := [some (.ref x0), some (.int x1), some (.int x2), some (.int s0)]) hk rfl rfl rfl rfl rfl ?_
  refine g_s1 (pc2 := 8) hk rfl rfl rfl rfl rfl ?_
  refine g_s1 (pc2 := 9) (st2 := [.int (-1 : Int32), .int s0]) hk rfl rfl rfl rfl rfl ?_
  refine g_icmp_eq hk rfl (fun hc => ?_) (fun hc => ?_)
  · have H := H.1 hc
    exact H
  · have H := H.2 hc
    refine g_s1 (pc2 := 13) hk rfl rfl rfl rfl rfl ?_
    obtain ⟨v1, ev1, H⟩ := H
    refine g_step (pc2 := 16) hk rfl rfl rfl (s_get ev1) ?_
    refine g_s1 (pc2 := 17) hk rfl rfl rfl rfl rfl ?_
    refine g_call hk rfl rfl i_k193.1 ⟨rfl, rfl⟩ rfl (i_rcv_0 rfl) rfl ?_
    exact H.mono (fun v h2 q => by obtain ⟨r, rfl, q⟩ := q; exact q)
theorem b26_20 {x0 : Nat} {x1 : Int32} {x2 : Int32} {x3 : Int32} {s0 : Int32} {h : iH} {Q : Option Value → iH → Prop} (H : ((s0 = 0 → i_P i_MT i_AT L xs 26 27 [some (.ref x0), some (.int x1), some (.int x2), some (.int x3)] [] h 0 0 Q) ∧ (¬ (s0 = 0) → i_P i_MT i_AT L xs 26 28 [some (.ref x0), some (.int x1), some (.int x2), some (.int x3)] [.int x3] h 0 0 Q))) : i_P i_MT i_AT L xs 26 20 [some (.ref x0), some (.int x1), some (.int x2), some (.int x3)] [.int s0] h 0 0 Q := by
  have hk := i_k26
  refine g_if_eq hk rfl (fun hc => ?_) (fun hc => ?_)
  · have H := H.1 hc
    exact H
  · have H := H.2 hc
    refine g_s1 (pc2 := 24) hk rfl rfl rfl rfl rfl ?_
    refine g_s1 (pc2 := 28) hk rfl rfl rfl rfl rfl ?_
    exact H
theorem b26_27 {x0 : Nat} {x1 : Int32} {x2 : Int32} {x3 : Int32} {h : iH} {Q : Option Value → iH → Prop} (H : i_P i_MT i_AT L xs 26 28 [some (.ref x0), some (.int x1), some (.int x2), some (.int x3)] [.int x1] h 0 0 Q) : i_P i_MT i_AT L xs 26 27 [some (.ref x0), some (.int x1), some (.int x2), some (.int x3)] [] h 0 0 Q := by
  have hk := i_k26
  refine g_s1 (pc2 := 28) hk rfl rfl rfl rfl rfl ?_
  exact H
theorem b26_28 {x0 : Nat} {x1 : Int32} {x2 : Int32} {x3 : Int32} {s0 : Int32} {h : iH} {Q : Option Value → iH → Prop} (H : Q (some (.int s0)) h) : i_P i_MT i_AT L xs 26 28 [some (.ref x0), some (.int x1), some (.int x2), some (.int x3)] [.int s0] h 0 0 Q := by
  have hk := i_k26
  exact g_ireturn hk rfl (by decide) (by decide) rfl H
/-! StillTown$Grid.off(II)I -/
theorem e27 {x0 : Nat} {x1 : Int32} {x2 : Int32} {h : iH} {Q : Option Value → iH → Prop} (H : i_P i_MT i_AT L xs 27 0 [some (.ref x0), some (.int x1), some (.int x2), none, none, none, none] [] h 0 0 Q) : i_C i_MT i_AT L xs 27 [.ref x0, .int x1, .int x2] h Q := ⟨i_m27, i_k27.1, Nat.le_of_ble_eq_true rfl, H⟩
theorem b27_0 {x0 : Nat} {x1 : Int32} {x2 : Int32} {x3 : Option Value} {x4 : Option Value} {x5 : Option Value} {x6 : Option Value} {h : iH} {Q : Option Value → iH → Prop} (H : (∃ v1 : Nat, i_fld h x0 2 7 = some (.ref v1) ∧ (∃ (n2 : Nat) (f3 : Nat → Int32), i_arI h 0 v1 = some (n2, f3) ∧ ¬ (x2 < 0 ∨ n2 ≤ x2.toNatClampNeg) ∧ (∃ v4 : Nat, i_fld h x0 2 7 = some (.ref v4) ∧ (∃ (n5 : Nat) (f6 : Nat → Int32), i_arI h 0 v4 = some (n5, f6) ∧ ¬ (x1 < 0 ∨ n5 ≤ x1.toNatClampNeg) ∧ (∃ v7 : Nat, i_fld h x0 2 8 = some (.ref v7) ∧ (∃ (n8 : Nat) (f9 : Nat → Int32), i_arI h 0 v7 = some (n8, f9) ∧ ¬ (x2 < 0 ∨ n8 ≤ x2.toNatClampNeg) ∧ (∃ v10 : Nat, i_fld h x0 2 8 = some (.ref v10) ∧ (∃ (n11 : Nat) (f12 : Nat → Int32), i_arI h 0 v10 = some (n11, f12) ∧ ¬ (x1 < 0 ∨ n11 ≤ x1.toNatClampNeg) ∧ ((0 ≤ ((f3 x2.toNatClampNeg) - (f6 x1.toNatClampNeg)) → i_P i_MT i_AT L xs 27 39 [some (.ref x0), some (.int x1), some (.int x2), some (.int ((f3 x2.toNatClampNeg) - (f6 x1.toNatClampNeg))), some (.int ((f9 x2.toNatClampNeg) - (f12 x1.toNatClampNeg))), x5, x6] [.int ((f3 x2.toNatClampNeg) - (f6 x1.toNatClampNeg))] h 0 0 Q) ∧ (¬ (0 ≤ ((f3 x2.toNatClampNeg) - (f6 x1.toNatClampNeg))) → i_P i_MT i_AT L xs 27 39 [some (.ref x0), some (.int x1), some (.int x2), some (.int ((f3 x2.toNatClampNeg) - (f6 x1.toNatClampNeg))), some (.int ((f9 x2.toNatClampNeg) - (f12 x1.toNatClampNeg))), x5, x6] [.int (-((f3 x2.toNatClampNeg) - (f6 x1.toNatClampNeg)))] h 0 0 Q))))))))))) : i_P i_MT i_AT L xs 27 0 [some (.ref x0), some (.int x1), some (.int x2), x3, x4, x5, x6] [] h 0 0 Q := by
  have hk := i_k27
  refine g_s1 (pc2 := 1) hk rfl rfl rfl rfl rfl ?_
  obtain ⟨v1, ev1, H⟩ := H
  refine g_step (pc2 := 4) hk rfl rfl rfl (s_get ev1) ?_
  refine g_s1 (pc2 := 5) hk rfl rfl rfl rfl rfl ?_
  obtain ⟨n2, f3, ef3, hi, H⟩ := H
  refine g_step (pc2 := 6) hk rfl rfl rfl (s_aget (L := L) (xs := xs) ef3 hi) ?_
  refine g_s1 (pc2 := 7) hk rfl rfl rfl rfl rfl ?_
  obtain ⟨v4, ev4, H⟩ := H
  refine g_step (pc2 := 10) hk rfl rfl rfl (s_get ev4) ?_
  refine g_s1 (pc2 := 11) hk rfl rfl rfl rfl rfl ?_
  obtain ⟨n5, f6, ef6, hi, H⟩ := H
  refine g_step (pc2 := 12) hk rfl rfl rfl (s_aget (L := L) (xs := xs) ef6 hi) ?_
  refine g_s1 (pc2 := 13) hk rfl rfl rfl rfl rfl ?_
  refine g_s1 (pc2 := 14) (lo2 := [some (.ref x0), some (.int x1), some (.int x2), some (.int ((f3 x2.toNatClampNeg) - (f6 x1.toNatClampNeg))), x4, x5, x6]) hk rfl rfl rfl rfl rfl ?_
  refine g_s1 (pc2 := 15) hk rfl rfl rfl rfl rfl ?_
  obtain ⟨v7, ev7, H⟩ := H
  refine g_step (pc2 := 18) hk rfl rfl rfl (s_get ev7) ?_
  refine g_s1 (pc2 := 19) hk rfl rfl rfl rfl rfl ?_
  obtain ⟨n8, f9, ef9, hi, H⟩ := H
  refine g_step (pc2 := 20) hk rfl rfl rfl (s_aget (L := L) (xs := xs) ef9 hi) ?_
  refine g_s1 (pc2 := 21) hk rfl rfl rfl rfl rfl ?_
  obtain ⟨v10, ev10, H⟩ := H
  refine g_step (pc2 := 24) hk rfl rfl rfl (s_get ev10) ?_
  refine g_s1 (pc2 := 25) hk rfl rfl rfl rfl rfl ?_
  obtain ⟨n11, f12, ef12, hi, H⟩ := H
  refine g_step (pc2 := 26) hk rfl rfl rfl (s_aget (L := L) (xs := xs) ef12 hi) ?_
  refine g_s1 (pc2 := 27) hk rfl rfl rfl rfl rfl ?_
  refine g_s1 (pc2 := 29) (lo2 := [some (.ref x0), some (.int x1), some (.int x2), some (.int ((f3 x2.toNatClampNeg) - (f6 x1.toNatClampNeg))), some (.int ((f9 x2.toNatClampNeg) - (f12 x1.toNatClampNeg))), x5, x6]) hk rfl rfl rfl rfl rfl ?_
  refine g_s1 (pc2 := 30) hk rfl rfl rfl rfl rfl ?_
  refine g_if_ge hk rfl (fun hc => ?_) (fun hc => ?_)
  · have H := H.1 hc
    refine g_s1 (pc2 := 39) hk rfl rfl rfl rfl rfl ?_
    exact H
  · have H := H.2 hc
    refine g_s1 (pc2 := 34) hk rfl rfl rfl rfl rfl ?_
    refine g_s1 (pc2 := 35) hk rfl rfl rfl rfl rfl ?_
    refine g_s1 (pc2 := 39) hk rfl rfl rfl rfl rfl ?_
    exact H
theorem b27_39 {x0 : Nat} {x1 : Int32} {x2 : Int32} {x3 : Int32} {x4 : Int32} {x5 : Option Value} {x6 : Option Value} {s0 : Int32} {h : iH} {Q : Option Value → iH → Prop} (H : ((0 ≤ x4 → i_P i_MT i_AT L xs 27 54 [some (.ref x0), some (.int x1), some (.int x2), some (.int x3), some (.int x4), some (.int s0), x6] [.int x4] h 0 0 Q) ∧ (¬ (0 ≤ x4) → i_P i_MT i_AT L xs 27 54 [some (.ref x0), some (.int x1), some (.int x2), some (.int x3), some (.int x4), some (.int s0), x6] [.int (-x4)] h 0 0 Q))) : i_P i_MT i_AT L xs 27 39 [some (.ref x0), some (.int x1), some (.int x2), some (.int x3), some (.int x4), x5, x6] [.int s0] h 0 0 Q := by
  have hk := i_k27
  refine g_s1 (pc2 := 41) (lo2 := [some (.ref x0), some (.int x1), some (.int x2), some (.int x3), some (.int x4), some (.int s0), x6]) hk rfl rfl rfl rfl rfl ?_
  refine g_s1 (pc2 := 43) hk rfl rfl rfl rfl rfl ?_
  refine g_if_ge hk rfl (fun hc => ?_) (fun hc => ?_)
  · have H := H.1 hc
    refine g_s1 (pc2 := 54) hk rfl rfl rfl rfl rfl ?_
    exact H
  · have H := H.2 hc
    refine g_s1 (pc2 := 48) hk rfl rfl rfl rfl rfl ?_
    refine g_s1 (pc2 := 49) hk rfl rfl rfl rfl rfl ?_
    refine g_s1 (pc2 := 54) hk rfl rfl rfl rfl rfl ?_
    exact H
theorem b27_54 {x0 : Nat} {x1 : Int32} {x2 : Int32} {x3 : Int32} {x4 : Int32} {x5 : Int32} {x6 : Option Value} {s0 : Int32} {h : iH} {Q : Option Value → iH → Prop} (H : ((x5 ≤ s0 → i_P i_MT i_AT L xs 27 70 [some (.ref x0), some (.int x1), some (.int x2), some (.int x3), some (.int x4), some (.int x5), some (.int s0)] [.int s0] h 0 0 Q) ∧ (¬ (x5 ≤ s0) → i_P i_MT i_AT L xs 27 70 [some (.ref x0), some (.int x1), some (.int x2), some (.int x3), some (.int x4), some (.int x5), some (.int s0)] [.int x5] h 0 0 Q))) : i_P i_MT i_AT L xs 27 54 [some (.ref x0), some (.int x1), some (.int x2), some (.int x3), some (.int x4), some (.int x5), x6] [.int s0] h 0 0 Q := by
  have hk := i_k27
  refine g_s1 (pc2 := 56) (lo2 := [some (.ref x0), some (.int x1), some (.int x2), some (.int x3), some (.int x4), some (.int x5), some (.int s0)]) hk rfl rfl rfl rfl rfl ?_
  refine g_s1 (pc2 := 58) hk rfl rfl rfl rfl rfl ?_
  refine g_s1 (pc2 := 60) hk rfl rfl rfl rfl rfl ?_
  refine g_icmp_le hk rfl (fun hc => ?_) (fun hc => ?_)
  · have H := H.1 hc
    refine g_s1 (pc2 := 70) hk rfl rfl rfl rfl rfl ?_
    exact H
  · have H := H.2 hc
    refine g_s1 (pc2 := 65) hk rfl rfl rfl rfl rfl ?_
    refine g_s1 (pc2 := 70) hk rfl rfl rfl rfl rfl ?_
    exact H
theorem b27_70 {x0 : Nat} {x1 : Int32} {x2 : Int32} {x3 : Int32} {x4 : Int32} {x5 : Int32} {x6 : Int32} {s0 : Int32} {h : iH} {Q : Option Value → iH → Prop} (H : Q (some (.int s0)) h) : i_P i_MT i_AT L xs 27 70 [some (.ref x0), some (.int x1), some (.int x2), some (.int x3), some (.int x4), some (.int x5), some (.int x6)] [.int s0] h 0 0 Q := by
  have hk := i_k27
  exact g_ireturn hk rfl (by decide) (by decide) rfl H
/-! StillTown$Grid.around(II)J -/
theorem e28 {x0 : Nat} {x1 : Int32} {x2 : Int32} {h : iH} {Q : Option Value → iH → Prop} (H : i_P i_MT i_AT L xs 28 0 [some (.ref x0), some (.int x1), some (.int x2), none, none, none] [] h 0 0 Q) : i_C i_MT i_AT L xs 28 [.ref x0, .int x1, .int x2] h Q := ⟨i_m28, i_k28.1, Nat.le_of_ble_eq_true rfl, H⟩
theorem b28_0 {x0 : Nat} {x1 : Int32} {x2 : Int32} {x3 : Option Value} {x4 : Option Value} {x5 : Option Value} {h : iH} {Q : Option Value → iH → Prop} (H : i_P i_MT i_AT L xs 28 5 [some (.ref x0), some (.int x1), some (.int x2), some (.long (0 : Int64)), none, some (.int (0 : Int32))] [] h 0 0 Q) : i_P i_MT i_AT L xs 28 0 [some (.ref x0), some (.int x1), some (.int x2), x3, x4, x5] [] h 0 0 Q := by
  have hk := i_k28
  refine g_s1 (pc2 := 1) (st2 := [.long (0 : Int64)]) hk rfl rfl rfl rfl rfl ?_
  refine g_s1 (pc2 := 2) (lo2 := [some (.ref x0), some (.int x1), some (.int x2), some (.long (0 : Int64)), none, x5]) hk rfl rfl rfl rfl rfl ?_
  refine g_s1 (pc2 := 3) (st2 := [.int (0 : Int32)]) hk rfl rfl rfl rfl rfl ?_
  refine g_s1 (pc2 := 5) (lo2 := [some (.ref x0), some (.int x1), some (.int x2), some (.long (0 : Int64)), none, some (.int (0 : Int32))]) hk rfl rfl rfl rfl rfl ?_
  exact H
theorem b28_5 {x0 : Nat} {x1 : Int32} {x2 : Int32} {x3 : Int64} {x5 : Int32} {h : iH} {Q : Option Value → iH → Prop} (H : (∃ v1 : Int32, i_fld h x0 2 2 = some (.int v1) ∧ ((v1 ≤ x5 → Q (some (.long x3)) h) ∧ (¬ (v1 ≤ x5) → (i_obj? h x0 2 ∧ i_C i_MT i_AT L xs 27 [.ref x0, .int x1, .int x5] h (fun v h2 => ∃ r3 : Int32, v = some (.int r3) ∧ i_P i_MT i_AT L xs 28 21 [some (.ref x0), some (.int x1), some (.int x2), some (.long x3), none, some (.int x5)] [.int r3] h2 0 0 Q)))))) : i_P i_MT i_AT L xs 28 5 [some (.ref x0), some (.int x1), some (.int x2), some (.long x3), none, some (.int x5)] [] h 0 0 Q := by
  have hk := i_k28
  refine g_s1 (pc2 := 7) hk rfl rfl rfl rfl rfl ?_
  refine g_s1 (pc2 := 8) hk rfl rfl rfl rfl rfl ?_
  obtain ⟨v1, ev1, H⟩ := H
  refine g_step (pc2 := 11) hk rfl rfl rfl (s_get ev1) ?_
  refine g_icmp_ge hk rfl (fun hc => ?_) (fun hc => ?_)
  · have H := H.1 hc
    refine g_s1 (pc2 := 39) hk rfl rfl rfl rfl rfl ?_
    exact g_lreturn hk rfl (by decide) (by decide) rfl H
  · have H := H.2 hc
    refine g_s1 (pc2 := 15) hk rfl rfl rfl rfl rfl ?_
    refine g_s1 (pc2 := 16) hk rfl rfl rfl rfl rfl ?_
    refine g_s1 (pc2 := 18) hk rfl rfl rfl rfl rfl ?_
    obtain ⟨ho, H⟩ := H
    refine g_call hk rfl rfl i_k27.1 ⟨rfl, rfl⟩ rfl (i_rcv_v ho rfl (by decide)) rfl ?_
    exact H.mono (fun v h2 q => by obtain ⟨r, rfl, q⟩ := q; exact q)
theorem b28_21 {x0 : Nat} {x1 : Int32} {x2 : Int32} {x3 : Int64} {x5 : Int32} {s0 : Int32} {h : iH} {Q : Option Value → iH → Prop} (H : ((x2 < s0 → i_P i_MT i_AT L xs 28 32 [some (.ref x0), some (.int x1), some (.int x2), some (.long x3), none, some (.int x5)] [] h 0 0 Q) ∧ (¬ (x2 < s0) → i_P i_MT i_AT L xs 28 32 [some (.ref x0), some (.int x1), some (.int x2), some (.long (x3 ||| ((1 : Int64) <<< (x5.toInt64 &&& 63)))), none, some (.int x5)] [] h 0 0 Q))) : i_P i_MT i_AT L xs 28 21 [some (.ref x0), some (.int x1), some (.int x2), some (.long x3), none, some (.int x5)] [.int s0] h 0 0 Q := by
  have hk := i_k28
  refine g_s1 (pc2 := 22) hk rfl rfl rfl rfl rfl ?_
  refine g_icmp_gt hk rfl (fun hc => ?_) (fun hc => ?_)
  · have H := H.1 hc
    exact H
  · have H := H.2 hc
    refine g_s1 (pc2 := 26) hk rfl rfl rfl rfl rfl ?_
    refine g_s1 (pc2 := 27) (st2 := [.long (1 : Int64), .long x3]) hk rfl rfl rfl rfl rfl ?_
    refine g_s1 (pc2 := 29) hk rfl rfl rfl rfl rfl ?_
    refine g_s1 (pc2 := 30) hk rfl rfl rfl rfl rfl ?_
    refine g_s1 (pc2 := 31) hk rfl rfl rfl rfl rfl ?_
    refine g_s1 (pc2 := 32) (lo2 := [some (.ref x0), some (.int x1), some (.int x2), some (.long (x3 ||| ((1 : Int64) <<< (x5.toInt64 &&& 63)))), none, some (.int x5)]) hk rfl rfl rfl rfl rfl ?_
    exact H
theorem b28_32 {x0 : Nat} {x1 : Int32} {x2 : Int32} {x3 : Int64} {x5 : Int32} {h : iH} {Q : Option Value → iH → Prop} (H : i_P i_MT i_AT L xs 28 5 [some (.ref x0), some (.int x1), some (.int x2), some (.long x3), none, some (.int (x5 + 1))] [] h 0 0 Q) : i_P i_MT i_AT L xs 28 32 [some (.ref x0), some (.int x1), some (.int x2), some (.long x3), none, some (.int x5)] [] h 0 0 Q := by
  have hk := i_k28
  refine g_s1 (pc2 := 35) (lo2 := [some (.ref x0), some (.int x1), some (.int x2), some (.long x3), none, some (.int (x5 + 1))]) hk rfl rfl rfl rfl rfl ?_
  refine g_s1 (pc2 := 5) hk rfl rfl rfl rfl rfl ?_
  exact H
/-! StillTown$Grid.line(III)J -/
theorem e29 {x0 : Nat} {x1 : Int32} {x2 : Int32} {x3 : Int32} {h : iH} {Q : Option Value → iH → Prop} (H : i_P i_MT i_AT L xs 29 0 [some (.ref x0), some (.int x1), some (.int x2), some (.int x3), none, none, none, none, none, none, none, none] [] h 0 0 Q) : i_C i_MT i_AT L xs 29 [.ref x0, .int x1, .int x2, .int x3] h Q := ⟨i_m29, i_k29.1, Nat.le_of_ble_eq_true rfl, H⟩
theorem b29_0 {x0 : Nat} {x1 : Int32} {x2 : Int32} {x3 : Int32} {x4 : Option Value} {x5 : Option Value} {x6 : Option Value} {x7 : Option Value} {x8 : Option Value} {x9 : Option Value} {x10 : Option Value} {x11 : Option Value} {h : iH} {Q : Option Value → iH → Prop} (H : (∃ v1 : Nat, i_fld h x0 2 9 = some (.ref v1) ∧ (∃ (n2 : Nat) (f3 : Nat → Int64), i_arJ h v1 = some (n2, f3) ∧ ¬ (((x1 * (48 : Int32)) + x2) < 0 ∨ n2 ≤ ((x1 * (48 : Int32)) + x2).toNatClampNeg) ∧ ((¬ (lg_cmp (f3 ((x1 * (48 : Int32)) + x2).toNatClampNeg) (-1 : Int64)) = 0 → i_P i_MT i_AT L xs 29 148 [some (.ref x0), some (.int x1), some (.int x2), some (.int x3), some (.int ((x1 * (48 : Int32)) + x2)), x5, x6, x7, x8, x9, x10, x11] [] h 0 0 Q) ∧ (¬ (¬ (lg_cmp (f3 ((x1 * (48 : Int32)) + x2).toNatClampNeg) (-1 : Int64)) = 0) → (∃ v4 : Nat, i_fld h x0 2 7 = some (.ref v4) ∧ (∃ (n5 : Nat) (f6 : Nat → Int32), i_arI h 0 v4 = some (n5, f6) ∧ ¬ (x2 < 0 ∨ n5 ≤ x2.toNatClampNeg) ∧ (∃ v7 : Nat, i_fld h x0 2 7 = some (.ref v7) ∧ (∃ (n8 : Nat) (f9 : Nat → Int32), i_arI h 0 v7 = some (n8, f9) ∧ ¬ (x1 < 0 ∨ n8 ≤ x1.toNatClampNeg) ∧ (∃ v10 : Nat, i_fld h x0 2 8 = some (.ref v10) ∧ (∃ (n11 : Nat) (f12 : Nat → Int32), i_arI h 0 v10 = some (n11, f12) ∧ ¬ (x2 < 0 ∨ n11 ≤ x2.toNatClampNeg) ∧ (∃ v13 : Nat, i_fld h x0 2 8 = some (.ref v13) ∧ (∃ (n14 : Nat) (f15 : Nat → Int32), i_arI h 0 v13 = some (n14, f15) ∧ ¬ (x1 < 0 ∨ n14 ≤ x1.toNatClampNeg) ∧ i_P i_MT i_AT L xs 29 58 [some (.ref x0), some (.int x1), some (.int x2), some (.int x3), some (.int ((x1 * (48 : Int32)) + x2)), some (.int ((f6 x2.toNatClampNeg) - (f9 x1.toNatClampNeg))), some (.int ((f12 x2.toNatClampNeg) - (f15 x1.toNatClampNeg))), some (.long (0 : Int64)), none, some (.int (1 : Int32)), x10, x11] [] h 0 0 Q))))))))))))) : i_P i_MT i_AT L xs 29 0 [some (.ref x0), some (.int x1), some (.int x2), some (.int x3), x4, x5, x6, x7, x8, x9, x10, x11] [] h 0 0 Q := by
  have hk := i_k29
  refine g_s1 (pc2 := 1) hk rfl rfl rfl rfl rfl ?_
  refine g_s1 (pc2 := 3) (st2 := [.int (48 : Int32), .int x1]) hk rfl rfl rfl rfl rfl ?_
  refine g_s1 (pc2 := 4) hk rfl rfl rfl rfl rfl ?_
  refine g_s1 (pc2 := 5) hk rfl rfl rfl rfl rfl ?_
  refine g_s1 (pc2 := 6) hk rfl rfl rfl rfl rfl ?_
  refine g_s1 (pc2 := 8) (lo2 := [some (.ref x0), some (.int x1), some (.int x2), some (.int x3), some (.int ((x1 * (48 : Int32)) + x2)), x5, x6, x7, x8, x9, x10, x11]) hk rfl rfl rfl rfl rfl ?_
  refine g_s1 (pc2 := 9) hk rfl rfl rfl rfl rfl ?_
  obtain ⟨v1, ev1, H⟩ := H
  refine g_step (pc2 := 12) hk rfl rfl rfl (s_get ev1) ?_
  refine g_s1 (pc2 := 14) hk rfl rfl rfl rfl rfl ?_
  obtain ⟨n2, f3, ef3, hi, H⟩ := H
  refine g_step (pc2 := 15) hk rfl rfl rfl (s_lget ef3 hi) ?_
  refine g_step (pc2 := 18) (st2 := [.long (-1 : Int64), .long (f3 ((x1 * (48 : Int32)) + x2).toNatClampNeg)]) hk rfl rfl rfl rfl ?_
  refine g_s1 (pc2 := 19) hk rfl rfl rfl rfl rfl ?_
  refine g_if_ne hk rfl (fun hc => ?_) (fun hc => ?_)
  · have H := H.1 hc
    exact H
  · have H := H.2 hc
    refine g_s1 (pc2 := 23) hk rfl rfl rfl rfl rfl ?_
    obtain ⟨v4, ev4, H⟩ := H
    refine g_step (pc2 := 26) hk rfl rfl rfl (s_get ev4) ?_
    refine g_s1 (pc2 := 27) hk rfl rfl rfl rfl rfl ?_
    obtain ⟨n5, f6, ef6, hi, H⟩ := H
    refine g_step (pc2 := 28) hk rfl rfl rfl (s_aget (L := L) (xs := xs) ef6 hi) ?_
    refine g_s1 (pc2 := 29) hk rfl rfl rfl rfl rfl ?_
    obtain ⟨v7, ev7, H⟩ := H
    refine g_step (pc2 := 32) hk rfl rfl rfl (s_get ev7) ?_
    refine g_s1 (pc2 := 33) hk rfl rfl rfl rfl rfl ?_
    obtain ⟨n8, f9, ef9, hi, H⟩ := H
    refine g_step (pc2 := 34) hk rfl rfl rfl (s_aget (L := L) (xs := xs) ef9 hi) ?_
    refine g_s1 (pc2 := 35) hk rfl rfl rfl rfl rfl ?_
    refine g_s1 (pc2 := 37) (lo2 := [some (.ref x0), some (.int x1), some (.int x2), some (.int x3), some (.int ((x1 * (48 : Int32)) + x2)), some (.int ((f6 x2.toNatClampNeg) - (f9 x1.toNatClampNeg))), x6, x7, x8, x9, x10, x11]) hk rfl rfl rfl rfl rfl ?_
    refine g_s1 (pc2 := 38) hk rfl rfl rfl rfl rfl ?_
    obtain ⟨v10, ev10, H⟩ := H
    refine g_step (pc2 := 41) hk rfl rfl rfl (s_get ev10) ?_
    refine g_s1 (pc2 := 42) hk rfl rfl rfl rfl rfl ?_
    obtain ⟨n11, f12, ef12, hi, H⟩ := H
    refine g_step (pc2 := 43) hk rfl rfl rfl (s_aget (L := L) (xs := xs) ef12 hi) ?_
    refine g_s1 (pc2 := 44) hk rfl rfl rfl rfl rfl ?_
    obtain ⟨v13, ev13, H⟩ := H
    refine g_step (pc2 := 47) hk rfl rfl rfl (s_get ev13) ?_
    refine g_s1 (pc2 := 48) hk rfl rfl rfl rfl rfl ?_
    obtain ⟨n14, f15, ef15, hi, H⟩ := H
    refine g_step (pc2 := 49) hk rfl rfl rfl (s_aget (L := L) (xs := xs) ef15 hi) ?_
    refine g_s1 (pc2 := 50) hk rfl rfl rfl rfl rfl ?_
    refine g_s1 (pc2 := 52) (lo2 := [some (.ref x0), some (.int x1), some (.int x2), some (.int x3), some (.int ((x1 * (48 : Int32)) + x2)), some (.int ((f6 x2.toNatClampNeg) - (f9 x1.toNatClampNeg))), some (.int ((f12 x2.toNatClampNeg) - (f15 x1.toNatClampNeg))), x7, x8, x9, x10, x11]) hk rfl rfl rfl rfl rfl ?_
    refine g_s1 (pc2 := 53) (st2 := [.long (0 : Int64)]) hk rfl rfl rfl rfl rfl ?_
    refine g_s1 (pc2 := 55) (lo2 := [some (.ref x0), some (.int x1), some (.int x2), some (.int x3), some (.int ((x1 * (48 : Int32)) + x2)), some (.int ((f6 x2.toNatClampNeg) - (f9 x1.toNatClampNeg))), some (.int ((f12 x2.toNatClampNeg) - (f15 x1.toNatClampNeg))), some (.long (0 : Int64)), none, x9, x10, x11]) hk rfl rfl rfl rfl rfl ?_
    refine g_s1 (pc2 := 56) (st2 := [.int (1 : Int32)]) hk rfl rfl rfl rfl rfl ?_
    refine g_s1 (pc2 := 58) (lo2 := [some (.ref x0), some (.int x1), some (.int x2), some (.int x3), some (.int ((x1 * (48 : Int32)) + x2)), some (.int ((f6 x2.toNatClampNeg) - (f9 x1.toNatClampNeg))), some (.int ((f12 x2.toNatClampNeg) - (f15 x1.toNatClampNeg))), some (.long (0 : Int64)), none, some (.int (1 : Int32)), x10, x11]) hk rfl rfl rfl rfl rfl ?_
    exact H
theorem b29_58 {x0 : Nat} {x1 : Int32} {x2 : Int32} {x3 : Int32} {x4 : Int32} {x5 : Int32} {x6 : Int32} {x7 : Int64} {x9 : Int32} {x10 : Option Value} {x11 : Option Value} {h : iH} {Q : Option Value → iH → Prop} (H : ((x3 ≤ x9 → (∃ v1 : Nat, i_fld h x0 2 9 = some (.ref v1) ∧ (∃ (n2 : Nat) (f3 : Nat → Int64), i_arJ h v1 = some (n2, f3) ∧ ¬ (x4 < 0 ∨ n2 ≤ x4.toNatClampNeg) ∧ i_P i_MT i_AT L xs 29 148 [some (.ref x0), some (.int x1), some (.int x2), some (.int x3), some (.int x4), some (.int x5), some (.int x6), some (.long x7), none, some (.int x9), x10, x11] [] (i_siJ h v1 x4.toNatClampNeg x7) 0 0 Q))) ∧ (¬ (x3 ≤ x9) → (∃ v4 : Nat, i_fld h x0 2 7 = some (.ref v4) ∧ (∃ (n5 : Nat) (f6 : Nat → Int32), i_arI h 0 v4 = some (n5, f6) ∧ ¬ (x1 < 0 ∨ n5 ≤ x1.toNatClampNeg) ∧ (¬ ((2 : Int32) * x3) = 0 ∧ (∃ v7 : Nat, i_fld h x0 2 8 = some (.ref v7) ∧ (∃ (n8 : Nat) (f9 : Nat → Int32), i_arI h 0 v7 = some (n8, f9) ∧ ¬ (x1 < 0 ∨ n8 ≤ x1.toNatClampNeg) ∧ (¬ ((2 : Int32) * x3) = 0 ∧ (∃ v10 : Int32, i_fld h x0 2 0 = some (.int v10) ∧ i_P i_MT i_AT L xs 29 58 [some (.ref x0), some (.int x1), some (.int x2), some (.int x3), some (.int x4), some (.int x5), some (.int x6), some (.long (x7 ||| ((1 : Int64) <<< (((((((((2 : Int32) * x3) * (f9 x1.toNatClampNeg)) + (((2 : Int32) * x9) * x6)) + x3) / ((2 : Int32) * x3)) * v10) + ((((((2 : Int32) * x3) * (f6 x1.toNatClampNeg)) + (((2 : Int32) * x9) * x5)) + x3) / ((2 : Int32) * x3))).toInt64 &&& 63)))), none, some (.int (x9 + 1)), some (.int ((((((2 : Int32) * x3) * (f6 x1.toNatClampNeg)) + (((2 : Int32) * x9) * x5)) + x3) / ((2 : Int32) * x3))), some (.int ((((((2 : Int32) * x3) * (f9 x1.toNatClampNeg)) + (((2 : Int32) * x9) * x6)) + x3) / ((2 : Int32) * x3)))] [] h 0 0 Q)))))))))) : i_P i_MT i_AT L xs 29 58 [some (.ref x0), some (.int x1), some (.int x2), some (.int x3), some (.int x4), some (.int x5), some (.int x6), some (.long x7), none, some (.int x9), x10, x11] [] h 0 0 Q := by
  have hk := i_k29
  refine g_s1 (pc2 := 60) hk rfl rfl rfl rfl rfl ?_
  refine g_s1 (pc2 := 61) hk rfl rfl rfl rfl rfl ?_
  refine g_icmp_ge hk rfl (fun hc => ?_) (fun hc => ?_)
  · have H := H.1 hc
    refine g_s1 (pc2 := 140) hk rfl rfl rfl rfl rfl ?_
    obtain ⟨v1, ev1, H⟩ := H
    refine g_step (pc2 := 143) hk rfl rfl rfl (s_get ev1) ?_
    refine g_s1 (pc2 := 145) hk rfl rfl rfl rfl rfl ?_
    refine g_s1 (pc2 := 147) hk rfl rfl rfl rfl rfl ?_
    obtain ⟨n2, f3, ef3, hi, H⟩ := H
    refine g_step (pc2 := 148) hk rfl rfl rfl (s_lput ef3 hi) ?_
    exact H
  · have H := H.2 hc
    refine g_s1 (pc2 := 65) (st2 := [.int (2 : Int32)]) hk rfl rfl rfl rfl rfl ?_
    refine g_s1 (pc2 := 66) hk rfl rfl rfl rfl rfl ?_
    refine g_s1 (pc2 := 67) hk rfl rfl rfl rfl rfl ?_
    refine g_s1 (pc2 := 68) hk rfl rfl rfl rfl rfl ?_
    obtain ⟨v4, ev4, H⟩ := H
    refine g_step (pc2 := 71) hk rfl rfl rfl (s_get ev4) ?_
    refine g_s1 (pc2 := 72) hk rfl rfl rfl rfl rfl ?_
    obtain ⟨n5, f6, ef6, hi, H⟩ := H
    refine g_step (pc2 := 73) hk rfl rfl rfl (s_aget (L := L) (xs := xs) ef6 hi) ?_
    refine g_s1 (pc2 := 74) hk rfl rfl rfl rfl rfl ?_
    refine g_s1 (pc2 := 75) (st2 := [.int (2 : Int32), .int (((2 : Int32) * x3) * (f6 x1.toNatClampNeg))]) hk rfl rfl rfl rfl rfl ?_
    refine g_s1 (pc2 := 77) hk rfl rfl rfl rfl rfl ?_
    refine g_s1 (pc2 := 78) hk rfl rfl rfl rfl rfl ?_
    refine g_s1 (pc2 := 80) hk rfl rfl rfl rfl rfl ?_
    refine g_s1 (pc2 := 81) hk rfl rfl rfl rfl rfl ?_
    refine g_s1 (pc2 := 82) hk rfl rfl rfl rfl rfl ?_
    refine g_s1 (pc2 := 83) hk rfl rfl rfl rfl rfl ?_
    refine g_s1 (pc2 := 84) hk rfl rfl rfl rfl rfl ?_
    refine g_s1 (pc2 := 85) (st2 := [.int (2 : Int32), .int (((((2 : Int32) * x3) * (f6 x1.toNatClampNeg)) + (((2 : Int32) * x9) * x5)) + x3)]) hk rfl rfl rfl rfl rfl ?_
    refine g_s1 (pc2 := 86) hk rfl rfl rfl rfl rfl ?_
    refine g_s1 (pc2 := 87) hk rfl rfl rfl rfl rfl ?_
    obtain ⟨hz, H⟩ := H
    refine g_s1 (pc2 := 88) hk rfl rfl rfl rfl (s_if hz) ?_
    refine g_s1 (pc2 := 90) (lo2 := [some (.ref x0), some (.int x1), some (.int x2), some (.int x3), some (.int x4), some (.int x5), some (.int x6), some (.long x7), none, some (.int x9), some (.int ((((((2 : Int32) * x3) * (f6 x1.toNatClampNeg)) + (((2 : Int32) * x9) * x5)) + x3) / ((2 : Int32) * x3))), x11]) hk rfl rfl rfl rfl rfl ?_
    refine g_s1 (pc2 := 91) (st2 := [.int (2 : Int32)]) hk rfl rfl rfl rfl rfl ?_
    refine g_s1 (pc2 := 92) hk rfl rfl rfl rfl rfl ?_
    refine g_s1 (pc2 := 93) hk rfl rfl rfl rfl rfl ?_
    refine g_s1 (pc2 := 94) hk rfl rfl rfl rfl rfl ?_
    obtain ⟨v7, ev7, H⟩ := H
    refine g_step (pc2 := 97) hk rfl rfl rfl (s_get ev7) ?_
    refine g_s1 (pc2 := 98) hk rfl rfl rfl rfl rfl ?_
    obtain ⟨n8, f9, ef9, hi, H⟩ := H
    refine g_step (pc2 := 99) hk rfl rfl rfl (s_aget (L := L) (xs := xs) ef9 hi) ?_
    refine g_s1 (pc2 := 100) hk rfl rfl rfl rfl rfl ?_
    refine g_s1 (pc2 := 101) (st2 := [.int (2 : Int32), .int (((2 : Int32) * x3) * (f9 x1.toNatClampNeg))]) hk rfl rfl rfl rfl rfl ?_
    refine g_s1 (pc2 := 103) hk rfl rfl rfl rfl rfl ?_
    refine g_s1 (pc2 := 104) hk rfl rfl rfl rfl rfl ?_
    refine g_s1 (pc2 := 106) hk rfl rfl rfl rfl rfl ?_
    refine g_s1 (pc2 := 107) hk rfl rfl rfl rfl rfl ?_
    refine g_s1 (pc2 := 108) hk rfl rfl rfl rfl rfl ?_
    refine g_s1 (pc2 := 109) hk rfl rfl rfl rfl rfl ?_
    refine g_s1 (pc2 := 110) hk rfl rfl rfl rfl rfl ?_
    refine g_s1 (pc2 := 111) (st2 := [.int (2 : Int32), .int (((((2 : Int32) * x3) * (f9 x1.toNatClampNeg)) + (((2 : Int32) * x9) * x6)) + x3)]) hk rfl rfl rfl rfl rfl ?_
    refine g_s1 (pc2 := 112) hk rfl rfl rfl rfl rfl ?_
    refine g_s1 (pc2 := 113) hk rfl rfl rfl rfl rfl ?_
    obtain ⟨hz, H⟩ := H
    refine g_s1 (pc2 := 114) hk rfl rfl rfl rfl (s_if hz) ?_
    refine g_s1 (pc2 := 116) (lo2 := [some (.ref x0), some (.int x1), some (.int x2), some (.int x3), some (.int x4), some (.int x5), some (.int x6), some (.long x7), none, some (.int x9), some (.int ((((((2 : Int32) * x3) * (f6 x1.toNatClampNeg)) + (((2 : Int32) * x9) * x5)) + x3) / ((2 : Int32) * x3))), some (.int ((((((2 : Int32) * x3) * (f9 x1.toNatClampNeg)) + (((2 : Int32) * x9) * x6)) + x3) / ((2 : Int32) * x3)))]) hk rfl rfl rfl rfl rfl ?_
    refine g_s1 (pc2 := 118) hk rfl rfl rfl rfl rfl ?_
    refine g_s1 (pc2 := 119) (st2 := [.long (1 : Int64), .long x7]) hk rfl rfl rfl rfl rfl ?_
    refine g_s1 (pc2 := 121) hk rfl rfl rfl rfl rfl ?_
    refine g_s1 (pc2 := 122) hk rfl rfl rfl rfl rfl ?_
    obtain ⟨v10, ev10, H⟩ := H
    refine g_step (pc2 := 125) hk rfl rfl rfl (s_get ev10) ?_
    refine g_s1 (pc2 := 126) hk rfl rfl rfl rfl rfl ?_
    refine g_s1 (pc2 := 128) hk rfl rfl rfl rfl rfl ?_
    refine g_s1 (pc2 := 129) hk rfl rfl rfl rfl rfl ?_
    refine g_s1 (pc2 := 130) hk rfl rfl rfl rfl rfl ?_
    refine g_s1 (pc2 := 131) hk rfl rfl rfl rfl rfl ?_
    refine g_s1 (pc2 := 133) (lo2 := [some (.ref x0), some (.int x1), some (.int x2), some (.int x3), some (.int x4), some (.int x5), some (.int x6), some (.long (x7 ||| ((1 : Int64) <<< (((((((((2 : Int32) * x3) * (f9 x1.toNatClampNeg)) + (((2 : Int32) * x9) * x6)) + x3) / ((2 : Int32) * x3)) * v10) + ((((((2 : Int32) * x3) * (f6 x1.toNatClampNeg)) + (((2 : Int32) * x9) * x5)) + x3) / ((2 : Int32) * x3))).toInt64 &&& 63)))), none, some (.int x9), some (.int ((((((2 : Int32) * x3) * (f6 x1.toNatClampNeg)) + (((2 : Int32) * x9) * x5)) + x3) / ((2 : Int32) * x3))), some (.int ((((((2 : Int32) * x3) * (f9 x1.toNatClampNeg)) + (((2 : Int32) * x9) * x6)) + x3) / ((2 : Int32) * x3)))]) hk rfl rfl rfl rfl rfl ?_
    refine g_s1 (pc2 := 136) (lo2 := [some (.ref x0), some (.int x1), some (.int x2), some (.int x3), some (.int x4), some (.int x5), some (.int x6), some (.long (x7 ||| ((1 : Int64) <<< (((((((((2 : Int32) * x3) * (f9 x1.toNatClampNeg)) + (((2 : Int32) * x9) * x6)) + x3) / ((2 : Int32) * x3)) * v10) + ((((((2 : Int32) * x3) * (f6 x1.toNatClampNeg)) + (((2 : Int32) * x9) * x5)) + x3) / ((2 : Int32) * x3))).toInt64 &&& 63)))), none, some (.int (x9 + 1)), some (.int ((((((2 : Int32) * x3) * (f6 x1.toNatClampNeg)) + (((2 : Int32) * x9) * x5)) + x3) / ((2 : Int32) * x3))), some (.int ((((((2 : Int32) * x3) * (f9 x1.toNatClampNeg)) + (((2 : Int32) * x9) * x6)) + x3) / ((2 : Int32) * x3)))]) hk rfl rfl rfl rfl rfl ?_
    refine g_s1 (pc2 := 58) hk rfl rfl rfl rfl rfl ?_
    exact H
theorem b29_148 {x0 : Nat} {x1 : Int32} {x2 : Int32} {x3 : Int32} {x4 : Int32} {x5 : Option Value} {x6 : Option Value} {x7 : Option Value} {x8 : Option Value} {x9 : Option Value} {x10 : Option Value} {x11 : Option Value} {h : iH} {Q : Option Value → iH → Prop} (H : (∃ v1 : Nat, i_fld h x0 2 9 = some (.ref v1) ∧ (∃ (n2 : Nat) (f3 : Nat → Int64), i_arJ h v1 = some (n2, f3) ∧ ¬ (x4 < 0 ∨ n2 ≤ x4.toNatClampNeg) ∧ Q (some (.long (f3 x4.toNatClampNeg))) h))) : i_P i_MT i_AT L xs 29 148 [some (.ref x0), some (.int x1), some (.int x2), some (.int x3), some (.int x4), x5, x6, x7, x8, x9, x10, x11] [] h 0 0 Q := by
  have hk := i_k29
  refine g_s1 (pc2 := 149) hk rfl rfl rfl rfl rfl ?_
  obtain ⟨v1, ev1, H⟩ := H
  refine g_step (pc2 := 152) hk rfl rfl rfl (s_get ev1) ?_
  refine g_s1 (pc2 := 154) hk rfl rfl rfl rfl rfl ?_
  obtain ⟨n2, f3, ef3, hi, H⟩ := H
  refine g_step (pc2 := 155) hk rfl rfl rfl (s_lget ef3 hi) ?_
  exact g_lreturn hk rfl (by decide) (by decide) rfl H
/-! StillTown$Grid.cone(II)J -/
theorem e30 {x0 : Nat} {x1 : Int32} {x2 : Int32} {h : iH} {Q : Option Value → iH → Prop} (H : i_P i_MT i_AT L xs 30 0 [some (.ref x0), some (.int x1), some (.int x2), none, none, none, none, none, none, none, none] [] h 0 0 Q) : i_C i_MT i_AT L xs 30 [.ref x0, .int x1, .int x2] h Q := ⟨i_m30, i_k30.1, Nat.le_of_ble_eq_true rfl, H⟩
theorem b30_0 {x0 : Nat} {x1 : Int32} {x2 : Int32} {x3 : Option Value} {x4 : Option Value} {x5 : Option Value} {x6 : Option Value} {x7 : Option Value} {x8 : Option Value} {x9 : Option Value} {x10 : Option Value} {h : iH} {Q : Option Value → iH → Prop} (H : (∃ v1 : Nat, i_fld h x0 2 10 = some (.ref v1) ∧ (∃ (n2 : Nat) (f3 : Nat → Int64), i_arJ h v1 = some (n2, f3) ∧ ¬ (((x1 * (8 : Int32)) + x2) < 0 ∨ n2 ≤ ((x1 * (8 : Int32)) + x2).toNatClampNeg) ∧ ((¬ (lg_cmp (f3 ((x1 * (8 : Int32)) + x2).toNatClampNeg) (-1 : Int64)) = 0 → i_P i_MT i_AT L xs 30 148 [some (.ref x0), some (.int x1), some (.int x2), some (.int ((x1 * (8 : Int32)) + x2)), x4, x5, x6, x7, x8, x9, x10] [] h 0 0 Q) ∧ (¬ (¬ (lg_cmp (f3 ((x1 * (8 : Int32)) + x2).toNatClampNeg) (-1 : Int64)) = 0) → i_P i_MT i_AT L xs 30 26 [some (.ref x0), some (.int x1), some (.int x2), some (.int ((x1 * (8 : Int32)) + x2)), some (.long (0 : Int64)), none, some (.int (0 : Int32)), x7, x8, x9, x10] [] h 0 0 Q))))) : i_P i_MT i_AT L xs 30 0 [some (.ref x0), some (.int x1), some (.int x2), x3, x4, x5, x6, x7, x8, x9, x10] [] h 0 0 Q := by
  have hk := i_k30
  refine g_s1 (pc2 := 1) hk rfl rfl rfl rfl rfl ?_
  refine g_s1 (pc2 := 3) (st2 := [.int (8 : Int32), .int x1]) hk rfl rfl rfl rfl rfl ?_
  refine g_s1 (pc2 := 4) hk rfl rfl rfl rfl rfl ?_
  refine g_s1 (pc2 := 5) hk rfl rfl rfl rfl rfl ?_
  refine g_s1 (pc2 := 6) hk rfl rfl rfl rfl rfl ?_
  refine g_s1 (pc2 := 7) (lo2 := [some (.ref x0), some (.int x1), some (.int x2), some (.int ((x1 * (8 : Int32)) + x2)), x4, x5, x6, x7, x8, x9, x10]) hk rfl rfl rfl rfl rfl ?_
  refine g_s1 (pc2 := 8) hk rfl rfl rfl rfl rfl ?_
  obtain ⟨v1, ev1, H⟩ := H
  refine g_step (pc2 := 11) hk rfl rfl rfl (s_get ev1) ?_
  refine g_s1 (pc2 := 12) hk rfl rfl rfl rfl rfl ?_
  obtain ⟨n2, f3, ef3, hi, H⟩ := H
  refine g_step (pc2 := 13) hk rfl rfl rfl (s_lget ef3 hi) ?_
  refine g_step (pc2 := 16) (st2 := [.long (-1 : Int64), .long (f3 ((x1 * (8 : Int32)) + x2).toNatClampNeg)]) hk rfl rfl rfl rfl ?_
  refine g_s1 (pc2 := 17) hk rfl rfl rfl rfl rfl ?_
  refine g_if_ne hk rfl (fun hc => ?_) (fun hc => ?_)
  · have H := H.1 hc
    exact H
  · have H := H.2 hc
    refine g_s1 (pc2 := 21) (st2 := [.long (0 : Int64)]) hk rfl rfl rfl rfl rfl ?_
    refine g_s1 (pc2 := 23) (lo2 := [some (.ref x0), some (.int x1), some (.int x2), some (.int ((x1 * (8 : Int32)) + x2)), some (.long (0 : Int64)), none, x6, x7, x8, x9, x10]) hk rfl rfl rfl rfl rfl ?_
    refine g_s1 (pc2 := 24) (st2 := [.int (0 : Int32)]) hk rfl rfl rfl rfl rfl ?_
    refine g_s1 (pc2 := 26) (lo2 := [some (.ref x0), some (.int x1), some (.int x2), some (.int ((x1 * (8 : Int32)) + x2)), some (.long (0 : Int64)), none, some (.int (0 : Int32)), x7, x8, x9, x10]) hk rfl rfl rfl rfl rfl ?_
    exact H
theorem b30_26 {x0 : Nat} {x1 : Int32} {x2 : Int32} {x3 : Int32} {x4 : Int64} {x6 : Int32} {x7 : Option Value} {x8 : Option Value} {x9 : Option Value} {x10 : Option Value} {h : iH} {Q : Option Value → iH → Prop} (H : (∃ v1 : Int32, i_fld h x0 2 2 = some (.int v1) ∧ ((v1 ≤ x6 → (∃ v2 : Nat, i_fld h x0 2 10 = some (.ref v2) ∧ (∃ (n3 : Nat) (f4 : Nat → Int64), i_arJ h v2 = some (n3, f4) ∧ ¬ (x3 < 0 ∨ n3 ≤ x3.toNatClampNeg) ∧ i_P i_MT i_AT L xs 30 148 [some (.ref x0), some (.int x1), some (.int x2), some (.int x3), some (.long x4), none, some (.int x6), x7, x8, x9, x10] [] (i_siJ h v2 x3.toNatClampNeg x4) 0 0 Q))) ∧ (¬ (v1 ≤ x6) → (∃ v5 : Nat, i_fld h x0 2 7 = some (.ref v5) ∧ (∃ (n6 : Nat) (f7 : Nat → Int32), i_arI h 0 v5 = some (n6, f7) ∧ ¬ (x6 < 0 ∨ n6 ≤ x6.toNatClampNeg) ∧ (∃ v8 : Nat, i_fld h x0 2 7 = some (.ref v8) ∧ (∃ (n9 : Nat) (f10 : Nat → Int32), i_arI h 0 v8 = some (n9, f10) ∧ ¬ (x1 < 0 ∨ n9 ≤ x1.toNatClampNeg) ∧ (∃ v11 : Nat, i_fld h x0 2 8 = some (.ref v11) ∧ (∃ (n12 : Nat) (f13 : Nat → Int32), i_arI h 0 v11 = some (n12, f13) ∧ ¬ (x6 < 0 ∨ n12 ≤ x6.toNatClampNeg) ∧ (∃ v14 : Nat, i_fld h x0 2 8 = some (.ref v14) ∧ (∃ (n15 : Nat) (f16 : Nat → Int32), i_arI h 0 v14 = some (n15, f16) ∧ ¬ (x1 < 0 ∨ n15 ≤ x1.toNatClampNeg) ∧ (¬ (x2 < 0 ∨ 8 ≤ x2.toNatClampNeg) ∧ (¬ (x2 < 0 ∨ 8 ≤ x2.toNatClampNeg) ∧ (¬ (x2 < 0 ∨ 8 ≤ x2.toNatClampNeg) ∧ (¬ (x2 < 0 ∨ 8 ≤ x2.toNatClampNeg) ∧ ((((((f7 x6.toNatClampNeg) - (f10 x1.toNatClampNeg)) * (i_EAST x2.toNatClampNeg)) + (((f13 x6.toNatClampNeg) - (f16 x1.toNatClampNeg)) * (i_SOUTH x2.toNatClampNeg))) ≤ 0 → i_P i_MT i_AT L xs 30 134 [some (.ref x0), some (.int x1), some (.int x2), some (.int x3), some (.long x4), none, some (.int x6), some (.int ((f7 x6.toNatClampNeg) - (f10 x1.toNatClampNeg))), some (.int ((f13 x6.toNatClampNeg) - (f16 x1.toNatClampNeg))), some (.int ((((f7 x6.toNatClampNeg) - (f10 x1.toNatClampNeg)) * (i_EAST x2.toNatClampNeg)) + (((f13 x6.toNatClampNeg) - (f16 x1.toNatClampNeg)) * (i_SOUTH x2.toNatClampNeg)))), some (.int ((((f7 x6.toNatClampNeg) - (f10 x1.toNatClampNeg)) * (i_SOUTH x2.toNatClampNeg)) - (((f13 x6.toNatClampNeg) - (f16 x1.toNatClampNeg)) * (i_EAST x2.toNatClampNeg))))] [] h 0 0 Q) ∧ (¬ (((((f7 x6.toNatClampNeg) - (f10 x1.toNatClampNeg)) * (i_EAST x2.toNatClampNeg)) + (((f13 x6.toNatClampNeg) - (f16 x1.toNatClampNeg)) * (i_SOUTH x2.toNatClampNeg))) ≤ 0) → ((((((f7 x6.toNatClampNeg) - (f10 x1.toNatClampNeg)) * (i_EAST x2.toNatClampNeg)) + (((f13 x6.toNatClampNeg) - (f16 x1.toNatClampNeg)) * (i_SOUTH x2.toNatClampNeg))) < ((((f7 x6.toNatClampNeg) - (f10 x1.toNatClampNeg)) * (i_SOUTH x2.toNatClampNeg)) - (((f13 x6.toNatClampNeg) - (f16 x1.toNatClampNeg)) * (i_EAST x2.toNatClampNeg))) → i_P i_MT i_AT L xs 30 134 [some (.ref x0), some (.int x1), some (.int x2), some (.int x3), some (.long x4), none, some (.int x6), some (.int ((f7 x6.toNatClampNeg) - (f10 x1.toNatClampNeg))), some (.int ((f13 x6.toNatClampNeg) - (f16 x1.toNatClampNeg))), some (.int ((((f7 x6.toNatClampNeg) - (f10 x1.toNatClampNeg)) * (i_EAST x2.toNatClampNeg)) + (((f13 x6.toNatClampNeg) - (f16 x1.toNatClampNeg)) * (i_SOUTH x2.toNatClampNeg)))), some (.int ((((f7 x6.toNatClampNeg) - (f10 x1.toNatClampNeg)) * (i_SOUTH x2.toNatClampNeg)) - (((f13 x6.toNatClampNeg) - (f16 x1.toNatClampNeg)) * (i_EAST x2.toNatClampNeg))))] [] h 0 0 Q) ∧ (¬ (((((f7 x6.toNatClampNeg) - (f10 x1.toNatClampNeg)) * (i_EAST x2.toNatClampNeg)) + (((f13 x6.toNatClampNeg) - (f16 x1.toNatClampNeg)) * (i_SOUTH x2.toNatClampNeg))) < ((((f7 x6.toNatClampNeg) - (f10 x1.toNatClampNeg)) * (i_SOUTH x2.toNatClampNeg)) - (((f13 x6.toNatClampNeg) - (f16 x1.toNatClampNeg)) * (i_EAST x2.toNatClampNeg)))) → ((((((f7 x6.toNatClampNeg) - (f10 x1.toNatClampNeg)) * (i_EAST x2.toNatClampNeg)) + (((f13 x6.toNatClampNeg) - (f16 x1.toNatClampNeg)) * (i_SOUTH x2.toNatClampNeg))) < (-((((f7 x6.toNatClampNeg) - (f10 x1.toNatClampNeg)) * (i_SOUTH x2.toNatClampNeg)) - (((f13 x6.toNatClampNeg) - (f16 x1.toNatClampNeg)) * (i_EAST x2.toNatClampNeg)))) → i_P i_MT i_AT L xs 30 134 [some (.ref x0), some (.int x1), some (.int x2), some (.int x3), some (.long x4), none, some (.int x6), some (.int ((f7 x6.toNatClampNeg) - (f10 x1.toNatClampNeg))), some (.int ((f13 x6.toNatClampNeg) - (f16 x1.toNatClampNeg))), some (.int ((((f7 x6.toNatClampNeg) - (f10 x1.toNatClampNeg)) * (i_EAST x2.toNatClampNeg)) + (((f13 x6.toNatClampNeg) - (f16 x1.toNatClampNeg)) * (i_SOUTH x2.toNatClampNeg)))), some (.int ((((f7 x6.toNatClampNeg) - (f10 x1.toNatClampNeg)) * (i_SOUTH x2.toNatClampNeg)) - (((f13 x6.toNatClampNeg) - (f16 x1.toNatClampNeg)) * (i_EAST x2.toNatClampNeg))))] [] h 0 0 Q) ∧ (¬ (((((f7 x6.toNatClampNeg) - (f10 x1.toNatClampNeg)) * (i_EAST x2.toNatClampNeg)) + (((f13 x6.toNatClampNeg) - (f16 x1.toNatClampNeg)) * (i_SOUTH x2.toNatClampNeg))) < (-((((f7 x6.toNatClampNeg) - (f10 x1.toNatClampNeg)) * (i_SOUTH x2.toNatClampNeg)) - (((f13 x6.toNatClampNeg) - (f16 x1.toNatClampNeg)) * (i_EAST x2.toNatClampNeg))))) → i_P i_MT i_AT L xs 30 134 [some (.ref x0), some (.int x1), some (.int x2), some (.int x3), some (.long (x4 ||| ((1 : Int64) <<< (x6.toInt64 &&& 63)))), none, some (.int x6), some (.int ((f7 x6.toNatClampNeg) - (f10 x1.toNatClampNeg))), some (.int ((f13 x6.toNatClampNeg) - (f16 x1.toNatClampNeg))), some (.int ((((f7 x6.toNatClampNeg) - (f10 x1.toNatClampNeg)) * (i_EAST x2.toNatClampNeg)) + (((f13 x6.toNatClampNeg) - (f16 x1.toNatClampNeg)) * (i_SOUTH x2.toNatClampNeg)))), some (.int ((((f7 x6.toNatClampNeg) - (f10 x1.toNatClampNeg)) * (i_SOUTH x2.toNatClampNeg)) - (((f13 x6.toNatClampNeg) - (f16 x1.toNatClampNeg)) * (i_EAST x2.toNatClampNeg))))] [] h 0 0 Q)))))))))))))))))))))) : i_P i_MT i_AT L xs 30 26 [some (.ref x0), some (.int x1), some (.int x2), some (.int x3), some (.long x4), none, some (.int x6), x7, x8, x9, x10] [] h 0 0 Q := by
  have hk := i_k30
  refine g_s1 (pc2 := 28) hk rfl rfl rfl rfl rfl ?_
  refine g_s1 (pc2 := 29) hk rfl rfl rfl rfl rfl ?_
  obtain ⟨v1, ev1, H⟩ := H
  refine g_step (pc2 := 32) hk rfl rfl rfl (s_get ev1) ?_
  refine g_icmp_ge hk rfl (fun hc => ?_) (fun hc => ?_)
  · have H := H.1 hc
    refine g_s1 (pc2 := 141) hk rfl rfl rfl rfl rfl ?_
    obtain ⟨v2, ev2, H⟩ := H
    refine g_step (pc2 := 144) hk rfl rfl rfl (s_get ev2) ?_
    refine g_s1 (pc2 := 145) hk rfl rfl rfl rfl rfl ?_
    refine g_s1 (pc2 := 147) hk rfl rfl rfl rfl rfl ?_
    obtain ⟨n3, f4, ef4, hi, H⟩ := H
    refine g_step (pc2 := 148) hk rfl rfl rfl (s_lput ef4 hi) ?_
    exact H
  · have H := H.2 hc
    refine g_s1 (pc2 := 36) hk rfl rfl rfl rfl rfl ?_
    obtain ⟨v5, ev5, H⟩ := H
    refine g_step (pc2 := 39) hk rfl rfl rfl (s_get ev5) ?_
    refine g_s1 (pc2 := 41) hk rfl rfl rfl rfl rfl ?_
    obtain ⟨n6, f7, ef7, hi, H⟩ := H
    refine g_step (pc2 := 42) hk rfl rfl rfl (s_aget (L := L) (xs := xs) ef7 hi) ?_
    refine g_s1 (pc2 := 43) hk rfl rfl rfl rfl rfl ?_
    obtain ⟨v8, ev8, H⟩ := H
    refine g_step (pc2 := 46) hk rfl rfl rfl (s_get ev8) ?_
    refine g_s1 (pc2 := 47) hk rfl rfl rfl rfl rfl ?_
    obtain ⟨n9, f10, ef10, hi, H⟩ := H
    refine g_step (pc2 := 48) hk rfl rfl rfl (s_aget (L := L) (xs := xs) ef10 hi) ?_
    refine g_s1 (pc2 := 49) hk rfl rfl rfl rfl rfl ?_
    refine g_s1 (pc2 := 51) (lo2 := [some (.ref x0), some (.int x1), some (.int x2), some (.int x3), some (.long x4), none, some (.int x6), some (.int ((f7 x6.toNatClampNeg) - (f10 x1.toNatClampNeg))), x8, x9, x10]) hk rfl rfl rfl rfl rfl ?_
    refine g_s1 (pc2 := 52) hk rfl rfl rfl rfl rfl ?_
    obtain ⟨v11, ev11, H⟩ := H
    refine g_step (pc2 := 55) hk rfl rfl rfl (s_get ev11) ?_
    refine g_s1 (pc2 := 57) hk rfl rfl rfl rfl rfl ?_
    obtain ⟨n12, f13, ef13, hi, H⟩ := H
    refine g_step (pc2 := 58) hk rfl rfl rfl (s_aget (L := L) (xs := xs) ef13 hi) ?_
    refine g_s1 (pc2 := 59) hk rfl rfl rfl rfl rfl ?_
    obtain ⟨v14, ev14, H⟩ := H
    refine g_step (pc2 := 62) hk rfl rfl rfl (s_get ev14) ?_
    refine g_s1 (pc2 := 63) hk rfl rfl rfl rfl rfl ?_
    obtain ⟨n15, f16, ef16, hi, H⟩ := H
    refine g_step (pc2 := 64) hk rfl rfl rfl (s_aget (L := L) (xs := xs) ef16 hi) ?_
    refine g_s1 (pc2 := 65) hk rfl rfl rfl rfl rfl ?_
    refine g_s1 (pc2 := 67) (lo2 := [some (.ref x0), some (.int x1), some (.int x2), some (.int x3), some (.long x4), none, some (.int x6), some (.int ((f7 x6.toNatClampNeg) - (f10 x1.toNatClampNeg))), some (.int ((f13 x6.toNatClampNeg) - (f16 x1.toNatClampNeg))), x9, x10]) hk rfl rfl rfl rfl rfl ?_
    refine g_s1 (pc2 := 69) hk rfl rfl rfl rfl rfl ?_
    refine g_step (pc2 := 72) (st2 := [.retAddr 0, .int ((f7 x6.toNatClampNeg) - (f10 x1.toNatClampNeg))]) hk rfl rfl rfl rfl ?_
    refine g_s1 (pc2 := 73) hk rfl rfl rfl rfl rfl ?_
    obtain ⟨hi, H⟩ := H
    refine g_step (pc2 := 74) hk rfl rfl rfl (s_agetX (L := L) (xs := xs) (j := 0) rfl hi) ?_
    refine g_s1 (pc2 := 75) hk rfl rfl rfl rfl rfl ?_
    refine g_s1 (pc2 := 77) hk rfl rfl rfl rfl rfl ?_
    refine g_step (pc2 := 80) (st2 := [.retAddr 1, .int ((f13 x6.toNatClampNeg) - (f16 x1.toNatClampNeg)), .int (((f7 x6.toNatClampNeg) - (f10 x1.toNatClampNeg)) * (i_EAST x2.toNatClampNeg))]) hk rfl rfl rfl rfl ?_
    refine g_s1 (pc2 := 81) hk rfl rfl rfl rfl rfl ?_
    obtain ⟨hi, H⟩ := H
    refine g_step (pc2 := 82) hk rfl rfl rfl (s_agetX (L := L) (xs := xs) (j := 1) rfl hi) ?_
    refine g_s1 (pc2 := 83) hk rfl rfl rfl rfl rfl ?_
    refine g_s1 (pc2 := 84) hk rfl rfl rfl rfl rfl ?_
    refine g_s1 (pc2 := 86) (lo2 := [some (.ref x0), some (.int x1), some (.int x2), some (.int x3), some (.long x4), none, some (.int x6), some (.int ((f7 x6.toNatClampNeg) - (f10 x1.toNatClampNeg))), some (.int ((f13 x6.toNatClampNeg) - (f16 x1.toNatClampNeg))), some (.int ((((f7 x6.toNatClampNeg) - (f10 x1.toNatClampNeg)) * (i_EAST x2.toNatClampNeg)) + (((f13 x6.toNatClampNeg) - (f16 x1.toNatClampNeg)) * (i_SOUTH x2.toNatClampNeg)))), x10]) hk rfl rfl rfl rfl rfl ?_
    refine g_s1 (pc2 := 88) hk rfl rfl rfl rfl rfl ?_
    refine g_step (pc2 := 91) (st2 := [.retAddr 1, .int ((f7 x6.toNatClampNeg) - (f10 x1.toNatClampNeg))]) hk rfl rfl rfl rfl ?_
    refine g_s1 (pc2 := 92) hk rfl rfl rfl rfl rfl ?_
    obtain ⟨hi, H⟩ := H
    refine g_step (pc2 := 93) hk rfl rfl rfl (s_agetX (L := L) (xs := xs) (j := 1) rfl hi) ?_
    refine g_s1 (pc2 := 94) hk rfl rfl rfl rfl rfl ?_
    refine g_s1 (pc2 := 96) hk rfl rfl rfl rfl rfl ?_
    refine g_step (pc2 := 99) (st2 := [.retAddr 0, .int ((f13 x6.toNatClampNeg) - (f16 x1.toNatClampNeg)), .int (((f7 x6.toNatClampNeg) - (f10 x1.toNatClampNeg)) * (i_SOUTH x2.toNatClampNeg))]) hk rfl rfl rfl rfl ?_
    refine g_s1 (pc2 := 100) hk rfl rfl rfl rfl rfl ?_
    obtain ⟨hi, H⟩ := H
    refine g_step (pc2 := 101) hk rfl rfl rfl (s_agetX (L := L) (xs := xs) (j := 0) rfl hi) ?_
    refine g_s1 (pc2 := 102) hk rfl rfl rfl rfl rfl ?_
    refine g_s1 (pc2 := 103) hk rfl rfl rfl rfl rfl ?_
    refine g_s1 (pc2 := 105) (lo2 := [some (.ref x0), some (.int x1), some (.int x2), some (.int x3), some (.long x4), none, some (.int x6), some (.int ((f7 x6.toNatClampNeg) - (f10 x1.toNatClampNeg))), some (.int ((f13 x6.toNatClampNeg) - (f16 x1.toNatClampNeg))), some (.int ((((f7 x6.toNatClampNeg) - (f10 x1.toNatClampNeg)) * (i_EAST x2.toNatClampNeg)) + (((f13 x6.toNatClampNeg) - (f16 x1.toNatClampNeg)) * (i_SOUTH x2.toNatClampNeg)))), some (.int ((((f7 x6.toNatClampNeg) - (f10 x1.toNatClampNeg)) * (i_SOUTH x2.toNatClampNeg)) - (((f13 x6.toNatClampNeg) - (f16 x1.toNatClampNeg)) * (i_EAST x2.toNatClampNeg))))]) hk rfl rfl rfl rfl rfl ?_
    refine g_s1 (pc2 := 107) hk rfl rfl rfl rfl rfl ?_
    refine g_if_le hk rfl (fun hc => ?_) (fun hc => ?_)
    · have H := H.1 hc
      exact H
    · have H := H.2 hc
      refine g_s1 (pc2 := 112) hk rfl rfl rfl rfl rfl ?_
      refine g_s1 (pc2 := 114) hk rfl rfl rfl rfl rfl ?_
      refine g_icmp_gt hk rfl (fun hc => ?_) (fun hc => ?_)
      · have H := H.1 hc
        exact H
      · have H := H.2 hc
        refine g_s1 (pc2 := 119) hk rfl rfl rfl rfl rfl ?_
        refine g_s1 (pc2 := 120) hk rfl rfl rfl rfl rfl ?_
        refine g_s1 (pc2 := 122) hk rfl rfl rfl rfl rfl ?_
        refine g_icmp_gt hk rfl (fun hc => ?_) (fun hc => ?_)
        · have H := H.1 hc
          exact H
        · have H := H.2 hc
          refine g_s1 (pc2 := 127) hk rfl rfl rfl rfl rfl ?_
          refine g_s1 (pc2 := 128) (st2 := [.long (1 : Int64), .long x4]) hk rfl rfl rfl rfl rfl ?_
          refine g_s1 (pc2 := 130) hk rfl rfl rfl rfl rfl ?_
          refine g_s1 (pc2 := 131) hk rfl rfl rfl rfl rfl ?_
          refine g_s1 (pc2 := 132) hk rfl rfl rfl rfl rfl ?_
          refine g_s1 (pc2 := 134) (lo2 := [some (.ref x0), some (.int x1), some (.int x2), some (.int x3), some (.long (x4 ||| ((1 : Int64) <<< (x6.toInt64 &&& 63)))), none, some (.int x6), some (.int ((f7 x6.toNatClampNeg) - (f10 x1.toNatClampNeg))), some (.int ((f13 x6.toNatClampNeg) - (f16 x1.toNatClampNeg))), some (.int ((((f7 x6.toNatClampNeg) - (f10 x1.toNatClampNeg)) * (i_EAST x2.toNatClampNeg)) + (((f13 x6.toNatClampNeg) - (f16 x1.toNatClampNeg)) * (i_SOUTH x2.toNatClampNeg)))), some (.int ((((f7 x6.toNatClampNeg) - (f10 x1.toNatClampNeg)) * (i_SOUTH x2.toNatClampNeg)) - (((f13 x6.toNatClampNeg) - (f16 x1.toNatClampNeg)) * (i_EAST x2.toNatClampNeg))))]) hk rfl rfl rfl rfl rfl ?_
          exact H
theorem b30_134 {x0 : Nat} {x1 : Int32} {x2 : Int32} {x3 : Int32} {x4 : Int64} {x6 : Int32} {x7 : Int32} {x8 : Int32} {x9 : Int32} {x10 : Int32} {h : iH} {Q : Option Value → iH → Prop} (H : i_P i_MT i_AT L xs 30 26 [some (.ref x0), some (.int x1), some (.int x2), some (.int x3), some (.long x4), none, some (.int (x6 + 1)), some (.int x7), some (.int x8), some (.int x9), some (.int x10)] [] h 0 0 Q) : i_P i_MT i_AT L xs 30 134 [some (.ref x0), some (.int x1), some (.int x2), some (.int x3), some (.long x4), none, some (.int x6), some (.int x7), some (.int x8), some (.int x9), some (.int x10)] [] h 0 0 Q := by
  have hk := i_k30
  refine g_s1 (pc2 := 137) (lo2 := [some (.ref x0), some (.int x1), some (.int x2), some (.int x3), some (.long x4), none, some (.int (x6 + 1)), some (.int x7), some (.int x8), some (.int x9), some (.int x10)]) hk rfl rfl rfl rfl rfl ?_
  refine g_s1 (pc2 := 26) hk rfl rfl rfl rfl rfl ?_
  exact H
theorem b30_148 {x0 : Nat} {x1 : Int32} {x2 : Int32} {x3 : Int32} {x4 : Option Value} {x5 : Option Value} {x6 : Option Value} {x7 : Option Value} {x8 : Option Value} {x9 : Option Value} {x10 : Option Value} {h : iH} {Q : Option Value → iH → Prop} (H : (∃ v1 : Nat, i_fld h x0 2 10 = some (.ref v1) ∧ (∃ (n2 : Nat) (f3 : Nat → Int64), i_arJ h v1 = some (n2, f3) ∧ ¬ (x3 < 0 ∨ n2 ≤ x3.toNatClampNeg) ∧ Q (some (.long (f3 x3.toNatClampNeg))) h))) : i_P i_MT i_AT L xs 30 148 [some (.ref x0), some (.int x1), some (.int x2), some (.int x3), x4, x5, x6, x7, x8, x9, x10] [] h 0 0 Q := by
  have hk := i_k30
  refine g_s1 (pc2 := 149) hk rfl rfl rfl rfl rfl ?_
  obtain ⟨v1, ev1, H⟩ := H
  refine g_step (pc2 := 152) hk rfl rfl rfl (s_get ev1) ?_
  refine g_s1 (pc2 := 153) hk rfl rfl rfl rfl rfl ?_
  obtain ⟨n2, f3, ef3, hi, H⟩ := H
  refine g_step (pc2 := 154) hk rfl rfl rfl (s_lget ef3 hi) ?_
  exact g_lreturn hk rfl (by decide) (by decide) rfl H
/-! StillTown$Grid.view(IIIJ)J -/
theorem e31 {x0 : Nat} {x1 : Int32} {x2 : Int32} {x3 : Int32} {x4 : Int64} {h : iH} {Q : Option Value → iH → Prop} (H : i_P i_MT i_AT L xs 31 0 [some (.ref x0), some (.int x1), some (.int x2), some (.int x3), some (.long x4), none, none, none, none, none, none, none] [] h 0 0 Q) : i_C i_MT i_AT L xs 31 [.ref x0, .int x1, .int x2, .int x3, .long x4] h Q := ⟨i_m31, i_k31.1, Nat.le_of_ble_eq_true rfl, H⟩
theorem b31_0 {x0 : Nat} {x1 : Int32} {x2 : Int32} {x3 : Int32} {x4 : Int64} {x6 : Option Value} {x7 : Option Value} {x8 : Option Value} {x9 : Option Value} {x10 : Option Value} {x11 : Option Value} {h : iH} {Q : Option Value → iH → Prop} (H : (i_obj? h x0 2 ∧ i_C i_MT i_AT L xs 30 [.ref x0, .int x1, .int x2] h (fun v h1 => ∃ r2 : Int64, v = some (.long r2) ∧ i_P i_MT i_AT L xs 31 6 [some (.ref x0), some (.int x1), some (.int x2), some (.int x3), some (.long x4), none, x6, x7, x8, x9, x10, x11] [.long r2] h1 0 0 Q))) : i_P i_MT i_AT L xs 31 0 [some (.ref x0), some (.int x1), some (.int x2), some (.int x3), some (.long x4), none, x6, x7, x8, x9, x10, x11] [] h 0 0 Q := by
  have hk := i_k31
  refine g_s1 (pc2 := 1) hk rfl rfl rfl rfl rfl ?_
  refine g_s1 (pc2 := 2) hk rfl rfl rfl rfl rfl ?_
  refine g_s1 (pc2 := 3) hk rfl rfl rfl rfl rfl ?_
  obtain ⟨ho, H⟩ := H
  refine g_call hk rfl rfl i_k30.1 ⟨rfl, rfl⟩ rfl (i_rcv_v ho rfl (by decide)) rfl ?_
  exact H.mono (fun v h2 q => by obtain ⟨r, rfl, q⟩ := q; exact q)
theorem b31_6 {x0 : Nat} {x1 : Int32} {x2 : Int32} {x3 : Int32} {x4 : Int64} {x6 : Option Value} {x7 : Option Value} {x8 : Option Value} {x9 : Option Value} {x10 : Option Value} {x11 : Option Value} {s0 : Int64} {h : iH} {Q : Option Value → iH → Prop} (H : i_P i_MT i_AT L xs 31 14 [some (.ref x0), some (.int x1), some (.int x2), some (.int x3), some (.long x4), none, some (.long s0), none, some (.long (0 : Int64)), none, some (.int (0 : Int32)), x11] [] h 0 0 Q) : i_P i_MT i_AT L xs 31 6 [some (.ref x0), some (.int x1), some (.int x2), some (.int x3), some (.long x4), none, x6, x7, x8, x9, x10, x11] [.long s0] h 0 0 Q := by
  have hk := i_k31
  refine g_s1 (pc2 := 8) (lo2 := [some (.ref x0), some (.int x1), some (.int x2), some (.int x3), some (.long x4), none, some (.long s0), none, x8, x9, x10, x11]) hk rfl rfl rfl rfl rfl ?_
  refine g_s1 (pc2 := 9) (st2 := [.long (0 : Int64)]) hk rfl rfl rfl rfl rfl ?_
  refine g_s1 (pc2 := 11) (lo2 := [some (.ref x0), some (.int x1), some (.int x2), some (.int x3), some (.long x4), none, some (.long s0), none, some (.long (0 : Int64)), none, x10, x11]) hk rfl rfl rfl rfl rfl ?_
  refine g_s1 (pc2 := 12) (st2 := [.int (0 : Int32)]) hk rfl rfl rfl rfl rfl ?_
  refine g_s1 (pc2 := 14) (lo2 := [some (.ref x0), some (.int x1), some (.int x2), some (.int x3), some (.long x4), none, some (.long s0), none, some (.long (0 : Int64)), none, some (.int (0 : Int32)), x11]) hk rfl rfl rfl rfl rfl ?_
  exact H
theorem b31_14 {x0 : Nat} {x1 : Int32} {x2 : Int32} {x3 : Int32} {x4 : Int64} {x6 : Int64} {x8 : Int64} {x10 : Int32} {x11 : Option Value} {h : iH} {Q : Option Value → iH → Prop} (H : (∃ v1 : Int32, i_fld h x0 2 2 = some (.int v1) ∧ ((v1 ≤ x10 → Q (some (.long x8)) h) ∧ (¬ (v1 ≤ x10) → (i_obj? h x0 2 ∧ i_C i_MT i_AT L xs 27 [.ref x0, .int x1, .int x10] h (fun v h2 => ∃ r3 : Int32, v = some (.int r3) ∧ i_P i_MT i_AT L xs 31 30 [some (.ref x0), some (.int x1), some (.int x2), some (.int x3), some (.long x4), none, some (.long x6), none, some (.long x8), none, some (.int x10), x11] [.int r3] h2 0 0 Q)))))) : i_P i_MT i_AT L xs 31 14 [some (.ref x0), some (.int x1), some (.int x2), some (.int x3), some (.long x4), none, some (.long x6), none, some (.long x8), none, some (.int x10), x11] [] h 0 0 Q := by
  have hk := i_k31
  refine g_s1 (pc2 := 16) hk rfl rfl rfl rfl rfl ?_
  refine g_s1 (pc2 := 17) hk rfl rfl rfl rfl rfl ?_
  obtain ⟨v1, ev1, H⟩ := H
  refine g_step (pc2 := 20) hk rfl rfl rfl (s_get ev1) ?_
  refine g_icmp_ge hk rfl (fun hc => ?_) (fun hc => ?_)
  · have H := H.1 hc
    refine g_s1 (pc2 := 82) hk rfl rfl rfl rfl rfl ?_
    exact g_lreturn hk rfl (by decide) (by decide) rfl H
  · have H := H.2 hc
    refine g_s1 (pc2 := 24) hk rfl rfl rfl rfl rfl ?_
    refine g_s1 (pc2 := 25) hk rfl rfl rfl rfl rfl ?_
    refine g_s1 (pc2 := 27) hk rfl rfl rfl rfl rfl ?_
    obtain ⟨ho, H⟩ := H
    refine g_call hk rfl rfl i_k27.1 ⟨rfl, rfl⟩ rfl (i_rcv_v ho rfl (by decide)) rfl ?_
    exact H.mono (fun v h2 q => by obtain ⟨r, rfl, q⟩ := q; exact q)
theorem b31_30 {x0 : Nat} {x1 : Int32} {x2 : Int32} {x3 : Int32} {x4 : Int64} {x6 : Int64} {x8 : Int64} {x10 : Int32} {x11 : Option Value} {s0 : Int32} {h : iH} {Q : Option Value → iH → Prop} (H : (i_C i_MT i_AT L xs 193 [.long x6, .int x10] h (fun v h1 => ∃ r2 : Int32, v = some (.int r2) ∧ i_P i_MT i_AT L xs 31 39 [some (.ref x0), some (.int x1), some (.int x2), some (.int x3), some (.long x4), none, some (.long x6), none, some (.long x8), none, some (.int x10), some (.int s0)] [.int r2] h1 0 0 Q))) : i_P i_MT i_AT L xs 31 30 [some (.ref x0), some (.int x1), some (.int x2), some (.int x3), some (.long x4), none, some (.long x6), none, some (.long x8), none, some (.int x10), x11] [.int s0] h 0 0 Q := by
  have hk := i_k31
  refine g_s1 (pc2 := 32) (lo2 := [some (.ref x0), some (.int x1), some (.int x2), some (.int x3), some (.long x4), none, some (.long x6), none, some (.long x8), none, some (.int x10), some (.int s0)]) hk rfl rfl rfl rfl rfl ?_
  refine g_s1 (pc2 := 34) hk rfl rfl rfl rfl rfl ?_
  refine g_s1 (pc2 := 36) hk rfl rfl rfl rfl rfl ?_
  refine g_call hk rfl rfl i_k193.1 ⟨rfl, rfl⟩ rfl (i_rcv_0 rfl) rfl ?_
  exact H.mono (fun v h2 q => by obtain ⟨r, rfl, q⟩ := q; exact q)
theorem b31_39 {x0 : Nat} {x1 : Int32} {x2 : Int32} {x3 : Int32} {x4 : Int64} {x6 : Int64} {x8 : Int64} {x10 : Int32} {x11 : Int32} {s0 : Int32} {h : iH} {Q : Option Value → iH → Prop} (H : ((s0 = 0 → i_P i_MT i_AT L xs 31 74 [some (.ref x0), some (.int x1), some (.int x2), some (.int x3), some (.long x4), none, some (.long x6), none, some (.long x8), none, some (.int x10), some (.int x11)] [] h 0 0 Q) ∧ (¬ (s0 = 0) → ((x3 < x11 → i_P i_MT i_AT L xs 31 74 [some (.ref x0), some (.int x1), some (.int x2), some (.int x3), some (.long x4), none, some (.long x6), none, some (.long x8), none, some (.int x10), some (.int x11)] [] h 0 0 Q) ∧ (¬ (x3 < x11) → (i_obj? h x0 2 ∧ i_C i_MT i_AT L xs 29 [.ref x0, .int x1, .int x10, .int x11] h (fun v h1 => ∃ r2 : Int64, v = some (.long r2) ∧ i_P i_MT i_AT L xs 31 57 [some (.ref x0), some (.int x1), some (.int x2), some (.int x3), some (.long x4), none, some (.long x6), none, some (.long x8), none, some (.int x10), some (.int x11)] [.long r2] h1 0 0 Q))))))) : i_P i_MT i_AT L xs 31 39 [some (.ref x0), some (.int x1), some (.int x2), some (.int x3), some (.long x4), none, some (.long x6), none, some (.long x8), none, some (.int x10), some (.int x11)] [.int s0] h 0 0 Q := by
  have hk := i_k31
  refine g_if_eq hk rfl (fun hc => ?_) (fun hc => ?_)
  · have H := H.1 hc
    exact H
  · have H := H.2 hc
    refine g_s1 (pc2 := 44) hk rfl rfl rfl rfl rfl ?_
    refine g_s1 (pc2 := 45) hk rfl rfl rfl rfl rfl ?_
    refine g_icmp_gt hk rfl (fun hc => ?_) (fun hc => ?_)
    · have H := H.1 hc
      exact H
    · have H := H.2 hc
      refine g_s1 (pc2 := 49) hk rfl rfl rfl rfl rfl ?_
      refine g_s1 (pc2 := 50) hk rfl rfl rfl rfl rfl ?_
      refine g_s1 (pc2 := 52) hk rfl rfl rfl rfl rfl ?_
      refine g_s1 (pc2 := 54) hk rfl rfl rfl rfl rfl ?_
      obtain ⟨ho, H⟩ := H
      refine g_call hk rfl rfl i_k29.1 ⟨rfl, rfl⟩ rfl (i_rcv_v ho rfl (by decide)) rfl ?_
      exact H.mono (fun v h2 q => by obtain ⟨r, rfl, q⟩ := q; exact q)
theorem b31_57 {x0 : Nat} {x1 : Int32} {x2 : Int32} {x3 : Int32} {x4 : Int64} {x6 : Int64} {x8 : Int64} {x10 : Int32} {x11 : Int32} {s0 : Int64} {h : iH} {Q : Option Value → iH → Prop} (H : ((¬ (lg_cmp (s0 &&& x4) (0 : Int64)) = 0 → i_P i_MT i_AT L xs 31 74 [some (.ref x0), some (.int x1), some (.int x2), some (.int x3), some (.long x4), none, some (.long x6), none, some (.long x8), none, some (.int x10), some (.int x11)] [] h 0 0 Q) ∧ (¬ (¬ (lg_cmp (s0 &&& x4) (0 : Int64)) = 0) → i_P i_MT i_AT L xs 31 74 [some (.ref x0), some (.int x1), some (.int x2), some (.int x3), some (.long x4), none, some (.long x6), none, some (.long (x8 ||| ((1 : Int64) <<< (x10.toInt64 &&& 63)))), none, some (.int x10), some (.int x11)] [] h 0 0 Q))) : i_P i_MT i_AT L xs 31 57 [some (.ref x0), some (.int x1), some (.int x2), some (.int x3), some (.long x4), none, some (.long x6), none, some (.long x8), none, some (.int x10), some (.int x11)] [.long s0] h 0 0 Q := by
  have hk := i_k31
  refine g_s1 (pc2 := 59) hk rfl rfl rfl rfl rfl ?_
  refine g_s1 (pc2 := 60) hk rfl rfl rfl rfl rfl ?_
  refine g_s1 (pc2 := 61) (st2 := [.long (0 : Int64), .long (s0 &&& x4)]) hk rfl rfl rfl rfl rfl ?_
  refine g_s1 (pc2 := 62) hk rfl rfl rfl rfl rfl ?_
  refine g_if_ne hk rfl (fun hc => ?_) (fun hc => ?_)
  · have H := H.1 hc
    exact H
  · have H := H.2 hc
    refine g_s1 (pc2 := 67) hk rfl rfl rfl rfl rfl ?_
    refine g_s1 (pc2 := 68) (st2 := [.long (1 : Int64), .long x8]) hk rfl rfl rfl rfl rfl ?_
    refine g_s1 (pc2 := 70) hk rfl rfl rfl rfl rfl ?_
    refine g_s1 (pc2 := 71) hk rfl rfl rfl rfl rfl ?_
    refine g_s1 (pc2 := 72) hk rfl rfl rfl rfl rfl ?_
    refine g_s1 (pc2 := 74) (lo2 := [some (.ref x0), some (.int x1), some (.int x2), some (.int x3), some (.long x4), none, some (.long x6), none, some (.long (x8 ||| ((1 : Int64) <<< (x10.toInt64 &&& 63)))), none, some (.int x10), some (.int x11)]) hk rfl rfl rfl rfl rfl ?_
    exact H
theorem b31_74 {x0 : Nat} {x1 : Int32} {x2 : Int32} {x3 : Int32} {x4 : Int64} {x6 : Int64} {x8 : Int64} {x10 : Int32} {x11 : Int32} {h : iH} {Q : Option Value → iH → Prop} (H : i_P i_MT i_AT L xs 31 14 [some (.ref x0), some (.int x1), some (.int x2), some (.int x3), some (.long x4), none, some (.long x6), none, some (.long x8), none, some (.int (x10 + 1)), some (.int x11)] [] h 0 0 Q) : i_P i_MT i_AT L xs 31 74 [some (.ref x0), some (.int x1), some (.int x2), some (.int x3), some (.long x4), none, some (.long x6), none, some (.long x8), none, some (.int x10), some (.int x11)] [] h 0 0 Q := by
  have hk := i_k31
  refine g_s1 (pc2 := 77) (lo2 := [some (.ref x0), some (.int x1), some (.int x2), some (.int x3), some (.long x4), none, some (.long x6), none, some (.long x8), none, some (.int (x10 + 1)), some (.int x11)]) hk rfl rfl rfl rfl rfl ?_
  refine g_s1 (pc2 := 14) hk rfl rfl rfl rfl rfl ?_
  exact H
/-! StillTown$Grid.leastOf(J)I -/
theorem e32 {x0 : Int64} {h : iH} {Q : Option Value → iH → Prop} (H : i_P i_MT i_AT L xs 32 0 [some (.long x0), none, none] [] h 0 0 Q) : i_C i_MT i_AT L xs 32 [.long x0] h Q := ⟨i_m32, i_k32.1, Nat.le_of_ble_eq_true rfl, H⟩
theorem b32_0 {x0 : Int64} {x2 : Option Value} {h : iH} {Q : Option Value → iH → Prop} (H : i_P i_MT i_AT L xs 32 2 [some (.long x0), none, some (.int (0 : Int32))] [] h 0 0 Q) : i_P i_MT i_AT L xs 32 0 [some (.long x0), none, x2] [] h 0 0 Q := by
  have hk := i_k32
  refine g_s1 (pc2 := 1) (st2 := [.int (0 : Int32)]) hk rfl rfl rfl rfl rfl ?_
  refine g_s1 (pc2 := 2) (lo2 := [some (.long x0), none, some (.int (0 : Int32))]) hk rfl rfl rfl rfl rfl ?_
  exact H
theorem b32_2 {x0 : Int64} {x2 : Int32} {h : iH} {Q : Option Value → iH → Prop} (H : (((48 : Int32) ≤ x2 → Q (some (.int (-1 : Int32))) h) ∧ (¬ ((48 : Int32) ≤ x2) → (i_C i_MT i_AT L xs 193 [.long x0, .int x2] h (fun v h1 => ∃ r2 : Int32, v = some (.int r2) ∧ i_P i_MT i_AT L xs 32 13 [some (.long x0), none, some (.int x2)] [.int r2] h1 0 0 Q))))) : i_P i_MT i_AT L xs 32 2 [some (.long x0), none, some (.int x2)] [] h 0 0 Q := by
  have hk := i_k32
  refine g_s1 (pc2 := 3) hk rfl rfl rfl rfl rfl ?_
  refine g_s1 (pc2 := 5) (st2 := [.int (48 : Int32), .int x2]) hk rfl rfl rfl rfl rfl ?_
  refine g_icmp_ge hk rfl (fun hc => ?_) (fun hc => ?_)
  · have H := H.1 hc
    refine g_s1 (pc2 := 25) (st2 := [.int (-1 : Int32)]) hk rfl rfl rfl rfl rfl ?_
    exact g_ireturn hk rfl (by decide) (by decide) rfl H
  · have H := H.2 hc
    refine g_s1 (pc2 := 9) hk rfl rfl rfl rfl rfl ?_
    refine g_s1 (pc2 := 10) hk rfl rfl rfl rfl rfl ?_
    refine g_call hk rfl rfl i_k193.1 ⟨rfl, rfl⟩ rfl (i_rcv_0 rfl) rfl ?_
    exact H.mono (fun v h2 q => by obtain ⟨r, rfl, q⟩ := q; exact q)
theorem b32_13 {x0 : Int64} {x2 : Int32} {s0 : Int32} {h : iH} {Q : Option Value → iH → Prop} (H : ((s0 = 0 → i_P i_MT i_AT L xs 32 2 [some (.long x0), none, some (.int (x2 + 1))] [] h 0 0 Q) ∧ (¬ (s0 = 0) → Q (some (.int x2)) h))) : i_P i_MT i_AT L xs 32 13 [some (.long x0), none, some (.int x2)] [.int s0] h 0 0 Q := by
  have hk := i_k32
  refine g_if_eq hk rfl (fun hc => ?_) (fun hc => ?_)
  · have H := H.1 hc
    refine g_s1 (pc2 := 21) (lo2 := [some (.long x0), none, some (.int (x2 + 1))]) hk rfl rfl rfl rfl rfl ?_
    refine g_s1 (pc2 := 2) hk rfl rfl rfl rfl rfl ?_
    exact H
  · have H := H.2 hc
    refine g_s1 (pc2 := 17) hk rfl rfl rfl rfl rfl ?_
    exact g_ireturn hk rfl (by decide) (by decide) rfl H
/-! StillTown$People.numberOf(J)I -/
theorem e34 {x0 : Nat} {x1 : Int64} {h : iH} {Q : Option Value → iH → Prop} (H : i_P i_MT i_AT L xs 34 0 [some (.ref x0), some (.long x1), none, none] [] h 0 0 Q) : i_C i_MT i_AT L xs 34 [.ref x0, .long x1] h Q := ⟨i_m34, i_k34.1, Nat.le_of_ble_eq_true rfl, H⟩
theorem b34_0 {x0 : Nat} {x1 : Int64} {x3 : Option Value} {h : iH} {Q : Option Value → iH → Prop} (H : i_P i_MT i_AT L xs 34 2 [some (.ref x0), some (.long x1), none, some (.int (0 : Int32))] [] h 0 0 Q) : i_P i_MT i_AT L xs 34 0 [some (.ref x0), some (.long x1), none, x3] [] h 0 0 Q := by
  have hk := i_k34
  refine g_s1 (pc2 := 1) (st2 := [.int (0 : Int32)]) hk rfl rfl rfl rfl rfl ?_
  refine g_s1 (pc2 := 2) (lo2 := [some (.ref x0), some (.long x1), none, some (.int (0 : Int32))]) hk rfl rfl rfl rfl rfl ?_
  exact H
theorem b34_2 {x0 : Nat} {x1 : Int64} {x3 : Int32} {h : iH} {Q : Option Value → iH → Prop} (H : (∃ v1 : Int32, i_fld h x0 3 0 = some (.int v1) ∧ ((v1 ≤ x3 → Q (some (.int (-1 : Int32))) h) ∧ (¬ (v1 ≤ x3) → (∃ v2 : Nat, i_fld h x0 3 1 = some (.ref v2) ∧ (∃ (n3 : Nat) (f4 : Nat → Int64), i_arJ h v2 = some (n3, f4) ∧ ¬ (x3 < 0 ∨ n3 ≤ x3.toNatClampNeg) ∧ ((¬ (lg_cmp (f4 x3.toNatClampNeg) x1) = 0 → i_P i_MT i_AT L xs 34 2 [some (.ref x0), some (.long x1), none, some (.int (x3 + 1))] [] h 0 0 Q) ∧ (¬ (¬ (lg_cmp (f4 x3.toNatClampNeg) x1) = 0) → Q (some (.int x3)) h)))))))) : i_P i_MT i_AT L xs 34 2 [some (.ref x0), some (.long x1), none, some (.int x3)] [] h 0 0 Q := by
  have hk := i_k34
  refine g_s1 (pc2 := 3) hk rfl rfl rfl rfl rfl ?_
  refine g_s1 (pc2 := 4) hk rfl rfl rfl rfl rfl ?_
  obtain ⟨v1, ev1, H⟩ := H
  refine g_step (pc2 := 7) hk rfl rfl rfl (s_get ev1) ?_
  refine g_icmp_ge hk rfl (fun hc => ?_) (fun hc => ?_)
  · have H := H.1 hc
    refine g_s1 (pc2 := 30) (st2 := [.int (-1 : Int32)]) hk rfl rfl rfl rfl rfl ?_
    exact g_ireturn hk rfl (by decide) (by decide) rfl H
  · have H := H.2 hc
    refine g_s1 (pc2 := 11) hk rfl rfl rfl rfl rfl ?_
    obtain ⟨v2, ev2, H⟩ := H
    refine g_step (pc2 := 14) hk rfl rfl rfl (s_get ev2) ?_
    refine g_s1 (pc2 := 15) hk rfl rfl rfl rfl rfl ?_
    obtain ⟨n3, f4, ef4, hi, H⟩ := H
    refine g_step (pc2 := 16) hk rfl rfl rfl (s_lget ef4 hi) ?_
    refine g_s1 (pc2 := 17) hk rfl rfl rfl rfl rfl ?_
    refine g_s1 (pc2 := 18) hk rfl rfl rfl rfl rfl ?_
    refine g_if_ne hk rfl (fun hc => ?_) (fun hc => ?_)
    · have H := H.1 hc
      refine g_s1 (pc2 := 26) (lo2 := [some (.ref x0), some (.long x1), none, some (.int (x3 + 1))]) hk rfl rfl rfl rfl rfl ?_
      refine g_s1 (pc2 := 2) hk rfl rfl rfl rfl rfl ?_
      exact H
    · have H := H.2 hc
      refine g_s1 (pc2 := 22) hk rfl rfl rfl rfl rfl ?_
      exact g_ireturn hk rfl (by decide) (by decide) rfl H
/-! StillTown$People.add(JIII)V -/
theorem e35 {x0 : Nat} {x1 : Int64} {x3 : Int32} {x4 : Int32} {x5 : Int32} {h : iH} {Q : Option Value → iH → Prop} (H : i_P i_MT i_AT L xs 35 0 [some (.ref x0), some (.long x1), none, some (.int x3), some (.int x4), some (.int x5)] [] h 0 0 Q) : i_C i_MT i_AT L xs 35 [.ref x0, .long x1, .int x3, .int x4, .int x5] h Q := ⟨i_m35, i_k35.1, Nat.le_of_ble_eq_true rfl, H⟩
theorem b35_0 {x0 : Nat} {x1 : Int64} {x3 : Int32} {x4 : Int32} {x5 : Int32} {h : iH} {Q : Option Value → iH → Prop} (H : (∃ v1 : Nat, i_fld h x0 3 1 = some (.ref v1) ∧ (∃ v2 : Int32, i_fld h x0 3 0 = some (.int v2) ∧ (∃ (n3 : Nat) (f4 : Nat → Int64), i_arJ h v1 = some (n3, f4) ∧ ¬ (v2 < 0 ∨ n3 ≤ v2.toNatClampNeg) ∧ i_P i_MT i_AT L xs 35 10 [some (.ref x0), some (.long x1), none, some (.int x3), some (.int x4), some (.int x5)] [] (i_siJ h v1 v2.toNatClampNeg x1) 0 0 Q)))) : i_P i_MT i_AT L xs 35 0 [some (.ref x0), some (.long x1), none, some (.int x3), some (.int x4), some (.int x5)] [] h 0 0 Q := by
  have hk := i_k35
  refine g_s1 (pc2 := 1) hk rfl rfl rfl rfl rfl ?_
  obtain ⟨v1, ev1, H⟩ := H
  refine g_step (pc2 := 4) hk rfl rfl rfl (s_get ev1) ?_
  refine g_s1 (pc2 := 5) hk rfl rfl rfl rfl rfl ?_
  obtain ⟨v2, ev2, H⟩ := H
  refine g_step (pc2 := 8) hk rfl rfl rfl (s_get ev2) ?_
  refine g_s1 (pc2 := 9) hk rfl rfl rfl rfl rfl ?_
  obtain ⟨n3, f4, ef4, hi, H⟩ := H
  refine g_step (pc2 := 10) hk rfl rfl rfl (s_lput ef4 hi) ?_
  exact H
theorem b35_10 {x0 : Nat} {x1 : Int64} {x3 : Int32} {x4 : Int32} {x5 : Int32} {h : iH} {Q : Option Value → iH → Prop} (H : (∃ v1 : Nat, i_fld h x0 3 2 = some (.ref v1) ∧ (∃ v2 : Int32, i_fld h x0 3 0 = some (.int v2) ∧ (∃ (n3 : Nat) (f4 : Nat → Int32), i_arI h 0 v1 = some (n3, f4) ∧ ¬ (v2 < 0 ∨ n3 ≤ v2.toNatClampNeg) ∧ i_P i_MT i_AT L xs 35 20 [some (.ref x0), some (.long x1), none, some (.int x3), some (.int x4), some (.int x5)] [] (i_siI h v1 v2.toNatClampNeg x3) 0 0 Q)))) : i_P i_MT i_AT L xs 35 10 [some (.ref x0), some (.long x1), none, some (.int x3), some (.int x4), some (.int x5)] [] h 0 0 Q := by
  have hk := i_k35
  refine g_s1 (pc2 := 11) hk rfl rfl rfl rfl rfl ?_
  obtain ⟨v1, ev1, H⟩ := H
  refine g_step (pc2 := 14) hk rfl rfl rfl (s_get ev1) ?_
  refine g_s1 (pc2 := 15) hk rfl rfl rfl rfl rfl ?_
  obtain ⟨v2, ev2, H⟩ := H
  refine g_step (pc2 := 18) hk rfl rfl rfl (s_get ev2) ?_
  refine g_s1 (pc2 := 19) hk rfl rfl rfl rfl rfl ?_
  obtain ⟨n3, f4, ef4, hi, H⟩ := H
  refine g_step (pc2 := 20) hk rfl rfl rfl (s_aput ef4 hi) ?_
  exact H
theorem b35_20 {x0 : Nat} {x1 : Int64} {x3 : Int32} {x4 : Int32} {x5 : Int32} {h : iH} {Q : Option Value → iH → Prop} (H : (∃ v1 : Nat, i_fld h x0 3 3 = some (.ref v1) ∧ (∃ v2 : Int32, i_fld h x0 3 0 = some (.int v2) ∧ (∃ (n3 : Nat) (f4 : Nat → Int32), i_arI h 0 v1 = some (n3, f4) ∧ ¬ (v2 < 0 ∨ n3 ≤ v2.toNatClampNeg) ∧ i_P i_MT i_AT L xs 35 31 [some (.ref x0), some (.long x1), none, some (.int x3), some (.int x4), some (.int x5)] [] (i_siI h v1 v2.toNatClampNeg x4) 0 0 Q)))) : i_P i_MT i_AT L xs 35 20 [some (.ref x0), some (.long x1), none, some (.int x3), some (.int x4), some (.int x5)] [] h 0 0 Q := by
  have hk := i_k35
  refine g_s1 (pc2 := 21) hk rfl rfl rfl rfl rfl ?_
  obtain ⟨v1, ev1, H⟩ := H
  refine g_step (pc2 := 24) hk rfl rfl rfl (s_get ev1) ?_
  refine g_s1 (pc2 := 25) hk rfl rfl rfl rfl rfl ?_
  obtain ⟨v2, ev2, H⟩ := H
  refine g_step (pc2 := 28) hk rfl rfl rfl (s_get ev2) ?_
  refine g_s1 (pc2 := 30) hk rfl rfl rfl rfl rfl ?_
  obtain ⟨n3, f4, ef4, hi, H⟩ := H
  refine g_step (pc2 := 31) hk rfl rfl rfl (s_aput ef4 hi) ?_
  exact H
theorem b35_31 {x0 : Nat} {x1 : Int64} {x3 : Int32} {x4 : Int32} {x5 : Int32} {h : iH} {Q : Option Value → iH → Prop} (H : (∃ v1 : Nat, i_fld h x0 3 4 = some (.ref v1) ∧ (∃ v2 : Int32, i_fld h x0 3 0 = some (.int v2) ∧ (∃ (n3 : Nat) (f4 : Nat → Int32), i_arI h 0 v1 = some (n3, f4) ∧ ¬ (v2 < 0 ∨ n3 ≤ v2.toNatClampNeg) ∧ i_P i_MT i_AT L xs 35 42 [some (.ref x0), some (.long x1), none, some (.int x3), some (.int x4), some (.int x5)] [] (i_siI h v1 v2.toNatClampNeg x5) 0 0 Q)))) : i_P i_MT i_AT L xs 35 31 [some (.ref x0), some (.long x1), none, some (.int x3), some (.int x4), some (.int x5)] [] h 0 0 Q := by
  have hk := i_k35
  refine g_s1 (pc2 := 32) hk rfl rfl rfl rfl rfl ?_
  obtain ⟨v1, ev1, H⟩ := H
  refine g_step (pc2 := 35) hk rfl rfl rfl (s_get ev1) ?_
  refine g_s1 (pc2 := 36) hk rfl rfl rfl rfl rfl ?_
  obtain ⟨v2, ev2, H⟩ := H
  refine g_step (pc2 := 39) hk rfl rfl rfl (s_get ev2) ?_
  refine g_s1 (pc2 := 41) hk rfl rfl rfl rfl rfl ?_
  obtain ⟨n3, f4, ef4, hi, H⟩ := H
  refine g_step (pc2 := 42) hk rfl rfl rfl (s_aput ef4 hi) ?_
  exact H
theorem b35_42 {x0 : Nat} {x1 : Int64} {x3 : Int32} {x4 : Int32} {x5 : Int32} {h : iH} {Q : Option Value → iH → Prop} (H : (∃ v1 : Nat, i_fld h x0 3 5 = some (.ref v1) ∧ (∃ v2 : Int32, i_fld h x0 3 0 = some (.int v2) ∧ (∃ (n3 : Nat) (f4 : Nat → Int32), i_arI h 0 v1 = some (n3, f4) ∧ ¬ (v2 < 0 ∨ n3 ≤ v2.toNatClampNeg) ∧ i_P i_MT i_AT L xs 35 52 [some (.ref x0), some (.long x1), none, some (.int x3), some (.int x4), some (.int x5)] [] (i_siI h v1 v2.toNatClampNeg (0 : Int32)) 0 0 Q)))) : i_P i_MT i_AT L xs 35 42 [some (.ref x0), some (.long x1), none, some (.int x3), some (.int x4), some (.int x5)] [] h 0 0 Q := by
  have hk := i_k35
  refine g_s1 (pc2 := 43) hk rfl rfl rfl rfl rfl ?_
  obtain ⟨v1, ev1, H⟩ := H
  refine g_step (pc2 := 46) hk rfl rfl rfl (s_get ev1) ?_
  refine g_s1 (pc2 := 47) hk rfl rfl rfl rfl rfl ?_
  obtain ⟨v2, ev2, H⟩ := H
  refine g_step (pc2 := 50) hk rfl rfl rfl (s_get ev2) ?_
  refine g_s1 (pc2 := 51) (st2 := [.int (0 : Int32), .int v2, .ref v1]) hk rfl rfl rfl rfl rfl ?_
  obtain ⟨n3, f4, ef4, hi, H⟩ := H
  refine g_step (pc2 := 52) hk rfl rfl rfl (s_aput ef4 hi) ?_
  exact H
theorem b35_52 {x0 : Nat} {x1 : Int64} {x3 : Int32} {x4 : Int32} {x5 : Int32} {h : iH} {Q : Option Value → iH → Prop} (H : (∃ v1 : Nat, i_fld h x0 3 6 = some (.ref v1) ∧ (∃ v2 : Int32, i_fld h x0 3 0 = some (.int v2) ∧ (∃ (n3 : Nat) (f4 : Nat → Int32), i_arI h 0 v1 = some (n3, f4) ∧ ¬ (v2 < 0 ∨ n3 ≤ v2.toNatClampNeg) ∧ i_P i_MT i_AT L xs 35 62 [some (.ref x0), some (.long x1), none, some (.int x3), some (.int x4), some (.int x5)] [] (i_siI h v1 v2.toNatClampNeg (0 : Int32)) 0 0 Q)))) : i_P i_MT i_AT L xs 35 52 [some (.ref x0), some (.long x1), none, some (.int x3), some (.int x4), some (.int x5)] [] h 0 0 Q := by
  have hk := i_k35
  refine g_s1 (pc2 := 53) hk rfl rfl rfl rfl rfl ?_
  obtain ⟨v1, ev1, H⟩ := H
  refine g_step (pc2 := 56) hk rfl rfl rfl (s_get ev1) ?_
  refine g_s1 (pc2 := 57) hk rfl rfl rfl rfl rfl ?_
  obtain ⟨v2, ev2, H⟩ := H
  refine g_step (pc2 := 60) hk rfl rfl rfl (s_get ev2) ?_
  refine g_s1 (pc2 := 61) (st2 := [.int (0 : Int32), .int v2, .ref v1]) hk rfl rfl rfl rfl rfl ?_
  obtain ⟨n3, f4, ef4, hi, H⟩ := H
  refine g_step (pc2 := 62) hk rfl rfl rfl (s_aput ef4 hi) ?_
  exact H
theorem b35_62 {x0 : Nat} {x1 : Int64} {x3 : Int32} {x4 : Int32} {x5 : Int32} {h : iH} {Q : Option Value → iH → Prop} (H : (∃ v1 : Int32, i_fld h x0 3 0 = some (.int v1) ∧ ((∃ o, i_fld h x0 3 0 = some o) ∧ i_P i_MT i_AT L xs 35 72 [some (.ref x0), some (.long x1), none, some (.int x3), some (.int x4), some (.int x5)] [] (i_sf h x0 0 (.int (v1 + (1 : Int32)))) 0 0 Q))) : i_P i_MT i_AT L xs 35 62 [some (.ref x0), some (.long x1), none, some (.int x3), some (.int x4), some (.int x5)] [] h 0 0 Q := by
  have hk := i_k35
  refine g_s1 (pc2 := 63) hk rfl rfl rfl rfl rfl ?_
  refine g_s1 (pc2 := 64) hk rfl rfl rfl rfl rfl ?_
  obtain ⟨v1, ev1, H⟩ := H
  refine g_step (pc2 := 67) hk rfl rfl rfl (s_get ev1) ?_
  refine g_s1 (pc2 := 68) (st2 := [.int (1 : Int32), .int v1, .ref x0]) hk rfl rfl rfl rfl rfl ?_
  refine g_s1 (pc2 := 69) hk rfl rfl rfl rfl rfl ?_
  obtain ⟨⟨o, ho⟩, H⟩ := H
  refine g_step (pc2 := 72) hk rfl rfl rfl (s_put ho rfl) ?_
  exact H
theorem b35_72 {x0 : Nat} {x1 : Int64} {x3 : Int32} {x4 : Int32} {x5 : Int32} {h : iH} {Q : Option Value → iH → Prop} (H : Q none h) : i_P i_MT i_AT L xs 35 72 [some (.ref x0), some (.long x1), none, some (.int x3), some (.int x4), some (.int x5)] [] h 0 0 Q := by
  have hk := i_k35
  exact g_return hk rfl (by decide) (by decide) rfl H
/-! StillTown$People.anyAt(J)Z -/
theorem e36 {x0 : Nat} {x1 : Int64} {h : iH} {Q : Option Value → iH → Prop} (H : i_P i_MT i_AT L xs 36 0 [some (.ref x0), some (.long x1), none, none] [] h 0 0 Q) : i_C i_MT i_AT L xs 36 [.ref x0, .long x1] h Q := ⟨i_m36, i_k36.1, Nat.le_of_ble_eq_true rfl, H⟩
theorem b36_0 {x0 : Nat} {x1 : Int64} {x3 : Option Value} {h : iH} {Q : Option Value → iH → Prop} (H : i_P i_MT i_AT L xs 36 2 [some (.ref x0), some (.long x1), none, some (.int (0 : Int32))] [] h 0 0 Q) : i_P i_MT i_AT L xs 36 0 [some (.ref x0), some (.long x1), none, x3] [] h 0 0 Q := by
  have hk := i_k36
  refine g_s1 (pc2 := 1) (st2 := [.int (0 : Int32)]) hk rfl rfl rfl rfl rfl ?_
  refine g_s1 (pc2 := 2) (lo2 := [some (.ref x0), some (.long x1), none, some (.int (0 : Int32))]) hk rfl rfl rfl rfl rfl ?_
  exact H
theorem b36_2 {x0 : Nat} {x1 : Int64} {x3 : Int32} {h : iH} {Q : Option Value → iH → Prop} (H : (∃ v1 : Int32, i_fld h x0 3 0 = some (.int v1) ∧ ((v1 ≤ x3 → Q (some (.int 0)) h) ∧ (¬ (v1 ≤ x3) → (∃ v2 : Nat, i_fld h x0 3 2 = some (.ref v2) ∧ (∃ (n3 : Nat) (f4 : Nat → Int32), i_arI h 0 v2 = some (n3, f4) ∧ ¬ (x3 < 0 ∨ n3 ≤ x3.toNatClampNeg) ∧ (i_C i_MT i_AT L xs 193 [.long x1, .int (f4 x3.toNatClampNeg)] h (fun v h5 => ∃ r6 : Int32, v = some (.int r6) ∧ i_P i_MT i_AT L xs 36 20 [some (.ref x0), some (.long x1), none, some (.int x3)] [.int r6] h5 0 0 Q)))))))) : i_P i_MT i_AT L xs 36 2 [some (.ref x0), some (.long x1), none, some (.int x3)] [] h 0 0 Q := by
  have hk := i_k36
  refine g_s1 (pc2 := 3) hk rfl rfl rfl rfl rfl ?_
  refine g_s1 (pc2 := 4) hk rfl rfl rfl rfl rfl ?_
  obtain ⟨v1, ev1, H⟩ := H
  refine g_step (pc2 := 7) hk rfl rfl rfl (s_get ev1) ?_
  refine g_icmp_ge hk rfl (fun hc => ?_) (fun hc => ?_)
  · have H := H.1 hc
    refine g_s1 (pc2 := 32) (st2 := [.int (0 : Int32)]) hk rfl rfl rfl rfl rfl ?_
    exact g_ireturn hk rfl (by decide) (by decide) rfl H
  · have H := H.2 hc
    refine g_s1 (pc2 := 11) hk rfl rfl rfl rfl rfl ?_
    refine g_s1 (pc2 := 12) hk rfl rfl rfl rfl rfl ?_
    obtain ⟨v2, ev2, H⟩ := H
    refine g_step (pc2 := 15) hk rfl rfl rfl (s_get ev2) ?_
    refine g_s1 (pc2 := 16) hk rfl rfl rfl rfl rfl ?_
    obtain ⟨n3, f4, ef4, hi, H⟩ := H
    refine g_step (pc2 := 17) hk rfl rfl rfl (s_aget (L := L) (xs := xs) ef4 hi) ?_
    refine g_call hk rfl rfl i_k193.1 ⟨rfl, rfl⟩ rfl (i_rcv_0 rfl) rfl ?_
    exact H.mono (fun v h2 q => by obtain ⟨r, rfl, q⟩ := q; exact q)
theorem b36_20 {x0 : Nat} {x1 : Int64} {x3 : Int32} {s0 : Int32} {h : iH} {Q : Option Value → iH → Prop} (H : ((s0 = 0 → i_P i_MT i_AT L xs 36 2 [some (.ref x0), some (.long x1), none, some (.int (x3 + 1))] [] h 0 0 Q) ∧ (¬ (s0 = 0) → Q (some (.int 1)) h))) : i_P i_MT i_AT L xs 36 20 [some (.ref x0), some (.long x1), none, some (.int x3)] [.int s0] h 0 0 Q := by
  have hk := i_k36
  refine g_if_eq hk rfl (fun hc => ?_) (fun hc => ?_)
  · have H := H.1 hc
    refine g_s1 (pc2 := 28) (lo2 := [some (.ref x0), some (.long x1), none, some (.int (x3 + 1))]) hk rfl rfl rfl rfl rfl ?_
    refine g_s1 (pc2 := 2) hk rfl rfl rfl rfl rfl ?_
    exact H
  · have H := H.2 hc
    refine g_s1 (pc2 := 24) (st2 := [.int (1 : Int32)]) hk rfl rfl rfl rfl rfl ?_
    exact g_ireturn hk rfl (by decide) (by decide) rfl H
/-! StillTown$People.copyFrom(LStillTown$People;)V -/
theorem e37 {x0 : Nat} {x1 : Nat} {h : iH} {Q : Option Value → iH → Prop} (H : i_P i_MT i_AT L xs 37 0 [some (.ref x0), some (.ref x1)] [] h 0 0 Q) : i_C i_MT i_AT L xs 37 [.ref x0, .ref x1] h Q := ⟨i_m37, i_k37.1, Nat.le_of_ble_eq_true rfl, H⟩
theorem b37_0 {x0 : Nat} {x1 : Nat} {h : iH} {Q : Option Value → iH → Prop} (H : (∃ v1 : Int32, i_fld h x1 3 0 = some (.int v1) ∧ ((∃ o, i_fld h x0 3 0 = some o) ∧ i_P i_MT i_AT L xs 37 8 [some (.ref x0), some (.ref x1)] [] (i_sf h x0 0 (.int v1)) 0 0 Q))) : i_P i_MT i_AT L xs 37 0 [some (.ref x0), some (.ref x1)] [] h 0 0 Q := by
  have hk := i_k37
  refine g_s1 (pc2 := 1) hk rfl rfl rfl rfl rfl ?_
  refine g_s1 (pc2 := 2) hk rfl rfl rfl rfl rfl ?_
  obtain ⟨v1, ev1, H⟩ := H
  refine g_step (pc2 := 5) hk rfl rfl rfl (s_get ev1) ?_
  obtain ⟨⟨o, ho⟩, H⟩ := H
  refine g_step (pc2 := 8) hk rfl rfl rfl (s_put ho rfl) ?_
  exact H
theorem b37_8 {x0 : Nat} {x1 : Nat} {h : iH} {Q : Option Value → iH → Prop} (H : (∃ v1 : Nat, i_fld h x1 3 1 = some (.ref v1) ∧ (∃ v2 : Nat, i_fld h x0 3 1 = some (.ref v2) ∧ (∃ (n3 : Nat) (f4 : Nat → Int64) (n5 : Nat) (g6 : Nat → Int64), i_arJ h v1 = some (n3, f4) ∧ i_arJ h v2 = some (n5, g6) ∧ ¬ (0 : Int32) < 0 ∧ ¬ (0 : Int32) < 0 ∧ ¬ (8 : Int32) < 0 ∧ (0 : Int32).toNatClampNeg + (8 : Int32).toNatClampNeg ≤ n3 ∧ (0 : Int32).toNatClampNeg + (8 : Int32).toNatClampNeg ≤ n5 ∧ i_P i_MT i_AT L xs 37 23 [some (.ref x0), some (.ref x1)] [] (h.set v2 (.inl (1, n5, .inr (.inl (va_cpy f4 g6 (0 : Int32).toNatClampNeg (0 : Int32).toNatClampNeg (8 : Int32).toNatClampNeg))))) 0 0 Q)))) : i_P i_MT i_AT L xs 37 8 [some (.ref x0), some (.ref x1)] [] h 0 0 Q := by
  have hk := i_k37
  refine g_s1 (pc2 := 9) hk rfl rfl rfl rfl rfl ?_
  obtain ⟨v1, ev1, H⟩ := H
  refine g_step (pc2 := 12) hk rfl rfl rfl (s_get ev1) ?_
  refine g_s1 (pc2 := 13) (st2 := [.int (0 : Int32), .ref v1]) hk rfl rfl rfl rfl rfl ?_
  refine g_s1 (pc2 := 14) hk rfl rfl rfl rfl rfl ?_
  obtain ⟨v2, ev2, H⟩ := H
  refine g_step (pc2 := 17) hk rfl rfl rfl (s_get ev2) ?_
  refine g_s1 (pc2 := 18) (st2 := [.int (0 : Int32), .ref v2, .int (0 : Int32), .ref v1]) hk rfl rfl rfl rfl rfl ?_
  refine g_s1 (pc2 := 20) (st2 := [.int (8 : Int32), .int (0 : Int32), .ref v2, .int (0 : Int32), .ref v1]) hk rfl rfl rfl rfl rfl ?_
  obtain ⟨n3, f4, n5, g6, ef4, eg6, h1, h2, h3, h4, h5, H⟩ := H
  refine g_step (pc2 := 23) hk rfl rfl rfl (s_copyJ (L := L) (xs := xs) ef4 eg6 h1 h2 h3 h4 h5 (by decide)) ?_
  exact H
theorem b37_23 {x0 : Nat} {x1 : Nat} {h : iH} {Q : Option Value → iH → Prop} (H : (∃ v1 : Nat, i_fld h x1 3 2 = some (.ref v1) ∧ (∃ v2 : Nat, i_fld h x0 3 2 = some (.ref v2) ∧ (∃ (n3 : Nat) (f4 : Nat → Int32) (n5 : Nat) (g6 : Nat → Int32), i_arI h 0 v1 = some (n3, f4) ∧ i_arI h 0 v2 = some (n5, g6) ∧ ¬ (0 : Int32) < 0 ∧ ¬ (0 : Int32) < 0 ∧ ¬ (8 : Int32) < 0 ∧ (0 : Int32).toNatClampNeg + (8 : Int32).toNatClampNeg ≤ n3 ∧ (0 : Int32).toNatClampNeg + (8 : Int32).toNatClampNeg ≤ n5 ∧ i_P i_MT i_AT L xs 37 38 [some (.ref x0), some (.ref x1)] [] (h.set v2 (.inl (0, n5, .inl (va_cpy f4 g6 (0 : Int32).toNatClampNeg (0 : Int32).toNatClampNeg (8 : Int32).toNatClampNeg)))) 0 0 Q)))) : i_P i_MT i_AT L xs 37 23 [some (.ref x0), some (.ref x1)] [] h 0 0 Q := by
  have hk := i_k37
  refine g_s1 (pc2 := 24) hk rfl rfl rfl rfl rfl ?_
  obtain ⟨v1, ev1, H⟩ := H
  refine g_step (pc2 := 27) hk rfl rfl rfl (s_get ev1) ?_
  refine g_s1 (pc2 := 28) (st2 := [.int (0 : Int32), .ref v1]) hk rfl rfl rfl rfl rfl ?_
  refine g_s1 (pc2 := 29) hk rfl rfl rfl rfl rfl ?_
  obtain ⟨v2, ev2, H⟩ := H
  refine g_step (pc2 := 32) hk rfl rfl rfl (s_get ev2) ?_
  refine g_s1 (pc2 := 33) (st2 := [.int (0 : Int32), .ref v2, .int (0 : Int32), .ref v1]) hk rfl rfl rfl rfl rfl ?_
  refine g_s1 (pc2 := 35) (st2 := [.int (8 : Int32), .int (0 : Int32), .ref v2, .int (0 : Int32), .ref v1]) hk rfl rfl rfl rfl rfl ?_
  obtain ⟨n3, f4, n5, g6, ef4, eg6, h1, h2, h3, h4, h5, H⟩ := H
  refine g_step (pc2 := 38) hk rfl rfl rfl (s_copyI (L := L) (xs := xs) ef4 eg6 h1 h2 h3 h4 h5 (by decide)) ?_
  exact H
theorem b37_38 {x0 : Nat} {x1 : Nat} {h : iH} {Q : Option Value → iH → Prop} (H : (∃ v1 : Nat, i_fld h x1 3 3 = some (.ref v1) ∧ (∃ v2 : Nat, i_fld h x0 3 3 = some (.ref v2) ∧ (∃ (n3 : Nat) (f4 : Nat → Int32) (n5 : Nat) (g6 : Nat → Int32), i_arI h 0 v1 = some (n3, f4) ∧ i_arI h 0 v2 = some (n5, g6) ∧ ¬ (0 : Int32) < 0 ∧ ¬ (0 : Int32) < 0 ∧ ¬ (8 : Int32) < 0 ∧ (0 : Int32).toNatClampNeg + (8 : Int32).toNatClampNeg ≤ n3 ∧ (0 : Int32).toNatClampNeg + (8 : Int32).toNatClampNeg ≤ n5 ∧ i_P i_MT i_AT L xs 37 53 [some (.ref x0), some (.ref x1)] [] (h.set v2 (.inl (0, n5, .inl (va_cpy f4 g6 (0 : Int32).toNatClampNeg (0 : Int32).toNatClampNeg (8 : Int32).toNatClampNeg)))) 0 0 Q)))) : i_P i_MT i_AT L xs 37 38 [some (.ref x0), some (.ref x1)] [] h 0 0 Q := by
  have hk := i_k37
  refine g_s1 (pc2 := 39) hk rfl rfl rfl rfl rfl ?_
  obtain ⟨v1, ev1, H⟩ := H
  refine g_step (pc2 := 42) hk rfl rfl rfl (s_get ev1) ?_
  refine g_s1 (pc2 := 43) (st2 := [.int (0 : Int32), .ref v1]) hk rfl rfl rfl rfl rfl ?_
  refine g_s1 (pc2 := 44) hk rfl rfl rfl rfl rfl ?_
  obtain ⟨v2, ev2, H⟩ := H
  refine g_step (pc2 := 47) hk rfl rfl rfl (s_get ev2) ?_
  refine g_s1 (pc2 := 48) (st2 := [.int (0 : Int32), .ref v2, .int (0 : Int32), .ref v1]) hk rfl rfl rfl rfl rfl ?_
  refine g_s1 (pc2 := 50) (st2 := [.int (8 : Int32), .int (0 : Int32), .ref v2, .int (0 : Int32), .ref v1]) hk rfl rfl rfl rfl rfl ?_
  obtain ⟨n3, f4, n5, g6, ef4, eg6, h1, h2, h3, h4, h5, H⟩ := H
  refine g_step (pc2 := 53) hk rfl rfl rfl (s_copyI (L := L) (xs := xs) ef4 eg6 h1 h2 h3 h4 h5 (by decide)) ?_
  exact H
theorem b37_53 {x0 : Nat} {x1 : Nat} {h : iH} {Q : Option Value → iH → Prop} (H : (∃ v1 : Nat, i_fld h x1 3 4 = some (.ref v1) ∧ (∃ v2 : Nat, i_fld h x0 3 4 = some (.ref v2) ∧ (∃ (n3 : Nat) (f4 : Nat → Int32) (n5 : Nat) (g6 : Nat → Int32), i_arI h 0 v1 = some (n3, f4) ∧ i_arI h 0 v2 = some (n5, g6) ∧ ¬ (0 : Int32) < 0 ∧ ¬ (0 : Int32) < 0 ∧ ¬ (8 : Int32) < 0 ∧ (0 : Int32).toNatClampNeg + (8 : Int32).toNatClampNeg ≤ n3 ∧ (0 : Int32).toNatClampNeg + (8 : Int32).toNatClampNeg ≤ n5 ∧ i_P i_MT i_AT L xs 37 68 [some (.ref x0), some (.ref x1)] [] (h.set v2 (.inl (0, n5, .inl (va_cpy f4 g6 (0 : Int32).toNatClampNeg (0 : Int32).toNatClampNeg (8 : Int32).toNatClampNeg)))) 0 0 Q)))) : i_P i_MT i_AT L xs 37 53 [some (.ref x0), some (.ref x1)] [] h 0 0 Q := by
  have hk := i_k37
  refine g_s1 (pc2 := 54) hk rfl rfl rfl rfl rfl ?_
  obtain ⟨v1, ev1, H⟩ := H
  refine g_step (pc2 := 57) hk rfl rfl rfl (s_get ev1) ?_
  refine g_s1 (pc2 := 58) (st2 := [.int (0 : Int32), .ref v1]) hk rfl rfl rfl rfl rfl ?_
  refine g_s1 (pc2 := 59) hk rfl rfl rfl rfl rfl ?_
  obtain ⟨v2, ev2, H⟩ := H
  refine g_step (pc2 := 62) hk rfl rfl rfl (s_get ev2) ?_
  refine g_s1 (pc2 := 63) (st2 := [.int (0 : Int32), .ref v2, .int (0 : Int32), .ref v1]) hk rfl rfl rfl rfl rfl ?_
  refine g_s1 (pc2 := 65) (st2 := [.int (8 : Int32), .int (0 : Int32), .ref v2, .int (0 : Int32), .ref v1]) hk rfl rfl rfl rfl rfl ?_
  obtain ⟨n3, f4, n5, g6, ef4, eg6, h1, h2, h3, h4, h5, H⟩ := H
  refine g_step (pc2 := 68) hk rfl rfl rfl (s_copyI (L := L) (xs := xs) ef4 eg6 h1 h2 h3 h4 h5 (by decide)) ?_
  exact H
theorem b37_68 {x0 : Nat} {x1 : Nat} {h : iH} {Q : Option Value → iH → Prop} (H : (∃ v1 : Nat, i_fld h x1 3 5 = some (.ref v1) ∧ (∃ v2 : Nat, i_fld h x0 3 5 = some (.ref v2) ∧ (∃ (n3 : Nat) (f4 : Nat → Int32) (n5 : Nat) (g6 : Nat → Int32), i_arI h 0 v1 = some (n3, f4) ∧ i_arI h 0 v2 = some (n5, g6) ∧ ¬ (0 : Int32) < 0 ∧ ¬ (0 : Int32) < 0 ∧ ¬ (8 : Int32) < 0 ∧ (0 : Int32).toNatClampNeg + (8 : Int32).toNatClampNeg ≤ n3 ∧ (0 : Int32).toNatClampNeg + (8 : Int32).toNatClampNeg ≤ n5 ∧ i_P i_MT i_AT L xs 37 83 [some (.ref x0), some (.ref x1)] [] (h.set v2 (.inl (0, n5, .inl (va_cpy f4 g6 (0 : Int32).toNatClampNeg (0 : Int32).toNatClampNeg (8 : Int32).toNatClampNeg)))) 0 0 Q)))) : i_P i_MT i_AT L xs 37 68 [some (.ref x0), some (.ref x1)] [] h 0 0 Q := by
  have hk := i_k37
  refine g_s1 (pc2 := 69) hk rfl rfl rfl rfl rfl ?_
  obtain ⟨v1, ev1, H⟩ := H
  refine g_step (pc2 := 72) hk rfl rfl rfl (s_get ev1) ?_
  refine g_s1 (pc2 := 73) (st2 := [.int (0 : Int32), .ref v1]) hk rfl rfl rfl rfl rfl ?_
  refine g_s1 (pc2 := 74) hk rfl rfl rfl rfl rfl ?_
  obtain ⟨v2, ev2, H⟩ := H
  refine g_step (pc2 := 77) hk rfl rfl rfl (s_get ev2) ?_
  refine g_s1 (pc2 := 78) (st2 := [.int (0 : Int32), .ref v2, .int (0 : Int32), .ref v1]) hk rfl rfl rfl rfl rfl ?_
  refine g_s1 (pc2 := 80) (st2 := [.int (8 : Int32), .int (0 : Int32), .ref v2, .int (0 : Int32), .ref v1]) hk rfl rfl rfl rfl rfl ?_
  obtain ⟨n3, f4, n5, g6, ef4, eg6, h1, h2, h3, h4, h5, H⟩ := H
  refine g_step (pc2 := 83) hk rfl rfl rfl (s_copyI (L := L) (xs := xs) ef4 eg6 h1 h2 h3 h4 h5 (by decide)) ?_
  exact H
theorem b37_83 {x0 : Nat} {x1 : Nat} {h : iH} {Q : Option Value → iH → Prop} (H : (∃ v1 : Nat, i_fld h x1 3 6 = some (.ref v1) ∧ (∃ v2 : Nat, i_fld h x0 3 6 = some (.ref v2) ∧ (∃ (n3 : Nat) (f4 : Nat → Int32) (n5 : Nat) (g6 : Nat → Int32), i_arI h 0 v1 = some (n3, f4) ∧ i_arI h 0 v2 = some (n5, g6) ∧ ¬ (0 : Int32) < 0 ∧ ¬ (0 : Int32) < 0 ∧ ¬ (8 : Int32) < 0 ∧ (0 : Int32).toNatClampNeg + (8 : Int32).toNatClampNeg ≤ n3 ∧ (0 : Int32).toNatClampNeg + (8 : Int32).toNatClampNeg ≤ n5 ∧ i_P i_MT i_AT L xs 37 98 [some (.ref x0), some (.ref x1)] [] (h.set v2 (.inl (0, n5, .inl (va_cpy f4 g6 (0 : Int32).toNatClampNeg (0 : Int32).toNatClampNeg (8 : Int32).toNatClampNeg)))) 0 0 Q)))) : i_P i_MT i_AT L xs 37 83 [some (.ref x0), some (.ref x1)] [] h 0 0 Q := by
  have hk := i_k37
  refine g_s1 (pc2 := 84) hk rfl rfl rfl rfl rfl ?_
  obtain ⟨v1, ev1, H⟩ := H
  refine g_step (pc2 := 87) hk rfl rfl rfl (s_get ev1) ?_
  refine g_s1 (pc2 := 88) (st2 := [.int (0 : Int32), .ref v1]) hk rfl rfl rfl rfl rfl ?_
  refine g_s1 (pc2 := 89) hk rfl rfl rfl rfl rfl ?_
  obtain ⟨v2, ev2, H⟩ := H
  refine g_step (pc2 := 92) hk rfl rfl rfl (s_get ev2) ?_
  refine g_s1 (pc2 := 93) (st2 := [.int (0 : Int32), .ref v2, .int (0 : Int32), .ref v1]) hk rfl rfl rfl rfl rfl ?_
  refine g_s1 (pc2 := 95) (st2 := [.int (8 : Int32), .int (0 : Int32), .ref v2, .int (0 : Int32), .ref v1]) hk rfl rfl rfl rfl rfl ?_
  obtain ⟨n3, f4, n5, g6, ef4, eg6, h1, h2, h3, h4, h5, H⟩ := H
  refine g_step (pc2 := 98) hk rfl rfl rfl (s_copyI (L := L) (xs := xs) ef4 eg6 h1 h2 h3 h4 h5 (by decide)) ?_
  exact H
theorem b37_98 {x0 : Nat} {x1 : Nat} {h : iH} {Q : Option Value → iH → Prop} (H : Q none h) : i_P i_MT i_AT L xs 37 98 [some (.ref x0), some (.ref x1)] [] h 0 0 Q := by
  have hk := i_k37
  exact g_return hk rfl (by decide) (by decide) rfl H
/-! StillTown$PlanReader.readFor(LStillTown$People;)Z -/
theorem e39 {x0 : Nat} {x1 : Nat} {h : iH} {Q : Option Value → iH → Prop} (H : i_P i_MT i_AT L xs 39 0 [some (.ref x0), some (.ref x1), none] [] h 0 0 Q) : i_C i_MT i_AT L xs 39 [.ref x0, .ref x1] h Q := ⟨i_m39, i_k39.1, Nat.le_of_ble_eq_true rfl, H⟩
theorem b39_0 {x0 : Nat} {x1 : Nat} {x2 : Option Value} {h : iH} {Q : Option Value → iH → Prop} (H : (∃ v1 : Nat, i_fld h x0 4 1 = some (.ref v1) ∧ (i_C i_MT i_AT L xs 349 [.ref v1, .int (0 : Int32)] h (fun v h2 => v = none ∧ i_P i_MT i_AT L xs 39 8 [some (.ref x0), some (.ref x1), x2] [] h2 0 0 Q)))) : i_P i_MT i_AT L xs 39 0 [some (.ref x0), some (.ref x1), x2] [] h 0 0 Q := by
  have hk := i_k39
  refine g_s1 (pc2 := 1) hk rfl rfl rfl rfl rfl ?_
  obtain ⟨v1, ev1, H⟩ := H
  refine g_step (pc2 := 4) hk rfl rfl rfl (s_get ev1) ?_
  refine g_s1 (pc2 := 5) (st2 := [.int (0 : Int32), .ref v1]) hk rfl rfl rfl rfl rfl ?_
  refine g_call hk rfl rfl i_k349.1 ⟨rfl, rfl⟩ rfl (i_rcv_0 rfl) rfl ?_
  exact H.mono (fun v h2 q => by obtain ⟨rfl, q⟩ := q; exact q)
theorem b39_8 {x0 : Nat} {x1 : Nat} {x2 : Option Value} {h : iH} {Q : Option Value → iH → Prop} (H : ((∃ o, i_fld h x0 4 2 = some o) ∧ i_P i_MT i_AT L xs 39 13 [some (.ref x0), some (.ref x1), x2] [] (i_sf h x0 2 (.int (0 : Int32))) 0 0 Q)) : i_P i_MT i_AT L xs 39 8 [some (.ref x0), some (.ref x1), x2] [] h 0 0 Q := by
  have hk := i_k39
  refine g_s1 (pc2 := 9) hk rfl rfl rfl rfl rfl ?_
  refine g_s1 (pc2 := 10) (st2 := [.int (0 : Int32), .ref x0]) hk rfl rfl rfl rfl rfl ?_
  obtain ⟨⟨o, ho⟩, H⟩ := H
  refine g_step (pc2 := 13) hk rfl rfl rfl (s_put ho rfl) ?_
  exact H
theorem b39_13 {x0 : Nat} {x1 : Nat} {x2 : Option Value} {h : iH} {Q : Option Value → iH → Prop} (H : ((∃ o, i_fld h x0 4 8 = some o) ∧ i_P i_MT i_AT L xs 39 18 [some (.ref x0), some (.ref x1), x2] [] (i_sf h x0 8 (.int (0 : Int32))) 0 0 Q)) : i_P i_MT i_AT L xs 39 13 [some (.ref x0), some (.ref x1), x2] [] h 0 0 Q := by
  have hk := i_k39
  refine g_s1 (pc2 := 14) hk rfl rfl rfl rfl rfl ?_
  refine g_s1 (pc2 := 15) (st2 := [.int (0 : Int32), .ref x0]) hk rfl rfl rfl rfl rfl ?_
  obtain ⟨⟨o, ho⟩, H⟩ := H
  refine g_step (pc2 := 18) hk rfl rfl rfl (s_put ho rfl) ?_
  exact H
theorem b39_18 {x0 : Nat} {x1 : Nat} {x2 : Option Value} {h : iH} {Q : Option Value → iH → Prop} (H : i_P i_MT i_AT L xs 39 20 [some (.ref x0), some (.ref x1), some (.int (0 : Int32))] [] h 0 0 Q) : i_P i_MT i_AT L xs 39 18 [some (.ref x0), some (.ref x1), x2] [] h 0 0 Q := by
  have hk := i_k39
  refine g_s1 (pc2 := 19) (st2 := [.int (0 : Int32)]) hk rfl rfl rfl rfl rfl ?_
  refine g_s1 (pc2 := 20) (lo2 := [some (.ref x0), some (.ref x1), some (.int (0 : Int32))]) hk rfl rfl rfl rfl rfl ?_
  exact H
theorem b39_20 {x0 : Nat} {x1 : Nat} {x2 : Int32} {h : iH} {Q : Option Value → iH → Prop} (H : (((300 : Int32) ≤ x2 → (∃ v1 : Nat, i_fld h x0 4 0 = some (.ref v1) ∧ (i_obj? h v1 7 ∧ i_C i_MT i_AT L xs 87 [.ref v1] h (fun v h2 => ∃ r3 : Int32, v = some (.int r3) ∧ i_P i_MT i_AT L xs 39 76 [some (.ref x0), some (.ref x1), some (.int x2)] [.int r3] h2 0 0 Q)))) ∧ (¬ ((300 : Int32) ≤ x2) → (∃ v4 : Nat, i_fld h x0 4 0 = some (.ref v4) ∧ (i_obj? h v4 7 ∧ i_C i_MT i_AT L xs 88 [.ref v4] h (fun v h5 => v = none ∧ i_P i_MT i_AT L xs 39 34 [some (.ref x0), some (.ref x1), some (.int x2)] [] h5 0 0 Q)))))) : i_P i_MT i_AT L xs 39 20 [some (.ref x0), some (.ref x1), some (.int x2)] [] h 0 0 Q := by
  have hk := i_k39
  refine g_s1 (pc2 := 21) hk rfl rfl rfl rfl rfl ?_
  refine g_s1 (pc2 := 24) (st2 := [.int (300 : Int32), .int x2]) hk rfl rfl rfl rfl rfl ?_
  refine g_icmp_ge hk rfl (fun hc => ?_) (fun hc => ?_)
  · have H := H.1 hc
    refine g_s1 (pc2 := 70) hk rfl rfl rfl rfl rfl ?_
    obtain ⟨v1, ev1, H⟩ := H
    refine g_step (pc2 := 73) hk rfl rfl rfl (s_get ev1) ?_
    obtain ⟨ho, H⟩ := H
    refine g_call hk rfl rfl i_k87.1 ⟨rfl, rfl⟩ rfl (i_rcv_v ho rfl (by decide)) rfl ?_
    exact H.mono (fun v h2 q => by obtain ⟨r, rfl, q⟩ := q; exact q)
  · have H := H.2 hc
    refine g_s1 (pc2 := 28) hk rfl rfl rfl rfl rfl ?_
    obtain ⟨v4, ev4, H⟩ := H
    refine g_step (pc2 := 31) hk rfl rfl rfl (s_get ev4) ?_
    obtain ⟨ho, H⟩ := H
    refine g_call hk rfl rfl i_k88.1 ⟨rfl, rfl⟩ rfl (i_rcv_v ho rfl (by decide)) rfl ?_
    exact H.mono (fun v h2 q => by obtain ⟨rfl, q⟩ := q; exact q)
theorem b39_34 {x0 : Nat} {x1 : Nat} {x2 : Int32} {h : iH} {Q : Option Value → iH → Prop} (H : (∃ v1 : Nat, i_fld h x0 4 0 = some (.ref v1) ∧ (∃ v2 : Int32, i_fld h v1 7 6 = some (.int v2) ∧ ((¬ v2 = 0 → (i_obj? h x0 4 ∧ i_C i_MT i_AT L xs 40 [.ref x0, .ref x1] h (fun v h3 => ∃ r4 : Int32, v = some (.int r4) ∧ i_P i_MT i_AT L xs 39 51 [some (.ref x0), some (.ref x1), some (.int x2)] [.int r4] h3 0 0 Q))) ∧ (¬ (¬ v2 = 0) → Q (some (.int 1)) h))))) : i_P i_MT i_AT L xs 39 34 [some (.ref x0), some (.ref x1), some (.int x2)] [] h 0 0 Q := by
  have hk := i_k39
  refine g_s1 (pc2 := 35) hk rfl rfl rfl rfl rfl ?_
  obtain ⟨v1, ev1, H⟩ := H
  refine g_step (pc2 := 38) hk rfl rfl rfl (s_get ev1) ?_
  obtain ⟨v2, ev2, H⟩ := H
  refine g_step (pc2 := 41) hk rfl rfl rfl (s_get ev2) ?_
  refine g_if_ne hk rfl (fun hc => ?_) (fun hc => ?_)
  · have H := H.1 hc
    refine g_s1 (pc2 := 47) hk rfl rfl rfl rfl rfl ?_
    refine g_s1 (pc2 := 48) hk rfl rfl rfl rfl rfl ?_
    obtain ⟨ho, H⟩ := H
    refine g_call hk rfl rfl i_k40.1 ⟨rfl, rfl⟩ rfl (i_rcv_v ho rfl (by decide)) rfl ?_
    exact H.mono (fun v h2 q => by obtain ⟨r, rfl, q⟩ := q; exact q)
  · have H := H.2 hc
    refine g_s1 (pc2 := 45) (st2 := [.int (1 : Int32)]) hk rfl rfl rfl rfl rfl ?_
    exact g_ireturn hk rfl (by decide) (by decide) rfl H
theorem b39_51 {x0 : Nat} {x1 : Nat} {x2 : Int32} {s0 : Int32} {h : iH} {Q : Option Value → iH → Prop} (H : ((s0 = 0 → i_P i_MT i_AT L xs 39 61 [some (.ref x0), some (.ref x1), some (.int x2)] [] h 0 0 Q) ∧ (¬ (s0 = 0) → (i_obj? h x0 4 ∧ i_C i_MT i_AT L xs 41 [.ref x0] h (fun v h1 => ∃ r2 : Int32, v = some (.int r2) ∧ i_P i_MT i_AT L xs 39 58 [some (.ref x0), some (.ref x1), some (.int x2)] [.int r2] h1 0 0 Q))))) : i_P i_MT i_AT L xs 39 51 [some (.ref x0), some (.ref x1), some (.int x2)] [.int s0] h 0 0 Q := by
  have hk := i_k39
  refine g_if_eq hk rfl (fun hc => ?_) (fun hc => ?_)
  · have H := H.1 hc
    exact H
  · have H := H.2 hc
    refine g_s1 (pc2 := 55) hk rfl rfl rfl rfl rfl ?_
    obtain ⟨ho, H⟩ := H
    refine g_call hk rfl rfl i_k41.1 ⟨rfl, rfl⟩ rfl (i_rcv_v ho rfl (by decide)) rfl ?_
    exact H.mono (fun v h2 q => by obtain ⟨r, rfl, q⟩ := q; exact q)
theorem b39_58 {x0 : Nat} {x1 : Nat} {x2 : Int32} {s0 : Int32} {h : iH} {Q : Option Value → iH → Prop} (H : ((¬ s0 = 0 → i_P i_MT i_AT L xs 39 20 [some (.ref x0), some (.ref x1), some (.int (x2 + 1))] [] h 0 0 Q) ∧ (¬ (¬ s0 = 0) → i_P i_MT i_AT L xs 39 61 [some (.ref x0), some (.ref x1), some (.int x2)] [] h 0 0 Q))) : i_P i_MT i_AT L xs 39 58 [some (.ref x0), some (.ref x1), some (.int x2)] [.int s0] h 0 0 Q := by
  have hk := i_k39
  refine g_if_ne hk rfl (fun hc => ?_) (fun hc => ?_)
  · have H := H.1 hc
    refine g_s1 (pc2 := 66) (lo2 := [some (.ref x0), some (.ref x1), some (.int (x2 + 1))]) hk rfl rfl rfl rfl rfl ?_
    refine g_s1 (pc2 := 20) hk rfl rfl rfl rfl rfl ?_
    exact H
  · have H := H.2 hc
    exact H
theorem b39_61 {x0 : Nat} {x1 : Nat} {x2 : Int32} {h : iH} {Q : Option Value → iH → Prop} (H : Q (some (.int 0)) h) : i_P i_MT i_AT L xs 39 61 [some (.ref x0), some (.ref x1), some (.int x2)] [] h 0 0 Q := by
  have hk := i_k39
  refine g_s1 (pc2 := 62) (st2 := [.int (0 : Int32)]) hk rfl rfl rfl rfl rfl ?_
  exact g_ireturn hk rfl (by decide) (by decide) rfl H
theorem b39_76 {x0 : Nat} {x1 : Nat} {x2 : Int32} {s0 : Int32} {h : iH} {Q : Option Value → iH → Prop} (H : (i_ret (some .boolean) s0 = true ∧ Q (some (.int s0)) h)) : i_P i_MT i_AT L xs 39 76 [some (.ref x0), some (.ref x1), some (.int x2)] [.int s0] h 0 0 Q := by
  have hk := i_k39
  exact g_ireturn hk rfl (by decide) (by decide) H.1 H.2
/-! StillTown$PlanReader.readWho(LStillTown$People;)Z -/
theorem e40 {x0 : Nat} {x1 : Nat} {h : iH} {Q : Option Value → iH → Prop} (H : i_P i_MT i_AT L xs 40 0 [some (.ref x0), some (.ref x1)] [] h 0 0 Q) : i_C i_MT i_AT L xs 40 [.ref x0, .ref x1] h Q := ⟨i_m40, i_k40.1, Nat.le_of_ble_eq_true rfl, H⟩
theorem b40_0 {x0 : Nat} {x1 : Nat} {h : iH} {Q : Option Value → iH → Prop} (H : (∃ v1 : Nat, i_fld h x0 4 0 = some (.ref v1) ∧ (i_obj? h v1 7 ∧ i_C i_MT i_AT L xs 90 [.ref v1] h (fun v h2 => ∃ r3 : Int32, v = some (.int r3) ∧ i_P i_MT i_AT L xs 40 7 [some (.ref x0), some (.ref x1)] [.int r3] h2 0 0 Q)))) : i_P i_MT i_AT L xs 40 0 [some (.ref x0), some (.ref x1)] [] h 0 0 Q := by
  have hk := i_k40
  refine g_s1 (pc2 := 1) hk rfl rfl rfl rfl rfl ?_
  obtain ⟨v1, ev1, H⟩ := H
  refine g_step (pc2 := 4) hk rfl rfl rfl (s_get ev1) ?_
  obtain ⟨ho, H⟩ := H
  refine g_call hk rfl rfl i_k90.1 ⟨rfl, rfl⟩ rfl (i_rcv_v ho rfl (by decide)) rfl ?_
  exact H.mono (fun v h2 q => by obtain ⟨r, rfl, q⟩ := q; exact q)
theorem b40_7 {x0 : Nat} {x1 : Nat} {s0 : Int32} {h : iH} {Q : Option Value → iH → Prop} (H : ((¬ s0 = 0 → (∃ v1 : Nat, i_fld h x0 4 0 = some (.ref v1) ∧ (∃ v2 : Int64, i_fld h v1 7 9 = some (.long v2) ∧ (i_obj? h x1 3 ∧ i_C i_MT i_AT L xs 34 [.ref x1, .long v2] h (fun v h3 => ∃ r4 : Int32, v = some (.int r4) ∧ i_P i_MT i_AT L xs 40 30 [some (.ref x0), some (.ref x1)] [.int r4, .ref x0] h3 0 0 Q))))) ∧ (¬ (¬ s0 = 0) → (∃ v5 : Nat, i_fld h x0 4 0 = some (.ref v5) ∧ (i_obj? h v5 7 ∧ i_C i_MT i_AT L xs 87 [.ref v5] h (fun v h6 => ∃ r7 : Int32, v = some (.int r7) ∧ i_P i_MT i_AT L xs 40 17 [some (.ref x0), some (.ref x1)] [.int r7] h6 0 0 Q)))))) : i_P i_MT i_AT L xs 40 7 [some (.ref x0), some (.ref x1)] [.int s0] h 0 0 Q := by
  have hk := i_k40
  refine g_if_ne hk rfl (fun hc => ?_) (fun hc => ?_)
  · have H := H.1 hc
    refine g_s1 (pc2 := 19) hk rfl rfl rfl rfl rfl ?_
    refine g_s1 (pc2 := 20) hk rfl rfl rfl rfl rfl ?_
    refine g_s1 (pc2 := 21) hk rfl rfl rfl rfl rfl ?_
    obtain ⟨v1, ev1, H⟩ := H
    refine g_step (pc2 := 24) hk rfl rfl rfl (s_get ev1) ?_
    obtain ⟨v2, ev2, H⟩ := H
    refine g_step (pc2 := 27) hk rfl rfl rfl (s_get ev2) ?_
    obtain ⟨ho, H⟩ := H
    refine g_call hk rfl rfl i_k34.1 ⟨rfl, rfl⟩ rfl (i_rcv_v ho rfl (by decide)) rfl ?_
    exact H.mono (fun v h2 q => by obtain ⟨r, rfl, q⟩ := q; exact q)
  · have H := H.2 hc
    refine g_s1 (pc2 := 11) hk rfl rfl rfl rfl rfl ?_
    obtain ⟨v5, ev5, H⟩ := H
    refine g_step (pc2 := 14) hk rfl rfl rfl (s_get ev5) ?_
    obtain ⟨ho, H⟩ := H
    refine g_call hk rfl rfl i_k87.1 ⟨rfl, rfl⟩ rfl (i_rcv_v ho rfl (by decide)) rfl ?_
    exact H.mono (fun v h2 q => by obtain ⟨r, rfl, q⟩ := q; exact q)
theorem b40_17 {x0 : Nat} {x1 : Nat} {s0 : Int32} {h : iH} {Q : Option Value → iH → Prop} (H : (i_ret (some .boolean) s0 = true ∧ Q (some (.int s0)) h)) : i_P i_MT i_AT L xs 40 17 [some (.ref x0), some (.ref x1)] [.int s0] h 0 0 Q := by
  have hk := i_k40
  exact g_ireturn hk rfl (by decide) (by decide) H.1 H.2
theorem b40_30 {x0 : Nat} {x1 : Nat} {s0 : Nat} {s1 : Int32} {h : iH} {Q : Option Value → iH → Prop} (H : ((∃ o, i_fld h s0 4 6 = some o) ∧ i_P i_MT i_AT L xs 40 33 [some (.ref x0), some (.ref x1)] [] (i_sf h s0 6 (.int s1)) 0 0 Q)) : i_P i_MT i_AT L xs 40 30 [some (.ref x0), some (.ref x1)] [.int s1, .ref s0] h 0 0 Q := by
  have hk := i_k40
  obtain ⟨⟨o, ho⟩, H⟩ := H
  refine g_step (pc2 := 33) hk rfl rfl rfl (s_put ho rfl) ?_
  exact H
theorem b40_33 {x0 : Nat} {x1 : Nat} {h : iH} {Q : Option Value → iH → Prop} (H : (∃ v1 : Int32, i_fld h x0 4 6 = some (.int v1) ∧ ((¬ v1 = (-1 : Int32) → (∃ v2 : Int32, i_fld h x0 4 8 = some (.int v2) ∧ (∃ v3 : Int32, i_fld h x0 4 6 = some (.int v3) ∧ (i_C i_MT i_AT L xs 193 [.long (v2.toInt64), .int v3] h (fun v h4 => ∃ r5 : Int32, v = some (.int r5) ∧ i_P i_MT i_AT L xs 40 62 [some (.ref x0), some (.ref x1)] [.int r5] h4 0 0 Q))))) ∧ (¬ (¬ v1 = (-1 : Int32)) → (∃ v6 : Nat, i_fld h x0 4 0 = some (.ref v6) ∧ (i_obj? h v6 7 ∧ i_C i_MT i_AT L xs 86 [.ref v6, .int (3 : Int32)] h (fun v h7 => ∃ r8 : Int32, v = some (.int r8) ∧ i_P i_MT i_AT L xs 40 49 [some (.ref x0), some (.ref x1)] [.int r8] h7 0 0 Q))))))) : i_P i_MT i_AT L xs 40 33 [some (.ref x0), some (.ref x1)] [] h 0 0 Q := by
  have hk := i_k40
  refine g_s1 (pc2 := 34) hk rfl rfl rfl rfl rfl ?_
  obtain ⟨v1, ev1, H⟩ := H
  refine g_step (pc2 := 37) hk rfl rfl rfl (s_get ev1) ?_
  refine g_s1 (pc2 := 38) (st2 := [.int (-1 : Int32), .int v1]) hk rfl rfl rfl rfl rfl ?_
  refine g_icmp_ne hk rfl (fun hc => ?_) (fun hc => ?_)
  · have H := H.1 hc
    refine g_s1 (pc2 := 51) hk rfl rfl rfl rfl rfl ?_
    obtain ⟨v2, ev2, H⟩ := H
    refine g_step (pc2 := 54) hk rfl rfl rfl (s_get ev2) ?_
    refine g_s1 (pc2 := 55) hk rfl rfl rfl rfl rfl ?_
    refine g_s1 (pc2 := 56) hk rfl rfl rfl rfl rfl ?_
    obtain ⟨v3, ev3, H⟩ := H
    refine g_step (pc2 := 59) hk rfl rfl rfl (s_get ev3) ?_
    refine g_call hk rfl rfl i_k193.1 ⟨rfl, rfl⟩ rfl (i_rcv_0 rfl) rfl ?_
    exact H.mono (fun v h2 q => by obtain ⟨r, rfl, q⟩ := q; exact q)
  · have H := H.2 hc
    refine g_s1 (pc2 := 42) hk rfl rfl rfl rfl rfl ?_
    obtain ⟨v6, ev6, H⟩ := H
    refine g_step (pc2 := 45) hk rfl rfl rfl (s_get ev6) ?_
    refine g_s1 (pc2 := 46) (st2 := [.int (3 : Int32), .ref v6]) hk rfl rfl rfl rfl rfl ?_
    obtain ⟨ho, H⟩ := H
    refine g_call hk rfl rfl i_k86.1 ⟨rfl, rfl⟩ rfl (i_rcv_v ho rfl (by decide)) rfl ?_
    exact H.mono (fun v h2 q => by obtain ⟨r, rfl, q⟩ := q; exact q)
theorem b40_49 {x0 : Nat} {x1 : Nat} {s0 : Int32} {h : iH} {Q : Option Value → iH → Prop} (H : (i_ret (some .boolean) s0 = true ∧ Q (some (.int s0)) h)) : i_P i_MT i_AT L xs 40 49 [some (.ref x0), some (.ref x1)] [.int s0] h 0 0 Q := by
  have hk := i_k40
  exact g_ireturn hk rfl (by decide) (by decide) H.1 H.2
theorem b40_62 {x0 : Nat} {x1 : Nat} {s0 : Int32} {h : iH} {Q : Option Value → iH → Prop} (H : ((s0 = 0 → (∃ v1 : Int32, i_fld h x0 4 8 = some (.int v1) ∧ (∃ v2 : Int32, i_fld h x0 4 6 = some (.int v2) ∧ ((∃ o, i_fld h x0 4 8 = some o) ∧ i_P i_MT i_AT L xs 40 89 [some (.ref x0), some (.ref x1)] [] (i_sf h x0 8 (.int (v1 ||| ((1 : Int32) <<< (v2 &&& 31))))) 0 0 Q)))) ∧ (¬ (s0 = 0) → (∃ v3 : Nat, i_fld h x0 4 0 = some (.ref v3) ∧ (i_obj? h v3 7 ∧ i_C i_MT i_AT L xs 86 [.ref v3, .int (5 : Int32)] h (fun v h4 => ∃ r5 : Int32, v = some (.int r5) ∧ i_P i_MT i_AT L xs 40 73 [some (.ref x0), some (.ref x1)] [.int r5] h4 0 0 Q)))))) : i_P i_MT i_AT L xs 40 62 [some (.ref x0), some (.ref x1)] [.int s0] h 0 0 Q := by
  have hk := i_k40
  refine g_if_eq hk rfl (fun hc => ?_) (fun hc => ?_)
  · have H := H.1 hc
    refine g_s1 (pc2 := 75) hk rfl rfl rfl rfl rfl ?_
    refine g_s1 (pc2 := 76) hk rfl rfl rfl rfl rfl ?_
    obtain ⟨v1, ev1, H⟩ := H
    refine g_step (pc2 := 79) hk rfl rfl rfl (s_get ev1) ?_
    refine g_s1 (pc2 := 80) (st2 := [.int (1 : Int32), .int v1, .ref x0]) hk rfl rfl rfl rfl rfl ?_
    refine g_s1 (pc2 := 81) hk rfl rfl rfl rfl rfl ?_
    obtain ⟨v2, ev2, H⟩ := H
    refine g_step (pc2 := 84) hk rfl rfl rfl (s_get ev2) ?_
    refine g_s1 (pc2 := 85) hk rfl rfl rfl rfl rfl ?_
    refine g_s1 (pc2 := 86) hk rfl rfl rfl rfl rfl ?_
    obtain ⟨⟨o, ho⟩, H⟩ := H
    refine g_step (pc2 := 89) hk rfl rfl rfl (s_put ho rfl) ?_
    exact H
  · have H := H.2 hc
    refine g_s1 (pc2 := 66) hk rfl rfl rfl rfl rfl ?_
    obtain ⟨v3, ev3, H⟩ := H
    refine g_step (pc2 := 69) hk rfl rfl rfl (s_get ev3) ?_
    refine g_s1 (pc2 := 70) (st2 := [.int (5 : Int32), .ref v3]) hk rfl rfl rfl rfl rfl ?_
    obtain ⟨ho, H⟩ := H
    refine g_call hk rfl rfl i_k86.1 ⟨rfl, rfl⟩ rfl (i_rcv_v ho rfl (by decide)) rfl ?_
    exact H.mono (fun v h2 q => by obtain ⟨r, rfl, q⟩ := q; exact q)
theorem b40_73 {x0 : Nat} {x1 : Nat} {s0 : Int32} {h : iH} {Q : Option Value → iH → Prop} (H : (i_ret (some .boolean) s0 = true ∧ Q (some (.int s0)) h)) : i_P i_MT i_AT L xs 40 73 [some (.ref x0), some (.ref x1)] [.int s0] h 0 0 Q := by
  have hk := i_k40
  exact g_ireturn hk rfl (by decide) (by decide) H.1 H.2
theorem b40_89 {x0 : Nat} {x1 : Nat} {h : iH} {Q : Option Value → iH → Prop} (H : ((∃ o, i_fld h x0 4 5 = some o) ∧ i_P i_MT i_AT L xs 40 94 [some (.ref x0), some (.ref x1)] [] (i_sf h x0 5 (.int (0 : Int32))) 0 0 Q)) : i_P i_MT i_AT L xs 40 89 [some (.ref x0), some (.ref x1)] [] h 0 0 Q := by
  have hk := i_k40
  refine g_s1 (pc2 := 90) hk rfl rfl rfl rfl rfl ?_
  refine g_s1 (pc2 := 91) (st2 := [.int (0 : Int32), .ref x0]) hk rfl rfl rfl rfl rfl ?_
  obtain ⟨⟨o, ho⟩, H⟩ := H
  refine g_step (pc2 := 94) hk rfl rfl rfl (s_put ho rfl) ?_
  exact H
theorem b40_94 {x0 : Nat} {x1 : Nat} {h : iH} {Q : Option Value → iH → Prop} (H : ((∃ o, i_fld h x0 4 7 = some o) ∧ i_P i_MT i_AT L xs 40 99 [some (.ref x0), some (.ref x1)] [] (i_sf h x0 7 (.int (0 : Int32))) 0 0 Q)) : i_P i_MT i_AT L xs 40 94 [some (.ref x0), some (.ref x1)] [] h 0 0 Q := by
  have hk := i_k40
  refine g_s1 (pc2 := 95) hk rfl rfl rfl rfl rfl ?_
  refine g_s1 (pc2 := 96) (st2 := [.int (0 : Int32), .ref x0]) hk rfl rfl rfl rfl rfl ?_
  obtain ⟨⟨o, ho⟩, H⟩ := H
  refine g_step (pc2 := 99) hk rfl rfl rfl (s_put ho rfl) ?_
  exact H
theorem b40_99 {x0 : Nat} {x1 : Nat} {h : iH} {Q : Option Value → iH → Prop} (H : (∃ v1 : Nat, i_fld h x0 4 0 = some (.ref v1) ∧ (i_obj? h v1 7 ∧ i_C i_MT i_AT L xs 91 [.ref v1, .int (28 : Int32)] h (fun v h2 => ∃ r3 : Int32, v = some (.int r3) ∧ i_P i_MT i_AT L xs 40 108 [some (.ref x0), some (.ref x1)] [.int r3] h2 0 0 Q)))) : i_P i_MT i_AT L xs 40 99 [some (.ref x0), some (.ref x1)] [] h 0 0 Q := by
  have hk := i_k40
  refine g_s1 (pc2 := 100) hk rfl rfl rfl rfl rfl ?_
  obtain ⟨v1, ev1, H⟩ := H
  refine g_step (pc2 := 103) hk rfl rfl rfl (s_get ev1) ?_
  refine g_s1 (pc2 := 105) (st2 := [.int (28 : Int32), .ref v1]) hk rfl rfl rfl rfl rfl ?_
  obtain ⟨ho, H⟩ := H
  refine g_call hk rfl rfl i_k91.1 ⟨rfl, rfl⟩ rfl (i_rcv_v ho rfl (by decide)) rfl ?_
  exact H.mono (fun v h2 q => by obtain ⟨r, rfl, q⟩ := q; exact q)
theorem b40_108 {x0 : Nat} {x1 : Nat} {s0 : Int32} {h : iH} {Q : Option Value → iH → Prop} (H : (i_ret (some .boolean) s0 = true ∧ Q (some (.int s0)) h)) : i_P i_MT i_AT L xs 40 108 [some (.ref x0), some (.ref x1)] [.int s0] h 0 0 Q := by
  have hk := i_k40
  exact g_ireturn hk rfl (by decide) (by decide) H.1 H.2
/-! StillTown$PlanReader.readMoves()Z -/
theorem e41 {x0 : Nat} {h : iH} {Q : Option Value → iH → Prop} (H : i_P i_MT i_AT L xs 41 0 [some (.ref x0), none] [] h 0 0 Q) : i_C i_MT i_AT L xs 41 [.ref x0] h Q := ⟨i_m41, i_k41.1, Nat.le_of_ble_eq_true rfl, H⟩
theorem b41_0 {x0 : Nat} {x1 : Option Value} {h : iH} {Q : Option Value → iH → Prop} (H : i_P i_MT i_AT L xs 41 2 [some (.ref x0), some (.int (0 : Int32))] [] h 0 0 Q) : i_P i_MT i_AT L xs 41 0 [some (.ref x0), x1] [] h 0 0 Q := by
  have hk := i_k41
  refine g_s1 (pc2 := 1) (st2 := [.int (0 : Int32)]) hk rfl rfl rfl rfl rfl ?_
  refine g_s1 (pc2 := 2) (lo2 := [some (.ref x0), some (.int (0 : Int32))]) hk rfl rfl rfl rfl rfl ?_
  exact H
theorem b41_2 {x0 : Nat} {x1 : Int32} {h : iH} {Q : Option Value → iH → Prop} (H : (((300 : Int32) ≤ x1 → (∃ v1 : Nat, i_fld h x0 4 0 = some (.ref v1) ∧ (i_obj? h v1 7 ∧ i_C i_MT i_AT L xs 87 [.ref v1] h (fun v h2 => ∃ r3 : Int32, v = some (.int r3) ∧ i_P i_MT i_AT L xs 41 84 [some (.ref x0), some (.int x1)] [.int r3] h2 0 0 Q)))) ∧ (¬ ((300 : Int32) ≤ x1) → (∃ v4 : Nat, i_fld h x0 4 0 = some (.ref v4) ∧ (i_obj? h v4 7 ∧ i_C i_MT i_AT L xs 88 [.ref v4] h (fun v h5 => v = none ∧ i_P i_MT i_AT L xs 41 16 [some (.ref x0), some (.int x1)] [] h5 0 0 Q)))))) : i_P i_MT i_AT L xs 41 2 [some (.ref x0), some (.int x1)] [] h 0 0 Q := by
  have hk := i_k41
  refine g_s1 (pc2 := 3) hk rfl rfl rfl rfl rfl ?_
  refine g_s1 (pc2 := 6) (st2 := [.int (300 : Int32), .int x1]) hk rfl rfl rfl rfl rfl ?_
  refine g_icmp_ge hk rfl (fun hc => ?_) (fun hc => ?_)
  · have H := H.1 hc
    refine g_s1 (pc2 := 78) hk rfl rfl rfl rfl rfl ?_
    obtain ⟨v1, ev1, H⟩ := H
    refine g_step (pc2 := 81) hk rfl rfl rfl (s_get ev1) ?_
    obtain ⟨ho, H⟩ := H
    refine g_call hk rfl rfl i_k87.1 ⟨rfl, rfl⟩ rfl (i_rcv_v ho rfl (by decide)) rfl ?_
    exact H.mono (fun v h2 q => by obtain ⟨r, rfl, q⟩ := q; exact q)
  · have H := H.2 hc
    refine g_s1 (pc2 := 10) hk rfl rfl rfl rfl rfl ?_
    obtain ⟨v4, ev4, H⟩ := H
    refine g_step (pc2 := 13) hk rfl rfl rfl (s_get ev4) ?_
    obtain ⟨ho, H⟩ := H
    refine g_call hk rfl rfl i_k88.1 ⟨rfl, rfl⟩ rfl (i_rcv_v ho rfl (by decide)) rfl ?_
    exact H.mono (fun v h2 q => by obtain ⟨rfl, q⟩ := q; exact q)
theorem b41_16 {x0 : Nat} {x1 : Int32} {h : iH} {Q : Option Value → iH → Prop} (H : (∃ v1 : Nat, i_fld h x0 4 0 = some (.ref v1) ∧ (∃ v2 : Int32, i_fld h v1 7 6 = some (.int v2) ∧ ((¬ v2 = (3 : Int32) → i_P i_MT i_AT L xs 41 36 [some (.ref x0), some (.int x1)] [] h 0 0 Q) ∧ (¬ (¬ v2 = (3 : Int32)) → (∃ v3 : Int32, i_fld h x0 4 5 = some (.int v3) ∧ ((¬ v3 = 0 → i_P i_MT i_AT L xs 41 36 [some (.ref x0), some (.int x1)] [] h 0 0 Q) ∧ (¬ (¬ v3 = 0) → Q (some (.int 1)) h)))))))) : i_P i_MT i_AT L xs 41 16 [some (.ref x0), some (.int x1)] [] h 0 0 Q := by
  have hk := i_k41
  refine g_s1 (pc2 := 17) hk rfl rfl rfl rfl rfl ?_
  obtain ⟨v1, ev1, H⟩ := H
  refine g_step (pc2 := 20) hk rfl rfl rfl (s_get ev1) ?_
  obtain ⟨v2, ev2, H⟩ := H
  refine g_step (pc2 := 23) hk rfl rfl rfl (s_get ev2) ?_
  refine g_s1 (pc2 := 24) (st2 := [.int (3 : Int32), .int v2]) hk rfl rfl rfl rfl rfl ?_
  refine g_icmp_ne hk rfl (fun hc => ?_) (fun hc => ?_)
  · have H := H.1 hc
    exact H
  · have H := H.2 hc
    refine g_s1 (pc2 := 28) hk rfl rfl rfl rfl rfl ?_
    obtain ⟨v3, ev3, H⟩ := H
    refine g_step (pc2 := 31) hk rfl rfl rfl (s_get ev3) ?_
    refine g_if_ne hk rfl (fun hc => ?_) (fun hc => ?_)
    · have H := H.1 hc
      exact H
    · have H := H.2 hc
      refine g_s1 (pc2 := 35) (st2 := [.int (1 : Int32)]) hk rfl rfl rfl rfl rfl ?_
      exact g_ireturn hk rfl (by decide) (by decide) rfl H
theorem b41_36 {x0 : Nat} {x1 : Int32} {h : iH} {Q : Option Value → iH → Prop} (H : (∃ v1 : Nat, i_fld h x0 4 0 = some (.ref v1) ∧ (∃ v2 : Int32, i_fld h v1 7 10 = some (.int v2) ∧ ((¬ v2 = (32 : Int32) → i_P i_MT i_AT L xs 41 62 [some (.ref x0), some (.int x1)] [] h 0 0 Q) ∧ (¬ (¬ v2 = (32 : Int32)) → (∃ v3 : Int32, i_fld h x0 4 5 = some (.int v3) ∧ ((v3 ≤ 0 → i_P i_MT i_AT L xs 41 62 [some (.ref x0), some (.int x1)] [] h 0 0 Q) ∧ (¬ (v3 ≤ 0) → (i_obj? h x0 4 ∧ i_C i_MT i_AT L xs 47 [.ref x0] h (fun v h4 => v = none ∧ i_P i_MT i_AT L xs 41 59 [some (.ref x0), some (.int x1)] [] h4 0 0 Q)))))))))) : i_P i_MT i_AT L xs 41 36 [some (.ref x0), some (.int x1)] [] h 0 0 Q := by
  have hk := i_k41
  refine g_s1 (pc2 := 37) hk rfl rfl rfl rfl rfl ?_
  obtain ⟨v1, ev1, H⟩ := H
  refine g_step (pc2 := 40) hk rfl rfl rfl (s_get ev1) ?_
  obtain ⟨v2, ev2, H⟩ := H
  refine g_step (pc2 := 43) hk rfl rfl rfl (s_get ev2) ?_
  refine g_s1 (pc2 := 45) (st2 := [.int (32 : Int32), .int v2]) hk rfl rfl rfl rfl rfl ?_
  refine g_icmp_ne hk rfl (fun hc => ?_) (fun hc => ?_)
  · have H := H.1 hc
    exact H
  · have H := H.2 hc
    refine g_s1 (pc2 := 49) hk rfl rfl rfl rfl rfl ?_
    obtain ⟨v3, ev3, H⟩ := H
    refine g_step (pc2 := 52) hk rfl rfl rfl (s_get ev3) ?_
    refine g_if_le hk rfl (fun hc => ?_) (fun hc => ?_)
    · have H := H.1 hc
      exact H
    · have H := H.2 hc
      refine g_s1 (pc2 := 56) hk rfl rfl rfl rfl rfl ?_
      obtain ⟨ho, H⟩ := H
      refine g_call hk rfl rfl i_k47.1 ⟨rfl, rfl⟩ rfl (i_rcv_v ho rfl (by decide)) rfl ?_
      exact H.mono (fun v h2 q => by obtain ⟨rfl, q⟩ := q; exact q)
theorem b41_59 {x0 : Nat} {x1 : Int32} {h : iH} {Q : Option Value → iH → Prop} (H : i_P i_MT i_AT L xs 41 71 [some (.ref x0), some (.int x1)] [] h 0 0 Q) : i_P i_MT i_AT L xs 41 59 [some (.ref x0), some (.int x1)] [] h 0 0 Q := by
  have hk := i_k41
  refine g_s1 (pc2 := 71) hk rfl rfl rfl rfl rfl ?_
  exact H
theorem b41_62 {x0 : Nat} {x1 : Int32} {h : iH} {Q : Option Value → iH → Prop} (H : (i_obj? h x0 4 ∧ i_C i_MT i_AT L xs 42 [.ref x0] h (fun v h1 => ∃ r2 : Int32, v = some (.int r2) ∧ i_P i_MT i_AT L xs 41 66 [some (.ref x0), some (.int x1)] [.int r2] h1 0 0 Q))) : i_P i_MT i_AT L xs 41 62 [some (.ref x0), some (.int x1)] [] h 0 0 Q := by
  have hk := i_k41
  refine g_s1 (pc2 := 63) hk rfl rfl rfl rfl rfl ?_
  obtain ⟨ho, H⟩ := H
  refine g_call hk rfl rfl i_k42.1 ⟨rfl, rfl⟩ rfl (i_rcv_v ho rfl (by decide)) rfl ?_
  exact H.mono (fun v h2 q => by obtain ⟨r, rfl, q⟩ := q; exact q)
theorem b41_66 {x0 : Nat} {x1 : Int32} {s0 : Int32} {h : iH} {Q : Option Value → iH → Prop} (H : ((¬ s0 = 0 → i_P i_MT i_AT L xs 41 71 [some (.ref x0), some (.int x1)] [] h 0 0 Q) ∧ (¬ (¬ s0 = 0) → Q (some (.int 0)) h))) : i_P i_MT i_AT L xs 41 66 [some (.ref x0), some (.int x1)] [.int s0] h 0 0 Q := by
  have hk := i_k41
  refine g_if_ne hk rfl (fun hc => ?_) (fun hc => ?_)
  · have H := H.1 hc
    exact H
  · have H := H.2 hc
    refine g_s1 (pc2 := 70) (st2 := [.int (0 : Int32)]) hk rfl rfl rfl rfl rfl ?_
    exact g_ireturn hk rfl (by decide) (by decide) rfl H
theorem b41_71 {x0 : Nat} {x1 : Int32} {h : iH} {Q : Option Value → iH → Prop} (H : i_P i_MT i_AT L xs 41 2 [some (.ref x0), some (.int (x1 + 1))] [] h 0 0 Q) : i_P i_MT i_AT L xs 41 71 [some (.ref x0), some (.int x1)] [] h 0 0 Q := by
  have hk := i_k41
  refine g_s1 (pc2 := 74) (lo2 := [some (.ref x0), some (.int (x1 + 1))]) hk rfl rfl rfl rfl rfl ?_
  refine g_s1 (pc2 := 2) hk rfl rfl rfl rfl rfl ?_
  exact H
theorem b41_84 {x0 : Nat} {x1 : Int32} {s0 : Int32} {h : iH} {Q : Option Value → iH → Prop} (H : (i_ret (some .boolean) s0 = true ∧ Q (some (.int s0)) h)) : i_P i_MT i_AT L xs 41 84 [some (.ref x0), some (.int x1)] [.int s0] h 0 0 Q := by
  have hk := i_k41
  exact g_ireturn hk rfl (by decide) (by decide) H.1 H.2
/-! StillTown$PlanReader.readMove()Z -/
theorem e42 {x0 : Nat} {h : iH} {Q : Option Value → iH → Prop} (H : i_P i_MT i_AT L xs 42 0 [some (.ref x0), none] [] h 0 0 Q) : i_C i_MT i_AT L xs 42 [.ref x0] h Q := ⟨i_m42, i_k42.1, Nat.le_of_ble_eq_true rfl, H⟩
theorem b42_0 {x0 : Nat} {x1 : Option Value} {h : iH} {Q : Option Value → iH → Prop} (H : (∃ v1 : Nat, i_fld h x0 4 0 = some (.ref v1) ∧ (∃ v2 : Int32, i_fld h v1 7 10 = some (.int v2) ∧ (i_C i_MT i_AT L xs 43 [.int v2] h (fun v h3 => ∃ r4 : Int32, v = some (.int r4) ∧ i_P i_MT i_AT L xs 42 12 [some (.ref x0), some (.int v2)] [.int r4] h3 0 0 Q))))) : i_P i_MT i_AT L xs 42 0 [some (.ref x0), x1] [] h 0 0 Q := by
  have hk := i_k42
  refine g_s1 (pc2 := 1) hk rfl rfl rfl rfl rfl ?_
  obtain ⟨v1, ev1, H⟩ := H
  refine g_step (pc2 := 4) hk rfl rfl rfl (s_get ev1) ?_
  obtain ⟨v2, ev2, H⟩ := H
  refine g_step (pc2 := 7) hk rfl rfl rfl (s_get ev2) ?_
  refine g_s1 (pc2 := 8) (lo2 := [some (.ref x0), some (.int v2)]) hk rfl rfl rfl rfl rfl ?_
  refine g_s1 (pc2 := 9) hk rfl rfl rfl rfl rfl ?_
  refine g_call hk rfl rfl i_k43.1 ⟨rfl, rfl⟩ rfl (i_rcv_0 rfl) rfl ?_
  exact H.mono (fun v h2 q => by obtain ⟨r, rfl, q⟩ := q; exact q)
theorem b42_12 {x0 : Nat} {x1 : Int32} {s0 : Int32} {h : iH} {Q : Option Value → iH → Prop} (H : ((¬ s0 = 0 → (∃ v1 : Int32, i_fld h x0 4 2 = some (.int v1) ∧ ((v1 < (40 : Int32) → (∃ v2 : Int32, i_fld h x0 4 2 = some (.int v2) ∧ ((∃ o, i_fld h x0 4 2 = some o) ∧ i_P i_MT i_AT L xs 42 52 [some (.ref x0), some (.int x1)] [] (i_sf h x0 2 (.int (v2 + (1 : Int32)))) 0 0 Q))) ∧ (¬ (v1 < (40 : Int32)) → (∃ v3 : Nat, i_fld h x0 4 0 = some (.ref v3) ∧ (i_obj? h v3 7 ∧ i_C i_MT i_AT L xs 86 [.ref v3, .int (6 : Int32)] h (fun v h4 => ∃ r5 : Int32, v = some (.int r5) ∧ i_P i_MT i_AT L xs 42 41 [some (.ref x0), some (.int x1)] [.int r5] h4 0 0 Q))))))) ∧ (¬ (¬ s0 = 0) → (∃ v6 : Nat, i_fld h x0 4 0 = some (.ref v6) ∧ (i_obj? h v6 7 ∧ i_C i_MT i_AT L xs 87 [.ref v6] h (fun v h7 => ∃ r8 : Int32, v = some (.int r8) ∧ i_P i_MT i_AT L xs 42 22 [some (.ref x0), some (.int x1)] [.int r8] h7 0 0 Q)))))) : i_P i_MT i_AT L xs 42 12 [some (.ref x0), some (.int x1)] [.int s0] h 0 0 Q := by
  have hk := i_k42
  refine g_if_ne hk rfl (fun hc => ?_) (fun hc => ?_)
  · have H := H.1 hc
    refine g_s1 (pc2 := 24) hk rfl rfl rfl rfl rfl ?_
    obtain ⟨v1, ev1, H⟩ := H
    refine g_step (pc2 := 27) hk rfl rfl rfl (s_get ev1) ?_
    refine g_s1 (pc2 := 29) (st2 := [.int (40 : Int32), .int v1]) hk rfl rfl rfl rfl rfl ?_
    refine g_icmp_lt hk rfl (fun hc => ?_) (fun hc => ?_)
    · have H := H.1 hc
      refine g_s1 (pc2 := 43) hk rfl rfl rfl rfl rfl ?_
      refine g_s1 (pc2 := 44) hk rfl rfl rfl rfl rfl ?_
      obtain ⟨v2, ev2, H⟩ := H
      refine g_step (pc2 := 47) hk rfl rfl rfl (s_get ev2) ?_
      refine g_s1 (pc2 := 48) (st2 := [.int (1 : Int32), .int v2, .ref x0]) hk rfl rfl rfl rfl rfl ?_
      refine g_s1 (pc2 := 49) hk rfl rfl rfl rfl rfl ?_
      obtain ⟨⟨o, ho⟩, H⟩ := H
      refine g_step (pc2 := 52) hk rfl rfl rfl (s_put ho rfl) ?_
      exact H
    · have H := H.2 hc
      refine g_s1 (pc2 := 33) hk rfl rfl rfl rfl rfl ?_
      obtain ⟨v3, ev3, H⟩ := H
      refine g_step (pc2 := 36) hk rfl rfl rfl (s_get ev3) ?_
      refine g_s1 (pc2 := 38) (st2 := [.int (6 : Int32), .ref v3]) hk rfl rfl rfl rfl rfl ?_
      obtain ⟨ho, H⟩ := H
      refine g_call hk rfl rfl i_k86.1 ⟨rfl, rfl⟩ rfl (i_rcv_v ho rfl (by decide)) rfl ?_
      exact H.mono (fun v h2 q => by obtain ⟨r, rfl, q⟩ := q; exact q)
  · have H := H.2 hc
    refine g_s1 (pc2 := 16) hk rfl rfl rfl rfl rfl ?_
    obtain ⟨v6, ev6, H⟩ := H
    refine g_step (pc2 := 19) hk rfl rfl rfl (s_get ev6) ?_
    obtain ⟨ho, H⟩ := H
    refine g_call hk rfl rfl i_k87.1 ⟨rfl, rfl⟩ rfl (i_rcv_v ho rfl (by decide)) rfl ?_
    exact H.mono (fun v h2 q => by obtain ⟨r, rfl, q⟩ := q; exact q)
theorem b42_22 {x0 : Nat} {x1 : Int32} {s0 : Int32} {h : iH} {Q : Option Value → iH → Prop} (H : (i_ret (some .boolean) s0 = true ∧ Q (some (.int s0)) h)) : i_P i_MT i_AT L xs 42 22 [some (.ref x0), some (.int x1)] [.int s0] h 0 0 Q := by
  have hk := i_k42
  exact g_ireturn hk rfl (by decide) (by decide) H.1 H.2
theorem b42_41 {x0 : Nat} {x1 : Int32} {s0 : Int32} {h : iH} {Q : Option Value → iH → Prop} (H : (i_ret (some .boolean) s0 = true ∧ Q (some (.int s0)) h)) : i_P i_MT i_AT L xs 42 41 [some (.ref x0), some (.int x1)] [.int s0] h 0 0 Q := by
  have hk := i_k42
  exact g_ireturn hk rfl (by decide) (by decide) H.1 H.2
theorem b42_52 {x0 : Nat} {x1 : Int32} {h : iH} {Q : Option Value → iH → Prop} (H : ((x1.toInt < 24 ∨ 31 < x1.toInt → (i_obj? h x0 4 ∧ i_C i_MT i_AT L xs 48 [.ref x0, .int (32 : Int32)] h (fun v h1 => v = none ∧ i_P i_MT i_AT L xs 42 134 [some (.ref x0), some (.int x1)] [] h1 0 0 Q))) ∧ (x1.toInt = 24 → (i_obj? h x0 4 ∧ i_C i_MT i_AT L xs 44 [.ref x0, .int (2 : Int32)] h (fun v h3 => ∃ r4 : Int32, v = some (.int r4) ∧ i_P i_MT i_AT L xs 42 111 [some (.ref x0), some (.int x1)] [.int r4] h3 0 0 Q))) ∧ (x1.toInt = 25 → (i_obj? h x0 4 ∧ i_C i_MT i_AT L xs 44 [.ref x0, .int (3 : Int32)] h (fun v h5 => ∃ r6 : Int32, v = some (.int r6) ∧ i_P i_MT i_AT L xs 42 117 [some (.ref x0), some (.int x1)] [.int r6] h5 0 0 Q))) ∧ (x1.toInt = 26 → (i_obj? h x0 4 ∧ i_C i_MT i_AT L xs 48 [.ref x0, .int (32 : Int32)] h (fun v h7 => v = none ∧ i_P i_MT i_AT L xs 42 134 [some (.ref x0), some (.int x1)] [] h7 0 0 Q))) ∧ (x1.toInt = 27 → (i_obj? h x0 4 ∧ i_C i_MT i_AT L xs 48 [.ref x0, .int (32 : Int32)] h (fun v h9 => v = none ∧ i_P i_MT i_AT L xs 42 134 [some (.ref x0), some (.int x1)] [] h9 0 0 Q))) ∧ (x1.toInt = 28 → (i_obj? h x0 4 ∧ i_C i_MT i_AT L xs 48 [.ref x0, .int (32 : Int32)] h (fun v h11 => v = none ∧ i_P i_MT i_AT L xs 42 134 [some (.ref x0), some (.int x1)] [] h11 0 0 Q))) ∧ (x1.toInt = 29 → (i_obj? h x0 4 ∧ i_C i_MT i_AT L xs 44 [.ref x0, .int (1 : Int32)] h (fun v h13 => ∃ r14 : Int32, v = some (.int r14) ∧ i_P i_MT i_AT L xs 42 105 [some (.ref x0), some (.int x1)] [.int r14] h13 0 0 Q))) ∧ (x1.toInt = 30 → (i_obj? h x0 4 ∧ i_C i_MT i_AT L xs 45 [.ref x0] h (fun v h15 => ∃ r16 : Int32, v = some (.int r16) ∧ i_P i_MT i_AT L xs 42 122 [some (.ref x0), some (.int x1)] [.int r16] h15 0 0 Q))) ∧ (x1.toInt = 31 → (i_obj? h x0 4 ∧ i_C i_MT i_AT L xs 46 [.ref x0] h (fun v h17 => ∃ r18 : Int32, v = some (.int r18) ∧ i_P i_MT i_AT L xs 42 127 [some (.ref x0), some (.int x1)] [.int r18] h17 0 0 Q))))) : i_P i_MT i_AT L xs 42 52 [some (.ref x0), some (.int x1)] [] h 0 0 Q := by
  have hk := i_k42
  refine g_s1 (pc2 := 53) hk rfl rfl rfl rfl rfl ?_
  rcases (show (x1.toInt < 24 ∨ 31 < x1.toInt) ∨ x1.toInt = 24 ∨ x1.toInt = 25 ∨ x1.toInt = 26 ∨ x1.toInt = 27 ∨ x1.toInt = 28 ∨ x1.toInt = 29 ∨ x1.toInt = 30 ∨ x1.toInt = 31 by omega) with hx | hx | hx | hx | hx | hx | hx | hx | hx
  · refine g_sw (t := 128) hk rfl (by unfold i_swt; rw [if_pos hx]; rfl) ?_
    have H := H.1 hx
    refine g_s1 (pc2 := 129) hk rfl rfl rfl rfl rfl ?_
    refine g_s1 (pc2 := 131) (st2 := [.int (32 : Int32), .ref x0]) hk rfl rfl rfl rfl rfl ?_
    obtain ⟨ho, H⟩ := H
    refine g_call hk rfl rfl i_k48.1 ⟨rfl, rfl⟩ rfl (i_rcv_v ho rfl (by decide)) rfl ?_
    exact H.mono (fun v h2 q => by obtain ⟨rfl, q⟩ := q; exact q)
  · refine g_sw (t := 106) hk rfl (by rw [hx]; rfl) ?_
    have H := H.2.1 hx
    refine g_s1 (pc2 := 107) hk rfl rfl rfl rfl rfl ?_
    refine g_s1 (pc2 := 108) (st2 := [.int (2 : Int32), .ref x0]) hk rfl rfl rfl rfl rfl ?_
    obtain ⟨ho, H⟩ := H
    refine g_call hk rfl rfl i_k44.1 ⟨rfl, rfl⟩ rfl (i_rcv_v ho rfl (by decide)) rfl ?_
    exact H.mono (fun v h2 q => by obtain ⟨r, rfl, q⟩ := q; exact q)
  · refine g_sw (t := 112) hk rfl (by rw [hx]; rfl) ?_
    have H := H.2.2.1 hx
    refine g_s1 (pc2 := 113) hk rfl rfl rfl rfl rfl ?_
    refine g_s1 (pc2 := 114) (st2 := [.int (3 : Int32), .ref x0]) hk rfl rfl rfl rfl rfl ?_
    obtain ⟨ho, H⟩ := H
    refine g_call hk rfl rfl i_k44.1 ⟨rfl, rfl⟩ rfl (i_rcv_v ho rfl (by decide)) rfl ?_
    exact H.mono (fun v h2 q => by obtain ⟨r, rfl, q⟩ := q; exact q)
  · refine g_sw (t := 128) hk rfl (by rw [hx]; rfl) ?_
    have H := H.2.2.2.1 hx
    refine g_s1 (pc2 := 129) hk rfl rfl rfl rfl rfl ?_
    refine g_s1 (pc2 := 131) (st2 := [.int (32 : Int32), .ref x0]) hk rfl rfl rfl rfl rfl ?_
    obtain ⟨ho, H⟩ := H
    refine g_call hk rfl rfl i_k48.1 ⟨rfl, rfl⟩ rfl (i_rcv_v ho rfl (by decide)) rfl ?_
    exact H.mono (fun v h2 q => by obtain ⟨rfl, q⟩ := q; exact q)
  · refine g_sw (t := 128) hk rfl (by rw [hx]; rfl) ?_
    have H := H.2.2.2.2.1 hx
    refine g_s1 (pc2 := 129) hk rfl rfl rfl rfl rfl ?_
    refine g_s1 (pc2 := 131) (st2 := [.int (32 : Int32), .ref x0]) hk rfl rfl rfl rfl rfl ?_
    obtain ⟨ho, H⟩ := H
    refine g_call hk rfl rfl i_k48.1 ⟨rfl, rfl⟩ rfl (i_rcv_v ho rfl (by decide)) rfl ?_
    exact H.mono (fun v h2 q => by obtain ⟨rfl, q⟩ := q; exact q)
  · refine g_sw (t := 128) hk rfl (by rw [hx]; rfl) ?_
    have H := H.2.2.2.2.2.1 hx
    refine g_s1 (pc2 := 129) hk rfl rfl rfl rfl rfl ?_
    refine g_s1 (pc2 := 131) (st2 := [.int (32 : Int32), .ref x0]) hk rfl rfl rfl rfl rfl ?_
    obtain ⟨ho, H⟩ := H
    refine g_call hk rfl rfl i_k48.1 ⟨rfl, rfl⟩ rfl (i_rcv_v ho rfl (by decide)) rfl ?_
    exact H.mono (fun v h2 q => by obtain ⟨rfl, q⟩ := q; exact q)
  · refine g_sw (t := 100) hk rfl (by rw [hx]; rfl) ?_
    have H := H.2.2.2.2.2.2.1 hx
    refine g_s1 (pc2 := 101) hk rfl rfl rfl rfl rfl ?_
    refine g_s1 (pc2 := 102) (st2 := [.int (1 : Int32), .ref x0]) hk rfl rfl rfl rfl rfl ?_
    obtain ⟨ho, H⟩ := H
    refine g_call hk rfl rfl i_k44.1 ⟨rfl, rfl⟩ rfl (i_rcv_v ho rfl (by decide)) rfl ?_
    exact H.mono (fun v h2 q => by obtain ⟨r, rfl, q⟩ := q; exact q)
  · refine g_sw (t := 118) hk rfl (by rw [hx]; rfl) ?_
    have H := H.2.2.2.2.2.2.2.1 hx
    refine g_s1 (pc2 := 119) hk rfl rfl rfl rfl rfl ?_
    obtain ⟨ho, H⟩ := H
    refine g_call hk rfl rfl i_k45.1 ⟨rfl, rfl⟩ rfl (i_rcv_v ho rfl (by decide)) rfl ?_
    exact H.mono (fun v h2 q => by obtain ⟨r, rfl, q⟩ := q; exact q)
  · refine g_sw (t := 123) hk rfl (by rw [hx]; rfl) ?_
    have H := H.2.2.2.2.2.2.2.2 hx
    refine g_s1 (pc2 := 124) hk rfl rfl rfl rfl rfl ?_
    obtain ⟨ho, H⟩ := H
    refine g_call hk rfl rfl i_k46.1 ⟨rfl, rfl⟩ rfl (i_rcv_v ho rfl (by decide)) rfl ?_
    exact H.mono (fun v h2 q => by obtain ⟨r, rfl, q⟩ := q; exact q)
theorem b42_105 {x0 : Nat} {x1 : Int32} {s0 : Int32} {h : iH} {Q : Option Value → iH → Prop} (H : (i_ret (some .boolean) s0 = true ∧ Q (some (.int s0)) h)) : i_P i_MT i_AT L xs 42 105 [some (.ref x0), some (.int x1)] [.int s0] h 0 0 Q := by
  have hk := i_k42
  exact g_ireturn hk rfl (by decide) (by decide) H.1 H.2
theorem b42_111 {x0 : Nat} {x1 : Int32} {s0 : Int32} {h : iH} {Q : Option Value → iH → Prop} (H : (i_ret (some .boolean) s0 = true ∧ Q (some (.int s0)) h)) : i_P i_MT i_AT L xs 42 111 [some (.ref x0), some (.int x1)] [.int s0] h 0 0 Q := by
  have hk := i_k42
  exact g_ireturn hk rfl (by decide) (by decide) H.1 H.2
theorem b42_117 {x0 : Nat} {x1 : Int32} {s0 : Int32} {h : iH} {Q : Option Value → iH → Prop} (H : (i_ret (some .boolean) s0 = true ∧ Q (some (.int s0)) h)) : i_P i_MT i_AT L xs 42 117 [some (.ref x0), some (.int x1)] [.int s0] h 0 0 Q := by
  have hk := i_k42
  exact g_ireturn hk rfl (by decide) (by decide) H.1 H.2
theorem b42_122 {x0 : Nat} {x1 : Int32} {s0 : Int32} {h : iH} {Q : Option Value → iH → Prop} (H : (i_ret (some .boolean) s0 = true ∧ Q (some (.int s0)) h)) : i_P i_MT i_AT L xs 42 122 [some (.ref x0), some (.int x1)] [.int s0] h 0 0 Q := by
  have hk := i_k42
  exact g_ireturn hk rfl (by decide) (by decide) H.1 H.2
theorem b42_127 {x0 : Nat} {x1 : Int32} {s0 : Int32} {h : iH} {Q : Option Value → iH → Prop} (H : (i_ret (some .boolean) s0 = true ∧ Q (some (.int s0)) h)) : i_P i_MT i_AT L xs 42 127 [some (.ref x0), some (.int x1)] [.int s0] h 0 0 Q := by
  have hk := i_k42
  exact g_ireturn hk rfl (by decide) (by decide) H.1 H.2
theorem b42_134 {x0 : Nat} {x1 : Int32} {h : iH} {Q : Option Value → iH → Prop} (H : Q (some (.int 1)) h) : i_P i_MT i_AT L xs 42 134 [some (.ref x0), some (.int x1)] [] h 0 0 Q := by
  have hk := i_k42
  refine g_s1 (pc2 := 135) (st2 := [.int (1 : Int32)]) hk rfl rfl rfl rfl rfl ?_
  exact g_ireturn hk rfl (by decide) (by decide) rfl H
/-! StillTown$PlanReader.isMove(I)Z -/
theorem e43 {x0 : Int32} {h : iH} {Q : Option Value → iH → Prop} (H : i_P i_MT i_AT L xs 43 0 [some (.int x0)] [] h 0 0 Q) : i_C i_MT i_AT L xs 43 [.int x0] h Q := ⟨i_m43, i_k43.1, Nat.le_of_ble_eq_true rfl, H⟩
theorem b43_0 {x0 : Int32} {h : iH} {Q : Option Value → iH → Prop} (H : ((x0 < (29 : Int32) → i_P i_MT i_AT L xs 43 12 [some (.int x0)] [] h 0 0 Q) ∧ (¬ (x0 < (29 : Int32)) → ((x0 ≤ (31 : Int32) → i_P i_MT i_AT L xs 43 24 [some (.int x0)] [] h 0 0 Q) ∧ (¬ (x0 ≤ (31 : Int32)) → i_P i_MT i_AT L xs 43 12 [some (.int x0)] [] h 0 0 Q))))) : i_P i_MT i_AT L xs 43 0 [some (.int x0)] [] h 0 0 Q := by
  have hk := i_k43
  refine g_s1 (pc2 := 1) hk rfl rfl rfl rfl rfl ?_
  refine g_s1 (pc2 := 3) (st2 := [.int (29 : Int32), .int x0]) hk rfl rfl rfl rfl rfl ?_
  refine g_icmp_lt hk rfl (fun hc => ?_) (fun hc => ?_)
  · have H := H.1 hc
    exact H
  · have H := H.2 hc
    refine g_s1 (pc2 := 7) hk rfl rfl rfl rfl rfl ?_
    refine g_s1 (pc2 := 9) (st2 := [.int (31 : Int32), .int x0]) hk rfl rfl rfl rfl rfl ?_
    refine g_icmp_le hk rfl (fun hc => ?_) (fun hc => ?_)
    · have H := H.1 hc
      exact H
    · have H := H.2 hc
      exact H
theorem b43_12 {x0 : Int32} {h : iH} {Q : Option Value → iH → Prop} (H : ((x0 < (24 : Int32) → i_P i_MT i_AT L xs 43 28 [some (.int x0)] [] h 0 0 Q) ∧ (¬ (x0 < (24 : Int32)) → (((26 : Int32) < x0 → i_P i_MT i_AT L xs 43 28 [some (.int x0)] [] h 0 0 Q) ∧ (¬ ((26 : Int32) < x0) → i_P i_MT i_AT L xs 43 24 [some (.int x0)] [] h 0 0 Q))))) : i_P i_MT i_AT L xs 43 12 [some (.int x0)] [] h 0 0 Q := by
  have hk := i_k43
  refine g_s1 (pc2 := 13) hk rfl rfl rfl rfl rfl ?_
  refine g_s1 (pc2 := 15) (st2 := [.int (24 : Int32), .int x0]) hk rfl rfl rfl rfl rfl ?_
  refine g_icmp_lt hk rfl (fun hc => ?_) (fun hc => ?_)
  · have H := H.1 hc
    exact H
  · have H := H.2 hc
    refine g_s1 (pc2 := 19) hk rfl rfl rfl rfl rfl ?_
    refine g_s1 (pc2 := 21) (st2 := [.int (26 : Int32), .int x0]) hk rfl rfl rfl rfl rfl ?_
    refine g_icmp_gt hk rfl (fun hc => ?_) (fun hc => ?_)
    · have H := H.1 hc
      exact H
    · have H := H.2 hc
      exact H
theorem b43_24 {x0 : Int32} {h : iH} {Q : Option Value → iH → Prop} (H : i_P i_MT i_AT L xs 43 29 [some (.int x0)] [.int (1 : Int32)] h 0 0 Q) : i_P i_MT i_AT L xs 43 24 [some (.int x0)] [] h 0 0 Q := by
  have hk := i_k43
  refine g_s1 (pc2 := 25) (st2 := [.int (1 : Int32)]) hk rfl rfl rfl rfl rfl ?_
  refine g_s1 (pc2 := 29) hk rfl rfl rfl rfl rfl ?_
  exact H
theorem b43_28 {x0 : Int32} {h : iH} {Q : Option Value → iH → Prop} (H : i_P i_MT i_AT L xs 43 29 [some (.int x0)] [.int (0 : Int32)] h 0 0 Q) : i_P i_MT i_AT L xs 43 28 [some (.int x0)] [] h 0 0 Q := by
  have hk := i_k43
  refine g_s1 (pc2 := 29) (st2 := [.int (0 : Int32)]) hk rfl rfl rfl rfl rfl ?_
  exact H
theorem b43_29 {x0 : Int32} {s0 : Int32} {h : iH} {Q : Option Value → iH → Prop} (H : (i_ret (some .boolean) s0 = true ∧ Q (some (.int s0)) h)) : i_P i_MT i_AT L xs 43 29 [some (.int x0)] [.int s0] h 0 0 Q := by
  have hk := i_k43
  exact g_ireturn hk rfl (by decide) (by decide) H.1 H.2
/-! StillTown$PlanReader.readWayOf(I)Z -/
theorem e44 {x0 : Nat} {x1 : Int32} {h : iH} {Q : Option Value → iH → Prop} (H : i_P i_MT i_AT L xs 44 0 [some (.ref x0), some (.int x1)] [] h 0 0 Q) : i_C i_MT i_AT L xs 44 [.ref x0, .int x1] h Q := ⟨i_m44, i_k44.1, Nat.le_of_ble_eq_true rfl, H⟩
theorem b44_0 {x0 : Nat} {x1 : Int32} {h : iH} {Q : Option Value → iH → Prop} (H : (∃ v1 : Nat, i_fld h x0 4 0 = some (.ref v1) ∧ (i_obj? h v1 7 ∧ i_C i_MT i_AT L xs 92 [.ref v1] h (fun v h2 => ∃ r3 : Int32, v = some (.int r3) ∧ i_P i_MT i_AT L xs 44 7 [some (.ref x0), some (.int x1)] [.int r3] h2 0 0 Q)))) : i_P i_MT i_AT L xs 44 0 [some (.ref x0), some (.int x1)] [] h 0 0 Q := by
  have hk := i_k44
  refine g_s1 (pc2 := 1) hk rfl rfl rfl rfl rfl ?_
  obtain ⟨v1, ev1, H⟩ := H
  refine g_step (pc2 := 4) hk rfl rfl rfl (s_get ev1) ?_
  obtain ⟨ho, H⟩ := H
  refine g_call hk rfl rfl i_k92.1 ⟨rfl, rfl⟩ rfl (i_rcv_v ho rfl (by decide)) rfl ?_
  exact H.mono (fun v h2 q => by obtain ⟨r, rfl, q⟩ := q; exact q)
theorem b44_7 {x0 : Nat} {x1 : Int32} {s0 : Int32} {h : iH} {Q : Option Value → iH → Prop} (H : ((¬ s0 = 0 → (∃ v1 : Nat, i_fld h x0 4 0 = some (.ref v1) ∧ (∃ v2 : Int32, i_fld h v1 7 10 = some (.int v2) ∧ (i_obj? h x0 4 ∧ i_C i_MT i_AT L xs 48 [.ref x0, .int ((x1 * (8 : Int32)) + v2)] h (fun v h3 => v = none ∧ i_P i_MT i_AT L xs 44 28 [some (.ref x0), some (.int x1)] [] h3 0 0 Q))))) ∧ (¬ (¬ s0 = 0) → Q (some (.int 0)) h))) : i_P i_MT i_AT L xs 44 7 [some (.ref x0), some (.int x1)] [.int s0] h 0 0 Q := by
  have hk := i_k44
  refine g_if_ne hk rfl (fun hc => ?_) (fun hc => ?_)
  · have H := H.1 hc
    refine g_s1 (pc2 := 13) hk rfl rfl rfl rfl rfl ?_
    refine g_s1 (pc2 := 14) hk rfl rfl rfl rfl rfl ?_
    refine g_s1 (pc2 := 16) (st2 := [.int (8 : Int32), .int x1, .ref x0]) hk rfl rfl rfl rfl rfl ?_
    refine g_s1 (pc2 := 17) hk rfl rfl rfl rfl rfl ?_
    refine g_s1 (pc2 := 18) hk rfl rfl rfl rfl rfl ?_
    obtain ⟨v1, ev1, H⟩ := H
    refine g_step (pc2 := 21) hk rfl rfl rfl (s_get ev1) ?_
    obtain ⟨v2, ev2, H⟩ := H
    refine g_step (pc2 := 24) hk rfl rfl rfl (s_get ev2) ?_
    refine g_s1 (pc2 := 25) hk rfl rfl rfl rfl rfl ?_
    obtain ⟨ho, H⟩ := H
    refine g_call hk rfl rfl i_k48.1 ⟨rfl, rfl⟩ rfl (i_rcv_v ho rfl (by decide)) rfl ?_
    exact H.mono (fun v h2 q => by obtain ⟨rfl, q⟩ := q; exact q)
  · have H := H.2 hc
    refine g_s1 (pc2 := 11) (st2 := [.int (0 : Int32)]) hk rfl rfl rfl rfl rfl ?_
    exact g_ireturn hk rfl (by decide) (by decide) rfl H
theorem b44_28 {x0 : Nat} {x1 : Int32} {h : iH} {Q : Option Value → iH → Prop} (H : Q (some (.int 1)) h) : i_P i_MT i_AT L xs 44 28 [some (.ref x0), some (.int x1)] [] h 0 0 Q := by
  have hk := i_k44
  refine g_s1 (pc2 := 29) (st2 := [.int (1 : Int32)]) hk rfl rfl rfl rfl rfl ?_
  exact g_ireturn hk rfl (by decide) (by decide) rfl H
/-! StillTown$PlanReader.readStill()Z -/
theorem e45 {x0 : Nat} {h : iH} {Q : Option Value → iH → Prop} (H : i_P i_MT i_AT L xs 45 0 [some (.ref x0), none] [] h 0 0 Q) : i_C i_MT i_AT L xs 45 [.ref x0] h Q := ⟨i_m45, i_k45.1, Nat.le_of_ble_eq_true rfl, H⟩
theorem b45_0 {x0 : Nat} {x1 : Option Value} {h : iH} {Q : Option Value → iH → Prop} (H : (∃ v1 : Nat, i_fld h x0 4 0 = some (.ref v1) ∧ (i_obj? h v1 7 ∧ i_C i_MT i_AT L xs 95 [.ref v1, .int (1 : Int32), .int (60 : Int32)] h (fun v h2 => ∃ r3 : Int32, v = some (.int r3) ∧ i_P i_MT i_AT L xs 45 10 [some (.ref x0), x1] [.int r3] h2 0 0 Q)))) : i_P i_MT i_AT L xs 45 0 [some (.ref x0), x1] [] h 0 0 Q := by
  have hk := i_k45
  refine g_s1 (pc2 := 1) hk rfl rfl rfl rfl rfl ?_
  obtain ⟨v1, ev1, H⟩ := H
  refine g_step (pc2 := 4) hk rfl rfl rfl (s_get ev1) ?_
  refine g_s1 (pc2 := 5) (st2 := [.int (1 : Int32), .ref v1]) hk rfl rfl rfl rfl rfl ?_
  refine g_s1 (pc2 := 7) (st2 := [.int (60 : Int32), .int (1 : Int32), .ref v1]) hk rfl rfl rfl rfl rfl ?_
  obtain ⟨ho, H⟩ := H
  refine g_call hk rfl rfl i_k95.1 ⟨rfl, rfl⟩ rfl (i_rcv_v ho rfl (by decide)) rfl ?_
  exact H.mono (fun v h2 q => by obtain ⟨r, rfl, q⟩ := q; exact q)
theorem b45_10 {x0 : Nat} {x1 : Option Value} {s0 : Int32} {h : iH} {Q : Option Value → iH → Prop} (H : ((¬ s0 = 0 → i_P i_MT i_AT L xs 45 17 [some (.ref x0), some (.int (0 : Int32))] [] h 0 0 Q) ∧ (¬ (¬ s0 = 0) → Q (some (.int 0)) h))) : i_P i_MT i_AT L xs 45 10 [some (.ref x0), x1] [.int s0] h 0 0 Q := by
  have hk := i_k45
  refine g_if_ne hk rfl (fun hc => ?_) (fun hc => ?_)
  · have H := H.1 hc
    refine g_s1 (pc2 := 16) (st2 := [.int (0 : Int32)]) hk rfl rfl rfl rfl rfl ?_
    refine g_s1 (pc2 := 17) (lo2 := [some (.ref x0), some (.int (0 : Int32))]) hk rfl rfl rfl rfl rfl ?_
    exact H
  · have H := H.2 hc
    refine g_s1 (pc2 := 14) (st2 := [.int (0 : Int32)]) hk rfl rfl rfl rfl rfl ?_
    exact g_ireturn hk rfl (by decide) (by decide) rfl H
theorem b45_17 {x0 : Nat} {x1 : Int32} {h : iH} {Q : Option Value → iH → Prop} (H : (∃ v1 : Nat, i_fld h x0 4 0 = some (.ref v1) ∧ (∃ v2 : Int32, i_fld h v1 7 8 = some (.int v2) ∧ ((v2 ≤ x1 → Q (some (.int 1)) h) ∧ (¬ (v2 ≤ x1) → (i_obj? h x0 4 ∧ i_C i_MT i_AT L xs 48 [.ref x0, .int (0 : Int32)] h (fun v h3 => v = none ∧ i_P i_MT i_AT L xs 45 33 [some (.ref x0), some (.int x1)] [] h3 0 0 Q))))))) : i_P i_MT i_AT L xs 45 17 [some (.ref x0), some (.int x1)] [] h 0 0 Q := by
  have hk := i_k45
  refine g_s1 (pc2 := 18) hk rfl rfl rfl rfl rfl ?_
  refine g_s1 (pc2 := 19) hk rfl rfl rfl rfl rfl ?_
  obtain ⟨v1, ev1, H⟩ := H
  refine g_step (pc2 := 22) hk rfl rfl rfl (s_get ev1) ?_
  obtain ⟨v2, ev2, H⟩ := H
  refine g_step (pc2 := 25) hk rfl rfl rfl (s_get ev2) ?_
  refine g_icmp_ge hk rfl (fun hc => ?_) (fun hc => ?_)
  · have H := H.1 hc
    refine g_s1 (pc2 := 40) (st2 := [.int (1 : Int32)]) hk rfl rfl rfl rfl rfl ?_
    exact g_ireturn hk rfl (by decide) (by decide) rfl H
  · have H := H.2 hc
    refine g_s1 (pc2 := 29) hk rfl rfl rfl rfl rfl ?_
    refine g_s1 (pc2 := 30) (st2 := [.int (0 : Int32), .ref x0]) hk rfl rfl rfl rfl rfl ?_
    obtain ⟨ho, H⟩ := H
    refine g_call hk rfl rfl i_k48.1 ⟨rfl, rfl⟩ rfl (i_rcv_v ho rfl (by decide)) rfl ?_
    exact H.mono (fun v h2 q => by obtain ⟨rfl, q⟩ := q; exact q)
theorem b45_33 {x0 : Nat} {x1 : Int32} {h : iH} {Q : Option Value → iH → Prop} (H : i_P i_MT i_AT L xs 45 17 [some (.ref x0), some (.int (x1 + 1))] [] h 0 0 Q) : i_P i_MT i_AT L xs 45 33 [some (.ref x0), some (.int x1)] [] h 0 0 Q := by
  have hk := i_k45
  refine g_s1 (pc2 := 36) (lo2 := [some (.ref x0), some (.int (x1 + 1))]) hk rfl rfl rfl rfl rfl ?_
  refine g_s1 (pc2 := 17) hk rfl rfl rfl rfl rfl ?_
  exact H
/-! StillTown$PlanReader.openLoop()Z -/
theorem e46 {x0 : Nat} {h : iH} {Q : Option Value → iH → Prop} (H : i_P i_MT i_AT L xs 46 0 [some (.ref x0)] [] h 0 0 Q) : i_C i_MT i_AT L xs 46 [.ref x0] h Q := ⟨i_m46, i_k46.1, Nat.le_of_ble_eq_true rfl, H⟩
theorem b46_0 {x0 : Nat} {h : iH} {Q : Option Value → iH → Prop} (H : (∃ v1 : Int32, i_fld h x0 4 5 = some (.int v1) ∧ ((v1 < (2 : Int32) → (∃ v2 : Nat, i_fld h x0 4 0 = some (.ref v2) ∧ (i_obj? h v2 7 ∧ i_C i_MT i_AT L xs 95 [.ref v2, .int (1 : Int32), .int (60 : Int32)] h (fun v h3 => ∃ r4 : Int32, v = some (.int r4) ∧ i_P i_MT i_AT L xs 46 28 [some (.ref x0)] [.int r4] h3 0 0 Q)))) ∧ (¬ (v1 < (2 : Int32)) → (∃ v5 : Nat, i_fld h x0 4 0 = some (.ref v5) ∧ (i_obj? h v5 7 ∧ i_C i_MT i_AT L xs 86 [.ref v5, .int (7 : Int32)] h (fun v h6 => ∃ r7 : Int32, v = some (.int r7) ∧ i_P i_MT i_AT L xs 46 17 [some (.ref x0)] [.int r7] h6 0 0 Q))))))) : i_P i_MT i_AT L xs 46 0 [some (.ref x0)] [] h 0 0 Q := by
  have hk := i_k46
  refine g_s1 (pc2 := 1) hk rfl rfl rfl rfl rfl ?_
  obtain ⟨v1, ev1, H⟩ := H
  refine g_step (pc2 := 4) hk rfl rfl rfl (s_get ev1) ?_
  refine g_s1 (pc2 := 5) (st2 := [.int (2 : Int32), .int v1]) hk rfl rfl rfl rfl rfl ?_
  refine g_icmp_lt hk rfl (fun hc => ?_) (fun hc => ?_)
  · have H := H.1 hc
    refine g_s1 (pc2 := 19) hk rfl rfl rfl rfl rfl ?_
    obtain ⟨v2, ev2, H⟩ := H
    refine g_step (pc2 := 22) hk rfl rfl rfl (s_get ev2) ?_
    refine g_s1 (pc2 := 23) (st2 := [.int (1 : Int32), .ref v2]) hk rfl rfl rfl rfl rfl ?_
    refine g_s1 (pc2 := 25) (st2 := [.int (60 : Int32), .int (1 : Int32), .ref v2]) hk rfl rfl rfl rfl rfl ?_
    obtain ⟨ho, H⟩ := H
    refine g_call hk rfl rfl i_k95.1 ⟨rfl, rfl⟩ rfl (i_rcv_v ho rfl (by decide)) rfl ?_
    exact H.mono (fun v h2 q => by obtain ⟨r, rfl, q⟩ := q; exact q)
  · have H := H.2 hc
    refine g_s1 (pc2 := 9) hk rfl rfl rfl rfl rfl ?_
    obtain ⟨v5, ev5, H⟩ := H
    refine g_step (pc2 := 12) hk rfl rfl rfl (s_get ev5) ?_
    refine g_s1 (pc2 := 14) (st2 := [.int (7 : Int32), .ref v5]) hk rfl rfl rfl rfl rfl ?_
    obtain ⟨ho, H⟩ := H
    refine g_call hk rfl rfl i_k86.1 ⟨rfl, rfl⟩ rfl (i_rcv_v ho rfl (by decide)) rfl ?_
    exact H.mono (fun v h2 q => by obtain ⟨r, rfl, q⟩ := q; exact q)
theorem b46_17 {x0 : Nat} {s0 : Int32} {h : iH} {Q : Option Value → iH → Prop} (H : (i_ret (some .boolean) s0 = true ∧ Q (some (.int s0)) h)) : i_P i_MT i_AT L xs 46 17 [some (.ref x0)] [.int s0] h 0 0 Q := by
  have hk := i_k46
  exact g_ireturn hk rfl (by decide) (by decide) H.1 H.2
theorem b46_28 {x0 : Nat} {s0 : Int32} {h : iH} {Q : Option Value → iH → Prop} (H : ((¬ s0 = 0 → (∃ v1 : Nat, i_fld h x0 4 3 = some (.ref v1) ∧ (∃ v2 : Int32, i_fld h x0 4 5 = some (.int v2) ∧ (∃ v3 : Int32, i_fld h x0 4 7 = some (.int v3) ∧ (∃ (n4 : Nat) (f5 : Nat → Int32), i_arI h 0 v1 = some (n4, f5) ∧ ¬ (v2 < 0 ∨ n4 ≤ v2.toNatClampNeg) ∧ i_P i_MT i_AT L xs 46 46 [some (.ref x0)] [] (i_siI h v1 v2.toNatClampNeg v3) 0 0 Q))))) ∧ (¬ (¬ s0 = 0) → Q (some (.int 0)) h))) : i_P i_MT i_AT L xs 46 28 [some (.ref x0)] [.int s0] h 0 0 Q := by
  have hk := i_k46
  refine g_if_ne hk rfl (fun hc => ?_) (fun hc => ?_)
  · have H := H.1 hc
    refine g_s1 (pc2 := 34) hk rfl rfl rfl rfl rfl ?_
    obtain ⟨v1, ev1, H⟩ := H
    refine g_step (pc2 := 37) hk rfl rfl rfl (s_get ev1) ?_
    refine g_s1 (pc2 := 38) hk rfl rfl rfl rfl rfl ?_
    obtain ⟨v2, ev2, H⟩ := H
    refine g_step (pc2 := 41) hk rfl rfl rfl (s_get ev2) ?_
    refine g_s1 (pc2 := 42) hk rfl rfl rfl rfl rfl ?_
    obtain ⟨v3, ev3, H⟩ := H
    refine g_step (pc2 := 45) hk rfl rfl rfl (s_get ev3) ?_
    obtain ⟨n4, f5, ef5, hi, H⟩ := H
    refine g_step (pc2 := 46) hk rfl rfl rfl (s_aput ef5 hi) ?_
    exact H
  · have H := H.2 hc
    refine g_s1 (pc2 := 32) (st2 := [.int (0 : Int32)]) hk rfl rfl rfl rfl rfl ?_
    exact g_ireturn hk rfl (by decide) (by decide) rfl H
theorem b46_46 {x0 : Nat} {h : iH} {Q : Option Value → iH → Prop} (H : (∃ v1 : Nat, i_fld h x0 4 4 = some (.ref v1) ∧ (∃ v2 : Int32, i_fld h x0 4 5 = some (.int v2) ∧ (∃ v3 : Nat, i_fld h x0 4 0 = some (.ref v3) ∧ (∃ v4 : Int32, i_fld h v3 7 8 = some (.int v4) ∧ (∃ (n5 : Nat) (f6 : Nat → Int32), i_arI h 0 v1 = some (n5, f6) ∧ ¬ (v2 < 0 ∨ n5 ≤ v2.toNatClampNeg) ∧ i_P i_MT i_AT L xs 46 62 [some (.ref x0)] [] (i_siI h v1 v2.toNatClampNeg v4) 0 0 Q)))))) : i_P i_MT i_AT L xs 46 46 [some (.ref x0)] [] h 0 0 Q := by
  have hk := i_k46
  refine g_s1 (pc2 := 47) hk rfl rfl rfl rfl rfl ?_
  obtain ⟨v1, ev1, H⟩ := H
  refine g_step (pc2 := 50) hk rfl rfl rfl (s_get ev1) ?_
  refine g_s1 (pc2 := 51) hk rfl rfl rfl rfl rfl ?_
  obtain ⟨v2, ev2, H⟩ := H
  refine g_step (pc2 := 54) hk rfl rfl rfl (s_get ev2) ?_
  refine g_s1 (pc2 := 55) hk rfl rfl rfl rfl rfl ?_
  obtain ⟨v3, ev3, H⟩ := H
  refine g_step (pc2 := 58) hk rfl rfl rfl (s_get ev3) ?_
  obtain ⟨v4, ev4, H⟩ := H
  refine g_step (pc2 := 61) hk rfl rfl rfl (s_get ev4) ?_
  obtain ⟨n5, f6, ef6, hi, H⟩ := H
  refine g_step (pc2 := 62) hk rfl rfl rfl (s_aput ef6 hi) ?_
  exact H
theorem b46_62 {x0 : Nat} {h : iH} {Q : Option Value → iH → Prop} (H : (∃ v1 : Int32, i_fld h x0 4 5 = some (.int v1) ∧ ((∃ o, i_fld h x0 4 5 = some o) ∧ i_P i_MT i_AT L xs 46 72 [some (.ref x0)] [] (i_sf h x0 5 (.int (v1 + (1 : Int32)))) 0 0 Q))) : i_P i_MT i_AT L xs 46 62 [some (.ref x0)] [] h 0 0 Q := by
  have hk := i_k46
  refine g_s1 (pc2 := 63) hk rfl rfl rfl rfl rfl ?_
  refine g_s1 (pc2 := 64) hk rfl rfl rfl rfl rfl ?_
  obtain ⟨v1, ev1, H⟩ := H
  refine g_step (pc2 := 67) hk rfl rfl rfl (s_get ev1) ?_
  refine g_s1 (pc2 := 68) (st2 := [.int (1 : Int32), .int v1, .ref x0]) hk rfl rfl rfl rfl rfl ?_
  refine g_s1 (pc2 := 69) hk rfl rfl rfl rfl rfl ?_
  obtain ⟨⟨o, ho⟩, H⟩ := H
  refine g_step (pc2 := 72) hk rfl rfl rfl (s_put ho rfl) ?_
  exact H
theorem b46_72 {x0 : Nat} {h : iH} {Q : Option Value → iH → Prop} (H : Q (some (.int 1)) h) : i_P i_MT i_AT L xs 46 72 [some (.ref x0)] [] h 0 0 Q := by
  have hk := i_k46
  refine g_s1 (pc2 := 73) (st2 := [.int (1 : Int32)]) hk rfl rfl rfl rfl rfl ?_
  exact g_ireturn hk rfl (by decide) (by decide) rfl H
/-! StillTown$PlanReader.closeLoop()V -/
theorem e47 {x0 : Nat} {h : iH} {Q : Option Value → iH → Prop} (H : i_P i_MT i_AT L xs 47 0 [some (.ref x0), none, none, none, none] [] h 0 0 Q) : i_C i_MT i_AT L xs 47 [.ref x0] h Q := ⟨i_m47, i_k47.1, Nat.le_of_ble_eq_true rfl, H⟩
theorem b47_0 {x0 : Nat} {x1 : Option Value} {x2 : Option Value} {x3 : Option Value} {x4 : Option Value} {h : iH} {Q : Option Value → iH → Prop} (H : (∃ v1 : Int32, i_fld h x0 4 5 = some (.int v1) ∧ ((∃ o, i_fld h x0 4 5 = some o) ∧ i_P i_MT i_AT L xs 47 10 [some (.ref x0), x1, x2, x3, x4] [] (i_sf h x0 5 (.int (v1 - (1 : Int32)))) 0 0 Q))) : i_P i_MT i_AT L xs 47 0 [some (.ref x0), x1, x2, x3, x4] [] h 0 0 Q := by
  have hk := i_k47
  refine g_s1 (pc2 := 1) hk rfl rfl rfl rfl rfl ?_
  refine g_s1 (pc2 := 2) hk rfl rfl rfl rfl rfl ?_
  obtain ⟨v1, ev1, H⟩ := H
  refine g_step (pc2 := 5) hk rfl rfl rfl (s_get ev1) ?_
  refine g_s1 (pc2 := 6) (st2 := [.int (1 : Int32), .int v1, .ref x0]) hk rfl rfl rfl rfl rfl ?_
  refine g_s1 (pc2 := 7) hk rfl rfl rfl rfl rfl ?_
  obtain ⟨⟨o, ho⟩, H⟩ := H
  refine g_step (pc2 := 10) hk rfl rfl rfl (s_put ho rfl) ?_
  exact H
theorem b47_10 {x0 : Nat} {x1 : Option Value} {x2 : Option Value} {x3 : Option Value} {x4 : Option Value} {h : iH} {Q : Option Value → iH → Prop} (H : (∃ v1 : Nat, i_fld h x0 4 3 = some (.ref v1) ∧ (∃ v2 : Int32, i_fld h x0 4 5 = some (.int v2) ∧ (∃ (n3 : Nat) (f4 : Nat → Int32), i_arI h 0 v1 = some (n3, f4) ∧ ¬ (v2 < 0 ∨ n3 ≤ v2.toNatClampNeg) ∧ (∃ v5 : Int32, i_fld h x0 4 7 = some (.int v5) ∧ i_P i_MT i_AT L xs 47 29 [some (.ref x0), some (.int (f4 v2.toNatClampNeg)), some (.int (v5 - (f4 v2.toNatClampNeg))), some (.int (1 : Int32)), x4] [] h 0 0 Q))))) : i_P i_MT i_AT L xs 47 10 [some (.ref x0), x1, x2, x3, x4] [] h 0 0 Q := by
  have hk := i_k47
  refine g_s1 (pc2 := 11) hk rfl rfl rfl rfl rfl ?_
  obtain ⟨v1, ev1, H⟩ := H
  refine g_step (pc2 := 14) hk rfl rfl rfl (s_get ev1) ?_
  refine g_s1 (pc2 := 15) hk rfl rfl rfl rfl rfl ?_
  obtain ⟨v2, ev2, H⟩ := H
  refine g_step (pc2 := 18) hk rfl rfl rfl (s_get ev2) ?_
  obtain ⟨n3, f4, ef4, hi, H⟩ := H
  refine g_step (pc2 := 19) hk rfl rfl rfl (s_aget (L := L) (xs := xs) ef4 hi) ?_
  refine g_s1 (pc2 := 20) (lo2 := [some (.ref x0), some (.int (f4 v2.toNatClampNeg)), x2, x3, x4]) hk rfl rfl rfl rfl rfl ?_
  refine g_s1 (pc2 := 21) hk rfl rfl rfl rfl rfl ?_
  obtain ⟨v5, ev5, H⟩ := H
  refine g_step (pc2 := 24) hk rfl rfl rfl (s_get ev5) ?_
  refine g_s1 (pc2 := 25) hk rfl rfl rfl rfl rfl ?_
  refine g_s1 (pc2 := 26) hk rfl rfl rfl rfl rfl ?_
  refine g_s1 (pc2 := 27) (lo2 := [some (.ref x0), some (.int (f4 v2.toNatClampNeg)), some (.int (v5 - (f4 v2.toNatClampNeg))), x3, x4]) hk rfl rfl rfl rfl rfl ?_
  refine g_s1 (pc2 := 28) (st2 := [.int (1 : Int32)]) hk rfl rfl rfl rfl rfl ?_
  refine g_s1 (pc2 := 29) (lo2 := [some (.ref x0), some (.int (f4 v2.toNatClampNeg)), some (.int (v5 - (f4 v2.toNatClampNeg))), some (.int (1 : Int32)), x4]) hk rfl rfl rfl rfl rfl ?_
  exact H
theorem b47_29 {x0 : Nat} {x1 : Int32} {x2 : Int32} {x3 : Int32} {x4 : Option Value} {h : iH} {Q : Option Value → iH → Prop} (H : (∃ v1 : Nat, i_fld h x0 4 4 = some (.ref v1) ∧ (∃ v2 : Int32, i_fld h x0 4 5 = some (.int v2) ∧ (∃ (n3 : Nat) (f4 : Nat → Int32), i_arI h 0 v1 = some (n3, f4) ∧ ¬ (v2 < 0 ∨ n3 ≤ v2.toNatClampNeg) ∧ (((f4 v2.toNatClampNeg) ≤ x3 → Q none h) ∧ (¬ ((f4 v2.toNatClampNeg) ≤ x3) → i_P i_MT i_AT L xs 47 45 [some (.ref x0), some (.int x1), some (.int x2), some (.int x3), some (.int (0 : Int32))] [] h 0 0 Q)))))) : i_P i_MT i_AT L xs 47 29 [some (.ref x0), some (.int x1), some (.int x2), some (.int x3), x4] [] h 0 0 Q := by
  have hk := i_k47
  refine g_s1 (pc2 := 30) hk rfl rfl rfl rfl rfl ?_
  refine g_s1 (pc2 := 31) hk rfl rfl rfl rfl rfl ?_
  obtain ⟨v1, ev1, H⟩ := H
  refine g_step (pc2 := 34) hk rfl rfl rfl (s_get ev1) ?_
  refine g_s1 (pc2 := 35) hk rfl rfl rfl rfl rfl ?_
  obtain ⟨v2, ev2, H⟩ := H
  refine g_step (pc2 := 38) hk rfl rfl rfl (s_get ev2) ?_
  obtain ⟨n3, f4, ef4, hi, H⟩ := H
  refine g_step (pc2 := 39) hk rfl rfl rfl (s_aget (L := L) (xs := xs) ef4 hi) ?_
  refine g_icmp_ge hk rfl (fun hc => ?_) (fun hc => ?_)
  · have H := H.1 hc
    exact g_return hk rfl (by decide) (by decide) rfl H
  · have H := H.2 hc
    refine g_s1 (pc2 := 43) (st2 := [.int (0 : Int32)]) hk rfl rfl rfl rfl rfl ?_
    refine g_s1 (pc2 := 45) (lo2 := [some (.ref x0), some (.int x1), some (.int x2), some (.int x3), some (.int (0 : Int32))]) hk rfl rfl rfl rfl rfl ?_
    exact H
theorem b47_45 {x0 : Nat} {x1 : Int32} {x2 : Int32} {x3 : Int32} {x4 : Int32} {h : iH} {Q : Option Value → iH → Prop} (H : ((x2 ≤ x4 → i_P i_MT i_AT L xs 47 29 [some (.ref x0), some (.int x1), some (.int x2), some (.int (x3 + 1)), some (.int x4)] [] h 0 0 Q) ∧ (¬ (x2 ≤ x4) → (∃ v1 : Nat, i_fld h x0 4 1 = some (.ref v1) ∧ (∃ v2 : Int32, i_fld h x0 4 6 = some (.int v2) ∧ (∃ (n3 : Nat) (f4 : Nat → Int32), i_arI h 0 v1 = some (n3, f4) ∧ ¬ ((((v2 * (60 : Int32)) + x1) + x4) < 0 ∨ n3 ≤ (((v2 * (60 : Int32)) + x1) + x4).toNatClampNeg) ∧ (i_obj? h x0 4 ∧ i_C i_MT i_AT L xs 48 [.ref x0, .int (f4 (((v2 * (60 : Int32)) + x1) + x4).toNatClampNeg)] h (fun v h5 => v = none ∧ i_P i_MT i_AT L xs 47 72 [some (.ref x0), some (.int x1), some (.int x2), some (.int x3), some (.int x4)] [] h5 0 0 Q)))))))) : i_P i_MT i_AT L xs 47 45 [some (.ref x0), some (.int x1), some (.int x2), some (.int x3), some (.int x4)] [] h 0 0 Q := by
  have hk := i_k47
  refine g_s1 (pc2 := 47) hk rfl rfl rfl rfl rfl ?_
  refine g_s1 (pc2 := 48) hk rfl rfl rfl rfl rfl ?_
  refine g_icmp_ge hk rfl (fun hc => ?_) (fun hc => ?_)
  · have H := H.1 hc
    refine g_s1 (pc2 := 81) (lo2 := [some (.ref x0), some (.int x1), some (.int x2), some (.int (x3 + 1)), some (.int x4)]) hk rfl rfl rfl rfl rfl ?_
    refine g_s1 (pc2 := 29) hk rfl rfl rfl rfl rfl ?_
    exact H
  · have H := H.2 hc
    refine g_s1 (pc2 := 52) hk rfl rfl rfl rfl rfl ?_
    refine g_s1 (pc2 := 53) hk rfl rfl rfl rfl rfl ?_
    obtain ⟨v1, ev1, H⟩ := H
    refine g_step (pc2 := 56) hk rfl rfl rfl (s_get ev1) ?_
    refine g_s1 (pc2 := 57) hk rfl rfl rfl rfl rfl ?_
    obtain ⟨v2, ev2, H⟩ := H
    refine g_step (pc2 := 60) hk rfl rfl rfl (s_get ev2) ?_
    refine g_s1 (pc2 := 62) (st2 := [.int (60 : Int32), .int v2, .ref v1, .ref x0]) hk rfl rfl rfl rfl rfl ?_
    refine g_s1 (pc2 := 63) hk rfl rfl rfl rfl rfl ?_
    refine g_s1 (pc2 := 64) hk rfl rfl rfl rfl rfl ?_
    refine g_s1 (pc2 := 65) hk rfl rfl rfl rfl rfl ?_
    refine g_s1 (pc2 := 67) hk rfl rfl rfl rfl rfl ?_
    refine g_s1 (pc2 := 68) hk rfl rfl rfl rfl rfl ?_
    obtain ⟨n3, f4, ef4, hi, H⟩ := H
    refine g_step (pc2 := 69) hk rfl rfl rfl (s_aget (L := L) (xs := xs) ef4 hi) ?_
    obtain ⟨ho, H⟩ := H
    refine g_call hk rfl rfl i_k48.1 ⟨rfl, rfl⟩ rfl (i_rcv_v ho rfl (by decide)) rfl ?_
    exact H.mono (fun v h2 q => by obtain ⟨rfl, q⟩ := q; exact q)
theorem b47_72 {x0 : Nat} {x1 : Int32} {x2 : Int32} {x3 : Int32} {x4 : Int32} {h : iH} {Q : Option Value → iH → Prop} (H : i_P i_MT i_AT L xs 47 45 [some (.ref x0), some (.int x1), some (.int x2), some (.int x3), some (.int (x4 + 1))] [] h 0 0 Q) : i_P i_MT i_AT L xs 47 72 [some (.ref x0), some (.int x1), some (.int x2), some (.int x3), some (.int x4)] [] h 0 0 Q := by
  have hk := i_k47
  refine g_s1 (pc2 := 75) (lo2 := [some (.ref x0), some (.int x1), some (.int x2), some (.int x3), some (.int (x4 + 1))]) hk rfl rfl rfl rfl rfl ?_
  refine g_s1 (pc2 := 45) hk rfl rfl rfl rfl rfl ?_
  exact H
/-! StillTown$PlanReader.append(I)V -/
theorem e48 {x0 : Nat} {x1 : Int32} {h : iH} {Q : Option Value → iH → Prop} (H : i_P i_MT i_AT L xs 48 0 [some (.ref x0), some (.int x1)] [] h 0 0 Q) : i_C i_MT i_AT L xs 48 [.ref x0, .int x1] h Q := ⟨i_m48, i_k48.1, Nat.le_of_ble_eq_true rfl, H⟩
theorem b48_0 {x0 : Nat} {x1 : Int32} {h : iH} {Q : Option Value → iH → Prop} (H : (∃ v1 : Int32, i_fld h x0 4 7 = some (.int v1) ∧ (((60 : Int32) ≤ v1 → i_P i_MT i_AT L xs 48 37 [some (.ref x0), some (.int x1)] [] h 0 0 Q) ∧ (¬ ((60 : Int32) ≤ v1) → (∃ v2 : Nat, i_fld h x0 4 1 = some (.ref v2) ∧ (∃ v3 : Int32, i_fld h x0 4 6 = some (.int v3) ∧ (∃ v4 : Int32, i_fld h x0 4 7 = some (.int v4) ∧ (∃ (n5 : Nat) (f6 : Nat → Int32), i_arI h 0 v2 = some (n5, f6) ∧ ¬ (((v3 * (60 : Int32)) + v4) < 0 ∨ n5 ≤ ((v3 * (60 : Int32)) + v4).toNatClampNeg) ∧ i_P i_MT i_AT L xs 48 27 [some (.ref x0), some (.int x1)] [] (i_siI h v2 ((v3 * (60 : Int32)) + v4).toNatClampNeg x1) 0 0 Q)))))))) : i_P i_MT i_AT L xs 48 0 [some (.ref x0), some (.int x1)] [] h 0 0 Q := by
  have hk := i_k48
  refine g_s1 (pc2 := 1) hk rfl rfl rfl rfl rfl ?_
  obtain ⟨v1, ev1, H⟩ := H
  refine g_step (pc2 := 4) hk rfl rfl rfl (s_get ev1) ?_
  refine g_s1 (pc2 := 6) (st2 := [.int (60 : Int32), .int v1]) hk rfl rfl rfl rfl rfl ?_
  refine g_icmp_ge hk rfl (fun hc => ?_) (fun hc => ?_)
  · have H := H.1 hc
    exact H
  · have H := H.2 hc
    refine g_s1 (pc2 := 10) hk rfl rfl rfl rfl rfl ?_
    obtain ⟨v2, ev2, H⟩ := H
    refine g_step (pc2 := 13) hk rfl rfl rfl (s_get ev2) ?_
    refine g_s1 (pc2 := 14) hk rfl rfl rfl rfl rfl ?_
    obtain ⟨v3, ev3, H⟩ := H
    refine g_step (pc2 := 17) hk rfl rfl rfl (s_get ev3) ?_
    refine g_s1 (pc2 := 19) (st2 := [.int (60 : Int32), .int v3, .ref v2]) hk rfl rfl rfl rfl rfl ?_
    refine g_s1 (pc2 := 20) hk rfl rfl rfl rfl rfl ?_
    refine g_s1 (pc2 := 21) hk rfl rfl rfl rfl rfl ?_
    obtain ⟨v4, ev4, H⟩ := H
    refine g_step (pc2 := 24) hk rfl rfl rfl (s_get ev4) ?_
    refine g_s1 (pc2 := 25) hk rfl rfl rfl rfl rfl ?_
    refine g_s1 (pc2 := 26) hk rfl rfl rfl rfl rfl ?_
    obtain ⟨n5, f6, ef6, hi, H⟩ := H
    refine g_step (pc2 := 27) hk rfl rfl rfl (s_aput ef6 hi) ?_
    exact H
theorem b48_27 {x0 : Nat} {x1 : Int32} {h : iH} {Q : Option Value → iH → Prop} (H : (∃ v1 : Int32, i_fld h x0 4 7 = some (.int v1) ∧ ((∃ o, i_fld h x0 4 7 = some o) ∧ i_P i_MT i_AT L xs 48 37 [some (.ref x0), some (.int x1)] [] (i_sf h x0 7 (.int (v1 + (1 : Int32)))) 0 0 Q))) : i_P i_MT i_AT L xs 48 27 [some (.ref x0), some (.int x1)] [] h 0 0 Q := by
  have hk := i_k48
  refine g_s1 (pc2 := 28) hk rfl rfl rfl rfl rfl ?_
  refine g_s1 (pc2 := 29) hk rfl rfl rfl rfl rfl ?_
  obtain ⟨v1, ev1, H⟩ := H
  refine g_step (pc2 := 32) hk rfl rfl rfl (s_get ev1) ?_
  refine g_s1 (pc2 := 33) (st2 := [.int (1 : Int32), .int v1, .ref x0]) hk rfl rfl rfl rfl rfl ?_
  refine g_s1 (pc2 := 34) hk rfl rfl rfl rfl rfl ?_
  obtain ⟨⟨o, ho⟩, H⟩ := H
  refine g_step (pc2 := 37) hk rfl rfl rfl (s_put ho rfl) ?_
  exact H
theorem b48_37 {x0 : Nat} {x1 : Int32} {h : iH} {Q : Option Value → iH → Prop} (H : Q none h) : i_P i_MT i_AT L xs 48 37 [some (.ref x0), some (.int x1)] [] h 0 0 Q := by
  have hk := i_k48
  exact g_return hk rfl (by decide) (by decide) rfl H
/-! StillTown$Search.soonestFound(IJ)I -/
theorem e50 {x0 : Nat} {x1 : Int32} {x2 : Int64} {h : iH} {Q : Option Value → iH → Prop} (H : i_P i_MT i_AT L xs 50 0 [some (.ref x0), some (.int x1), some (.long x2), none, none, none, none] [] h 0 0 Q) : i_C i_MT i_AT L xs 50 [.ref x0, .int x1, .long x2] h Q := ⟨i_m50, i_k50.1, Nat.le_of_ble_eq_true rfl, H⟩
theorem b50_0 {x0 : Nat} {x1 : Int32} {x2 : Int64} {x4 : Option Value} {x5 : Option Value} {x6 : Option Value} {h : iH} {Q : Option Value → iH → Prop} (H : i_P i_MT i_AT L xs 50 6 [some (.ref x0), some (.int x1), some (.long x2), none, some (.int (0 : Int32)), some (.int (0 : Int32)), x6] [] h 0 0 Q) : i_P i_MT i_AT L xs 50 0 [some (.ref x0), some (.int x1), some (.long x2), none, x4, x5, x6] [] h 0 0 Q := by
  have hk := i_k50
  refine g_s1 (pc2 := 1) (st2 := [.int (0 : Int32)]) hk rfl rfl rfl rfl rfl ?_
  refine g_s1 (pc2 := 3) (lo2 := [some (.ref x0), some (.int x1), some (.long x2), none, some (.int (0 : Int32)), x5, x6]) hk rfl rfl rfl rfl rfl ?_
  refine g_s1 (pc2 := 4) (st2 := [.int (0 : Int32)]) hk rfl rfl rfl rfl rfl ?_
  refine g_s1 (pc2 := 6) (lo2 := [some (.ref x0), some (.int x1), some (.long x2), none, some (.int (0 : Int32)), some (.int (0 : Int32)), x6]) hk rfl rfl rfl rfl rfl ?_
  exact H
theorem b50_6 {x0 : Nat} {x1 : Int32} {x2 : Int64} {x4 : Int32} {x5 : Int32} {x6 : Option Value} {h : iH} {Q : Option Value → iH → Prop} (H : (∃ v1 : Nat, i_fld h x0 5 0 = some (.ref v1) ∧ (∃ v2 : Nat, i_fld h v1 0 0 = some (.ref v2) ∧ (∃ v3 : Int32, i_fld h v2 2 2 = some (.int v3) ∧ ((v3 ≤ x5 → i_P i_MT i_AT L xs 50 55 [some (.ref x0), some (.int x1), some (.long x2), none, some (.int x4), some (.int x5), x6] [] h 0 0 Q) ∧ (¬ (v3 ≤ x5) → (((6 : Int32) ≤ x4 → i_P i_MT i_AT L xs 50 55 [some (.ref x0), some (.int x1), some (.long x2), none, some (.int x4), some (.int x5), x6] [] h 0 0 Q) ∧ (¬ ((6 : Int32) ≤ x4) → (i_C i_MT i_AT L xs 193 [.long x2, .int x5] h (fun v h4 => ∃ r5 : Int32, v = some (.int r5) ∧ i_P i_MT i_AT L xs 50 34 [some (.ref x0), some (.int x1), some (.long x2), none, some (.int x4), some (.int x5), x6] [.int r5] h4 0 0 Q)))))))))) : i_P i_MT i_AT L xs 50 6 [some (.ref x0), some (.int x1), some (.long x2), none, some (.int x4), some (.int x5), x6] [] h 0 0 Q := by
  have hk := i_k50
  refine g_s1 (pc2 := 8) hk rfl rfl rfl rfl rfl ?_
  refine g_s1 (pc2 := 9) hk rfl rfl rfl rfl rfl ?_
  obtain ⟨v1, ev1, H⟩ := H
  refine g_step (pc2 := 12) hk rfl rfl rfl (s_get ev1) ?_
  obtain ⟨v2, ev2, H⟩ := H
  refine g_step (pc2 := 15) hk rfl rfl rfl (s_get ev2) ?_
  obtain ⟨v3, ev3, H⟩ := H
  refine g_step (pc2 := 18) hk rfl rfl rfl (s_get ev3) ?_
  refine g_icmp_ge hk rfl (fun hc => ?_) (fun hc => ?_)
  · have H := H.1 hc
    exact H
  · have H := H.2 hc
    refine g_s1 (pc2 := 23) hk rfl rfl rfl rfl rfl ?_
    refine g_s1 (pc2 := 25) (st2 := [.int (6 : Int32), .int x4]) hk rfl rfl rfl rfl rfl ?_
    refine g_icmp_ge hk rfl (fun hc => ?_) (fun hc => ?_)
    · have H := H.1 hc
      exact H
    · have H := H.2 hc
      refine g_s1 (pc2 := 29) hk rfl rfl rfl rfl rfl ?_
      refine g_s1 (pc2 := 31) hk rfl rfl rfl rfl rfl ?_
      refine g_call hk rfl rfl i_k193.1 ⟨rfl, rfl⟩ rfl (i_rcv_0 rfl) rfl ?_
      exact H.mono (fun v h2 q => by obtain ⟨r, rfl, q⟩ := q; exact q)
theorem b50_34 {x0 : Nat} {x1 : Int32} {x2 : Int64} {x4 : Int32} {x5 : Int32} {x6 : Option Value} {s0 : Int32} {h : iH} {Q : Option Value → iH → Prop} (H : ((s0 = 0 → i_P i_MT i_AT L xs 50 49 [some (.ref x0), some (.int x1), some (.long x2), none, some (.int x4), some (.int x5), x6] [] h 0 0 Q) ∧ (¬ (s0 = 0) → (∃ v1 : Nat, i_fld h x0 5 1 = some (.ref v1) ∧ (∃ (n2 : Nat) (f3 : Nat → Int32), i_arI h 0 v1 = some (n2, f3) ∧ ¬ (x4 < 0 ∨ n2 ≤ x4.toNatClampNeg) ∧ i_P i_MT i_AT L xs 50 49 [some (.ref x0), some (.int x1), some (.long x2), none, some (.int (x4 + 1)), some (.int x5), x6] [] (i_siI h v1 x4.toNatClampNeg x5) 0 0 Q))))) : i_P i_MT i_AT L xs 50 34 [some (.ref x0), some (.int x1), some (.long x2), none, some (.int x4), some (.int x5), x6] [.int s0] h 0 0 Q := by
  have hk := i_k50
  refine g_if_eq hk rfl (fun hc => ?_) (fun hc => ?_)
  · have H := H.1 hc
    exact H
  · have H := H.2 hc
    refine g_s1 (pc2 := 38) hk rfl rfl rfl rfl rfl ?_
    obtain ⟨v1, ev1, H⟩ := H
    refine g_step (pc2 := 41) hk rfl rfl rfl (s_get ev1) ?_
    refine g_s1 (pc2 := 43) hk rfl rfl rfl rfl rfl ?_
    refine g_s1 (pc2 := 46) (lo2 := [some (.ref x0), some (.int x1), some (.long x2), none, some (.int (x4 + 1)), some (.int x5), x6]) hk rfl rfl rfl rfl rfl ?_
    refine g_s1 (pc2 := 48) hk rfl rfl rfl rfl rfl ?_
    obtain ⟨n2, f3, ef3, hi, H⟩ := H
    refine g_step (pc2 := 49) hk rfl rfl rfl (s_aput ef3 hi) ?_
    exact H
theorem b50_49 {x0 : Nat} {x1 : Int32} {x2 : Int64} {x4 : Int32} {x5 : Int32} {x6 : Option Value} {h : iH} {Q : Option Value → iH → Prop} (H : i_P i_MT i_AT L xs 50 6 [some (.ref x0), some (.int x1), some (.long x2), none, some (.int x4), some (.int (x5 + 1)), x6] [] h 0 0 Q) : i_P i_MT i_AT L xs 50 49 [some (.ref x0), some (.int x1), some (.long x2), none, some (.int x4), some (.int x5), x6] [] h 0 0 Q := by
  have hk := i_k50
  refine g_s1 (pc2 := 52) (lo2 := [some (.ref x0), some (.int x1), some (.long x2), none, some (.int x4), some (.int (x5 + 1)), x6]) hk rfl rfl rfl rfl rfl ?_
  refine g_s1 (pc2 := 6) hk rfl rfl rfl rfl rfl ?_
  exact H
theorem b50_55 {x0 : Nat} {x1 : Int32} {x2 : Int64} {x4 : Int32} {x5 : Int32} {x6 : Option Value} {h : iH} {Q : Option Value → iH → Prop} (H : ((¬ x4 = 0 → (∃ v1 : Nat, i_fld h x0 5 2 = some (.ref v1) ∧ (i_C i_MT i_AT L xs 348 [.ref v1, .long (0 : Int64)] h (fun v h2 => v = none ∧ i_P i_MT i_AT L xs 50 70 [some (.ref x0), some (.int x1), some (.long x2), none, some (.int x4), some (.int x5), x6] [] h2 0 0 Q)))) ∧ (¬ (¬ x4 = 0) → Q (some (.int (0 : Int32))) h))) : i_P i_MT i_AT L xs 50 55 [some (.ref x0), some (.int x1), some (.long x2), none, some (.int x4), some (.int x5), x6] [] h 0 0 Q := by
  have hk := i_k50
  refine g_s1 (pc2 := 57) hk rfl rfl rfl rfl rfl ?_
  refine g_if_ne hk rfl (fun hc => ?_) (fun hc => ?_)
  · have H := H.1 hc
    refine g_s1 (pc2 := 63) hk rfl rfl rfl rfl rfl ?_
    obtain ⟨v1, ev1, H⟩ := H
    refine g_step (pc2 := 66) hk rfl rfl rfl (s_get ev1) ?_
    refine g_s1 (pc2 := 67) (st2 := [.long (0 : Int64), .ref v1]) hk rfl rfl rfl rfl rfl ?_
    refine g_call hk rfl rfl i_k348.1 ⟨rfl, rfl⟩ rfl (i_rcv_0 rfl) rfl ?_
    exact H.mono (fun v h2 q => by obtain ⟨rfl, q⟩ := q; exact q)
  · have H := H.2 hc
    refine g_s1 (pc2 := 61) (st2 := [.int (0 : Int32)]) hk rfl rfl rfl rfl rfl ?_
    exact g_ireturn hk rfl (by decide) (by decide) rfl H
theorem b50_70 {x0 : Nat} {x1 : Int32} {x2 : Int64} {x4 : Int32} {x5 : Int32} {x6 : Option Value} {h : iH} {Q : Option Value → iH → Prop} (H : (∃ v1 : Nat, i_fld h x0 5 2 = some (.ref v1) ∧ (∃ v2 : Nat, i_fld h x0 5 0 = some (.ref v2) ∧ (∃ v3 : Nat, i_fld h v2 0 1 = some (.ref v3) ∧ (∃ v4 : Nat, i_fld h v3 8 12 = some (.ref v4) ∧ (∃ v5 : Nat, i_fld h v4 3 2 = some (.ref v5) ∧ (∃ (n6 : Nat) (f7 : Nat → Int32), i_arI h 0 v5 = some (n6, f7) ∧ ¬ (x1 < 0 ∨ n6 ≤ x1.toNatClampNeg) ∧ (∃ (n8 : Nat) (f9 : Nat → Int64), i_arJ h v1 = some (n8, f9) ∧ ¬ ((0 : Int32) < 0 ∨ n8 ≤ (0 : Int32).toNatClampNeg) ∧ i_P i_MT i_AT L xs 50 93 [some (.ref x0), some (.int x1), some (.long x2), none, some (.int x4), some (.int x5), x6] [] (i_siJ h v1 (0 : Int32).toNatClampNeg ((1 : Int64) <<< ((f7 x1.toNatClampNeg).toInt64 &&& 63))) 0 0 Q)))))))) : i_P i_MT i_AT L xs 50 70 [some (.ref x0), some (.int x1), some (.long x2), none, some (.int x4), some (.int x5), x6] [] h 0 0 Q := by
  have hk := i_k50
  refine g_s1 (pc2 := 71) hk rfl rfl rfl rfl rfl ?_
  obtain ⟨v1, ev1, H⟩ := H
  refine g_step (pc2 := 74) hk rfl rfl rfl (s_get ev1) ?_
  refine g_s1 (pc2 := 75) (st2 := [.int (0 : Int32), .ref v1]) hk rfl rfl rfl rfl rfl ?_
  refine g_s1 (pc2 := 76) (st2 := [.long (1 : Int64), .int (0 : Int32), .ref v1]) hk rfl rfl rfl rfl rfl ?_
  refine g_s1 (pc2 := 77) hk rfl rfl rfl rfl rfl ?_
  obtain ⟨v2, ev2, H⟩ := H
  refine g_step (pc2 := 80) hk rfl rfl rfl (s_get ev2) ?_
  obtain ⟨v3, ev3, H⟩ := H
  refine g_step (pc2 := 83) hk rfl rfl rfl (s_get ev3) ?_
  obtain ⟨v4, ev4, H⟩ := H
  refine g_step (pc2 := 86) hk rfl rfl rfl (s_get ev4) ?_
  obtain ⟨v5, ev5, H⟩ := H
  refine g_step (pc2 := 89) hk rfl rfl rfl (s_get ev5) ?_
  refine g_s1 (pc2 := 90) hk rfl rfl rfl rfl rfl ?_
  obtain ⟨n6, f7, ef7, hi, H⟩ := H
  refine g_step (pc2 := 91) hk rfl rfl rfl (s_aget (L := L) (xs := xs) ef7 hi) ?_
  refine g_s1 (pc2 := 92) hk rfl rfl rfl rfl rfl ?_
  obtain ⟨n8, f9, ef9, hi, H⟩ := H
  refine g_step (pc2 := 93) hk rfl rfl rfl (s_lput ef9 hi) ?_
  exact H
theorem b50_93 {x0 : Nat} {x1 : Int32} {x2 : Int64} {x4 : Int32} {x5 : Int32} {x6 : Option Value} {h : iH} {Q : Option Value → iH → Prop} (H : i_P i_MT i_AT L xs 50 96 [some (.ref x0), some (.int x1), some (.long x2), none, some (.int x4), some (.int (1 : Int32)), x6] [] h 0 0 Q) : i_P i_MT i_AT L xs 50 93 [some (.ref x0), some (.int x1), some (.long x2), none, some (.int x4), some (.int x5), x6] [] h 0 0 Q := by
  have hk := i_k50
  refine g_s1 (pc2 := 94) (st2 := [.int (1 : Int32)]) hk rfl rfl rfl rfl rfl ?_
  refine g_s1 (pc2 := 96) (lo2 := [some (.ref x0), some (.int x1), some (.long x2), none, some (.int x4), some (.int (1 : Int32)), x6]) hk rfl rfl rfl rfl rfl ?_
  exact H
theorem b50_96 {x0 : Nat} {x1 : Int32} {x2 : Int64} {x4 : Int32} {x5 : Int32} {x6 : Option Value} {h : iH} {Q : Option Value → iH → Prop} (H : (((30 : Int32) < x5 → Q (some (.int (-1 : Int32))) h) ∧ (¬ ((30 : Int32) < x5) → ((x5 = (1 : Int32) → i_P i_MT i_AT L xs 50 122 [some (.ref x0), some (.int x1), some (.long x2), none, some (.int x4), some (.int x5), x6] [] h 0 0 Q) ∧ (¬ (x5 = (1 : Int32)) → (∃ v1 : Nat, i_fld h x0 5 0 = some (.ref v1) ∧ (∃ v2 : Nat, i_fld h v1 0 1 = some (.ref v2) ∧ (∃ v3 : Int32, i_fld h v2 8 5 = some (.int v3) ∧ ((v3 ≤ 0 → i_P i_MT i_AT L xs 50 153 [some (.ref x0), some (.int x1), some (.long x2), none, some (.int x4), some (.int x5), x6] [] h 0 0 Q) ∧ (¬ (v3 ≤ 0) → i_P i_MT i_AT L xs 50 122 [some (.ref x0), some (.int x1), some (.long x2), none, some (.int x4), some (.int x5), x6] [] h 0 0 Q)))))))))) : i_P i_MT i_AT L xs 50 96 [some (.ref x0), some (.int x1), some (.long x2), none, some (.int x4), some (.int x5), x6] [] h 0 0 Q := by
  have hk := i_k50
  refine g_s1 (pc2 := 98) hk rfl rfl rfl rfl rfl ?_
  refine g_s1 (pc2 := 100) (st2 := [.int (30 : Int32), .int x5]) hk rfl rfl rfl rfl rfl ?_
  refine g_icmp_gt hk rfl (fun hc => ?_) (fun hc => ?_)
  · have H := H.1 hc
    refine g_s1 (pc2 := 229) (st2 := [.int (-1 : Int32)]) hk rfl rfl rfl rfl rfl ?_
    exact g_ireturn hk rfl (by decide) (by decide) rfl H
  · have H := H.2 hc
    refine g_s1 (pc2 := 105) hk rfl rfl rfl rfl rfl ?_
    refine g_s1 (pc2 := 106) (st2 := [.int (1 : Int32), .int x5]) hk rfl rfl rfl rfl rfl ?_
    refine g_icmp_eq hk rfl (fun hc => ?_) (fun hc => ?_)
    · have H := H.1 hc
      exact H
    · have H := H.2 hc
      refine g_s1 (pc2 := 110) hk rfl rfl rfl rfl rfl ?_
      obtain ⟨v1, ev1, H⟩ := H
      refine g_step (pc2 := 113) hk rfl rfl rfl (s_get ev1) ?_
      obtain ⟨v2, ev2, H⟩ := H
      refine g_step (pc2 := 116) hk rfl rfl rfl (s_get ev2) ?_
      obtain ⟨v3, ev3, H⟩ := H
      refine g_step (pc2 := 119) hk rfl rfl rfl (s_get ev3) ?_
      refine g_if_le hk rfl (fun hc => ?_) (fun hc => ?_)
      · have H := H.1 hc
        exact H
      · have H := H.2 hc
        exact H
theorem b50_122 {x0 : Nat} {x1 : Int32} {x2 : Int64} {x4 : Int32} {x5 : Int32} {x6 : Option Value} {h : iH} {Q : Option Value → iH → Prop} (H : (∃ v1 : Nat, i_fld h x0 5 0 = some (.ref v1) ∧ (∃ v2 : Nat, i_fld h v1 0 1 = some (.ref v2) ∧ (∃ v3 : Nat, i_fld h v2 8 12 = some (.ref v3) ∧ (∃ v4 : Nat, i_fld h v3 3 4 = some (.ref v4) ∧ (∃ (n5 : Nat) (f6 : Nat → Int32), i_arI h 0 v4 = some (n5, f6) ∧ ¬ (x1 < 0 ∨ n5 ≤ x1.toNatClampNeg) ∧ (∃ v7 : Nat, i_fld h x0 5 0 = some (.ref v7) ∧ (∃ v8 : Nat, i_fld h v7 0 2 = some (.ref v8) ∧ (∃ (n9 : Nat) (f10 : Nat → Int64), i_arJ h v8 = some (n9, f10) ∧ ¬ (x5 < 0 ∨ n9 ≤ x5.toNatClampNeg) ∧ (i_obj? h x0 5 ∧ i_C i_MT i_AT L xs 51 [.ref x0, .int (f6 x1.toNatClampNeg), .int x4, .long (f10 x5.toNatClampNeg)] h (fun v h11 => v = none ∧ i_P i_MT i_AT L xs 50 153 [some (.ref x0), some (.int x1), some (.long x2), none, some (.int x4), some (.int x5), x6] [] h11 0 0 Q))))))))))) : i_P i_MT i_AT L xs 50 122 [some (.ref x0), some (.int x1), some (.long x2), none, some (.int x4), some (.int x5), x6] [] h 0 0 Q := by
  have hk := i_k50
  refine g_s1 (pc2 := 123) hk rfl rfl rfl rfl rfl ?_
  refine g_s1 (pc2 := 124) hk rfl rfl rfl rfl rfl ?_
  obtain ⟨v1, ev1, H⟩ := H
  refine g_step (pc2 := 127) hk rfl rfl rfl (s_get ev1) ?_
  obtain ⟨v2, ev2, H⟩ := H
  refine g_step (pc2 := 130) hk rfl rfl rfl (s_get ev2) ?_
  obtain ⟨v3, ev3, H⟩ := H
  refine g_step (pc2 := 133) hk rfl rfl rfl (s_get ev3) ?_
  obtain ⟨v4, ev4, H⟩ := H
  refine g_step (pc2 := 136) hk rfl rfl rfl (s_get ev4) ?_
  refine g_s1 (pc2 := 137) hk rfl rfl rfl rfl rfl ?_
  obtain ⟨n5, f6, ef6, hi, H⟩ := H
  refine g_step (pc2 := 138) hk rfl rfl rfl (s_aget (L := L) (xs := xs) ef6 hi) ?_
  refine g_s1 (pc2 := 140) hk rfl rfl rfl rfl rfl ?_
  refine g_s1 (pc2 := 141) hk rfl rfl rfl rfl rfl ?_
  obtain ⟨v7, ev7, H⟩ := H
  refine g_step (pc2 := 144) hk rfl rfl rfl (s_get ev7) ?_
  obtain ⟨v8, ev8, H⟩ := H
  refine g_step (pc2 := 147) hk rfl rfl rfl (s_get ev8) ?_
  refine g_s1 (pc2 := 149) hk rfl rfl rfl rfl rfl ?_
  obtain ⟨n9, f10, ef10, hi, H⟩ := H
  refine g_step (pc2 := 150) hk rfl rfl rfl (s_lget ef10 hi) ?_
  obtain ⟨ho, H⟩ := H
  refine g_call hk rfl rfl i_k51.1 ⟨rfl, rfl⟩ rfl (i_rcv_v ho rfl (by decide)) rfl ?_
  exact H.mono (fun v h2 q => by obtain ⟨rfl, q⟩ := q; exact q)
theorem b50_153 {x0 : Nat} {x1 : Int32} {x2 : Int64} {x4 : Int32} {x5 : Int32} {x6 : Option Value} {h : iH} {Q : Option Value → iH → Prop} (H : (∃ v1 : Nat, i_fld h x0 5 3 = some (.ref v1) ∧ (i_C i_MT i_AT L xs 348 [.ref v1, .long (0 : Int64)] h (fun v h2 => v = none ∧ i_P i_MT i_AT L xs 50 161 [some (.ref x0), some (.int x1), some (.long x2), none, some (.int x4), some (.int x5), x6] [] h2 0 0 Q)))) : i_P i_MT i_AT L xs 50 153 [some (.ref x0), some (.int x1), some (.long x2), none, some (.int x4), some (.int x5), x6] [] h 0 0 Q := by
  have hk := i_k50
  refine g_s1 (pc2 := 154) hk rfl rfl rfl rfl rfl ?_
  obtain ⟨v1, ev1, H⟩ := H
  refine g_step (pc2 := 157) hk rfl rfl rfl (s_get ev1) ?_
  refine g_s1 (pc2 := 158) (st2 := [.long (0 : Int64), .ref v1]) hk rfl rfl rfl rfl rfl ?_
  refine g_call hk rfl rfl i_k348.1 ⟨rfl, rfl⟩ rfl (i_rcv_0 rfl) rfl ?_
  exact H.mono (fun v h2 q => by obtain ⟨rfl, q⟩ := q; exact q)
theorem b50_161 {x0 : Nat} {x1 : Int32} {x2 : Int64} {x4 : Int32} {x5 : Int32} {x6 : Option Value} {h : iH} {Q : Option Value → iH → Prop} (H : i_P i_MT i_AT L xs 50 164 [some (.ref x0), some (.int x1), some (.long x2), none, some (.int x4), some (.int x5), some (.int (0 : Int32))] [] h 0 0 Q) : i_P i_MT i_AT L xs 50 161 [some (.ref x0), some (.int x1), some (.long x2), none, some (.int x4), some (.int x5), x6] [] h 0 0 Q := by
  have hk := i_k50
  refine g_s1 (pc2 := 162) (st2 := [.int (0 : Int32)]) hk rfl rfl rfl rfl rfl ?_
  refine g_s1 (pc2 := 164) (lo2 := [some (.ref x0), some (.int x1), some (.long x2), none, some (.int x4), some (.int x5), some (.int (0 : Int32))]) hk rfl rfl rfl rfl rfl ?_
  exact H
theorem b50_164 {x0 : Nat} {x1 : Int32} {x2 : Int64} {x4 : Int32} {x5 : Int32} {x6 : Int32} {h : iH} {Q : Option Value → iH → Prop} (H : (((64 : Int32) ≤ x6 → (∃ v1 : Nat, i_fld h x0 5 3 = some (.ref v1) ∧ (∃ (n2 : Nat) (f3 : Nat → Int64), i_arJ h v1 = some (n2, f3) ∧ ¬ ((((1 : Int32) <<< (x4 &&& 31)) - (1 : Int32)) < 0 ∨ n2 ≤ (((1 : Int32) <<< (x4 &&& 31)) - (1 : Int32)).toNatClampNeg) ∧ (((lg_cmp (f3 (((1 : Int32) <<< (x4 &&& 31)) - (1 : Int32)).toNatClampNeg) (0 : Int64)) = 0 → (∃ v4 : Nat, i_fld h x0 5 2 = some (.ref v4) ∧ (∃ v5 : Nat, i_fld h x0 5 3 = some (.ref v5) ∧ ((∃ o, i_fld h x0 5 2 = some o) ∧ i_P i_MT i_AT L xs 50 216 [some (.ref x0), some (.int x1), some (.long x2), none, some (.int x4), some (.int x5), some (.ref v4)] [] (i_sf h x0 2 (.ref v5)) 0 0 Q)))) ∧ (¬ ((lg_cmp (f3 (((1 : Int32) <<< (x4 &&& 31)) - (1 : Int32)).toNatClampNeg) (0 : Int64)) = 0) → Q (some (.int x5)) h))))) ∧ (¬ ((64 : Int32) ≤ x6) → (i_obj? h x0 5 ∧ i_C i_MT i_AT L xs 53 [.ref x0, .int x6] h (fun v h6 => v = none ∧ i_P i_MT i_AT L xs 50 177 [some (.ref x0), some (.int x1), some (.long x2), none, some (.int x4), some (.int x5), some (.int x6)] [] h6 0 0 Q))))) : i_P i_MT i_AT L xs 50 164 [some (.ref x0), some (.int x1), some (.long x2), none, some (.int x4), some (.int x5), some (.int x6)] [] h 0 0 Q := by
  have hk := i_k50
  refine g_s1 (pc2 := 166) hk rfl rfl rfl rfl rfl ?_
  refine g_s1 (pc2 := 168) (st2 := [.int (64 : Int32), .int x6]) hk rfl rfl rfl rfl rfl ?_
  refine g_icmp_ge hk rfl (fun hc => ?_) (fun hc => ?_)
  · have H := H.1 hc
    refine g_s1 (pc2 := 184) hk rfl rfl rfl rfl rfl ?_
    obtain ⟨v1, ev1, H⟩ := H
    refine g_step (pc2 := 187) hk rfl rfl rfl (s_get ev1) ?_
    refine g_s1 (pc2 := 188) (st2 := [.int (1 : Int32), .ref v1]) hk rfl rfl rfl rfl rfl ?_
    refine g_s1 (pc2 := 190) hk rfl rfl rfl rfl rfl ?_
    refine g_s1 (pc2 := 191) hk rfl rfl rfl rfl rfl ?_
    refine g_s1 (pc2 := 192) (st2 := [.int (1 : Int32), .int ((1 : Int32) <<< (x4 &&& 31)), .ref v1]) hk rfl rfl rfl rfl rfl ?_
    refine g_s1 (pc2 := 193) hk rfl rfl rfl rfl rfl ?_
    obtain ⟨n2, f3, ef3, hi, H⟩ := H
    refine g_step (pc2 := 194) hk rfl rfl rfl (s_lget ef3 hi) ?_
    refine g_s1 (pc2 := 195) (st2 := [.long (0 : Int64), .long (f3 (((1 : Int32) <<< (x4 &&& 31)) - (1 : Int32)).toNatClampNeg)]) hk rfl rfl rfl rfl rfl ?_
    refine g_s1 (pc2 := 196) hk rfl rfl rfl rfl rfl ?_
    refine g_if_eq hk rfl (fun hc => ?_) (fun hc => ?_)
    · have H := H.1 hc
      refine g_s1 (pc2 := 203) hk rfl rfl rfl rfl rfl ?_
      obtain ⟨v4, ev4, H⟩ := H
      refine g_step (pc2 := 206) hk rfl rfl rfl (s_get ev4) ?_
      refine g_s1 (pc2 := 208) (lo2 := [some (.ref x0), some (.int x1), some (.long x2), none, some (.int x4), some (.int x5), some (.ref v4)]) hk rfl rfl rfl rfl rfl ?_
      refine g_s1 (pc2 := 209) hk rfl rfl rfl rfl rfl ?_
      refine g_s1 (pc2 := 210) hk rfl rfl rfl rfl rfl ?_
      obtain ⟨v5, ev5, H⟩ := H
      refine g_step (pc2 := 213) hk rfl rfl rfl (s_get ev5) ?_
      obtain ⟨⟨o, ho⟩, H⟩ := H
      refine g_step (pc2 := 216) hk rfl rfl rfl (s_put ho rfl) ?_
      exact H
    · have H := H.2 hc
      refine g_s1 (pc2 := 201) hk rfl rfl rfl rfl rfl ?_
      exact g_ireturn hk rfl (by decide) (by decide) rfl H
  · have H := H.2 hc
    refine g_s1 (pc2 := 172) hk rfl rfl rfl rfl rfl ?_
    refine g_s1 (pc2 := 174) hk rfl rfl rfl rfl rfl ?_
    obtain ⟨ho, H⟩ := H
    refine g_call hk rfl rfl i_k53.1 ⟨rfl, rfl⟩ rfl (i_rcv_v ho rfl (by decide)) rfl ?_
    exact H.mono (fun v h2 q => by obtain ⟨rfl, q⟩ := q; exact q)
theorem b50_177 {x0 : Nat} {x1 : Int32} {x2 : Int64} {x4 : Int32} {x5 : Int32} {x6 : Int32} {h : iH} {Q : Option Value → iH → Prop} (H : i_P i_MT i_AT L xs 50 164 [some (.ref x0), some (.int x1), some (.long x2), none, some (.int x4), some (.int x5), some (.int (x6 + 1))] [] h 0 0 Q) : i_P i_MT i_AT L xs 50 177 [some (.ref x0), some (.int x1), some (.long x2), none, some (.int x4), some (.int x5), some (.int x6)] [] h 0 0 Q := by
  have hk := i_k50
  refine g_s1 (pc2 := 180) (lo2 := [some (.ref x0), some (.int x1), some (.long x2), none, some (.int x4), some (.int x5), some (.int (x6 + 1))]) hk rfl rfl rfl rfl rfl ?_
  refine g_s1 (pc2 := 164) hk rfl rfl rfl rfl rfl ?_
  exact H
theorem b50_216 {x0 : Nat} {x1 : Int32} {x2 : Int64} {x4 : Int32} {x5 : Int32} {x6 : Nat} {h : iH} {Q : Option Value → iH → Prop} (H : ((∃ o, i_fld h x0 5 3 = some o) ∧ i_P i_MT i_AT L xs 50 222 [some (.ref x0), some (.int x1), some (.long x2), none, some (.int x4), some (.int x5), some (.ref x6)] [] (i_sf h x0 3 (.ref x6)) 0 0 Q)) : i_P i_MT i_AT L xs 50 216 [some (.ref x0), some (.int x1), some (.long x2), none, some (.int x4), some (.int x5), some (.ref x6)] [] h 0 0 Q := by
  have hk := i_k50
  refine g_s1 (pc2 := 217) hk rfl rfl rfl rfl rfl ?_
  refine g_s1 (pc2 := 219) hk rfl rfl rfl rfl rfl ?_
  obtain ⟨⟨o, ho⟩, H⟩ := H
  refine g_step (pc2 := 222) hk rfl rfl rfl (s_put ho rfl) ?_
  exact H
theorem b50_222 {x0 : Nat} {x1 : Int32} {x2 : Int64} {x4 : Int32} {x5 : Int32} {x6 : Nat} {h : iH} {Q : Option Value → iH → Prop} (H : i_P i_MT i_AT L xs 50 96 [some (.ref x0), some (.int x1), some (.long x2), none, some (.int x4), some (.int (x5 + 1)), some (.ref x6)] [] h 0 0 Q) : i_P i_MT i_AT L xs 50 222 [some (.ref x0), some (.int x1), some (.long x2), none, some (.int x4), some (.int x5), some (.ref x6)] [] h 0 0 Q := by
  have hk := i_k50
  refine g_s1 (pc2 := 225) (lo2 := [some (.ref x0), some (.int x1), some (.long x2), none, some (.int x4), some (.int (x5 + 1)), some (.ref x6)]) hk rfl rfl rfl rfl rfl ?_
  refine g_s1 (pc2 := 96) hk rfl rfl rfl rfl rfl ?_
  exact H
/-! StillTown$Search.noteGains(IIJ)V -/
theorem e51 {x0 : Nat} {x1 : Int32} {x2 : Int32} {x3 : Int64} {h : iH} {Q : Option Value → iH → Prop} (H : i_P i_MT i_AT L xs 51 0 [some (.ref x0), some (.int x1), some (.int x2), some (.long x3), none, none, none, none] [] h 0 0 Q) : i_C i_MT i_AT L xs 51 [.ref x0, .int x1, .int x2, .long x3] h Q := ⟨i_m51, i_k51.1, Nat.le_of_ble_eq_true rfl, H⟩
theorem b51_0 {x0 : Nat} {x1 : Int32} {x2 : Int32} {x3 : Int64} {x5 : Option Value} {x6 : Option Value} {x7 : Option Value} {h : iH} {Q : Option Value → iH → Prop} (H : (∃ v1 : Nat, i_fld h x0 5 4 = some (.ref v1) ∧ (i_C i_MT i_AT L xs 349 [.ref v1, .int (0 : Int32)] h (fun v h2 => v = none ∧ i_P i_MT i_AT L xs 51 8 [some (.ref x0), some (.int x1), some (.int x2), some (.long x3), none, x5, x6, x7] [] h2 0 0 Q)))) : i_P i_MT i_AT L xs 51 0 [some (.ref x0), some (.int x1), some (.int x2), some (.long x3), none, x5, x6, x7] [] h 0 0 Q := by
  have hk := i_k51
  refine g_s1 (pc2 := 1) hk rfl rfl rfl rfl rfl ?_
  obtain ⟨v1, ev1, H⟩ := H
  refine g_step (pc2 := 4) hk rfl rfl rfl (s_get ev1) ?_
  refine g_s1 (pc2 := 5) (st2 := [.int (0 : Int32), .ref v1]) hk rfl rfl rfl rfl rfl ?_
  refine g_call hk rfl rfl i_k349.1 ⟨rfl, rfl⟩ rfl (i_rcv_0 rfl) rfl ?_
  exact H.mono (fun v h2 q => by obtain ⟨rfl, q⟩ := q; exact q)
theorem b51_8 {x0 : Nat} {x1 : Int32} {x2 : Int32} {x3 : Int64} {x5 : Option Value} {x6 : Option Value} {x7 : Option Value} {h : iH} {Q : Option Value → iH → Prop} (H : (∃ v1 : Nat, i_fld h x0 5 5 = some (.ref v1) ∧ (i_C i_MT i_AT L xs 348 [.ref v1, .long (0 : Int64)] h (fun v h2 => v = none ∧ i_P i_MT i_AT L xs 51 16 [some (.ref x0), some (.int x1), some (.int x2), some (.long x3), none, x5, x6, x7] [] h2 0 0 Q)))) : i_P i_MT i_AT L xs 51 8 [some (.ref x0), some (.int x1), some (.int x2), some (.long x3), none, x5, x6, x7] [] h 0 0 Q := by
  have hk := i_k51
  refine g_s1 (pc2 := 9) hk rfl rfl rfl rfl rfl ?_
  obtain ⟨v1, ev1, H⟩ := H
  refine g_step (pc2 := 12) hk rfl rfl rfl (s_get ev1) ?_
  refine g_s1 (pc2 := 13) (st2 := [.long (0 : Int64), .ref v1]) hk rfl rfl rfl rfl rfl ?_
  refine g_call hk rfl rfl i_k348.1 ⟨rfl, rfl⟩ rfl (i_rcv_0 rfl) rfl ?_
  exact H.mono (fun v h2 q => by obtain ⟨rfl, q⟩ := q; exact q)
theorem b51_16 {x0 : Nat} {x1 : Int32} {x2 : Int32} {x3 : Int64} {x5 : Option Value} {x6 : Option Value} {x7 : Option Value} {h : iH} {Q : Option Value → iH → Prop} (H : i_P i_MT i_AT L xs 51 19 [some (.ref x0), some (.int x1), some (.int x2), some (.long x3), none, some (.int (0 : Int32)), x6, x7] [] h 0 0 Q) : i_P i_MT i_AT L xs 51 16 [some (.ref x0), some (.int x1), some (.int x2), some (.long x3), none, x5, x6, x7] [] h 0 0 Q := by
  have hk := i_k51
  refine g_s1 (pc2 := 17) (st2 := [.int (0 : Int32)]) hk rfl rfl rfl rfl rfl ?_
  refine g_s1 (pc2 := 19) (lo2 := [some (.ref x0), some (.int x1), some (.int x2), some (.long x3), none, some (.int (0 : Int32)), x6, x7]) hk rfl rfl rfl rfl rfl ?_
  exact H
theorem b51_19 {x0 : Nat} {x1 : Int32} {x2 : Int32} {x3 : Int64} {x5 : Int32} {x6 : Option Value} {x7 : Option Value} {h : iH} {Q : Option Value → iH → Prop} (H : (∃ v1 : Nat, i_fld h x0 5 0 = some (.ref v1) ∧ (∃ v2 : Nat, i_fld h v1 0 0 = some (.ref v2) ∧ (∃ v3 : Int32, i_fld h v2 2 2 = some (.int v3) ∧ ((v3 ≤ x5 → Q none h) ∧ (¬ (v3 ≤ x5) → i_P i_MT i_AT L xs 51 37 [some (.ref x0), some (.int x1), some (.int x2), some (.long x3), none, some (.int x5), some (.int (0 : Int32)), x7] [] h 0 0 Q)))))) : i_P i_MT i_AT L xs 51 19 [some (.ref x0), some (.int x1), some (.int x2), some (.long x3), none, some (.int x5), x6, x7] [] h 0 0 Q := by
  have hk := i_k51
  refine g_s1 (pc2 := 21) hk rfl rfl rfl rfl rfl ?_
  refine g_s1 (pc2 := 22) hk rfl rfl rfl rfl rfl ?_
  obtain ⟨v1, ev1, H⟩ := H
  refine g_step (pc2 := 25) hk rfl rfl rfl (s_get ev1) ?_
  obtain ⟨v2, ev2, H⟩ := H
  refine g_step (pc2 := 28) hk rfl rfl rfl (s_get ev2) ?_
  obtain ⟨v3, ev3, H⟩ := H
  refine g_step (pc2 := 31) hk rfl rfl rfl (s_get ev3) ?_
  refine g_icmp_ge hk rfl (fun hc => ?_) (fun hc => ?_)
  · have H := H.1 hc
    exact g_return hk rfl (by decide) (by decide) rfl H
  · have H := H.2 hc
    refine g_s1 (pc2 := 35) (st2 := [.int (0 : Int32)]) hk rfl rfl rfl rfl rfl ?_
    refine g_s1 (pc2 := 37) (lo2 := [some (.ref x0), some (.int x1), some (.int x2), some (.long x3), none, some (.int x5), some (.int (0 : Int32)), x7]) hk rfl rfl rfl rfl rfl ?_
    exact H
theorem b51_37 {x0 : Nat} {x1 : Int32} {x2 : Int32} {x3 : Int64} {x5 : Int32} {x6 : Int32} {x7 : Option Value} {h : iH} {Q : Option Value → iH → Prop} (H : ((x2 ≤ x6 → i_P i_MT i_AT L xs 51 19 [some (.ref x0), some (.int x1), some (.int x2), some (.long x3), none, some (.int (x5 + 1)), some (.int x6), x7] [] h 0 0 Q) ∧ (¬ (x2 ≤ x6) → (∃ v1 : Nat, i_fld h x0 5 0 = some (.ref v1) ∧ (∃ v2 : Nat, i_fld h v1 0 0 = some (.ref v2) ∧ (∃ v3 : Nat, i_fld h x0 5 1 = some (.ref v3) ∧ (∃ (n4 : Nat) (f5 : Nat → Int32), i_arI h 0 v3 = some (n4, f5) ∧ ¬ (x6 < 0 ∨ n4 ≤ x6.toNatClampNeg) ∧ (i_obj? h v2 2 ∧ i_C i_MT i_AT L xs 27 [.ref v2, .int x5, .int (f5 x6.toNatClampNeg)] h (fun v h6 => ∃ r7 : Int32, v = some (.int r7) ∧ i_P i_MT i_AT L xs 51 62 [some (.ref x0), some (.int x1), some (.int x2), some (.long x3), none, some (.int x5), some (.int x6), x7] [.int r7] h6 0 0 Q))))))))) : i_P i_MT i_AT L xs 51 37 [some (.ref x0), some (.int x1), some (.int x2), some (.long x3), none, some (.int x5), some (.int x6), x7] [] h 0 0 Q := by
  have hk := i_k51
  refine g_s1 (pc2 := 39) hk rfl rfl rfl rfl rfl ?_
  refine g_s1 (pc2 := 40) hk rfl rfl rfl rfl rfl ?_
  refine g_icmp_ge hk rfl (fun hc => ?_) (fun hc => ?_)
  · have H := H.1 hc
    refine g_s1 (pc2 := 115) (lo2 := [some (.ref x0), some (.int x1), some (.int x2), some (.long x3), none, some (.int (x5 + 1)), some (.int x6), x7]) hk rfl rfl rfl rfl rfl ?_
    refine g_s1 (pc2 := 19) hk rfl rfl rfl rfl rfl ?_
    exact H
  · have H := H.2 hc
    refine g_s1 (pc2 := 44) hk rfl rfl rfl rfl rfl ?_
    obtain ⟨v1, ev1, H⟩ := H
    refine g_step (pc2 := 47) hk rfl rfl rfl (s_get ev1) ?_
    obtain ⟨v2, ev2, H⟩ := H
    refine g_step (pc2 := 50) hk rfl rfl rfl (s_get ev2) ?_
    refine g_s1 (pc2 := 52) hk rfl rfl rfl rfl rfl ?_
    refine g_s1 (pc2 := 53) hk rfl rfl rfl rfl rfl ?_
    obtain ⟨v3, ev3, H⟩ := H
    refine g_step (pc2 := 56) hk rfl rfl rfl (s_get ev3) ?_
    refine g_s1 (pc2 := 58) hk rfl rfl rfl rfl rfl ?_
    obtain ⟨n4, f5, ef5, hi, H⟩ := H
    refine g_step (pc2 := 59) hk rfl rfl rfl (s_aget (L := L) (xs := xs) ef5 hi) ?_
    obtain ⟨ho, H⟩ := H
    refine g_call hk rfl rfl i_k27.1 ⟨rfl, rfl⟩ rfl (i_rcv_v ho rfl (by decide)) rfl ?_
    exact H.mono (fun v h2 q => by obtain ⟨r, rfl, q⟩ := q; exact q)
theorem b51_62 {x0 : Nat} {x1 : Int32} {x2 : Int32} {x3 : Int64} {x5 : Int32} {x6 : Int32} {x7 : Option Value} {s0 : Int32} {h : iH} {Q : Option Value → iH → Prop} (H : ((x1 < s0 → i_P i_MT i_AT L xs 51 106 [some (.ref x0), some (.int x1), some (.int x2), some (.long x3), none, some (.int x5), some (.int x6), some (.int s0)] [] h 0 0 Q) ∧ (¬ (x1 < s0) → (∃ v1 : Nat, i_fld h x0 5 0 = some (.ref v1) ∧ (∃ v2 : Nat, i_fld h v1 0 0 = some (.ref v2) ∧ (∃ v3 : Nat, i_fld h x0 5 1 = some (.ref v3) ∧ (∃ (n4 : Nat) (f5 : Nat → Int32), i_arI h 0 v3 = some (n4, f5) ∧ ¬ (x6 < 0 ∨ n4 ≤ x6.toNatClampNeg) ∧ (i_obj? h v2 2 ∧ i_C i_MT i_AT L xs 29 [.ref v2, .int x5, .int (f5 x6.toNatClampNeg), .int s0] h (fun v h6 => ∃ r7 : Int64, v = some (.long r7) ∧ i_P i_MT i_AT L xs 51 91 [some (.ref x0), some (.int x1), some (.int x2), some (.long x3), none, some (.int x5), some (.int x6), some (.int s0)] [.long r7] h6 0 0 Q))))))))) : i_P i_MT i_AT L xs 51 62 [some (.ref x0), some (.int x1), some (.int x2), some (.long x3), none, some (.int x5), some (.int x6), x7] [.int s0] h 0 0 Q := by
  have hk := i_k51
  refine g_s1 (pc2 := 64) (lo2 := [some (.ref x0), some (.int x1), some (.int x2), some (.long x3), none, some (.int x5), some (.int x6), some (.int s0)]) hk rfl rfl rfl rfl rfl ?_
  refine g_s1 (pc2 := 66) hk rfl rfl rfl rfl rfl ?_
  refine g_s1 (pc2 := 67) hk rfl rfl rfl rfl rfl ?_
  refine g_icmp_gt hk rfl (fun hc => ?_) (fun hc => ?_)
  · have H := H.1 hc
    exact H
  · have H := H.2 hc
    refine g_s1 (pc2 := 71) hk rfl rfl rfl rfl rfl ?_
    obtain ⟨v1, ev1, H⟩ := H
    refine g_step (pc2 := 74) hk rfl rfl rfl (s_get ev1) ?_
    obtain ⟨v2, ev2, H⟩ := H
    refine g_step (pc2 := 77) hk rfl rfl rfl (s_get ev2) ?_
    refine g_s1 (pc2 := 79) hk rfl rfl rfl rfl rfl ?_
    refine g_s1 (pc2 := 80) hk rfl rfl rfl rfl rfl ?_
    obtain ⟨v3, ev3, H⟩ := H
    refine g_step (pc2 := 83) hk rfl rfl rfl (s_get ev3) ?_
    refine g_s1 (pc2 := 85) hk rfl rfl rfl rfl rfl ?_
    obtain ⟨n4, f5, ef5, hi, H⟩ := H
    refine g_step (pc2 := 86) hk rfl rfl rfl (s_aget (L := L) (xs := xs) ef5 hi) ?_
    refine g_s1 (pc2 := 88) hk rfl rfl rfl rfl rfl ?_
    obtain ⟨ho, H⟩ := H
    refine g_call hk rfl rfl i_k29.1 ⟨rfl, rfl⟩ rfl (i_rcv_v ho rfl (by decide)) rfl ?_
    exact H.mono (fun v h2 q => by obtain ⟨r, rfl, q⟩ := q; exact q)
theorem b51_91 {x0 : Nat} {x1 : Int32} {x2 : Int32} {x3 : Int64} {x5 : Int32} {x6 : Int32} {x7 : Int32} {s0 : Int64} {h : iH} {Q : Option Value → iH → Prop} (H : ((¬ (lg_cmp (s0 &&& x3) (0 : Int64)) = 0 → i_P i_MT i_AT L xs 51 106 [some (.ref x0), some (.int x1), some (.int x2), some (.long x3), none, some (.int x5), some (.int x6), some (.int x7)] [] h 0 0 Q) ∧ (¬ (¬ (lg_cmp (s0 &&& x3) (0 : Int64)) = 0) → (i_obj? h x0 5 ∧ i_C i_MT i_AT L xs 52 [.ref x0, .int x5, .int x6] h (fun v h1 => v = none ∧ i_P i_MT i_AT L xs 51 106 [some (.ref x0), some (.int x1), some (.int x2), some (.long x3), none, some (.int x5), some (.int x6), some (.int x7)] [] h1 0 0 Q))))) : i_P i_MT i_AT L xs 51 91 [some (.ref x0), some (.int x1), some (.int x2), some (.long x3), none, some (.int x5), some (.int x6), some (.int x7)] [.long s0] h 0 0 Q := by
  have hk := i_k51
  refine g_s1 (pc2 := 92) hk rfl rfl rfl rfl rfl ?_
  refine g_s1 (pc2 := 93) hk rfl rfl rfl rfl rfl ?_
  refine g_s1 (pc2 := 94) (st2 := [.long (0 : Int64), .long (s0 &&& x3)]) hk rfl rfl rfl rfl rfl ?_
  refine g_s1 (pc2 := 95) hk rfl rfl rfl rfl rfl ?_
  refine g_if_ne hk rfl (fun hc => ?_) (fun hc => ?_)
  · have H := H.1 hc
    exact H
  · have H := H.2 hc
    refine g_s1 (pc2 := 99) hk rfl rfl rfl rfl rfl ?_
    refine g_s1 (pc2 := 101) hk rfl rfl rfl rfl rfl ?_
    refine g_s1 (pc2 := 103) hk rfl rfl rfl rfl rfl ?_
    obtain ⟨ho, H⟩ := H
    refine g_call hk rfl rfl i_k52.1 ⟨rfl, rfl⟩ rfl (i_rcv_v ho rfl (by decide)) rfl ?_
    exact H.mono (fun v h2 q => by obtain ⟨rfl, q⟩ := q; exact q)
theorem b51_106 {x0 : Nat} {x1 : Int32} {x2 : Int32} {x3 : Int64} {x5 : Int32} {x6 : Int32} {x7 : Int32} {h : iH} {Q : Option Value → iH → Prop} (H : i_P i_MT i_AT L xs 51 37 [some (.ref x0), some (.int x1), some (.int x2), some (.long x3), none, some (.int x5), some (.int (x6 + 1)), some (.int x7)] [] h 0 0 Q) : i_P i_MT i_AT L xs 51 106 [some (.ref x0), some (.int x1), some (.int x2), some (.long x3), none, some (.int x5), some (.int x6), some (.int x7)] [] h 0 0 Q := by
  have hk := i_k51
  refine g_s1 (pc2 := 109) (lo2 := [some (.ref x0), some (.int x1), some (.int x2), some (.long x3), none, some (.int x5), some (.int (x6 + 1)), some (.int x7)]) hk rfl rfl rfl rfl rfl ?_
  refine g_s1 (pc2 := 37) hk rfl rfl rfl rfl rfl ?_
  exact H
/-! StillTown$Search.noteGain(II)V -/
theorem e52 {x0 : Nat} {x1 : Int32} {x2 : Int32} {h : iH} {Q : Option Value → iH → Prop} (H : i_P i_MT i_AT L xs 52 0 [some (.ref x0), some (.int x1), some (.int x2), none] [] h 0 0 Q) : i_C i_MT i_AT L xs 52 [.ref x0, .int x1, .int x2] h Q := ⟨i_m52, i_k52.1, Nat.le_of_ble_eq_true rfl, H⟩
theorem b52_0 {x0 : Nat} {x1 : Int32} {x2 : Int32} {x3 : Option Value} {h : iH} {Q : Option Value → iH → Prop} (H : i_P i_MT i_AT L xs 52 2 [some (.ref x0), some (.int x1), some (.int x2), some (.int (0 : Int32))] [] h 0 0 Q) : i_P i_MT i_AT L xs 52 0 [some (.ref x0), some (.int x1), some (.int x2), x3] [] h 0 0 Q := by
  have hk := i_k52
  refine g_s1 (pc2 := 1) (st2 := [.int (0 : Int32)]) hk rfl rfl rfl rfl rfl ?_
  refine g_s1 (pc2 := 2) (lo2 := [some (.ref x0), some (.int x1), some (.int x2), some (.int (0 : Int32))]) hk rfl rfl rfl rfl rfl ?_
  exact H
theorem b52_2 {x0 : Nat} {x1 : Int32} {x2 : Int32} {x3 : Int32} {h : iH} {Q : Option Value → iH → Prop} (H : (((8 : Int32) ≤ x3 → Q none h) ∧ (¬ ((8 : Int32) ≤ x3) → (∃ v1 : Nat, i_fld h x0 5 0 = some (.ref v1) ∧ (∃ v2 : Nat, i_fld h v1 0 0 = some (.ref v2) ∧ (i_obj? h v2 2 ∧ i_C i_MT i_AT L xs 30 [.ref v2, .int x1, .int x3] h (fun v h3 => ∃ r4 : Int64, v = some (.long r4) ∧ i_P i_MT i_AT L xs 52 20 [some (.ref x0), some (.int x1), some (.int x2), some (.int x3)] [.long r4] h3 0 0 Q))))))) : i_P i_MT i_AT L xs 52 2 [some (.ref x0), some (.int x1), some (.int x2), some (.int x3)] [] h 0 0 Q := by
  have hk := i_k52
  refine g_s1 (pc2 := 3) hk rfl rfl rfl rfl rfl ?_
  refine g_s1 (pc2 := 5) (st2 := [.int (8 : Int32), .int x3]) hk rfl rfl rfl rfl rfl ?_
  refine g_icmp_ge hk rfl (fun hc => ?_) (fun hc => ?_)
  · have H := H.1 hc
    exact g_return hk rfl (by decide) (by decide) rfl H
  · have H := H.2 hc
    refine g_s1 (pc2 := 9) hk rfl rfl rfl rfl rfl ?_
    obtain ⟨v1, ev1, H⟩ := H
    refine g_step (pc2 := 12) hk rfl rfl rfl (s_get ev1) ?_
    obtain ⟨v2, ev2, H⟩ := H
    refine g_step (pc2 := 15) hk rfl rfl rfl (s_get ev2) ?_
    refine g_s1 (pc2 := 16) hk rfl rfl rfl rfl rfl ?_
    refine g_s1 (pc2 := 17) hk rfl rfl rfl rfl rfl ?_
    obtain ⟨ho, H⟩ := H
    refine g_call hk rfl rfl i_k30.1 ⟨rfl, rfl⟩ rfl (i_rcv_v ho rfl (by decide)) rfl ?_
    exact H.mono (fun v h2 q => by obtain ⟨r, rfl, q⟩ := q; exact q)
theorem b52_20 {x0 : Nat} {x1 : Int32} {x2 : Int32} {x3 : Int32} {s0 : Int64} {h : iH} {Q : Option Value → iH → Prop} (H : (∃ v1 : Nat, i_fld h x0 5 1 = some (.ref v1) ∧ (∃ (n2 : Nat) (f3 : Nat → Int32), i_arI h 0 v1 = some (n2, f3) ∧ ¬ (x2 < 0 ∨ n2 ≤ x2.toNatClampNeg) ∧ (i_C i_MT i_AT L xs 193 [.long s0, .int (f3 x2.toNatClampNeg)] h (fun v h4 => ∃ r5 : Int32, v = some (.int r5) ∧ i_P i_MT i_AT L xs 52 29 [some (.ref x0), some (.int x1), some (.int x2), some (.int x3)] [.int r5] h4 0 0 Q))))) : i_P i_MT i_AT L xs 52 20 [some (.ref x0), some (.int x1), some (.int x2), some (.int x3)] [.long s0] h 0 0 Q := by
  have hk := i_k52
  refine g_s1 (pc2 := 21) hk rfl rfl rfl rfl rfl ?_
  obtain ⟨v1, ev1, H⟩ := H
  refine g_step (pc2 := 24) hk rfl rfl rfl (s_get ev1) ?_
  refine g_s1 (pc2 := 25) hk rfl rfl rfl rfl rfl ?_
  obtain ⟨n2, f3, ef3, hi, H⟩ := H
  refine g_step (pc2 := 26) hk rfl rfl rfl (s_aget (L := L) (xs := xs) ef3 hi) ?_
  refine g_call hk rfl rfl i_k193.1 ⟨rfl, rfl⟩ rfl (i_rcv_0 rfl) rfl ?_
  exact H.mono (fun v h2 q => by obtain ⟨r, rfl, q⟩ := q; exact q)
theorem b52_29 {x0 : Nat} {x1 : Int32} {x2 : Int32} {x3 : Int32} {s0 : Int32} {h : iH} {Q : Option Value → iH → Prop} (H : ((s0 = 0 → i_P i_MT i_AT L xs 52 61 [some (.ref x0), some (.int x1), some (.int x2), some (.int x3)] [] h 0 0 Q) ∧ (¬ (s0 = 0) → (∃ v1 : Nat, i_fld h x0 5 4 = some (.ref v1) ∧ (∃ (n2 : Nat) (f3 : Nat → Int32), i_arI h 0 v1 = some (n2, f3) ∧ ¬ (((x3 * (48 : Int32)) + x1) < 0 ∨ n2 ≤ ((x3 * (48 : Int32)) + x1).toNatClampNeg) ∧ (∃ (n4 : Nat) (f5 : Nat → Int32), i_arI h 0 v1 = some (n4, f5) ∧ ¬ (((x3 * (48 : Int32)) + x1) < 0 ∨ n4 ≤ ((x3 * (48 : Int32)) + x1).toNatClampNeg) ∧ i_P i_MT i_AT L xs 52 49 [some (.ref x0), some (.int x1), some (.int x2), some (.int x3)] [] (i_siI h v1 ((x3 * (48 : Int32)) + x1).toNatClampNeg ((f3 ((x3 * (48 : Int32)) + x1).toNatClampNeg) ||| ((1 : Int32) <<< (x2 &&& 31)))) 0 0 Q)))))) : i_P i_MT i_AT L xs 52 29 [some (.ref x0), some (.int x1), some (.int x2), some (.int x3)] [.int s0] h 0 0 Q := by
  have hk := i_k52
  refine g_if_eq hk rfl (fun hc => ?_) (fun hc => ?_)
  · have H := H.1 hc
    exact H
  · have H := H.2 hc
    refine g_s1 (pc2 := 33) hk rfl rfl rfl rfl rfl ?_
    obtain ⟨v1, ev1, H⟩ := H
    refine g_step (pc2 := 36) hk rfl rfl rfl (s_get ev1) ?_
    refine g_s1 (pc2 := 37) hk rfl rfl rfl rfl rfl ?_
    refine g_s1 (pc2 := 39) (st2 := [.int (48 : Int32), .int x3, .ref v1]) hk rfl rfl rfl rfl rfl ?_
    refine g_s1 (pc2 := 40) hk rfl rfl rfl rfl rfl ?_
    refine g_s1 (pc2 := 41) hk rfl rfl rfl rfl rfl ?_
    refine g_s1 (pc2 := 42) hk rfl rfl rfl rfl rfl ?_
    refine g_s1 (pc2 := 43) hk rfl rfl rfl rfl rfl ?_
    obtain ⟨n2, f3, ef3, hi, H⟩ := H
    refine g_step (pc2 := 44) hk rfl rfl rfl (s_aget (L := L) (xs := xs) ef3 hi) ?_
    refine g_s1 (pc2 := 45) (st2 := [.int (1 : Int32), .int (f3 ((x3 * (48 : Int32)) + x1).toNatClampNeg), .int ((x3 * (48 : Int32)) + x1), .ref v1]) hk rfl rfl rfl rfl rfl ?_
    refine g_s1 (pc2 := 46) hk rfl rfl rfl rfl rfl ?_
    refine g_s1 (pc2 := 47) hk rfl rfl rfl rfl rfl ?_
    refine g_s1 (pc2 := 48) hk rfl rfl rfl rfl rfl ?_
    obtain ⟨n4, f5, ef5, hi, H⟩ := H
    refine g_step (pc2 := 49) hk rfl rfl rfl (s_aput ef5 hi) ?_
    exact H
theorem b52_49 {x0 : Nat} {x1 : Int32} {x2 : Int32} {x3 : Int32} {h : iH} {Q : Option Value → iH → Prop} (H : (∃ v1 : Nat, i_fld h x0 5 5 = some (.ref v1) ∧ (∃ (n2 : Nat) (f3 : Nat → Int64), i_arJ h v1 = some (n2, f3) ∧ ¬ (x3 < 0 ∨ n2 ≤ x3.toNatClampNeg) ∧ (∃ (n4 : Nat) (f5 : Nat → Int64), i_arJ h v1 = some (n4, f5) ∧ ¬ (x3 < 0 ∨ n4 ≤ x3.toNatClampNeg) ∧ i_P i_MT i_AT L xs 52 61 [some (.ref x0), some (.int x1), some (.int x2), some (.int x3)] [] (i_siJ h v1 x3.toNatClampNeg ((f3 x3.toNatClampNeg) ||| ((1 : Int64) <<< (x1.toInt64 &&& 63)))) 0 0 Q)))) : i_P i_MT i_AT L xs 52 49 [some (.ref x0), some (.int x1), some (.int x2), some (.int x3)] [] h 0 0 Q := by
  have hk := i_k52
  refine g_s1 (pc2 := 50) hk rfl rfl rfl rfl rfl ?_
  obtain ⟨v1, ev1, H⟩ := H
  refine g_step (pc2 := 53) hk rfl rfl rfl (s_get ev1) ?_
  refine g_s1 (pc2 := 54) hk rfl rfl rfl rfl rfl ?_
  refine g_s1 (pc2 := 55) hk rfl rfl rfl rfl rfl ?_
  obtain ⟨n2, f3, ef3, hi, H⟩ := H
  refine g_step (pc2 := 56) hk rfl rfl rfl (s_lget ef3 hi) ?_
  refine g_s1 (pc2 := 57) (st2 := [.long (1 : Int64), .long (f3 x3.toNatClampNeg), .int x3, .ref v1]) hk rfl rfl rfl rfl rfl ?_
  refine g_s1 (pc2 := 58) hk rfl rfl rfl rfl rfl ?_
  refine g_s1 (pc2 := 59) hk rfl rfl rfl rfl rfl ?_
  refine g_s1 (pc2 := 60) hk rfl rfl rfl rfl rfl ?_
  obtain ⟨n4, f5, ef5, hi, H⟩ := H
  refine g_step (pc2 := 61) hk rfl rfl rfl (s_lput ef5 hi) ?_
  exact H
theorem b52_61 {x0 : Nat} {x1 : Int32} {x2 : Int32} {x3 : Int32} {h : iH} {Q : Option Value → iH → Prop} (H : i_P i_MT i_AT L xs 52 2 [some (.ref x0), some (.int x1), some (.int x2), some (.int (x3 + 1))] [] h 0 0 Q) : i_P i_MT i_AT L xs 52 61 [some (.ref x0), some (.int x1), some (.int x2), some (.int x3)] [] h 0 0 Q := by
  have hk := i_k52
  refine g_s1 (pc2 := 64) (lo2 := [some (.ref x0), some (.int x1), some (.int x2), some (.int (x3 + 1))]) hk rfl rfl rfl rfl rfl ?_
  refine g_s1 (pc2 := 2) hk rfl rfl rfl rfl rfl ?_
  exact H
/-! StillTown$Search.spread(I)V -/
theorem e53 {x0 : Nat} {x1 : Int32} {h : iH} {Q : Option Value → iH → Prop} (H : i_P i_MT i_AT L xs 53 0 [some (.ref x0), some (.int x1), none, none, none, none, none, none] [] h 0 0 Q) : i_C i_MT i_AT L xs 53 [.ref x0, .int x1] h Q := ⟨i_m53, i_k53.1, Nat.le_of_ble_eq_true rfl, H⟩
theorem b53_0 {x0 : Nat} {x1 : Int32} {x2 : Option Value} {x3 : Option Value} {x4 : Option Value} {x5 : Option Value} {x6 : Option Value} {x7 : Option Value} {h : iH} {Q : Option Value → iH → Prop} (H : (∃ v1 : Nat, i_fld h x0 5 2 = some (.ref v1) ∧ (∃ (n2 : Nat) (f3 : Nat → Int64), i_arJ h v1 = some (n2, f3) ∧ ¬ (x1 < 0 ∨ n2 ≤ x1.toNatClampNeg) ∧ ((¬ (lg_cmp (f3 x1.toNatClampNeg) (0 : Int64)) = 0 → i_P i_MT i_AT L xs 53 14 [some (.ref x0), some (.int x1), some (.int (0 : Int32)), x3, x4, x5, x6, x7] [] h 0 0 Q) ∧ (¬ (¬ (lg_cmp (f3 x1.toNatClampNeg) (0 : Int64)) = 0) → Q none h))))) : i_P i_MT i_AT L xs 53 0 [some (.ref x0), some (.int x1), x2, x3, x4, x5, x6, x7] [] h 0 0 Q := by
  have hk := i_k53
  refine g_s1 (pc2 := 1) hk rfl rfl rfl rfl rfl ?_
  obtain ⟨v1, ev1, H⟩ := H
  refine g_step (pc2 := 4) hk rfl rfl rfl (s_get ev1) ?_
  refine g_s1 (pc2 := 5) hk rfl rfl rfl rfl rfl ?_
  obtain ⟨n2, f3, ef3, hi, H⟩ := H
  refine g_step (pc2 := 6) hk rfl rfl rfl (s_lget ef3 hi) ?_
  refine g_s1 (pc2 := 7) (st2 := [.long (0 : Int64), .long (f3 x1.toNatClampNeg)]) hk rfl rfl rfl rfl rfl ?_
  refine g_s1 (pc2 := 8) hk rfl rfl rfl rfl rfl ?_
  refine g_if_ne hk rfl (fun hc => ?_) (fun hc => ?_)
  · have H := H.1 hc
    refine g_s1 (pc2 := 13) (st2 := [.int (0 : Int32)]) hk rfl rfl rfl rfl rfl ?_
    refine g_s1 (pc2 := 14) (lo2 := [some (.ref x0), some (.int x1), some (.int (0 : Int32)), x3, x4, x5, x6, x7]) hk rfl rfl rfl rfl rfl ?_
    exact H
  · have H := H.2 hc
    exact g_return hk rfl (by decide) (by decide) rfl H
theorem b53_14 {x0 : Nat} {x1 : Int32} {x2 : Int32} {x3 : Option Value} {x4 : Option Value} {x5 : Option Value} {x6 : Option Value} {x7 : Option Value} {h : iH} {Q : Option Value → iH → Prop} (H : (((8 : Int32) ≤ x2 → Q none h) ∧ (¬ ((8 : Int32) ≤ x2) → (∃ v1 : Nat, i_fld h x0 5 2 = some (.ref v1) ∧ (∃ (n2 : Nat) (f3 : Nat → Int64), i_arJ h v1 = some (n2, f3) ∧ ¬ (x1 < 0 ∨ n2 ≤ x1.toNatClampNeg) ∧ (∃ v4 : Nat, i_fld h x0 5 0 = some (.ref v4) ∧ (∃ v5 : Nat, i_fld h v4 0 0 = some (.ref v5) ∧ (∃ v6 : Nat, i_fld h x0 5 2 = some (.ref v6) ∧ (∃ (n7 : Nat) (f8 : Nat → Int64), i_arJ h v6 = some (n7, f8) ∧ ¬ (x1 < 0 ∨ n7 ≤ x1.toNatClampNeg) ∧ (i_obj? h v5 2 ∧ i_C i_MT i_AT L xs 24 [.ref v5, .long (f8 x1.toNatClampNeg), .int x2] h (fun v h9 => ∃ r10 : Int64, v = some (.long r10) ∧ i_P i_MT i_AT L xs 53 43 [some (.ref x0), some (.int x1), some (.int x2), x3, x4, x5, x6, x7] [.long r10, .long (f3 x1.toNatClampNeg)] h9 0 0 Q))))))))))) : i_P i_MT i_AT L xs 53 14 [some (.ref x0), some (.int x1), some (.int x2), x3, x4, x5, x6, x7] [] h 0 0 Q := by
  have hk := i_k53
  refine g_s1 (pc2 := 15) hk rfl rfl rfl rfl rfl ?_
  refine g_s1 (pc2 := 17) (st2 := [.int (8 : Int32), .int x2]) hk rfl rfl rfl rfl rfl ?_
  refine g_icmp_ge hk rfl (fun hc => ?_) (fun hc => ?_)
  · have H := H.1 hc
    exact g_return hk rfl (by decide) (by decide) rfl H
  · have H := H.2 hc
    refine g_s1 (pc2 := 21) hk rfl rfl rfl rfl rfl ?_
    obtain ⟨v1, ev1, H⟩ := H
    refine g_step (pc2 := 24) hk rfl rfl rfl (s_get ev1) ?_
    refine g_s1 (pc2 := 25) hk rfl rfl rfl rfl rfl ?_
    obtain ⟨n2, f3, ef3, hi, H⟩ := H
    refine g_step (pc2 := 26) hk rfl rfl rfl (s_lget ef3 hi) ?_
    refine g_s1 (pc2 := 27) hk rfl rfl rfl rfl rfl ?_
    obtain ⟨v4, ev4, H⟩ := H
    refine g_step (pc2 := 30) hk rfl rfl rfl (s_get ev4) ?_
    obtain ⟨v5, ev5, H⟩ := H
    refine g_step (pc2 := 33) hk rfl rfl rfl (s_get ev5) ?_
    refine g_s1 (pc2 := 34) hk rfl rfl rfl rfl rfl ?_
    obtain ⟨v6, ev6, H⟩ := H
    refine g_step (pc2 := 37) hk rfl rfl rfl (s_get ev6) ?_
    refine g_s1 (pc2 := 38) hk rfl rfl rfl rfl rfl ?_
    obtain ⟨n7, f8, ef8, hi, H⟩ := H
    refine g_step (pc2 := 39) hk rfl rfl rfl (s_lget ef8 hi) ?_
    refine g_s1 (pc2 := 40) hk rfl rfl rfl rfl rfl ?_
    obtain ⟨ho, H⟩ := H
    refine g_call hk rfl rfl i_k24.1 ⟨rfl, rfl⟩ rfl (i_rcv_v ho rfl (by decide)) rfl ?_
    exact H.mono (fun v h2 q => by obtain ⟨r, rfl, q⟩ := q; exact q)
theorem b53_43 {x0 : Nat} {x1 : Int32} {x2 : Int32} {x3 : Option Value} {x4 : Option Value} {x5 : Option Value} {x6 : Option Value} {x7 : Option Value} {s0 : Int64} {s1 : Int64} {h : iH} {Q : Option Value → iH → Prop} (H : (∃ v1 : Nat, i_fld h x0 5 3 = some (.ref v1) ∧ (∃ (n2 : Nat) (f3 : Nat → Int64), i_arJ h v1 = some (n2, f3) ∧ ¬ (x1 < 0 ∨ n2 ≤ x1.toNatClampNeg) ∧ (∃ v4 : Nat, i_fld h x0 5 5 = some (.ref v4) ∧ (∃ (n5 : Nat) (f6 : Nat → Int64), i_arJ h v4 = some (n5, f6) ∧ ¬ (x2 < 0 ∨ n5 ≤ x2.toNatClampNeg) ∧ (∃ (n7 : Nat) (f8 : Nat → Int64), i_arJ h v1 = some (n7, f8) ∧ ¬ (x1 < 0 ∨ n7 ≤ x1.toNatClampNeg) ∧ i_P i_MT i_AT L xs 53 66 [some (.ref x0), some (.int x1), some (.int x2), some (.long (s0 ||| s1)), none, x5, x6, x7] [] (i_siJ h v1 x1.toNatClampNeg ((f3 x1.toNatClampNeg) ||| ((s0 ||| s1) &&& ((f6 x2.toNatClampNeg) ^^^ (-1 : Int64))))) 0 0 Q)))))) : i_P i_MT i_AT L xs 53 43 [some (.ref x0), some (.int x1), some (.int x2), x3, x4, x5, x6, x7] [.long s1, .long s0] h 0 0 Q := by
  have hk := i_k53
  refine g_s1 (pc2 := 44) hk rfl rfl rfl rfl rfl ?_
  refine g_s1 (pc2 := 45) (lo2 := [some (.ref x0), some (.int x1), some (.int x2), some (.long (s0 ||| s1)), none, x5, x6, x7]) hk rfl rfl rfl rfl rfl ?_
  refine g_s1 (pc2 := 46) hk rfl rfl rfl rfl rfl ?_
  obtain ⟨v1, ev1, H⟩ := H
  refine g_step (pc2 := 49) hk rfl rfl rfl (s_get ev1) ?_
  refine g_s1 (pc2 := 50) hk rfl rfl rfl rfl rfl ?_
  refine g_s1 (pc2 := 51) hk rfl rfl rfl rfl rfl ?_
  obtain ⟨n2, f3, ef3, hi, H⟩ := H
  refine g_step (pc2 := 52) hk rfl rfl rfl (s_lget ef3 hi) ?_
  refine g_s1 (pc2 := 53) hk rfl rfl rfl rfl rfl ?_
  refine g_s1 (pc2 := 54) hk rfl rfl rfl rfl rfl ?_
  obtain ⟨v4, ev4, H⟩ := H
  refine g_step (pc2 := 57) hk rfl rfl rfl (s_get ev4) ?_
  refine g_s1 (pc2 := 58) hk rfl rfl rfl rfl rfl ?_
  obtain ⟨n5, f6, ef6, hi, H⟩ := H
  refine g_step (pc2 := 59) hk rfl rfl rfl (s_lget ef6 hi) ?_
  refine g_step (pc2 := 62) (st2 := [.long (-1 : Int64), .long (f6 x2.toNatClampNeg), .long (s0 ||| s1), .long (f3 x1.toNatClampNeg), .int x1, .ref v1]) hk rfl rfl rfl rfl ?_
  refine g_s1 (pc2 := 63) hk rfl rfl rfl rfl rfl ?_
  refine g_s1 (pc2 := 64) hk rfl rfl rfl rfl rfl ?_
  refine g_s1 (pc2 := 65) hk rfl rfl rfl rfl rfl ?_
  obtain ⟨n7, f8, ef8, hi, H⟩ := H
  refine g_step (pc2 := 66) hk rfl rfl rfl (s_lput ef8 hi) ?_
  exact H
theorem b53_66 {x0 : Nat} {x1 : Int32} {x2 : Int32} {x3 : Int64} {x5 : Option Value} {x6 : Option Value} {x7 : Option Value} {h : iH} {Q : Option Value → iH → Prop} (H : (∃ v1 : Nat, i_fld h x0 5 5 = some (.ref v1) ∧ (∃ (n2 : Nat) (f3 : Nat → Int64), i_arJ h v1 = some (n2, f3) ∧ ¬ (x2 < 0 ∨ n2 ≤ x2.toNatClampNeg) ∧ i_P i_MT i_AT L xs 53 79 [some (.ref x0), some (.int x1), some (.int x2), some (.long x3), none, some (.long (x3 &&& (f3 x2.toNatClampNeg))), none, some (.int (0 : Int32))] [] h 0 0 Q))) : i_P i_MT i_AT L xs 53 66 [some (.ref x0), some (.int x1), some (.int x2), some (.long x3), none, x5, x6, x7] [] h 0 0 Q := by
  have hk := i_k53
  refine g_s1 (pc2 := 67) hk rfl rfl rfl rfl rfl ?_
  refine g_s1 (pc2 := 68) hk rfl rfl rfl rfl rfl ?_
  obtain ⟨v1, ev1, H⟩ := H
  refine g_step (pc2 := 71) hk rfl rfl rfl (s_get ev1) ?_
  refine g_s1 (pc2 := 72) hk rfl rfl rfl rfl rfl ?_
  obtain ⟨n2, f3, ef3, hi, H⟩ := H
  refine g_step (pc2 := 73) hk rfl rfl rfl (s_lget ef3 hi) ?_
  refine g_s1 (pc2 := 74) hk rfl rfl rfl rfl rfl ?_
  refine g_s1 (pc2 := 76) (lo2 := [some (.ref x0), some (.int x1), some (.int x2), some (.long x3), none, some (.long (x3 &&& (f3 x2.toNatClampNeg))), none, x7]) hk rfl rfl rfl rfl rfl ?_
  refine g_s1 (pc2 := 77) (st2 := [.int (0 : Int32)]) hk rfl rfl rfl rfl rfl ?_
  refine g_s1 (pc2 := 79) (lo2 := [some (.ref x0), some (.int x1), some (.int x2), some (.long x3), none, some (.long (x3 &&& (f3 x2.toNatClampNeg))), none, some (.int (0 : Int32))]) hk rfl rfl rfl rfl rfl ?_
  exact H
theorem b53_79 {x0 : Nat} {x1 : Int32} {x2 : Int32} {x3 : Int64} {x5 : Int64} {x7 : Int32} {h : iH} {Q : Option Value → iH → Prop} (H : (∃ v1 : Nat, i_fld h x0 5 0 = some (.ref v1) ∧ (∃ v2 : Nat, i_fld h v1 0 0 = some (.ref v2) ∧ (∃ v3 : Int32, i_fld h v2 2 2 = some (.int v3) ∧ ((v3 ≤ x7 → i_P i_MT i_AT L xs 53 143 [some (.ref x0), some (.int x1), some (.int x2), some (.long x3), none, some (.long x5), none, some (.int x7)] [] h 0 0 Q) ∧ (¬ (v3 ≤ x7) → (((lg_cmp x5 (0 : Int64)) = 0 → i_P i_MT i_AT L xs 53 143 [some (.ref x0), some (.int x1), some (.int x2), some (.long x3), none, some (.long x5), none, some (.int x7)] [] h 0 0 Q) ∧ (¬ ((lg_cmp x5 (0 : Int64)) = 0) → (i_C i_MT i_AT L xs 193 [.long x5, .int x7] h (fun v h4 => ∃ r5 : Int32, v = some (.int r5) ∧ i_P i_MT i_AT L xs 53 108 [some (.ref x0), some (.int x1), some (.int x2), some (.long x3), none, some (.long x5), none, some (.int x7)] [.int r5] h4 0 0 Q)))))))))) : i_P i_MT i_AT L xs 53 79 [some (.ref x0), some (.int x1), some (.int x2), some (.long x3), none, some (.long x5), none, some (.int x7)] [] h 0 0 Q := by
  have hk := i_k53
  refine g_s1 (pc2 := 81) hk rfl rfl rfl rfl rfl ?_
  refine g_s1 (pc2 := 82) hk rfl rfl rfl rfl rfl ?_
  obtain ⟨v1, ev1, H⟩ := H
  refine g_step (pc2 := 85) hk rfl rfl rfl (s_get ev1) ?_
  obtain ⟨v2, ev2, H⟩ := H
  refine g_step (pc2 := 88) hk rfl rfl rfl (s_get ev2) ?_
  obtain ⟨v3, ev3, H⟩ := H
  refine g_step (pc2 := 91) hk rfl rfl rfl (s_get ev3) ?_
  refine g_icmp_ge hk rfl (fun hc => ?_) (fun hc => ?_)
  · have H := H.1 hc
    exact H
  · have H := H.2 hc
    refine g_s1 (pc2 := 96) hk rfl rfl rfl rfl rfl ?_
    refine g_s1 (pc2 := 97) (st2 := [.long (0 : Int64), .long x5]) hk rfl rfl rfl rfl rfl ?_
    refine g_s1 (pc2 := 98) hk rfl rfl rfl rfl rfl ?_
    refine g_if_eq hk rfl (fun hc => ?_) (fun hc => ?_)
    · have H := H.1 hc
      exact H
    · have H := H.2 hc
      refine g_s1 (pc2 := 103) hk rfl rfl rfl rfl rfl ?_
      refine g_s1 (pc2 := 105) hk rfl rfl rfl rfl rfl ?_
      refine g_call hk rfl rfl i_k193.1 ⟨rfl, rfl⟩ rfl (i_rcv_0 rfl) rfl ?_
      exact H.mono (fun v h2 q => by obtain ⟨r, rfl, q⟩ := q; exact q)
theorem b53_108 {x0 : Nat} {x1 : Int32} {x2 : Int32} {x3 : Int64} {x5 : Int64} {x7 : Int32} {s0 : Int32} {h : iH} {Q : Option Value → iH → Prop} (H : ((s0 = 0 → i_P i_MT i_AT L xs 53 137 [some (.ref x0), some (.int x1), some (.int x2), some (.long x3), none, some (.long x5), none, some (.int x7)] [] h 0 0 Q) ∧ (¬ (s0 = 0) → (∃ v1 : Nat, i_fld h x0 5 3 = some (.ref v1) ∧ (∃ v2 : Nat, i_fld h x0 5 4 = some (.ref v2) ∧ (∃ (n3 : Nat) (f4 : Nat → Int32), i_arI h 0 v2 = some (n3, f4) ∧ ¬ (((x2 * (48 : Int32)) + x7) < 0 ∨ n3 ≤ ((x2 * (48 : Int32)) + x7).toNatClampNeg) ∧ (∃ (n5 : Nat) (f6 : Nat → Int64), i_arJ h v1 = some (n5, f6) ∧ ¬ ((x1 ||| (f4 ((x2 * (48 : Int32)) + x7).toNatClampNeg)) < 0 ∨ n5 ≤ (x1 ||| (f4 ((x2 * (48 : Int32)) + x7).toNatClampNeg)).toNatClampNeg) ∧ (∃ (n7 : Nat) (f8 : Nat → Int64), i_arJ h v1 = some (n7, f8) ∧ ¬ ((x1 ||| (f4 ((x2 * (48 : Int32)) + x7).toNatClampNeg)) < 0 ∨ n7 ≤ (x1 ||| (f4 ((x2 * (48 : Int32)) + x7).toNatClampNeg)).toNatClampNeg) ∧ i_P i_MT i_AT L xs 53 137 [some (.ref x0), some (.int x1), some (.int x2), some (.long x3), none, some (.long x5), none, some (.int x7)] [] (i_siJ h v1 (x1 ||| (f4 ((x2 * (48 : Int32)) + x7).toNatClampNeg)).toNatClampNeg ((f6 (x1 ||| (f4 ((x2 * (48 : Int32)) + x7).toNatClampNeg)).toNatClampNeg) ||| ((1 : Int64) <<< (x7.toInt64 &&& 63)))) 0 0 Q)))))))) : i_P i_MT i_AT L xs 53 108 [some (.ref x0), some (.int x1), some (.int x2), some (.long x3), none, some (.long x5), none, some (.int x7)] [.int s0] h 0 0 Q := by
  have hk := i_k53
  refine g_if_eq hk rfl (fun hc => ?_) (fun hc => ?_)
  · have H := H.1 hc
    exact H
  · have H := H.2 hc
    refine g_s1 (pc2 := 112) hk rfl rfl rfl rfl rfl ?_
    obtain ⟨v1, ev1, H⟩ := H
    refine g_step (pc2 := 115) hk rfl rfl rfl (s_get ev1) ?_
    refine g_s1 (pc2 := 116) hk rfl rfl rfl rfl rfl ?_
    refine g_s1 (pc2 := 117) hk rfl rfl rfl rfl rfl ?_
    obtain ⟨v2, ev2, H⟩ := H
    refine g_step (pc2 := 120) hk rfl rfl rfl (s_get ev2) ?_
    refine g_s1 (pc2 := 121) hk rfl rfl rfl rfl rfl ?_
    refine g_s1 (pc2 := 123) (st2 := [.int (48 : Int32), .int x2, .ref v2, .int x1, .ref v1]) hk rfl rfl rfl rfl rfl ?_
    refine g_s1 (pc2 := 124) hk rfl rfl rfl rfl rfl ?_
    refine g_s1 (pc2 := 126) hk rfl rfl rfl rfl rfl ?_
    refine g_s1 (pc2 := 127) hk rfl rfl rfl rfl rfl ?_
    obtain ⟨n3, f4, ef4, hi, H⟩ := H
    refine g_step (pc2 := 128) hk rfl rfl rfl (s_aget (L := L) (xs := xs) ef4 hi) ?_
    refine g_s1 (pc2 := 129) hk rfl rfl rfl rfl rfl ?_
    refine g_s1 (pc2 := 130) hk rfl rfl rfl rfl rfl ?_
    obtain ⟨n5, f6, ef6, hi, H⟩ := H
    refine g_step (pc2 := 131) hk rfl rfl rfl (s_lget ef6 hi) ?_
    refine g_s1 (pc2 := 132) (st2 := [.long (1 : Int64), .long (f6 (x1 ||| (f4 ((x2 * (48 : Int32)) + x7).toNatClampNeg)).toNatClampNeg), .int (x1 ||| (f4 ((x2 * (48 : Int32)) + x7).toNatClampNeg)), .ref v1]) hk rfl rfl rfl rfl rfl ?_
    refine g_s1 (pc2 := 134) hk rfl rfl rfl rfl rfl ?_
    refine g_s1 (pc2 := 135) hk rfl rfl rfl rfl rfl ?_
    refine g_s1 (pc2 := 136) hk rfl rfl rfl rfl rfl ?_
    obtain ⟨n7, f8, ef8, hi, H⟩ := H
    refine g_step (pc2 := 137) hk rfl rfl rfl (s_lput ef8 hi) ?_
    exact H
theorem b53_137 {x0 : Nat} {x1 : Int32} {x2 : Int32} {x3 : Int64} {x5 : Int64} {x7 : Int32} {h : iH} {Q : Option Value → iH → Prop} (H : i_P i_MT i_AT L xs 53 79 [some (.ref x0), some (.int x1), some (.int x2), some (.long x3), none, some (.long x5), none, some (.int (x7 + 1))] [] h 0 0 Q) : i_P i_MT i_AT L xs 53 137 [some (.ref x0), some (.int x1), some (.int x2), some (.long x3), none, some (.long x5), none, some (.int x7)] [] h 0 0 Q := by
  have hk := i_k53
  refine g_s1 (pc2 := 140) (lo2 := [some (.ref x0), some (.int x1), some (.int x2), some (.long x3), none, some (.long x5), none, some (.int (x7 + 1))]) hk rfl rfl rfl rfl rfl ?_
  refine g_s1 (pc2 := 79) hk rfl rfl rfl rfl rfl ?_
  exact H
theorem b53_143 {x0 : Nat} {x1 : Int32} {x2 : Int32} {x3 : Int64} {x5 : Int64} {x7 : Int32} {h : iH} {Q : Option Value → iH → Prop} (H : i_P i_MT i_AT L xs 53 14 [some (.ref x0), some (.int x1), some (.int (x2 + 1)), some (.long x3), none, some (.long x5), none, some (.int x7)] [] h 0 0 Q) : i_P i_MT i_AT L xs 53 143 [some (.ref x0), some (.int x1), some (.int x2), some (.long x3), none, some (.long x5), none, some (.int x7)] [] h 0 0 Q := by
  have hk := i_k53
  refine g_s1 (pc2 := 146) (lo2 := [some (.ref x0), some (.int x1), some (.int (x2 + 1)), some (.long x3), none, some (.long x5), none, some (.int x7)]) hk rfl rfl rfl rfl rfl ?_
  refine g_s1 (pc2 := 14) hk rfl rfl rfl rfl rfl ?_
  exact H
/-! StillTown$Search.cellsSwept(II)I -/
theorem e54 {x0 : Nat} {x1 : Int32} {x2 : Int32} {h : iH} {Q : Option Value → iH → Prop} (H : i_P i_MT i_AT L xs 54 0 [some (.ref x0), some (.int x1), some (.int x2), none, none, none, none, none, none, none, none, none, none, none, none, none, none] [] h 0 0 Q) : i_C i_MT i_AT L xs 54 [.ref x0, .int x1, .int x2] h Q := ⟨i_m54, i_k54.1, Nat.le_of_ble_eq_true rfl, H⟩
theorem b54_0 {x0 : Nat} {x1 : Int32} {x2 : Int32} {x3 : Option Value} {x4 : Option Value} {x5 : Option Value} {x6 : Option Value} {x7 : Option Value} {x8 : Option Value} {x9 : Option Value} {x10 : Option Value} {x11 : Option Value} {x12 : Option Value} {x13 : Option Value} {x14 : Option Value} {x15 : Option Value} {x16 : Option Value} {h : iH} {Q : Option Value → iH → Prop} (H : (∃ v1 : Nat, i_fld h x0 5 0 = some (.ref v1) ∧ (∃ v2 : Nat, i_fld h v1 0 1 = some (.ref v2) ∧ (∃ v3 : Nat, i_fld h v2 8 12 = some (.ref v3) ∧ (∃ v4 : Nat, i_fld h v3 3 4 = some (.ref v4) ∧ (∃ (n5 : Nat) (f6 : Nat → Int32), i_arI h 0 v4 = some (n5, f6) ∧ ¬ (x1 < 0 ∨ n5 ≤ x1.toNatClampNeg) ∧ (∃ v7 : Nat, i_fld h x0 5 0 = some (.ref v7) ∧ (∃ v8 : Nat, i_fld h v7 0 1 = some (.ref v8) ∧ (∃ v9 : Nat, i_fld h v8 8 12 = some (.ref v9) ∧ (∃ v10 : Nat, i_fld h v9 3 2 = some (.ref v10) ∧ (∃ (n11 : Nat) (f12 : Nat → Int32), i_arI h 0 v10 = some (n11, f12) ∧ ¬ (x1 < 0 ∨ n11 ≤ x1.toNatClampNeg) ∧ i_P i_MT i_AT L xs 54 39 [some (.ref x0), some (.int x1), some (.int x2), some (.int (f6 x1.toNatClampNeg)), some (.int (f12 x1.toNatClampNeg)), some (.long (0 : Int64)), none, some (.int (1 : Int32)), x8, x9, x10, x11, x12, x13, x14, x15, x16] [] h 0 0 Q))))))))))) : i_P i_MT i_AT L xs 54 0 [some (.ref x0), some (.int x1), some (.int x2), x3, x4, x5, x6, x7, x8, x9, x10, x11, x12, x13, x14, x15, x16] [] h 0 0 Q := by
  have hk := i_k54
  refine g_s1 (pc2 := 1) hk rfl rfl rfl rfl rfl ?_
  obtain ⟨v1, ev1, H⟩ := H
  refine g_step (pc2 := 4) hk rfl rfl rfl (s_get ev1) ?_
  obtain ⟨v2, ev2, H⟩ := H
  refine g_step (pc2 := 7) hk rfl rfl rfl (s_get ev2) ?_
  obtain ⟨v3, ev3, H⟩ := H
  refine g_step (pc2 := 10) hk rfl rfl rfl (s_get ev3) ?_
  obtain ⟨v4, ev4, H⟩ := H
  refine g_step (pc2 := 13) hk rfl rfl rfl (s_get ev4) ?_
  refine g_s1 (pc2 := 14) hk rfl rfl rfl rfl rfl ?_
  obtain ⟨n5, f6, ef6, hi, H⟩ := H
  refine g_step (pc2 := 15) hk rfl rfl rfl (s_aget (L := L) (xs := xs) ef6 hi) ?_
  refine g_s1 (pc2 := 16) (lo2 := [some (.ref x0), some (.int x1), some (.int x2), some (.int (f6 x1.toNatClampNeg)), x4, x5, x6, x7, x8, x9, x10, x11, x12, x13, x14, x15, x16]) hk rfl rfl rfl rfl rfl ?_
  refine g_s1 (pc2 := 17) hk rfl rfl rfl rfl rfl ?_
  obtain ⟨v7, ev7, H⟩ := H
  refine g_step (pc2 := 20) hk rfl rfl rfl (s_get ev7) ?_
  obtain ⟨v8, ev8, H⟩ := H
  refine g_step (pc2 := 23) hk rfl rfl rfl (s_get ev8) ?_
  obtain ⟨v9, ev9, H⟩ := H
  refine g_step (pc2 := 26) hk rfl rfl rfl (s_get ev9) ?_
  obtain ⟨v10, ev10, H⟩ := H
  refine g_step (pc2 := 29) hk rfl rfl rfl (s_get ev10) ?_
  refine g_s1 (pc2 := 30) hk rfl rfl rfl rfl rfl ?_
  obtain ⟨n11, f12, ef12, hi, H⟩ := H
  refine g_step (pc2 := 31) hk rfl rfl rfl (s_aget (L := L) (xs := xs) ef12 hi) ?_
  refine g_s1 (pc2 := 33) (lo2 := [some (.ref x0), some (.int x1), some (.int x2), some (.int (f6 x1.toNatClampNeg)), some (.int (f12 x1.toNatClampNeg)), x5, x6, x7, x8, x9, x10, x11, x12, x13, x14, x15, x16]) hk rfl rfl rfl rfl rfl ?_
  refine g_s1 (pc2 := 34) (st2 := [.long (0 : Int64)]) hk rfl rfl rfl rfl rfl ?_
  refine g_s1 (pc2 := 36) (lo2 := [some (.ref x0), some (.int x1), some (.int x2), some (.int (f6 x1.toNatClampNeg)), some (.int (f12 x1.toNatClampNeg)), some (.long (0 : Int64)), none, x7, x8, x9, x10, x11, x12, x13, x14, x15, x16]) hk rfl rfl rfl rfl rfl ?_
  refine g_s1 (pc2 := 37) (st2 := [.int (1 : Int32)]) hk rfl rfl rfl rfl rfl ?_
  refine g_s1 (pc2 := 39) (lo2 := [some (.ref x0), some (.int x1), some (.int x2), some (.int (f6 x1.toNatClampNeg)), some (.int (f12 x1.toNatClampNeg)), some (.long (0 : Int64)), none, some (.int (1 : Int32)), x8, x9, x10, x11, x12, x13, x14, x15, x16]) hk rfl rfl rfl rfl rfl ?_
  exact H
theorem b54_39 {x0 : Nat} {x1 : Int32} {x2 : Int32} {x3 : Int32} {x4 : Int32} {x5 : Int64} {x7 : Int32} {x8 : Option Value} {x9 : Option Value} {x10 : Option Value} {x11 : Option Value} {x12 : Option Value} {x13 : Option Value} {x14 : Option Value} {x15 : Option Value} {x16 : Option Value} {h : iH} {Q : Option Value → iH → Prop} (H : ((x2 < x7 → (i_C i_MT i_AT L xs 334 [.long x5] h (fun v h1 => ∃ r2 : Int32, v = some (.int r2) ∧ i_P i_MT i_AT L xs 54 187 [some (.ref x0), some (.int x1), some (.int x2), some (.int x3), some (.int x4), some (.long x5), none, some (.int x7), x8, x9, x10, x11, x12, x13, x14, x15, x16] [.int r2] h1 0 0 Q))) ∧ (¬ (x2 < x7) → i_P i_MT i_AT L xs 54 58 [some (.ref x0), some (.int x1), some (.int x2), some (.int x3), some (.int x4), some (.long x5), none, some (.int x7), some (.int (-1 : Int32)), some (.long (0 : Int64)), none, some (.int x4), some (.int (0 : Int32)), x13, x14, x15, x16] [] h 0 0 Q))) : i_P i_MT i_AT L xs 54 39 [some (.ref x0), some (.int x1), some (.int x2), some (.int x3), some (.int x4), some (.long x5), none, some (.int x7), x8, x9, x10, x11, x12, x13, x14, x15, x16] [] h 0 0 Q := by
  have hk := i_k54
  refine g_s1 (pc2 := 41) hk rfl rfl rfl rfl rfl ?_
  refine g_s1 (pc2 := 42) hk rfl rfl rfl rfl rfl ?_
  refine g_icmp_gt hk rfl (fun hc => ?_) (fun hc => ?_)
  · have H := H.1 hc
    refine g_s1 (pc2 := 184) hk rfl rfl rfl rfl rfl ?_
    refine g_call hk rfl rfl i_k334.1 ⟨rfl, rfl⟩ rfl (i_rcv_0 rfl) rfl ?_
    exact H.mono (fun v h2 q => by obtain ⟨r, rfl, q⟩ := q; exact q)
  · have H := H.2 hc
    refine g_s1 (pc2 := 46) (st2 := [.int (-1 : Int32)]) hk rfl rfl rfl rfl rfl ?_
    refine g_s1 (pc2 := 48) (lo2 := [some (.ref x0), some (.int x1), some (.int x2), some (.int x3), some (.int x4), some (.long x5), none, some (.int x7), some (.int (-1 : Int32)), x9, x10, x11, x12, x13, x14, x15, x16]) hk rfl rfl rfl rfl rfl ?_
    refine g_s1 (pc2 := 49) (st2 := [.long (0 : Int64)]) hk rfl rfl rfl rfl rfl ?_
    refine g_s1 (pc2 := 51) (lo2 := [some (.ref x0), some (.int x1), some (.int x2), some (.int x3), some (.int x4), some (.long x5), none, some (.int x7), some (.int (-1 : Int32)), some (.long (0 : Int64)), none, x11, x12, x13, x14, x15, x16]) hk rfl rfl rfl rfl rfl ?_
    refine g_s1 (pc2 := 53) hk rfl rfl rfl rfl rfl ?_
    refine g_s1 (pc2 := 55) (lo2 := [some (.ref x0), some (.int x1), some (.int x2), some (.int x3), some (.int x4), some (.long x5), none, some (.int x7), some (.int (-1 : Int32)), some (.long (0 : Int64)), none, some (.int x4), x12, x13, x14, x15, x16]) hk rfl rfl rfl rfl rfl ?_
    refine g_s1 (pc2 := 56) (st2 := [.int (0 : Int32)]) hk rfl rfl rfl rfl rfl ?_
    refine g_s1 (pc2 := 58) (lo2 := [some (.ref x0), some (.int x1), some (.int x2), some (.int x3), some (.int x4), some (.long x5), none, some (.int x7), some (.int (-1 : Int32)), some (.long (0 : Int64)), none, some (.int x4), some (.int (0 : Int32)), x13, x14, x15, x16]) hk rfl rfl rfl rfl rfl ?_
    exact H
theorem b54_58 {x0 : Nat} {x1 : Int32} {x2 : Int32} {x3 : Int32} {x4 : Int32} {x5 : Int64} {x7 : Int32} {x8 : Int32} {x9 : Int64} {x11 : Int32} {x12 : Int32} {x13 : Option Value} {x14 : Option Value} {x15 : Option Value} {x16 : Option Value} {h : iH} {Q : Option Value → iH → Prop} (H : (((16 : Int32) ≤ x12 → i_P i_MT i_AT L xs 54 39 [some (.ref x0), some (.int x1), some (.int x2), some (.int x3), some (.int x11), some (.long (x5 ||| x9)), none, some (.int (x7 + 1)), some (.int x8), some (.long x9), none, some (.int x11), some (.int x12), x13, x14, x15, x16] [] h 0 0 Q) ∧ (¬ ((16 : Int32) ≤ x12) → (¬ (8 : Int32) = 0 ∧ (((8 : Int32) ≤ x12 → (∃ v1 : Nat, i_fld h x0 5 0 = some (.ref v1) ∧ (∃ v2 : Nat, i_fld h v1 0 0 = some (.ref v2) ∧ (i_obj? h v2 2 ∧ i_C i_MT i_AT L xs 26 [.ref v2, .int x4, .int (x12 - x12 / (8 : Int32) * (8 : Int32))] h (fun v h3 => ∃ r4 : Int32, v = some (.int r4) ∧ i_P i_MT i_AT L xs 54 98 [some (.ref x0), some (.int x1), some (.int x2), some (.int x3), some (.int x4), some (.long x5), none, some (.int x7), some (.int x8), some (.long x9), none, some (.int x11), some (.int x12), some (.int (x12 - x12 / (8 : Int32) * (8 : Int32))), x14, x15, x16] [.int r4] h3 0 0 Q))))) ∧ (¬ ((8 : Int32) ≤ x12) → i_P i_MT i_AT L xs 54 98 [some (.ref x0), some (.int x1), some (.int x2), some (.int x3), some (.int x4), some (.long x5), none, some (.int x7), some (.int x8), some (.long x9), none, some (.int x11), some (.int x12), some (.int (x12 - x12 / (8 : Int32) * (8 : Int32))), x14, x15, x16] [.int x4] h 0 0 Q)))))) : i_P i_MT i_AT L xs 54 58 [some (.ref x0), some (.int x1), some (.int x2), some (.int x3), some (.int x4), some (.long x5), none, some (.int x7), some (.int x8), some (.long x9), none, some (.int x11), some (.int x12), x13, x14, x15, x16] [] h 0 0 Q := by
  have hk := i_k54
  refine g_s1 (pc2 := 60) hk rfl rfl rfl rfl rfl ?_
  refine g_s1 (pc2 := 62) (st2 := [.int (16 : Int32), .int x12]) hk rfl rfl rfl rfl rfl ?_
  refine g_icmp_ge hk rfl (fun hc => ?_) (fun hc => ?_)
  · have H := H.1 hc
    refine g_s1 (pc2 := 167) hk rfl rfl rfl rfl rfl ?_
    refine g_s1 (pc2 := 169) hk rfl rfl rfl rfl rfl ?_
    refine g_s1 (pc2 := 170) hk rfl rfl rfl rfl rfl ?_
    refine g_s1 (pc2 := 172) (lo2 := [some (.ref x0), some (.int x1), some (.int x2), some (.int x3), some (.int x4), some (.long (x5 ||| x9)), none, some (.int x7), some (.int x8), some (.long x9), none, some (.int x11), some (.int x12), x13, x14, x15, x16]) hk rfl rfl rfl rfl rfl ?_
    refine g_s1 (pc2 := 174) hk rfl rfl rfl rfl rfl ?_
    refine g_s1 (pc2 := 176) (lo2 := [some (.ref x0), some (.int x1), some (.int x2), some (.int x3), some (.int x11), some (.long (x5 ||| x9)), none, some (.int x7), some (.int x8), some (.long x9), none, some (.int x11), some (.int x12), x13, x14, x15, x16]) hk rfl rfl rfl rfl rfl ?_
    refine g_s1 (pc2 := 179) (lo2 := [some (.ref x0), some (.int x1), some (.int x2), some (.int x3), some (.int x11), some (.long (x5 ||| x9)), none, some (.int (x7 + 1)), some (.int x8), some (.long x9), none, some (.int x11), some (.int x12), x13, x14, x15, x16]) hk rfl rfl rfl rfl rfl ?_
    refine g_s1 (pc2 := 39) hk rfl rfl rfl rfl rfl ?_
    exact H
  · have H := H.2 hc
    refine g_s1 (pc2 := 67) hk rfl rfl rfl rfl rfl ?_
    refine g_s1 (pc2 := 69) (st2 := [.int (8 : Int32), .int x12]) hk rfl rfl rfl rfl rfl ?_
    obtain ⟨hz, H⟩ := H
    refine g_s1 (pc2 := 70) hk rfl rfl rfl rfl (s_if hz) ?_
    refine g_s1 (pc2 := 72) (lo2 := [some (.ref x0), some (.int x1), some (.int x2), some (.int x3), some (.int x4), some (.long x5), none, some (.int x7), some (.int x8), some (.long x9), none, some (.int x11), some (.int x12), some (.int (x12 - x12 / (8 : Int32) * (8 : Int32))), x14, x15, x16]) hk rfl rfl rfl rfl rfl ?_
    refine g_s1 (pc2 := 74) hk rfl rfl rfl rfl rfl ?_
    refine g_s1 (pc2 := 76) (st2 := [.int (8 : Int32), .int x12]) hk rfl rfl rfl rfl rfl ?_
    refine g_icmp_ge hk rfl (fun hc => ?_) (fun hc => ?_)
    · have H := H.1 hc
      refine g_s1 (pc2 := 85) hk rfl rfl rfl rfl rfl ?_
      obtain ⟨v1, ev1, H⟩ := H
      refine g_step (pc2 := 88) hk rfl rfl rfl (s_get ev1) ?_
      obtain ⟨v2, ev2, H⟩ := H
      refine g_step (pc2 := 91) hk rfl rfl rfl (s_get ev2) ?_
      refine g_s1 (pc2 := 93) hk rfl rfl rfl rfl rfl ?_
      refine g_s1 (pc2 := 95) hk rfl rfl rfl rfl rfl ?_
      obtain ⟨ho, H⟩ := H
      refine g_call hk rfl rfl i_k26.1 ⟨rfl, rfl⟩ rfl (i_rcv_v ho rfl (by decide)) rfl ?_
      exact H.mono (fun v h2 q => by obtain ⟨r, rfl, q⟩ := q; exact q)
    · have H := H.2 hc
      refine g_s1 (pc2 := 81) hk rfl rfl rfl rfl rfl ?_
      refine g_s1 (pc2 := 98) hk rfl rfl rfl rfl rfl ?_
      exact H
theorem b54_98 {x0 : Nat} {x1 : Int32} {x2 : Int32} {x3 : Int32} {x4 : Int32} {x5 : Int64} {x7 : Int32} {x8 : Int32} {x9 : Int64} {x11 : Int32} {x12 : Int32} {x13 : Int32} {x14 : Option Value} {x15 : Option Value} {x16 : Option Value} {s0 : Int32} {h : iH} {Q : Option Value → iH → Prop} (H : (∃ v1 : Nat, i_fld h x0 5 0 = some (.ref v1) ∧ (∃ v2 : Nat, i_fld h v1 0 0 = some (.ref v2) ∧ (∃ v3 : Nat, i_fld h x0 5 0 = some (.ref v3) ∧ (∃ v4 : Nat, i_fld h v3 0 2 = some (.ref v4) ∧ (∃ (n5 : Nat) (f6 : Nat → Int64), i_arJ h v4 = some (n5, f6) ∧ ¬ (x7 < 0 ∨ n5 ≤ x7.toNatClampNeg) ∧ (i_obj? h v2 2 ∧ i_C i_MT i_AT L xs 31 [.ref v2, .int s0, .int x13, .int x3, .long (f6 x7.toNatClampNeg)] h (fun v h7 => ∃ r8 : Int64, v = some (.long r8) ∧ i_P i_MT i_AT L xs 54 125 [some (.ref x0), some (.int x1), some (.int x2), some (.int x3), some (.int x4), some (.long x5), none, some (.int x7), some (.int x8), some (.long x9), none, some (.int x11), some (.int x12), some (.int x13), some (.int s0), x15, x16] [.long r8] h7 0 0 Q)))))))) : i_P i_MT i_AT L xs 54 98 [some (.ref x0), some (.int x1), some (.int x2), some (.int x3), some (.int x4), some (.long x5), none, some (.int x7), some (.int x8), some (.long x9), none, some (.int x11), some (.int x12), some (.int x13), x14, x15, x16] [.int s0] h 0 0 Q := by
  have hk := i_k54
  refine g_s1 (pc2 := 100) (lo2 := [some (.ref x0), some (.int x1), some (.int x2), some (.int x3), some (.int x4), some (.long x5), none, some (.int x7), some (.int x8), some (.long x9), none, some (.int x11), some (.int x12), some (.int x13), some (.int s0), x15, x16]) hk rfl rfl rfl rfl rfl ?_
  refine g_s1 (pc2 := 101) hk rfl rfl rfl rfl rfl ?_
  obtain ⟨v1, ev1, H⟩ := H
  refine g_step (pc2 := 104) hk rfl rfl rfl (s_get ev1) ?_
  obtain ⟨v2, ev2, H⟩ := H
  refine g_step (pc2 := 107) hk rfl rfl rfl (s_get ev2) ?_
  refine g_s1 (pc2 := 109) hk rfl rfl rfl rfl rfl ?_
  refine g_s1 (pc2 := 111) hk rfl rfl rfl rfl rfl ?_
  refine g_s1 (pc2 := 112) hk rfl rfl rfl rfl rfl ?_
  refine g_s1 (pc2 := 113) hk rfl rfl rfl rfl rfl ?_
  obtain ⟨v3, ev3, H⟩ := H
  refine g_step (pc2 := 116) hk rfl rfl rfl (s_get ev3) ?_
  obtain ⟨v4, ev4, H⟩ := H
  refine g_step (pc2 := 119) hk rfl rfl rfl (s_get ev4) ?_
  refine g_s1 (pc2 := 121) hk rfl rfl rfl rfl rfl ?_
  obtain ⟨n5, f6, ef6, hi, H⟩ := H
  refine g_step (pc2 := 122) hk rfl rfl rfl (s_lget ef6 hi) ?_
  obtain ⟨ho, H⟩ := H
  refine g_call hk rfl rfl i_k31.1 ⟨rfl, rfl⟩ rfl (i_rcv_v ho rfl (by decide)) rfl ?_
  exact H.mono (fun v h2 q => by obtain ⟨r, rfl, q⟩ := q; exact q)
theorem b54_125 {x0 : Nat} {x1 : Int32} {x2 : Int32} {x3 : Int32} {x4 : Int32} {x5 : Int64} {x7 : Int32} {x8 : Int32} {x9 : Int64} {x11 : Int32} {x12 : Int32} {x13 : Int32} {x14 : Int32} {x15 : Option Value} {x16 : Option Value} {s0 : Int64} {h : iH} {Q : Option Value → iH → Prop} (H : (i_C i_MT i_AT L xs 334 [.long (s0 &&& (x5 ^^^ (-1 : Int64)))] h (fun v h1 => ∃ r2 : Int32, v = some (.int r2) ∧ i_P i_MT i_AT L xs 54 139 [some (.ref x0), some (.int x1), some (.int x2), some (.int x3), some (.int x4), some (.long x5), none, some (.int x7), some (.int x8), some (.long x9), none, some (.int x11), some (.int x12), some (.int x13), some (.int x14), some (.long (s0 &&& (x5 ^^^ (-1 : Int64)))), none] [.int r2] h1 0 0 Q))) : i_P i_MT i_AT L xs 54 125 [some (.ref x0), some (.int x1), some (.int x2), some (.int x3), some (.int x4), some (.long x5), none, some (.int x7), some (.int x8), some (.long x9), none, some (.int x11), some (.int x12), some (.int x13), some (.int x14), x15, x16] [.long s0] h 0 0 Q := by
  have hk := i_k54
  refine g_s1 (pc2 := 127) hk rfl rfl rfl rfl rfl ?_
  refine g_step (pc2 := 130) (st2 := [.long (-1 : Int64), .long x5, .long s0]) hk rfl rfl rfl rfl ?_
  refine g_s1 (pc2 := 131) hk rfl rfl rfl rfl rfl ?_
  refine g_s1 (pc2 := 132) hk rfl rfl rfl rfl rfl ?_
  refine g_s1 (pc2 := 134) (lo2 := [some (.ref x0), some (.int x1), some (.int x2), some (.int x3), some (.int x4), some (.long x5), none, some (.int x7), some (.int x8), some (.long x9), none, some (.int x11), some (.int x12), some (.int x13), some (.int x14), some (.long (s0 &&& (x5 ^^^ (-1 : Int64)))), none]) hk rfl rfl rfl rfl rfl ?_
  refine g_s1 (pc2 := 136) hk rfl rfl rfl rfl rfl ?_
  refine g_call hk rfl rfl i_k334.1 ⟨rfl, rfl⟩ rfl (i_rcv_0 rfl) rfl ?_
  exact H.mono (fun v h2 q => by obtain ⟨r, rfl, q⟩ := q; exact q)
theorem b54_139 {x0 : Nat} {x1 : Int32} {x2 : Int32} {x3 : Int32} {x4 : Int32} {x5 : Int64} {x7 : Int32} {x8 : Int32} {x9 : Int64} {x11 : Int32} {x12 : Int32} {x13 : Int32} {x14 : Int32} {x15 : Int64} {s0 : Int32} {h : iH} {Q : Option Value → iH → Prop} (H : ((s0 ≤ x8 → i_P i_MT i_AT L xs 54 159 [some (.ref x0), some (.int x1), some (.int x2), some (.int x3), some (.int x4), some (.long x5), none, some (.int x7), some (.int x8), some (.long x9), none, some (.int x11), some (.int x12), some (.int x13), some (.int x14), some (.long x15), none] [] h 0 0 Q) ∧ (¬ (s0 ≤ x8) → (i_C i_MT i_AT L xs 334 [.long x15] h (fun v h1 => ∃ r2 : Int32, v = some (.int r2) ∧ i_P i_MT i_AT L xs 54 149 [some (.ref x0), some (.int x1), some (.int x2), some (.int x3), some (.int x4), some (.long x5), none, some (.int x7), some (.int x8), some (.long x9), none, some (.int x11), some (.int x12), some (.int x13), some (.int x14), some (.long x15), none] [.int r2] h1 0 0 Q))))) : i_P i_MT i_AT L xs 54 139 [some (.ref x0), some (.int x1), some (.int x2), some (.int x3), some (.int x4), some (.long x5), none, some (.int x7), some (.int x8), some (.long x9), none, some (.int x11), some (.int x12), some (.int x13), some (.int x14), some (.long x15), none] [.int s0] h 0 0 Q := by
  have hk := i_k54
  refine g_s1 (pc2 := 141) hk rfl rfl rfl rfl rfl ?_
  refine g_icmp_le hk rfl (fun hc => ?_) (fun hc => ?_)
  · have H := H.1 hc
    exact H
  · have H := H.2 hc
    refine g_s1 (pc2 := 146) hk rfl rfl rfl rfl rfl ?_
    refine g_call hk rfl rfl i_k334.1 ⟨rfl, rfl⟩ rfl (i_rcv_0 rfl) rfl ?_
    exact H.mono (fun v h2 q => by obtain ⟨r, rfl, q⟩ := q; exact q)
theorem b54_149 {x0 : Nat} {x1 : Int32} {x2 : Int32} {x3 : Int32} {x4 : Int32} {x5 : Int64} {x7 : Int32} {x8 : Int32} {x9 : Int64} {x11 : Int32} {x12 : Int32} {x13 : Int32} {x14 : Int32} {x15 : Int64} {s0 : Int32} {h : iH} {Q : Option Value → iH → Prop} (H : i_P i_MT i_AT L xs 54 159 [some (.ref x0), some (.int x1), some (.int x2), some (.int x3), some (.int x4), some (.long x5), none, some (.int x7), some (.int s0), some (.long x15), none, some (.int x14), some (.int x12), some (.int x13), some (.int x14), some (.long x15), none] [] h 0 0 Q) : i_P i_MT i_AT L xs 54 149 [some (.ref x0), some (.int x1), some (.int x2), some (.int x3), some (.int x4), some (.long x5), none, some (.int x7), some (.int x8), some (.long x9), none, some (.int x11), some (.int x12), some (.int x13), some (.int x14), some (.long x15), none] [.int s0] h 0 0 Q := by
  have hk := i_k54
  refine g_s1 (pc2 := 151) (lo2 := [some (.ref x0), some (.int x1), some (.int x2), some (.int x3), some (.int x4), some (.long x5), none, some (.int x7), some (.int s0), some (.long x9), none, some (.int x11), some (.int x12), some (.int x13), some (.int x14), some (.long x15), none]) hk rfl rfl rfl rfl rfl ?_
  refine g_s1 (pc2 := 153) hk rfl rfl rfl rfl rfl ?_
  refine g_s1 (pc2 := 155) (lo2 := [some (.ref x0), some (.int x1), some (.int x2), some (.int x3), some (.int x4), some (.long x5), none, some (.int x7), some (.int s0), some (.long x15), none, some (.int x11), some (.int x12), some (.int x13), some (.int x14), some (.long x15), none]) hk rfl rfl rfl rfl rfl ?_
  refine g_s1 (pc2 := 157) hk rfl rfl rfl rfl rfl ?_
  refine g_s1 (pc2 := 159) (lo2 := [some (.ref x0), some (.int x1), some (.int x2), some (.int x3), some (.int x4), some (.long x5), none, some (.int x7), some (.int s0), some (.long x15), none, some (.int x14), some (.int x12), some (.int x13), some (.int x14), some (.long x15), none]) hk rfl rfl rfl rfl rfl ?_
  exact H
theorem b54_159 {x0 : Nat} {x1 : Int32} {x2 : Int32} {x3 : Int32} {x4 : Int32} {x5 : Int64} {x7 : Int32} {x8 : Int32} {x9 : Int64} {x11 : Int32} {x12 : Int32} {x13 : Int32} {x14 : Int32} {x15 : Int64} {h : iH} {Q : Option Value → iH → Prop} (H : i_P i_MT i_AT L xs 54 58 [some (.ref x0), some (.int x1), some (.int x2), some (.int x3), some (.int x4), some (.long x5), none, some (.int x7), some (.int x8), some (.long x9), none, some (.int x11), some (.int (x12 + 1)), some (.int x13), some (.int x14), some (.long x15), none] [] h 0 0 Q) : i_P i_MT i_AT L xs 54 159 [some (.ref x0), some (.int x1), some (.int x2), some (.int x3), some (.int x4), some (.long x5), none, some (.int x7), some (.int x8), some (.long x9), none, some (.int x11), some (.int x12), some (.int x13), some (.int x14), some (.long x15), none] [] h 0 0 Q := by
  have hk := i_k54
  refine g_s1 (pc2 := 162) (lo2 := [some (.ref x0), some (.int x1), some (.int x2), some (.int x3), some (.int x4), some (.long x5), none, some (.int x7), some (.int x8), some (.long x9), none, some (.int x11), some (.int (x12 + 1)), some (.int x13), some (.int x14), some (.long x15), none]) hk rfl rfl rfl rfl rfl ?_
  refine g_s1 (pc2 := 58) hk rfl rfl rfl rfl rfl ?_
  exact H
theorem b54_187 {x0 : Nat} {x1 : Int32} {x2 : Int32} {x3 : Int32} {x4 : Int32} {x5 : Int64} {x7 : Int32} {x8 : Option Value} {x9 : Option Value} {x10 : Option Value} {x11 : Option Value} {x12 : Option Value} {x13 : Option Value} {x14 : Option Value} {x15 : Option Value} {x16 : Option Value} {s0 : Int32} {h : iH} {Q : Option Value → iH → Prop} (H : Q (some (.int s0)) h) : i_P i_MT i_AT L xs 54 187 [some (.ref x0), some (.int x1), some (.int x2), some (.int x3), some (.int x4), some (.long x5), none, some (.int x7), x8, x9, x10, x11, x12, x13, x14, x15, x16] [.int s0] h 0 0 Q := by
  have hk := i_k54
  exact g_ireturn hk rfl (by decide) (by decide) rfl H
end
