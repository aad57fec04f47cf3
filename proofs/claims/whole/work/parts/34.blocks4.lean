/-! BLOCKS, 4: what it takes to go on from a label; by program -/
section
variable {L : Nat} {xs : Nat → Int32}
set_option maxRecDepth 20000
set_option maxHeartbeats 1000000
/-! StillTownModel.isBetween(IIII)Z -/
theorem e234 {x0 : Int32} {x1 : Int32} {x2 : Int32} {x3 : Int32} {h : iH} {Q : Option Value → iH → Prop} (H : i_P i_MT i_AT L xs 234 0 [some (.int x0), some (.int x1), some (.int x2), some (.int x3)] [] h 0 0 Q) : i_C i_MT i_AT L xs 234 [.int x0, .int x1, .int x2, .int x3] h Q := ⟨i_m234, i_k234.1, Nat.le_of_ble_eq_true rfl, H⟩
theorem b234_0 {x0 : Int32} {x1 : Int32} {x2 : Int32} {x3 : Int32} {h : iH} {Q : Option Value → iH → Prop} (H : (¬ x3 = 0 ∧ (¬ x3 = 0 ∧ (((x0 - x0 / x3 * x3) < (x1 - x1 / x3 * x3) → i_P i_MT i_AT L xs 234 40 [some (.int x0), some (.int x1), some (.int x2), some (.int x3)] [] h 0 0 Q) ∧ (¬ ((x0 - x0 / x3 * x3) < (x1 - x1 / x3 * x3)) → (¬ x3 = 0 ∧ (¬ x3 = 0 ∧ (((x2 - x2 / x3 * x3) < (x0 - x0 / x3 * x3) → i_P i_MT i_AT L xs 234 40 [some (.int x0), some (.int x1), some (.int x2), some (.int x3)] [] h 0 0 Q) ∧ (¬ ((x2 - x2 / x3 * x3) < (x0 - x0 / x3 * x3)) → (¬ x3 = 0 ∧ (¬ x3 = 0 ∧ (((x0 / x3) < (x1 / x3) → i_P i_MT i_AT L xs 234 40 [some (.int x0), some (.int x1), some (.int x2), some (.int x3)] [] h 0 0 Q) ∧ (¬ ((x0 / x3) < (x1 / x3)) → (¬ x3 = 0 ∧ (¬ x3 = 0 ∧ (((x2 / x3) < (x0 / x3) → i_P i_MT i_AT L xs 234 40 [some (.int x0), some (.int x1), some (.int x2), some (.int x3)] [] h 0 0 Q) ∧ (¬ ((x2 / x3) < (x0 / x3)) → i_P i_MT i_AT L xs 234 41 [some (.int x0), some (.int x1), some (.int x2), some (.int x3)] [.int (1 : Int32)] h 0 0 Q))))))))))))))))) : i_P i_MT i_AT L xs 234 0 [some (.int x0), some (.int x1), some (.int x2), some (.int x3)] [] h 0 0 Q := by
  have hk := i_k234
  refine g_s1 (pc2 := 1) hk rfl rfl rfl rfl rfl ?_
  refine g_s1 (pc2 := 2) hk rfl rfl rfl rfl rfl ?_
  obtain ⟨hz, H⟩ := H
  refine g_s1 (pc2 := 3) hk rfl rfl rfl rfl (s_if hz) ?_
  refine g_s1 (pc2 := 4) hk rfl rfl rfl rfl rfl ?_
  refine g_s1 (pc2 := 5) hk rfl rfl rfl rfl rfl ?_
  obtain ⟨hz, H⟩ := H
  refine g_s1 (pc2 := 6) hk rfl rfl rfl rfl (s_if hz) ?_
  refine g_icmp_lt hk rfl (fun hc => ?_) (fun hc => ?_)
  · have H := H.1 hc
    exact H
  · have H := H.2 hc
    refine g_s1 (pc2 := 10) hk rfl rfl rfl rfl rfl ?_
    refine g_s1 (pc2 := 11) hk rfl rfl rfl rfl rfl ?_
    obtain ⟨hz, H⟩ := H
    refine g_s1 (pc2 := 12) hk rfl rfl rfl rfl (s_if hz) ?_
    refine g_s1 (pc2 := 13) hk rfl rfl rfl rfl rfl ?_
    refine g_s1 (pc2 := 14) hk rfl rfl rfl rfl rfl ?_
    obtain ⟨hz, H⟩ := H
    refine g_s1 (pc2 := 15) hk rfl rfl rfl rfl (s_if hz) ?_
    refine g_icmp_gt hk rfl (fun hc => ?_) (fun hc => ?_)
    · have H := H.1 hc
      exact H
    · have H := H.2 hc
      refine g_s1 (pc2 := 19) hk rfl rfl rfl rfl rfl ?_
      refine g_s1 (pc2 := 20) hk rfl rfl rfl rfl rfl ?_
      obtain ⟨hz, H⟩ := H
      refine g_s1 (pc2 := 21) hk rfl rfl rfl rfl (s_if hz) ?_
      refine g_s1 (pc2 := 22) hk rfl rfl rfl rfl rfl ?_
      refine g_s1 (pc2 := 23) hk rfl rfl rfl rfl rfl ?_
      obtain ⟨hz, H⟩ := H
      refine g_s1 (pc2 := 24) hk rfl rfl rfl rfl (s_if hz) ?_
      refine g_icmp_lt hk rfl (fun hc => ?_) (fun hc => ?_)
      · have H := H.1 hc
        exact H
      · have H := H.2 hc
        refine g_s1 (pc2 := 28) hk rfl rfl rfl rfl rfl ?_
        refine g_s1 (pc2 := 29) hk rfl rfl rfl rfl rfl ?_
        obtain ⟨hz, H⟩ := H
        refine g_s1 (pc2 := 30) hk rfl rfl rfl rfl (s_if hz) ?_
        refine g_s1 (pc2 := 31) hk rfl rfl rfl rfl rfl ?_
        refine g_s1 (pc2 := 32) hk rfl rfl rfl rfl rfl ?_
        obtain ⟨hz, H⟩ := H
        refine g_s1 (pc2 := 33) hk rfl rfl rfl rfl (s_if hz) ?_
        refine g_icmp_gt hk rfl (fun hc => ?_) (fun hc => ?_)
        · have H := H.1 hc
          exact H
        · have H := H.2 hc
          refine g_s1 (pc2 := 37) (st2 := [.int (1 : Int32)]) hk rfl rfl rfl rfl rfl ?_
          refine g_s1 (pc2 := 41) hk rfl rfl rfl rfl rfl ?_
          exact H
theorem b234_40 {x0 : Int32} {x1 : Int32} {x2 : Int32} {x3 : Int32} {h : iH} {Q : Option Value → iH → Prop} (H : i_P i_MT i_AT L xs 234 41 [some (.int x0), some (.int x1), some (.int x2), some (.int x3)] [.int (0 : Int32)] h 0 0 Q) : i_P i_MT i_AT L xs 234 40 [some (.int x0), some (.int x1), some (.int x2), some (.int x3)] [] h 0 0 Q := by
  have hk := i_k234
  refine g_s1 (pc2 := 41) (st2 := [.int (0 : Int32)]) hk rfl rfl rfl rfl rfl ?_
  exact H
theorem b234_41 {x0 : Int32} {x1 : Int32} {x2 : Int32} {x3 : Int32} {s0 : Int32} {h : iH} {Q : Option Value → iH → Prop} (H : (i_ret (some .boolean) s0 = true ∧ Q (some (.int s0)) h)) : i_P i_MT i_AT L xs 234 41 [some (.int x0), some (.int x1), some (.int x2), some (.int x3)] [.int s0] h 0 0 Q := by
  have hk := i_k234
  exact g_ireturn hk rfl (by decide) (by decide) H.1 H.2
/-! StillTownModel.aTree()Z -/
theorem e235 {x0 : Nat} {h : iH} {Q : Option Value → iH → Prop} (H : i_P i_MT i_AT L xs 235 0 [some (.ref x0), none] [] h 0 0 Q) : i_C i_MT i_AT L xs 235 [.ref x0] h Q := ⟨i_m235, i_k235.1, Nat.le_of_ble_eq_true rfl, H⟩
theorem b235_0 {x0 : Nat} {x1 : Option Value} {h : iH} {Q : Option Value → iH → Prop} (H : (∃ v1 : Nat, i_fld h x0 12 0 = some (.ref v1) ∧ (∃ (n2 : Nat) (f3 : Nat → Int32), i_arI h 0 v1 = some (n2, f3) ∧ ¬ ((2722 : Int32) < 0 ∨ n2 ≤ (2722 : Int32).toNatClampNeg) ∧ ((¬ (f3 (2722 : Int32).toNatClampNeg) = (8 : Int32) → (i_obj? h x0 12 ∧ i_C i_MT i_AT L xs 218 [.ref x0] h (fun v h4 => v = none ∧ i_P i_MT i_AT L xs 235 24 [some (.ref x0), x1] [] h4 0 0 Q))) ∧ (¬ (¬ (f3 (2722 : Int32).toNatClampNeg) = (8 : Int32)) → (i_obj? h x0 12 ∧ i_C i_MT i_AT L xs 221 [.ref x0, .int (6 : Int32)] h (fun v h6 => ∃ r7 : Int32, v = some (.int r7) ∧ i_P i_MT i_AT L xs 235 19 [some (.ref x0), x1] [.int r7] h6 0 0 Q))))))) : i_P i_MT i_AT L xs 235 0 [some (.ref x0), x1] [] h 0 0 Q := by
  have hk := i_k235
  refine g_s1 (pc2 := 1) hk rfl rfl rfl rfl rfl ?_
  obtain ⟨v1, ev1, H⟩ := H
  refine g_step (pc2 := 4) hk rfl rfl rfl (s_get ev1) ?_
  refine g_s1 (pc2 := 7) (st2 := [.int (2722 : Int32), .ref v1]) hk rfl rfl rfl rfl rfl ?_
  obtain ⟨n2, f3, ef3, hi, H⟩ := H
  refine g_step (pc2 := 8) hk rfl rfl rfl (s_aget (L := L) (xs := xs) ef3 hi) ?_
  refine g_s1 (pc2 := 10) (st2 := [.int (8 : Int32), .int (f3 (2722 : Int32).toNatClampNeg)]) hk rfl rfl rfl rfl rfl ?_
  refine g_icmp_ne hk rfl (fun hc => ?_) (fun hc => ?_)
  · have H := H.1 hc
    refine g_s1 (pc2 := 21) hk rfl rfl rfl rfl rfl ?_
    obtain ⟨ho, H⟩ := H
    refine g_call hk rfl rfl i_k218.1 ⟨rfl, rfl⟩ rfl (i_rcv_v ho rfl (by decide)) rfl ?_
    exact H.mono (fun v h2 q => by obtain ⟨rfl, q⟩ := q; exact q)
  · have H := H.2 hc
    refine g_s1 (pc2 := 14) hk rfl rfl rfl rfl rfl ?_
    refine g_s1 (pc2 := 16) (st2 := [.int (6 : Int32), .ref x0]) hk rfl rfl rfl rfl rfl ?_
    obtain ⟨ho, H⟩ := H
    refine g_call hk rfl rfl i_k221.1 ⟨rfl, rfl⟩ rfl (i_rcv_v ho rfl (by decide)) rfl ?_
    exact H.mono (fun v h2 q => by obtain ⟨r, rfl, q⟩ := q; exact q)
theorem b235_19 {x0 : Nat} {x1 : Option Value} {s0 : Int32} {h : iH} {Q : Option Value → iH → Prop} (H : (i_ret (some .boolean) s0 = true ∧ Q (some (.int s0)) h)) : i_P i_MT i_AT L xs 235 19 [some (.ref x0), x1] [.int s0] h 0 0 Q := by
  have hk := i_k235
  exact g_ireturn hk rfl (by decide) (by decide) H.1 H.2
theorem b235_24 {x0 : Nat} {x1 : Option Value} {h : iH} {Q : Option Value → iH → Prop} (H : (i_obj? h x0 12 ∧ i_C i_MT i_AT L xs 231 [.ref x0] h (fun v h1 => ∃ r2 : Int32, v = some (.int r2) ∧ i_P i_MT i_AT L xs 235 28 [some (.ref x0), x1] [.int r2] h1 0 0 Q))) : i_P i_MT i_AT L xs 235 24 [some (.ref x0), x1] [] h 0 0 Q := by
  have hk := i_k235
  refine g_s1 (pc2 := 25) hk rfl rfl rfl rfl rfl ?_
  obtain ⟨ho, H⟩ := H
  refine g_call hk rfl rfl i_k231.1 ⟨rfl, rfl⟩ rfl (i_rcv_v ho rfl (by decide)) rfl ?_
  exact H.mono (fun v h2 q => by obtain ⟨r, rfl, q⟩ := q; exact q)
theorem b235_28 {x0 : Nat} {x1 : Option Value} {s0 : Int32} {h : iH} {Q : Option Value → iH → Prop} (H : ((¬ s0 = 0 → (∃ v1 : Int32, i_fld h x0 12 22 = some (.int v1) ∧ (∃ v2 : Nat, i_fld h x0 12 0 = some (.ref v2) ∧ (∃ (n3 : Nat) (f4 : Nat → Int32), i_arI h 0 v2 = some (n3, f4) ∧ ¬ (((2730 : Int32) + v1) < 0 ∨ n3 ≤ ((2730 : Int32) + v1).toNatClampNeg) ∧ (((f4 ((2730 : Int32) + v1).toNatClampNeg) = (1 : Int32) → i_P i_MT i_AT L xs 235 66 [some (.ref x0), some (.int v1)] [] h 0 0 Q) ∧ (¬ ((f4 ((2730 : Int32) + v1).toNatClampNeg) = (1 : Int32)) → (∃ v5 : Nat, i_fld h x0 12 0 = some (.ref v5) ∧ (∃ (n6 : Nat) (f7 : Nat → Int32), i_arI h 0 v5 = some (n6, f7) ∧ ¬ (((2778 : Int32) + v1) < 0 ∨ n6 ≤ ((2778 : Int32) + v1).toNatClampNeg) ∧ (((f7 ((2778 : Int32) + v1).toNatClampNeg) = (-1 : Int32) → (i_obj? h x0 12 ∧ i_C i_MT i_AT L xs 218 [.ref x0] h (fun v h8 => v = none ∧ i_P i_MT i_AT L xs 235 76 [some (.ref x0), some (.int v1)] [] h8 0 0 Q))) ∧ (¬ ((f7 ((2778 : Int32) + v1).toNatClampNeg) = (-1 : Int32)) → i_P i_MT i_AT L xs 235 66 [some (.ref x0), some (.int v1)] [] h 0 0 Q)))))))))) ∧ (¬ (¬ s0 = 0) → Q (some (.int 0)) h))) : i_P i_MT i_AT L xs 235 28 [some (.ref x0), x1] [.int s0] h 0 0 Q := by
  have hk := i_k235
  refine g_if_ne hk rfl (fun hc => ?_) (fun hc => ?_)
  · have H := H.1 hc
    refine g_s1 (pc2 := 34) hk rfl rfl rfl rfl rfl ?_
    obtain ⟨v1, ev1, H⟩ := H
    refine g_step (pc2 := 37) hk rfl rfl rfl (s_get ev1) ?_
    refine g_s1 (pc2 := 38) (lo2 := [some (.ref x0), some (.int v1)]) hk rfl rfl rfl rfl rfl ?_
    refine g_s1 (pc2 := 39) hk rfl rfl rfl rfl rfl ?_
    obtain ⟨v2, ev2, H⟩ := H
    refine g_step (pc2 := 42) hk rfl rfl rfl (s_get ev2) ?_
    refine g_s1 (pc2 := 45) (st2 := [.int (2730 : Int32), .ref v2]) hk rfl rfl rfl rfl rfl ?_
    refine g_s1 (pc2 := 46) hk rfl rfl rfl rfl rfl ?_
    refine g_s1 (pc2 := 47) hk rfl rfl rfl rfl rfl ?_
    obtain ⟨n3, f4, ef4, hi, H⟩ := H
    refine g_step (pc2 := 48) hk rfl rfl rfl (s_aget (L := L) (xs := xs) ef4 hi) ?_
    refine g_s1 (pc2 := 49) (st2 := [.int (1 : Int32), .int (f4 ((2730 : Int32) + v1).toNatClampNeg)]) hk rfl rfl rfl rfl rfl ?_
    refine g_icmp_eq hk rfl (fun hc => ?_) (fun hc => ?_)
    · have H := H.1 hc
      exact H
    · have H := H.2 hc
      refine g_s1 (pc2 := 53) hk rfl rfl rfl rfl rfl ?_
      obtain ⟨v5, ev5, H⟩ := H
      refine g_step (pc2 := 56) hk rfl rfl rfl (s_get ev5) ?_
      refine g_s1 (pc2 := 59) (st2 := [.int (2778 : Int32), .ref v5]) hk rfl rfl rfl rfl rfl ?_
      refine g_s1 (pc2 := 60) hk rfl rfl rfl rfl rfl ?_
      refine g_s1 (pc2 := 61) hk rfl rfl rfl rfl rfl ?_
      obtain ⟨n6, f7, ef7, hi, H⟩ := H
      refine g_step (pc2 := 62) hk rfl rfl rfl (s_aget (L := L) (xs := xs) ef7 hi) ?_
      refine g_s1 (pc2 := 63) (st2 := [.int (-1 : Int32), .int (f7 ((2778 : Int32) + v1).toNatClampNeg)]) hk rfl rfl rfl rfl rfl ?_
      refine g_icmp_eq hk rfl (fun hc => ?_) (fun hc => ?_)
      · have H := H.1 hc
        refine g_s1 (pc2 := 73) hk rfl rfl rfl rfl rfl ?_
        obtain ⟨ho, H⟩ := H
        refine g_call hk rfl rfl i_k218.1 ⟨rfl, rfl⟩ rfl (i_rcv_v ho rfl (by decide)) rfl ?_
        exact H.mono (fun v h2 q => by obtain ⟨rfl, q⟩ := q; exact q)
      · have H := H.2 hc
        exact H
  · have H := H.2 hc
    refine g_s1 (pc2 := 32) (st2 := [.int (0 : Int32)]) hk rfl rfl rfl rfl rfl ?_
    exact g_ireturn hk rfl (by decide) (by decide) rfl H
theorem b235_66 {x0 : Nat} {x1 : Int32} {h : iH} {Q : Option Value → iH → Prop} (H : (i_obj? h x0 12 ∧ i_C i_MT i_AT L xs 221 [.ref x0, .int (5 : Int32)] h (fun v h1 => ∃ r2 : Int32, v = some (.int r2) ∧ i_P i_MT i_AT L xs 235 71 [some (.ref x0), some (.int x1)] [.int r2] h1 0 0 Q))) : i_P i_MT i_AT L xs 235 66 [some (.ref x0), some (.int x1)] [] h 0 0 Q := by
  have hk := i_k235
  refine g_s1 (pc2 := 67) hk rfl rfl rfl rfl rfl ?_
  refine g_s1 (pc2 := 68) (st2 := [.int (5 : Int32), .ref x0]) hk rfl rfl rfl rfl rfl ?_
  obtain ⟨ho, H⟩ := H
  refine g_call hk rfl rfl i_k221.1 ⟨rfl, rfl⟩ rfl (i_rcv_v ho rfl (by decide)) rfl ?_
  exact H.mono (fun v h2 q => by obtain ⟨r, rfl, q⟩ := q; exact q)
theorem b235_71 {x0 : Nat} {x1 : Int32} {s0 : Int32} {h : iH} {Q : Option Value → iH → Prop} (H : (i_ret (some .boolean) s0 = true ∧ Q (some (.int s0)) h)) : i_P i_MT i_AT L xs 235 71 [some (.ref x0), some (.int x1)] [.int s0] h 0 0 Q := by
  have hk := i_k235
  exact g_ireturn hk rfl (by decide) (by decide) H.1 H.2
theorem b235_76 {x0 : Nat} {x1 : Int32} {h : iH} {Q : Option Value → iH → Prop} (H : (i_obj? h x0 12 ∧ i_C i_MT i_AT L xs 224 [.ref x0, .retAddr 7, .int (18 : Int32)] h (fun v h1 => ∃ r2 : Int32, v = some (.int r2) ∧ i_P i_MT i_AT L xs 235 84 [some (.ref x0), some (.int x1)] [.int r2] h1 0 0 Q))) : i_P i_MT i_AT L xs 235 76 [some (.ref x0), some (.int x1)] [] h 0 0 Q := by
  have hk := i_k235
  refine g_s1 (pc2 := 77) hk rfl rfl rfl rfl rfl ?_
  refine g_step (pc2 := 79) (st2 := [.retAddr 7, .ref x0]) hk rfl rfl rfl rfl ?_
  refine g_s1 (pc2 := 81) (st2 := [.int (18 : Int32), .retAddr 7, .ref x0]) hk rfl rfl rfl rfl rfl ?_
  obtain ⟨ho, H⟩ := H
  refine g_call hk rfl rfl i_k224.1 ⟨rfl, rfl⟩ rfl (i_rcv_v ho rfl (by decide)) rfl ?_
  exact H.mono (fun v h2 q => by obtain ⟨r, rfl, q⟩ := q; exact q)
theorem b235_84 {x0 : Nat} {x1 : Int32} {s0 : Int32} {h : iH} {Q : Option Value → iH → Prop} (H : ((s0 = 0 → i_P i_MT i_AT L xs 235 102 [some (.ref x0), some (.int x1)] [] h 0 0 Q) ∧ (¬ (s0 = 0) → (i_obj? h x0 12 ∧ i_C i_MT i_AT L xs 225 [.ref x0, .int ((2778 : Int32) + x1), .int (0 : Int32), .int (16 : Int32)] h (fun v h1 => ∃ r2 : Int32, v = some (.int r2) ∧ i_P i_MT i_AT L xs 235 99 [some (.ref x0), some (.int x1)] [.int r2] h1 0 0 Q))))) : i_P i_MT i_AT L xs 235 84 [some (.ref x0), some (.int x1)] [.int s0] h 0 0 Q := by
  have hk := i_k235
  refine g_if_eq hk rfl (fun hc => ?_) (fun hc => ?_)
  · have H := H.1 hc
    exact H
  · have H := H.2 hc
    refine g_s1 (pc2 := 88) hk rfl rfl rfl rfl rfl ?_
    refine g_s1 (pc2 := 91) (st2 := [.int (2778 : Int32), .ref x0]) hk rfl rfl rfl rfl rfl ?_
    refine g_s1 (pc2 := 92) hk rfl rfl rfl rfl rfl ?_
    refine g_s1 (pc2 := 93) hk rfl rfl rfl rfl rfl ?_
    refine g_s1 (pc2 := 94) (st2 := [.int (0 : Int32), .int ((2778 : Int32) + x1), .ref x0]) hk rfl rfl rfl rfl rfl ?_
    refine g_s1 (pc2 := 96) (st2 := [.int (16 : Int32), .int (0 : Int32), .int ((2778 : Int32) + x1), .ref x0]) hk rfl rfl rfl rfl rfl ?_
    obtain ⟨ho, H⟩ := H
    refine g_call hk rfl rfl i_k225.1 ⟨rfl, rfl⟩ rfl (i_rcv_v ho rfl (by decide)) rfl ?_
    exact H.mono (fun v h2 q => by obtain ⟨r, rfl, q⟩ := q; exact q)
theorem b235_99 {x0 : Nat} {x1 : Int32} {s0 : Int32} {h : iH} {Q : Option Value → iH → Prop} (H : ((¬ s0 = 0 → (∃ v1 : Nat, i_fld h x0 12 0 = some (.ref v1) ∧ (∃ (n2 : Nat) (f3 : Nat → Int32), i_arI h 0 v1 = some (n2, f3) ∧ ¬ ((2722 : Int32) < 0 ∨ n2 ≤ (2722 : Int32).toNatClampNeg) ∧ (∃ (n4 : Nat) (f5 : Nat → Int32), i_arI h 0 v1 = some (n4, f5) ∧ ¬ ((2722 : Int32) < 0 ∨ n4 ≤ (2722 : Int32).toNatClampNeg) ∧ i_P i_MT i_AT L xs 235 116 [some (.ref x0), some (.int x1)] [] (i_siI h v1 (2722 : Int32).toNatClampNeg ((f3 (2722 : Int32).toNatClampNeg) + (1 : Int32))) 0 0 Q)))) ∧ (¬ (¬ s0 = 0) → i_P i_MT i_AT L xs 235 102 [some (.ref x0), some (.int x1)] [] h 0 0 Q))) : i_P i_MT i_AT L xs 235 99 [some (.ref x0), some (.int x1)] [.int s0] h 0 0 Q := by
  have hk := i_k235
  refine g_if_ne hk rfl (fun hc => ?_) (fun hc => ?_)
  · have H := H.1 hc
    refine g_s1 (pc2 := 105) hk rfl rfl rfl rfl rfl ?_
    obtain ⟨v1, ev1, H⟩ := H
    refine g_step (pc2 := 108) hk rfl rfl rfl (s_get ev1) ?_
    refine g_s1 (pc2 := 111) (st2 := [.int (2722 : Int32), .ref v1]) hk rfl rfl rfl rfl rfl ?_
    refine g_s1 (pc2 := 112) hk rfl rfl rfl rfl rfl ?_
    obtain ⟨n2, f3, ef3, hi, H⟩ := H
    refine g_step (pc2 := 113) hk rfl rfl rfl (s_aget (L := L) (xs := xs) ef3 hi) ?_
    refine g_s1 (pc2 := 114) (st2 := [.int (1 : Int32), .int (f3 (2722 : Int32).toNatClampNeg), .int (2722 : Int32), .ref v1]) hk rfl rfl rfl rfl rfl ?_
    refine g_s1 (pc2 := 115) hk rfl rfl rfl rfl rfl ?_
    obtain ⟨n4, f5, ef5, hi, H⟩ := H
    refine g_step (pc2 := 116) hk rfl rfl rfl (s_aput ef5 hi) ?_
    exact H
  · have H := H.2 hc
    exact H
theorem b235_102 {x0 : Nat} {x1 : Int32} {h : iH} {Q : Option Value → iH → Prop} (H : Q (some (.int 0)) h) : i_P i_MT i_AT L xs 235 102 [some (.ref x0), some (.int x1)] [] h 0 0 Q := by
  have hk := i_k235
  refine g_s1 (pc2 := 103) (st2 := [.int (0 : Int32)]) hk rfl rfl rfl rfl rfl ?_
  exact g_ireturn hk rfl (by decide) (by decide) rfl H
theorem b235_116 {x0 : Nat} {x1 : Int32} {h : iH} {Q : Option Value → iH → Prop} (H : Q (some (.int 1)) h) : i_P i_MT i_AT L xs 235 116 [some (.ref x0), some (.int x1)] [] h 0 0 Q := by
  have hk := i_k235
  refine g_s1 (pc2 := 117) (st2 := [.int (1 : Int32)]) hk rfl rfl rfl rfl rfl ?_
  exact g_ireturn hk rfl (by decide) (by decide) rfl H
/-! StillTownModel.aCart()Z -/
theorem e236 {x0 : Nat} {h : iH} {Q : Option Value → iH → Prop} (H : i_P i_MT i_AT L xs 236 0 [some (.ref x0), none, none, none] [] h 0 0 Q) : i_C i_MT i_AT L xs 236 [.ref x0] h Q := ⟨i_m236, i_k236.1, Nat.le_of_ble_eq_true rfl, H⟩
theorem b236_0 {x0 : Nat} {x1 : Option Value} {x2 : Option Value} {x3 : Option Value} {h : iH} {Q : Option Value → iH → Prop} (H : (∃ v1 : Nat, i_fld h x0 12 0 = some (.ref v1) ∧ (∃ (n2 : Nat) (f3 : Nat → Int32), i_arI h 0 v1 = some (n2, f3) ∧ ¬ ((2723 : Int32) < 0 ∨ n2 ≤ (2723 : Int32).toNatClampNeg) ∧ ((¬ (f3 (2723 : Int32).toNatClampNeg) = (4 : Int32) → (i_obj? h x0 12 ∧ i_C i_MT i_AT L xs 218 [.ref x0] h (fun v h4 => v = none ∧ i_P i_MT i_AT L xs 236 34 [some (.ref x0), some (.int (f3 (2723 : Int32).toNatClampNeg)), some (.int ((2834 : Int32) + ((10 : Int32) * (f3 (2723 : Int32).toNatClampNeg)))), x3] [] h4 0 0 Q))) ∧ (¬ (¬ (f3 (2723 : Int32).toNatClampNeg) = (4 : Int32)) → (i_obj? h x0 12 ∧ i_C i_MT i_AT L xs 221 [.ref x0, .int (6 : Int32)] h (fun v h6 => ∃ r7 : Int32, v = some (.int r7) ∧ i_P i_MT i_AT L xs 236 29 [some (.ref x0), some (.int (f3 (2723 : Int32).toNatClampNeg)), some (.int ((2834 : Int32) + ((10 : Int32) * (f3 (2723 : Int32).toNatClampNeg)))), x3] [.int r7] h6 0 0 Q))))))) : i_P i_MT i_AT L xs 236 0 [some (.ref x0), x1, x2, x3] [] h 0 0 Q := by
  have hk := i_k236
  refine g_s1 (pc2 := 1) hk rfl rfl rfl rfl rfl ?_
  obtain ⟨v1, ev1, H⟩ := H
  refine g_step (pc2 := 4) hk rfl rfl rfl (s_get ev1) ?_
  refine g_s1 (pc2 := 7) (st2 := [.int (2723 : Int32), .ref v1]) hk rfl rfl rfl rfl rfl ?_
  obtain ⟨n2, f3, ef3, hi, H⟩ := H
  refine g_step (pc2 := 8) hk rfl rfl rfl (s_aget (L := L) (xs := xs) ef3 hi) ?_
  refine g_s1 (pc2 := 9) (lo2 := [some (.ref x0), some (.int (f3 (2723 : Int32).toNatClampNeg)), x2, x3]) hk rfl rfl rfl rfl rfl ?_
  refine g_s1 (pc2 := 12) (st2 := [.int (2834 : Int32)]) hk rfl rfl rfl rfl rfl ?_
  refine g_s1 (pc2 := 14) (st2 := [.int (10 : Int32), .int (2834 : Int32)]) hk rfl rfl rfl rfl rfl ?_
  refine g_s1 (pc2 := 15) hk rfl rfl rfl rfl rfl ?_
  refine g_s1 (pc2 := 16) hk rfl rfl rfl rfl rfl ?_
  refine g_s1 (pc2 := 17) hk rfl rfl rfl rfl rfl ?_
  refine g_s1 (pc2 := 18) (lo2 := [some (.ref x0), some (.int (f3 (2723 : Int32).toNatClampNeg)), some (.int ((2834 : Int32) + ((10 : Int32) * (f3 (2723 : Int32).toNatClampNeg)))), x3]) hk rfl rfl rfl rfl rfl ?_
  refine g_s1 (pc2 := 19) hk rfl rfl rfl rfl rfl ?_
  refine g_s1 (pc2 := 20) (st2 := [.int (4 : Int32), .int (f3 (2723 : Int32).toNatClampNeg)]) hk rfl rfl rfl rfl rfl ?_
  refine g_icmp_ne hk rfl (fun hc => ?_) (fun hc => ?_)
  · have H := H.1 hc
    refine g_s1 (pc2 := 31) hk rfl rfl rfl rfl rfl ?_
    obtain ⟨ho, H⟩ := H
    refine g_call hk rfl rfl i_k218.1 ⟨rfl, rfl⟩ rfl (i_rcv_v ho rfl (by decide)) rfl ?_
    exact H.mono (fun v h2 q => by obtain ⟨rfl, q⟩ := q; exact q)
  · have H := H.2 hc
    refine g_s1 (pc2 := 24) hk rfl rfl rfl rfl rfl ?_
    refine g_s1 (pc2 := 26) (st2 := [.int (6 : Int32), .ref x0]) hk rfl rfl rfl rfl rfl ?_
    obtain ⟨ho, H⟩ := H
    refine g_call hk rfl rfl i_k221.1 ⟨rfl, rfl⟩ rfl (i_rcv_v ho rfl (by decide)) rfl ?_
    exact H.mono (fun v h2 q => by obtain ⟨r, rfl, q⟩ := q; exact q)
theorem b236_29 {x0 : Nat} {x1 : Int32} {x2 : Int32} {x3 : Option Value} {s0 : Int32} {h : iH} {Q : Option Value → iH → Prop} (H : (i_ret (some .boolean) s0 = true ∧ Q (some (.int s0)) h)) : i_P i_MT i_AT L xs 236 29 [some (.ref x0), some (.int x1), some (.int x2), x3] [.int s0] h 0 0 Q := by
  have hk := i_k236
  exact g_ireturn hk rfl (by decide) (by decide) H.1 H.2
theorem b236_34 {x0 : Nat} {x1 : Int32} {x2 : Int32} {x3 : Option Value} {h : iH} {Q : Option Value → iH → Prop} (H : (i_obj? h x0 12 ∧ i_C i_MT i_AT L xs 231 [.ref x0] h (fun v h1 => ∃ r2 : Int32, v = some (.int r2) ∧ i_P i_MT i_AT L xs 236 38 [some (.ref x0), some (.int x1), some (.int x2), x3] [.int r2] h1 0 0 Q))) : i_P i_MT i_AT L xs 236 34 [some (.ref x0), some (.int x1), some (.int x2), x3] [] h 0 0 Q := by
  have hk := i_k236
  refine g_s1 (pc2 := 35) hk rfl rfl rfl rfl rfl ?_
  obtain ⟨ho, H⟩ := H
  refine g_call hk rfl rfl i_k231.1 ⟨rfl, rfl⟩ rfl (i_rcv_v ho rfl (by decide)) rfl ?_
  exact H.mono (fun v h2 q => by obtain ⟨r, rfl, q⟩ := q; exact q)
theorem b236_38 {x0 : Nat} {x1 : Int32} {x2 : Int32} {x3 : Option Value} {s0 : Int32} {h : iH} {Q : Option Value → iH → Prop} (H : ((¬ s0 = 0 → (∃ v1 : Nat, i_fld h x0 12 0 = some (.ref v1) ∧ (∃ v2 : Int32, i_fld h x0 12 22 = some (.int v2) ∧ (∃ (n3 : Nat) (f4 : Nat → Int32), i_arI h 0 v1 = some (n3, f4) ∧ ¬ (x2 < 0 ∨ n3 ≤ x2.toNatClampNeg) ∧ i_P i_MT i_AT L xs 236 53 [some (.ref x0), some (.int x1), some (.int x2), x3] [] (i_siI h v1 x2.toNatClampNeg v2) 0 0 Q)))) ∧ (¬ (¬ s0 = 0) → Q (some (.int 0)) h))) : i_P i_MT i_AT L xs 236 38 [some (.ref x0), some (.int x1), some (.int x2), x3] [.int s0] h 0 0 Q := by
  have hk := i_k236
  refine g_if_ne hk rfl (fun hc => ?_) (fun hc => ?_)
  · have H := H.1 hc
    refine g_s1 (pc2 := 44) hk rfl rfl rfl rfl rfl ?_
    obtain ⟨v1, ev1, H⟩ := H
    refine g_step (pc2 := 47) hk rfl rfl rfl (s_get ev1) ?_
    refine g_s1 (pc2 := 48) hk rfl rfl rfl rfl rfl ?_
    refine g_s1 (pc2 := 49) hk rfl rfl rfl rfl rfl ?_
    obtain ⟨v2, ev2, H⟩ := H
    refine g_step (pc2 := 52) hk rfl rfl rfl (s_get ev2) ?_
    obtain ⟨n3, f4, ef4, hi, H⟩ := H
    refine g_step (pc2 := 53) hk rfl rfl rfl (s_aput ef4 hi) ?_
    exact H
  · have H := H.2 hc
    refine g_s1 (pc2 := 42) (st2 := [.int (0 : Int32)]) hk rfl rfl rfl rfl rfl ?_
    exact g_ireturn hk rfl (by decide) (by decide) rfl H
theorem b236_53 {x0 : Nat} {x1 : Int32} {x2 : Int32} {x3 : Option Value} {h : iH} {Q : Option Value → iH → Prop} (H : (i_obj? h x0 12 ∧ i_C i_MT i_AT L xs 218 [.ref x0] h (fun v h1 => v = none ∧ i_P i_MT i_AT L xs 236 57 [some (.ref x0), some (.int x1), some (.int x2), x3] [] h1 0 0 Q))) : i_P i_MT i_AT L xs 236 53 [some (.ref x0), some (.int x1), some (.int x2), x3] [] h 0 0 Q := by
  have hk := i_k236
  refine g_s1 (pc2 := 54) hk rfl rfl rfl rfl rfl ?_
  obtain ⟨ho, H⟩ := H
  refine g_call hk rfl rfl i_k218.1 ⟨rfl, rfl⟩ rfl (i_rcv_v ho rfl (by decide)) rfl ?_
  exact H.mono (fun v h2 q => by obtain ⟨rfl, q⟩ := q; exact q)
theorem b236_57 {x0 : Nat} {x1 : Int32} {x2 : Int32} {x3 : Option Value} {h : iH} {Q : Option Value → iH → Prop} (H : (i_obj? h x0 12 ∧ i_C i_MT i_AT L xs 224 [.ref x0, .retAddr 7, .int (19 : Int32)] h (fun v h1 => ∃ r2 : Int32, v = some (.int r2) ∧ i_P i_MT i_AT L xs 236 65 [some (.ref x0), some (.int x1), some (.int x2), x3] [.int r2] h1 0 0 Q))) : i_P i_MT i_AT L xs 236 57 [some (.ref x0), some (.int x1), some (.int x2), x3] [] h 0 0 Q := by
  have hk := i_k236
  refine g_s1 (pc2 := 58) hk rfl rfl rfl rfl rfl ?_
  refine g_step (pc2 := 60) (st2 := [.retAddr 7, .ref x0]) hk rfl rfl rfl rfl ?_
  refine g_s1 (pc2 := 62) (st2 := [.int (19 : Int32), .retAddr 7, .ref x0]) hk rfl rfl rfl rfl rfl ?_
  obtain ⟨ho, H⟩ := H
  refine g_call hk rfl rfl i_k224.1 ⟨rfl, rfl⟩ rfl (i_rcv_v ho rfl (by decide)) rfl ?_
  exact H.mono (fun v h2 q => by obtain ⟨r, rfl, q⟩ := q; exact q)
theorem b236_65 {x0 : Nat} {x1 : Int32} {x2 : Int32} {x3 : Option Value} {s0 : Int32} {h : iH} {Q : Option Value → iH → Prop} (H : ((¬ s0 = 0 → (i_obj? h x0 12 ∧ i_C i_MT i_AT L xs 220 [.ref x0, .retAddr 7] h (fun v h1 => ∃ r2 : Int32, v = some (.int r2) ∧ i_P i_MT i_AT L xs 236 76 [some (.ref x0), some (.int x1), some (.int x2), x3] [.int r2] h1 0 0 Q))) ∧ (¬ (¬ s0 = 0) → Q (some (.int 0)) h))) : i_P i_MT i_AT L xs 236 65 [some (.ref x0), some (.int x1), some (.int x2), x3] [.int s0] h 0 0 Q := by
  have hk := i_k236
  refine g_if_ne hk rfl (fun hc => ?_) (fun hc => ?_)
  · have H := H.1 hc
    refine g_s1 (pc2 := 71) hk rfl rfl rfl rfl rfl ?_
    refine g_step (pc2 := 73) (st2 := [.retAddr 7, .ref x0]) hk rfl rfl rfl rfl ?_
    obtain ⟨ho, H⟩ := H
    refine g_call hk rfl rfl i_k220.1 ⟨rfl, rfl⟩ rfl (i_rcv_v ho rfl (by decide)) rfl ?_
    exact H.mono (fun v h2 q => by obtain ⟨r, rfl, q⟩ := q; exact q)
  · have H := H.2 hc
    refine g_s1 (pc2 := 69) (st2 := [.int (0 : Int32)]) hk rfl rfl rfl rfl rfl ?_
    exact g_ireturn hk rfl (by decide) (by decide) rfl H
theorem b236_76 {x0 : Nat} {x1 : Int32} {x2 : Int32} {x3 : Option Value} {s0 : Int32} {h : iH} {Q : Option Value → iH → Prop} (H : ((s0 < 0 → i_P i_MT i_AT L xs 236 87 [some (.ref x0), some (.int x1), some (.int x2), some (.int s0)] [] h 0 0 Q) ∧ (¬ (s0 < 0) → ((s0 ≤ (7 : Int32) → i_P i_MT i_AT L xs 236 93 [some (.ref x0), some (.int x1), some (.int x2), some (.int s0)] [] h 0 0 Q) ∧ (¬ (s0 ≤ (7 : Int32)) → i_P i_MT i_AT L xs 236 87 [some (.ref x0), some (.int x1), some (.int x2), some (.int s0)] [] h 0 0 Q))))) : i_P i_MT i_AT L xs 236 76 [some (.ref x0), some (.int x1), some (.int x2), x3] [.int s0] h 0 0 Q := by
  have hk := i_k236
  refine g_s1 (pc2 := 77) (lo2 := [some (.ref x0), some (.int x1), some (.int x2), some (.int s0)]) hk rfl rfl rfl rfl rfl ?_
  refine g_s1 (pc2 := 78) hk rfl rfl rfl rfl rfl ?_
  refine g_if_lt hk rfl (fun hc => ?_) (fun hc => ?_)
  · have H := H.1 hc
    exact H
  · have H := H.2 hc
    refine g_s1 (pc2 := 82) hk rfl rfl rfl rfl rfl ?_
    refine g_s1 (pc2 := 84) (st2 := [.int (7 : Int32), .int s0]) hk rfl rfl rfl rfl rfl ?_
    refine g_icmp_le hk rfl (fun hc => ?_) (fun hc => ?_)
    · have H := H.1 hc
      exact H
    · have H := H.2 hc
      exact H
theorem b236_87 {x0 : Nat} {x1 : Int32} {x2 : Int32} {x3 : Int32} {h : iH} {Q : Option Value → iH → Prop} (H : (i_obj? h x0 12 ∧ i_C i_MT i_AT L xs 221 [.ref x0, .int (2 : Int32)] h (fun v h1 => ∃ r2 : Int32, v = some (.int r2) ∧ i_P i_MT i_AT L xs 236 92 [some (.ref x0), some (.int x1), some (.int x2), some (.int x3)] [.int r2] h1 0 0 Q))) : i_P i_MT i_AT L xs 236 87 [some (.ref x0), some (.int x1), some (.int x2), some (.int x3)] [] h 0 0 Q := by
  have hk := i_k236
  refine g_s1 (pc2 := 88) hk rfl rfl rfl rfl rfl ?_
  refine g_s1 (pc2 := 89) (st2 := [.int (2 : Int32), .ref x0]) hk rfl rfl rfl rfl rfl ?_
  obtain ⟨ho, H⟩ := H
  refine g_call hk rfl rfl i_k221.1 ⟨rfl, rfl⟩ rfl (i_rcv_v ho rfl (by decide)) rfl ?_
  exact H.mono (fun v h2 q => by obtain ⟨r, rfl, q⟩ := q; exact q)
theorem b236_92 {x0 : Nat} {x1 : Int32} {x2 : Int32} {x3 : Int32} {s0 : Int32} {h : iH} {Q : Option Value → iH → Prop} (H : (i_ret (some .boolean) s0 = true ∧ Q (some (.int s0)) h)) : i_P i_MT i_AT L xs 236 92 [some (.ref x0), some (.int x1), some (.int x2), some (.int x3)] [.int s0] h 0 0 Q := by
  have hk := i_k236
  exact g_ireturn hk rfl (by decide) (by decide) H.1 H.2
theorem b236_93 {x0 : Nat} {x1 : Int32} {x2 : Int32} {x3 : Int32} {h : iH} {Q : Option Value → iH → Prop} (H : ((x3 < 0 → i_P i_MT i_AT L xs 236 167 [some (.ref x0), some (.int x1), some (.int x2), some (.int x3)] [] h 0 0 Q) ∧ (¬ (x3 < 0) → (((8 : Int32) ≤ x3 → i_P i_MT i_AT L xs 236 167 [some (.ref x0), some (.int x1), some (.int x2), some (.int x3)] [] h 0 0 Q) ∧ (¬ ((8 : Int32) ≤ x3) → (∃ v1 : Nat, i_fld h x0 12 0 = some (.ref v1) ∧ (∃ (n2 : Nat) (f3 : Nat → Int32), i_arI h 0 v1 = some (n2, f3) ∧ ¬ ((x2 + (1 : Int32)) < 0 ∨ n2 ≤ (x2 + (1 : Int32)).toNatClampNeg) ∧ ((¬ (f3 (x2 + (1 : Int32)).toNatClampNeg) = (8 : Int32) → (∃ v4 : Nat, i_fld h x0 12 0 = some (.ref v4) ∧ (∃ v5 : Nat, i_fld h x0 12 0 = some (.ref v5) ∧ (∃ (n6 : Nat) (f7 : Nat → Int32), i_arI h 0 v5 = some (n6, f7) ∧ ¬ ((x2 + (1 : Int32)) < 0 ∨ n6 ≤ (x2 + (1 : Int32)).toNatClampNeg) ∧ (∃ (n8 : Nat) (f9 : Nat → Int32), i_arI h 0 v4 = some (n8, f9) ∧ ¬ (((x2 + (2 : Int32)) + (f7 (x2 + (1 : Int32)).toNatClampNeg)) < 0 ∨ n8 ≤ ((x2 + (2 : Int32)) + (f7 (x2 + (1 : Int32)).toNatClampNeg)).toNatClampNeg) ∧ i_P i_MT i_AT L xs 236 141 [some (.ref x0), some (.int x1), some (.int x2), some (.int x3)] [] (i_siI h v4 ((x2 + (2 : Int32)) + (f7 (x2 + (1 : Int32)).toNatClampNeg)).toNatClampNeg x3) 0 0 Q))))) ∧ (¬ (¬ (f3 (x2 + (1 : Int32)).toNatClampNeg) = (8 : Int32)) → (i_obj? h x0 12 ∧ i_C i_MT i_AT L xs 221 [.ref x0, .int (6 : Int32)] h (fun v h10 => ∃ r11 : Int32, v = some (.int r11) ∧ i_P i_MT i_AT L xs 236 122 [some (.ref x0), some (.int x1), some (.int x2), some (.int x3)] [.int r11] h10 0 0 Q))))))))))) : i_P i_MT i_AT L xs 236 93 [some (.ref x0), some (.int x1), some (.int x2), some (.int x3)] [] h 0 0 Q := by
  have hk := i_k236
  refine g_s1 (pc2 := 94) hk rfl rfl rfl rfl rfl ?_
  refine g_if_lt hk rfl (fun hc => ?_) (fun hc => ?_)
  · have H := H.1 hc
    exact H
  · have H := H.2 hc
    refine g_s1 (pc2 := 98) hk rfl rfl rfl rfl rfl ?_
    refine g_s1 (pc2 := 100) (st2 := [.int (8 : Int32), .int x3]) hk rfl rfl rfl rfl rfl ?_
    refine g_icmp_ge hk rfl (fun hc => ?_) (fun hc => ?_)
    · have H := H.1 hc
      exact H
    · have H := H.2 hc
      refine g_s1 (pc2 := 104) hk rfl rfl rfl rfl rfl ?_
      obtain ⟨v1, ev1, H⟩ := H
      refine g_step (pc2 := 107) hk rfl rfl rfl (s_get ev1) ?_
      refine g_s1 (pc2 := 108) hk rfl rfl rfl rfl rfl ?_
      refine g_s1 (pc2 := 109) (st2 := [.int (1 : Int32), .int x2, .ref v1]) hk rfl rfl rfl rfl rfl ?_
      refine g_s1 (pc2 := 110) hk rfl rfl rfl rfl rfl ?_
      obtain ⟨n2, f3, ef3, hi, H⟩ := H
      refine g_step (pc2 := 111) hk rfl rfl rfl (s_aget (L := L) (xs := xs) ef3 hi) ?_
      refine g_s1 (pc2 := 113) (st2 := [.int (8 : Int32), .int (f3 (x2 + (1 : Int32)).toNatClampNeg)]) hk rfl rfl rfl rfl rfl ?_
      refine g_icmp_ne hk rfl (fun hc => ?_) (fun hc => ?_)
      · have H := H.1 hc
        refine g_s1 (pc2 := 124) hk rfl rfl rfl rfl rfl ?_
        obtain ⟨v4, ev4, H⟩ := H
        refine g_step (pc2 := 127) hk rfl rfl rfl (s_get ev4) ?_
        refine g_s1 (pc2 := 128) hk rfl rfl rfl rfl rfl ?_
        refine g_s1 (pc2 := 129) (st2 := [.int (2 : Int32), .int x2, .ref v4]) hk rfl rfl rfl rfl rfl ?_
        refine g_s1 (pc2 := 130) hk rfl rfl rfl rfl rfl ?_
        refine g_s1 (pc2 := 131) hk rfl rfl rfl rfl rfl ?_
        obtain ⟨v5, ev5, H⟩ := H
        refine g_step (pc2 := 134) hk rfl rfl rfl (s_get ev5) ?_
        refine g_s1 (pc2 := 135) hk rfl rfl rfl rfl rfl ?_
        refine g_s1 (pc2 := 136) (st2 := [.int (1 : Int32), .int x2, .ref v5, .int (x2 + (2 : Int32)), .ref v4]) hk rfl rfl rfl rfl rfl ?_
        refine g_s1 (pc2 := 137) hk rfl rfl rfl rfl rfl ?_
        obtain ⟨n6, f7, ef7, hi, H⟩ := H
        refine g_step (pc2 := 138) hk rfl rfl rfl (s_aget (L := L) (xs := xs) ef7 hi) ?_
        refine g_s1 (pc2 := 139) hk rfl rfl rfl rfl rfl ?_
        refine g_s1 (pc2 := 140) hk rfl rfl rfl rfl rfl ?_
        obtain ⟨n8, f9, ef9, hi, H⟩ := H
        refine g_step (pc2 := 141) hk rfl rfl rfl (s_aput ef9 hi) ?_
        exact H
      · have H := H.2 hc
        refine g_s1 (pc2 := 117) hk rfl rfl rfl rfl rfl ?_
        refine g_s1 (pc2 := 119) (st2 := [.int (6 : Int32), .ref x0]) hk rfl rfl rfl rfl rfl ?_
        obtain ⟨ho, H⟩ := H
        refine g_call hk rfl rfl i_k221.1 ⟨rfl, rfl⟩ rfl (i_rcv_v ho rfl (by decide)) rfl ?_
        exact H.mono (fun v h2 q => by obtain ⟨r, rfl, q⟩ := q; exact q)
theorem b236_122 {x0 : Nat} {x1 : Int32} {x2 : Int32} {x3 : Int32} {s0 : Int32} {h : iH} {Q : Option Value → iH → Prop} (H : (i_ret (some .boolean) s0 = true ∧ Q (some (.int s0)) h)) : i_P i_MT i_AT L xs 236 122 [some (.ref x0), some (.int x1), some (.int x2), some (.int x3)] [.int s0] h 0 0 Q := by
  have hk := i_k236
  exact g_ireturn hk rfl (by decide) (by decide) H.1 H.2
theorem b236_141 {x0 : Nat} {x1 : Int32} {x2 : Int32} {x3 : Int32} {h : iH} {Q : Option Value → iH → Prop} (H : (∃ v1 : Nat, i_fld h x0 12 0 = some (.ref v1) ∧ (∃ (n2 : Nat) (f3 : Nat → Int32), i_arI h 0 v1 = some (n2, f3) ∧ ¬ ((x2 + (1 : Int32)) < 0 ∨ n2 ≤ (x2 + (1 : Int32)).toNatClampNeg) ∧ (∃ (n4 : Nat) (f5 : Nat → Int32), i_arI h 0 v1 = some (n4, f5) ∧ ¬ ((x2 + (1 : Int32)) < 0 ∨ n4 ≤ (x2 + (1 : Int32)).toNatClampNeg) ∧ i_P i_MT i_AT L xs 236 153 [some (.ref x0), some (.int x1), some (.int x2), some (.int x3)] [] (i_siI h v1 (x2 + (1 : Int32)).toNatClampNeg ((f3 (x2 + (1 : Int32)).toNatClampNeg) + (1 : Int32))) 0 0 Q)))) : i_P i_MT i_AT L xs 236 141 [some (.ref x0), some (.int x1), some (.int x2), some (.int x3)] [] h 0 0 Q := by
  have hk := i_k236
  refine g_s1 (pc2 := 142) hk rfl rfl rfl rfl rfl ?_
  obtain ⟨v1, ev1, H⟩ := H
  refine g_step (pc2 := 145) hk rfl rfl rfl (s_get ev1) ?_
  refine g_s1 (pc2 := 146) hk rfl rfl rfl rfl rfl ?_
  refine g_s1 (pc2 := 147) (st2 := [.int (1 : Int32), .int x2, .ref v1]) hk rfl rfl rfl rfl rfl ?_
  refine g_s1 (pc2 := 148) hk rfl rfl rfl rfl rfl ?_
  refine g_s1 (pc2 := 149) hk rfl rfl rfl rfl rfl ?_
  obtain ⟨n2, f3, ef3, hi, H⟩ := H
  refine g_step (pc2 := 150) hk rfl rfl rfl (s_aget (L := L) (xs := xs) ef3 hi) ?_
  refine g_s1 (pc2 := 151) (st2 := [.int (1 : Int32), .int (f3 (x2 + (1 : Int32)).toNatClampNeg), .int (x2 + (1 : Int32)), .ref v1]) hk rfl rfl rfl rfl rfl ?_
  refine g_s1 (pc2 := 152) hk rfl rfl rfl rfl rfl ?_
  obtain ⟨n4, f5, ef5, hi, H⟩ := H
  refine g_step (pc2 := 153) hk rfl rfl rfl (s_aput ef5 hi) ?_
  exact H
theorem b236_153 {x0 : Nat} {x1 : Int32} {x2 : Int32} {x3 : Int32} {h : iH} {Q : Option Value → iH → Prop} (H : (i_obj? h x0 12 ∧ i_C i_MT i_AT L xs 218 [.ref x0] h (fun v h1 => v = none ∧ i_P i_MT i_AT L xs 236 157 [some (.ref x0), some (.int x1), some (.int x2), some (.int x3)] [] h1 0 0 Q))) : i_P i_MT i_AT L xs 236 153 [some (.ref x0), some (.int x1), some (.int x2), some (.int x3)] [] h 0 0 Q := by
  have hk := i_k236
  refine g_s1 (pc2 := 154) hk rfl rfl rfl rfl rfl ?_
  obtain ⟨ho, H⟩ := H
  refine g_call hk rfl rfl i_k218.1 ⟨rfl, rfl⟩ rfl (i_rcv_v ho rfl (by decide)) rfl ?_
  exact H.mono (fun v h2 q => by obtain ⟨rfl, q⟩ := q; exact q)
theorem b236_157 {x0 : Nat} {x1 : Int32} {x2 : Int32} {x3 : Int32} {h : iH} {Q : Option Value → iH → Prop} (H : (i_obj? h x0 12 ∧ i_C i_MT i_AT L xs 220 [.ref x0, .retAddr 7] h (fun v h1 => ∃ r2 : Int32, v = some (.int r2) ∧ i_P i_MT i_AT L xs 236 163 [some (.ref x0), some (.int x1), some (.int x2), some (.int x3)] [.int r2] h1 0 0 Q))) : i_P i_MT i_AT L xs 236 157 [some (.ref x0), some (.int x1), some (.int x2), some (.int x3)] [] h 0 0 Q := by
  have hk := i_k236
  refine g_s1 (pc2 := 158) hk rfl rfl rfl rfl rfl ?_
  refine g_step (pc2 := 160) (st2 := [.retAddr 7, .ref x0]) hk rfl rfl rfl rfl ?_
  obtain ⟨ho, H⟩ := H
  refine g_call hk rfl rfl i_k220.1 ⟨rfl, rfl⟩ rfl (i_rcv_v ho rfl (by decide)) rfl ?_
  exact H.mono (fun v h2 q => by obtain ⟨r, rfl, q⟩ := q; exact q)
theorem b236_163 {x0 : Nat} {x1 : Int32} {x2 : Int32} {x3 : Int32} {s0 : Int32} {h : iH} {Q : Option Value → iH → Prop} (H : i_P i_MT i_AT L xs 236 93 [some (.ref x0), some (.int x1), some (.int x2), some (.int s0)] [] h 0 0 Q) : i_P i_MT i_AT L xs 236 163 [some (.ref x0), some (.int x1), some (.int x2), some (.int x3)] [.int s0] h 0 0 Q := by
  have hk := i_k236
  refine g_s1 (pc2 := 164) (lo2 := [some (.ref x0), some (.int x1), some (.int x2), some (.int s0)]) hk rfl rfl rfl rfl rfl ?_
  refine g_s1 (pc2 := 93) hk rfl rfl rfl rfl rfl ?_
  exact H
theorem b236_167 {x0 : Nat} {x1 : Int32} {x2 : Int32} {x3 : Int32} {h : iH} {Q : Option Value → iH → Prop} (H : (∃ v1 : Nat, i_fld h x0 12 0 = some (.ref v1) ∧ (∃ (n2 : Nat) (f3 : Nat → Int32), i_arI h 0 v1 = some (n2, f3) ∧ ¬ ((2723 : Int32) < 0 ∨ n2 ≤ (2723 : Int32).toNatClampNeg) ∧ (∃ (n4 : Nat) (f5 : Nat → Int32), i_arI h 0 v1 = some (n4, f5) ∧ ¬ ((2723 : Int32) < 0 ∨ n4 ≤ (2723 : Int32).toNatClampNeg) ∧ i_P i_MT i_AT L xs 236 179 [some (.ref x0), some (.int x1), some (.int x2), some (.int x3)] [] (i_siI h v1 (2723 : Int32).toNatClampNeg ((f3 (2723 : Int32).toNatClampNeg) + (1 : Int32))) 0 0 Q)))) : i_P i_MT i_AT L xs 236 167 [some (.ref x0), some (.int x1), some (.int x2), some (.int x3)] [] h 0 0 Q := by
  have hk := i_k236
  refine g_s1 (pc2 := 168) hk rfl rfl rfl rfl rfl ?_
  obtain ⟨v1, ev1, H⟩ := H
  refine g_step (pc2 := 171) hk rfl rfl rfl (s_get ev1) ?_
  refine g_s1 (pc2 := 174) (st2 := [.int (2723 : Int32), .ref v1]) hk rfl rfl rfl rfl rfl ?_
  refine g_s1 (pc2 := 175) hk rfl rfl rfl rfl rfl ?_
  obtain ⟨n2, f3, ef3, hi, H⟩ := H
  refine g_step (pc2 := 176) hk rfl rfl rfl (s_aget (L := L) (xs := xs) ef3 hi) ?_
  refine g_s1 (pc2 := 177) (st2 := [.int (1 : Int32), .int (f3 (2723 : Int32).toNatClampNeg), .int (2723 : Int32), .ref v1]) hk rfl rfl rfl rfl rfl ?_
  refine g_s1 (pc2 := 178) hk rfl rfl rfl rfl rfl ?_
  obtain ⟨n4, f5, ef5, hi, H⟩ := H
  refine g_step (pc2 := 179) hk rfl rfl rfl (s_aput ef5 hi) ?_
  exact H
theorem b236_179 {x0 : Nat} {x1 : Int32} {x2 : Int32} {x3 : Int32} {h : iH} {Q : Option Value → iH → Prop} (H : Q (some (.int 1)) h) : i_P i_MT i_AT L xs 236 179 [some (.ref x0), some (.int x1), some (.int x2), some (.int x3)] [] h 0 0 Q := by
  have hk := i_k236
  refine g_s1 (pc2 := 180) (st2 := [.int (1 : Int32)]) hk rfl rfl rfl rfl rfl ?_
  exact g_ireturn hk rfl (by decide) (by decide) rfl H
/-! StillTownModel.aLamp()Z -/
theorem e237 {x0 : Nat} {h : iH} {Q : Option Value → iH → Prop} (H : i_P i_MT i_AT L xs 237 0 [some (.ref x0), none, none, none] [] h 0 0 Q) : i_C i_MT i_AT L xs 237 [.ref x0] h Q := ⟨i_m237, i_k237.1, Nat.le_of_ble_eq_true rfl, H⟩
theorem b237_0 {x0 : Nat} {x1 : Option Value} {x2 : Option Value} {x3 : Option Value} {h : iH} {Q : Option Value → iH → Prop} (H : (∃ v1 : Nat, i_fld h x0 12 0 = some (.ref v1) ∧ (∃ (n2 : Nat) (f3 : Nat → Int32), i_arI h 0 v1 = some (n2, f3) ∧ ¬ ((2724 : Int32) < 0 ∨ n2 ≤ (2724 : Int32).toNatClampNeg) ∧ ((¬ (f3 (2724 : Int32).toNatClampNeg) = (8 : Int32) → (i_obj? h x0 12 ∧ i_C i_MT i_AT L xs 218 [.ref x0] h (fun v h4 => v = none ∧ i_P i_MT i_AT L xs 237 26 [some (.ref x0), some (.int (f3 (2724 : Int32).toNatClampNeg)), x2, x3] [] h4 0 0 Q))) ∧ (¬ (¬ (f3 (2724 : Int32).toNatClampNeg) = (8 : Int32)) → (i_obj? h x0 12 ∧ i_C i_MT i_AT L xs 221 [.ref x0, .int (6 : Int32)] h (fun v h6 => ∃ r7 : Int32, v = some (.int r7) ∧ i_P i_MT i_AT L xs 237 21 [some (.ref x0), some (.int (f3 (2724 : Int32).toNatClampNeg)), x2, x3] [.int r7] h6 0 0 Q))))))) : i_P i_MT i_AT L xs 237 0 [some (.ref x0), x1, x2, x3] [] h 0 0 Q := by
  have hk := i_k237
  refine g_s1 (pc2 := 1) hk rfl rfl rfl rfl rfl ?_
  obtain ⟨v1, ev1, H⟩ := H
  refine g_step (pc2 := 4) hk rfl rfl rfl (s_get ev1) ?_
  refine g_s1 (pc2 := 7) (st2 := [.int (2724 : Int32), .ref v1]) hk rfl rfl rfl rfl rfl ?_
  obtain ⟨n2, f3, ef3, hi, H⟩ := H
  refine g_step (pc2 := 8) hk rfl rfl rfl (s_aget (L := L) (xs := xs) ef3 hi) ?_
  refine g_s1 (pc2 := 9) (lo2 := [some (.ref x0), some (.int (f3 (2724 : Int32).toNatClampNeg)), x2, x3]) hk rfl rfl rfl rfl rfl ?_
  refine g_s1 (pc2 := 10) hk rfl rfl rfl rfl rfl ?_
  refine g_s1 (pc2 := 12) (st2 := [.int (8 : Int32), .int (f3 (2724 : Int32).toNatClampNeg)]) hk rfl rfl rfl rfl rfl ?_
  refine g_icmp_ne hk rfl (fun hc => ?_) (fun hc => ?_)
  · have H := H.1 hc
    refine g_s1 (pc2 := 23) hk rfl rfl rfl rfl rfl ?_
    obtain ⟨ho, H⟩ := H
    refine g_call hk rfl rfl i_k218.1 ⟨rfl, rfl⟩ rfl (i_rcv_v ho rfl (by decide)) rfl ?_
    exact H.mono (fun v h2 q => by obtain ⟨rfl, q⟩ := q; exact q)
  · have H := H.2 hc
    refine g_s1 (pc2 := 16) hk rfl rfl rfl rfl rfl ?_
    refine g_s1 (pc2 := 18) (st2 := [.int (6 : Int32), .ref x0]) hk rfl rfl rfl rfl rfl ?_
    obtain ⟨ho, H⟩ := H
    refine g_call hk rfl rfl i_k221.1 ⟨rfl, rfl⟩ rfl (i_rcv_v ho rfl (by decide)) rfl ?_
    exact H.mono (fun v h2 q => by obtain ⟨r, rfl, q⟩ := q; exact q)
theorem b237_21 {x0 : Nat} {x1 : Int32} {x2 : Option Value} {x3 : Option Value} {s0 : Int32} {h : iH} {Q : Option Value → iH → Prop} (H : (i_ret (some .boolean) s0 = true ∧ Q (some (.int s0)) h)) : i_P i_MT i_AT L xs 237 21 [some (.ref x0), some (.int x1), x2, x3] [.int s0] h 0 0 Q := by
  have hk := i_k237
  exact g_ireturn hk rfl (by decide) (by decide) H.1 H.2
theorem b237_26 {x0 : Nat} {x1 : Int32} {x2 : Option Value} {x3 : Option Value} {h : iH} {Q : Option Value → iH → Prop} (H : (i_obj? h x0 12 ∧ i_C i_MT i_AT L xs 231 [.ref x0] h (fun v h1 => ∃ r2 : Int32, v = some (.int r2) ∧ i_P i_MT i_AT L xs 237 30 [some (.ref x0), some (.int x1), x2, x3] [.int r2] h1 0 0 Q))) : i_P i_MT i_AT L xs 237 26 [some (.ref x0), some (.int x1), x2, x3] [] h 0 0 Q := by
  have hk := i_k237
  refine g_s1 (pc2 := 27) hk rfl rfl rfl rfl rfl ?_
  obtain ⟨ho, H⟩ := H
  refine g_call hk rfl rfl i_k231.1 ⟨rfl, rfl⟩ rfl (i_rcv_v ho rfl (by decide)) rfl ?_
  exact H.mono (fun v h2 q => by obtain ⟨r, rfl, q⟩ := q; exact q)
theorem b237_30 {x0 : Nat} {x1 : Int32} {x2 : Option Value} {x3 : Option Value} {s0 : Int32} {h : iH} {Q : Option Value → iH → Prop} (H : ((¬ s0 = 0 → (∃ v1 : Nat, i_fld h x0 12 0 = some (.ref v1) ∧ (∃ v2 : Int32, i_fld h x0 12 22 = some (.int v2) ∧ (∃ (n3 : Nat) (f4 : Nat → Int32), i_arI h 0 v1 = some (n3, f4) ∧ ¬ (((2730 : Int32) + v2) < 0 ∨ n3 ≤ ((2730 : Int32) + v2).toNatClampNeg) ∧ ((¬ (f4 ((2730 : Int32) + v2).toNatClampNeg) = (1 : Int32) → i_P i_MT i_AT L xs 237 57 [some (.ref x0), some (.int x1), x2, x3] [.int (0 : Int32)] h 0 0 Q) ∧ (¬ (¬ (f4 ((2730 : Int32) + v2).toNatClampNeg) = (1 : Int32)) → i_P i_MT i_AT L xs 237 57 [some (.ref x0), some (.int x1), x2, x3] [.int (1 : Int32)] h 0 0 Q)))))) ∧ (¬ (¬ s0 = 0) → Q (some (.int 0)) h))) : i_P i_MT i_AT L xs 237 30 [some (.ref x0), some (.int x1), x2, x3] [.int s0] h 0 0 Q := by
  have hk := i_k237
  refine g_if_ne hk rfl (fun hc => ?_) (fun hc => ?_)
  · have H := H.1 hc
    refine g_s1 (pc2 := 36) hk rfl rfl rfl rfl rfl ?_
    obtain ⟨v1, ev1, H⟩ := H
    refine g_step (pc2 := 39) hk rfl rfl rfl (s_get ev1) ?_
    refine g_s1 (pc2 := 42) (st2 := [.int (2730 : Int32), .ref v1]) hk rfl rfl rfl rfl rfl ?_
    refine g_s1 (pc2 := 43) hk rfl rfl rfl rfl rfl ?_
    obtain ⟨v2, ev2, H⟩ := H
    refine g_step (pc2 := 46) hk rfl rfl rfl (s_get ev2) ?_
    refine g_s1 (pc2 := 47) hk rfl rfl rfl rfl rfl ?_
    obtain ⟨n3, f4, ef4, hi, H⟩ := H
    refine g_step (pc2 := 48) hk rfl rfl rfl (s_aget (L := L) (xs := xs) ef4 hi) ?_
    refine g_s1 (pc2 := 49) (st2 := [.int (1 : Int32), .int (f4 ((2730 : Int32) + v2).toNatClampNeg)]) hk rfl rfl rfl rfl rfl ?_
    refine g_icmp_ne hk rfl (fun hc => ?_) (fun hc => ?_)
    · have H := H.1 hc
      refine g_s1 (pc2 := 57) (st2 := [.int (0 : Int32)]) hk rfl rfl rfl rfl rfl ?_
      exact H
    · have H := H.2 hc
      refine g_s1 (pc2 := 53) (st2 := [.int (1 : Int32)]) hk rfl rfl rfl rfl rfl ?_
      refine g_s1 (pc2 := 57) hk rfl rfl rfl rfl rfl ?_
      exact H
  · have H := H.2 hc
    refine g_s1 (pc2 := 34) (st2 := [.int (0 : Int32)]) hk rfl rfl rfl rfl rfl ?_
    exact g_ireturn hk rfl (by decide) (by decide) rfl H
theorem b237_57 {x0 : Nat} {x1 : Int32} {x2 : Option Value} {x3 : Option Value} {s0 : Int32} {h : iH} {Q : Option Value → iH → Prop} (H : i_P i_MT i_AT L xs 237 60 [some (.ref x0), some (.int x1), some (.int s0), some (.int (0 : Int32))] [] h 0 0 Q) : i_P i_MT i_AT L xs 237 57 [some (.ref x0), some (.int x1), x2, x3] [.int s0] h 0 0 Q := by
  have hk := i_k237
  refine g_s1 (pc2 := 58) (lo2 := [some (.ref x0), some (.int x1), some (.int s0), x3]) hk rfl rfl rfl rfl rfl ?_
  refine g_s1 (pc2 := 59) (st2 := [.int (0 : Int32)]) hk rfl rfl rfl rfl rfl ?_
  refine g_s1 (pc2 := 60) (lo2 := [some (.ref x0), some (.int x1), some (.int s0), some (.int (0 : Int32))]) hk rfl rfl rfl rfl rfl ?_
  exact H
theorem b237_60 {x0 : Nat} {x1 : Int32} {x2 : Int32} {x3 : Int32} {h : iH} {Q : Option Value → iH → Prop} (H : ((x1 ≤ x3 → ((x2 = 0 → (∃ v1 : Nat, i_fld h x0 12 0 = some (.ref v1) ∧ (∃ v2 : Int32, i_fld h x0 12 22 = some (.int v2) ∧ (∃ (n3 : Nat) (f4 : Nat → Int32), i_arI h 0 v1 = some (n3, f4) ∧ ¬ (((2826 : Int32) + x1) < 0 ∨ n3 ≤ ((2826 : Int32) + x1).toNatClampNeg) ∧ i_P i_MT i_AT L xs 237 122 [some (.ref x0), some (.int x1), some (.int x2), some (.int x3)] [] (i_siI h v1 ((2826 : Int32) + x1).toNatClampNeg v2) 0 0 Q)))) ∧ (¬ (x2 = 0) → (i_obj? h x0 12 ∧ i_C i_MT i_AT L xs 221 [.ref x0, .int (5 : Int32)] h (fun v h5 => ∃ r6 : Int32, v = some (.int r6) ∧ i_P i_MT i_AT L xs 237 107 [some (.ref x0), some (.int x1), some (.int x2), some (.int x3)] [.int r6] h5 0 0 Q))))) ∧ (¬ (x1 ≤ x3) → ((¬ x2 = 0 → i_P i_MT i_AT L xs 237 86 [some (.ref x0), some (.int x1), some (.int x2), some (.int x3)] [] h 0 0 Q) ∧ (¬ (¬ x2 = 0) → (∃ v7 : Nat, i_fld h x0 12 0 = some (.ref v7) ∧ (∃ (n8 : Nat) (f9 : Nat → Int32), i_arI h 0 v7 = some (n8, f9) ∧ ¬ (((2826 : Int32) + x3) < 0 ∨ n8 ≤ ((2826 : Int32) + x3).toNatClampNeg) ∧ (∃ v10 : Int32, i_fld h x0 12 22 = some (.int v10) ∧ ((¬ (f9 ((2826 : Int32) + x3).toNatClampNeg) = v10 → i_P i_MT i_AT L xs 237 91 [some (.ref x0), some (.int x1), some (.int x2), some (.int x3)] [.int (0 : Int32)] h 0 0 Q) ∧ (¬ (¬ (f9 ((2826 : Int32) + x3).toNatClampNeg) = v10) → i_P i_MT i_AT L xs 237 86 [some (.ref x0), some (.int x1), some (.int x2), some (.int x3)] [] h 0 0 Q)))))))))) : i_P i_MT i_AT L xs 237 60 [some (.ref x0), some (.int x1), some (.int x2), some (.int x3)] [] h 0 0 Q := by
  have hk := i_k237
  refine g_s1 (pc2 := 61) hk rfl rfl rfl rfl rfl ?_
  refine g_s1 (pc2 := 62) hk rfl rfl rfl rfl rfl ?_
  refine g_icmp_ge hk rfl (fun hc => ?_) (fun hc => ?_)
  · have H := H.1 hc
    refine g_s1 (pc2 := 99) hk rfl rfl rfl rfl rfl ?_
    refine g_if_eq hk rfl (fun hc => ?_) (fun hc => ?_)
    · have H := H.1 hc
      refine g_s1 (pc2 := 109) hk rfl rfl rfl rfl rfl ?_
      obtain ⟨v1, ev1, H⟩ := H
      refine g_step (pc2 := 112) hk rfl rfl rfl (s_get ev1) ?_
      refine g_s1 (pc2 := 115) (st2 := [.int (2826 : Int32), .ref v1]) hk rfl rfl rfl rfl rfl ?_
      refine g_s1 (pc2 := 116) hk rfl rfl rfl rfl rfl ?_
      refine g_s1 (pc2 := 117) hk rfl rfl rfl rfl rfl ?_
      refine g_s1 (pc2 := 118) hk rfl rfl rfl rfl rfl ?_
      obtain ⟨v2, ev2, H⟩ := H
      refine g_step (pc2 := 121) hk rfl rfl rfl (s_get ev2) ?_
      obtain ⟨n3, f4, ef4, hi, H⟩ := H
      refine g_step (pc2 := 122) hk rfl rfl rfl (s_aput ef4 hi) ?_
      exact H
    · have H := H.2 hc
      refine g_s1 (pc2 := 103) hk rfl rfl rfl rfl rfl ?_
      refine g_s1 (pc2 := 104) (st2 := [.int (5 : Int32), .ref x0]) hk rfl rfl rfl rfl rfl ?_
      obtain ⟨ho, H⟩ := H
      refine g_call hk rfl rfl i_k221.1 ⟨rfl, rfl⟩ rfl (i_rcv_v ho rfl (by decide)) rfl ?_
      exact H.mono (fun v h2 q => by obtain ⟨r, rfl, q⟩ := q; exact q)
  · have H := H.2 hc
    refine g_s1 (pc2 := 66) hk rfl rfl rfl rfl rfl ?_
    refine g_if_ne hk rfl (fun hc => ?_) (fun hc => ?_)
    · have H := H.1 hc
      exact H
    · have H := H.2 hc
      refine g_s1 (pc2 := 70) hk rfl rfl rfl rfl rfl ?_
      obtain ⟨v7, ev7, H⟩ := H
      refine g_step (pc2 := 73) hk rfl rfl rfl (s_get ev7) ?_
      refine g_s1 (pc2 := 76) (st2 := [.int (2826 : Int32), .ref v7]) hk rfl rfl rfl rfl rfl ?_
      refine g_s1 (pc2 := 77) hk rfl rfl rfl rfl rfl ?_
      refine g_s1 (pc2 := 78) hk rfl rfl rfl rfl rfl ?_
      obtain ⟨n8, f9, ef9, hi, H⟩ := H
      refine g_step (pc2 := 79) hk rfl rfl rfl (s_aget (L := L) (xs := xs) ef9 hi) ?_
      refine g_s1 (pc2 := 80) hk rfl rfl rfl rfl rfl ?_
      obtain ⟨v10, ev10, H⟩ := H
      refine g_step (pc2 := 83) hk rfl rfl rfl (s_get ev10) ?_
      refine g_icmp_ne hk rfl (fun hc => ?_) (fun hc => ?_)
      · have H := H.1 hc
        refine g_s1 (pc2 := 91) (st2 := [.int (0 : Int32)]) hk rfl rfl rfl rfl rfl ?_
        exact H
      · have H := H.2 hc
        exact H
theorem b237_86 {x0 : Nat} {x1 : Int32} {x2 : Int32} {x3 : Int32} {h : iH} {Q : Option Value → iH → Prop} (H : i_P i_MT i_AT L xs 237 91 [some (.ref x0), some (.int x1), some (.int x2), some (.int x3)] [.int (1 : Int32)] h 0 0 Q) : i_P i_MT i_AT L xs 237 86 [some (.ref x0), some (.int x1), some (.int x2), some (.int x3)] [] h 0 0 Q := by
  have hk := i_k237
  refine g_s1 (pc2 := 87) (st2 := [.int (1 : Int32)]) hk rfl rfl rfl rfl rfl ?_
  refine g_s1 (pc2 := 91) hk rfl rfl rfl rfl rfl ?_
  exact H
theorem b237_91 {x0 : Nat} {x1 : Int32} {x2 : Int32} {x3 : Int32} {s0 : Int32} {h : iH} {Q : Option Value → iH → Prop} (H : i_P i_MT i_AT L xs 237 60 [some (.ref x0), some (.int x1), some (.int s0), some (.int (x3 + 1))] [] h 0 0 Q) : i_P i_MT i_AT L xs 237 91 [some (.ref x0), some (.int x1), some (.int x2), some (.int x3)] [.int s0] h 0 0 Q := by
  have hk := i_k237
  refine g_s1 (pc2 := 92) (lo2 := [some (.ref x0), some (.int x1), some (.int s0), some (.int x3)]) hk rfl rfl rfl rfl rfl ?_
  refine g_s1 (pc2 := 95) (lo2 := [some (.ref x0), some (.int x1), some (.int s0), some (.int (x3 + 1))]) hk rfl rfl rfl rfl rfl ?_
  refine g_s1 (pc2 := 60) hk rfl rfl rfl rfl rfl ?_
  exact H
theorem b237_107 {x0 : Nat} {x1 : Int32} {x2 : Int32} {x3 : Int32} {s0 : Int32} {h : iH} {Q : Option Value → iH → Prop} (H : (i_ret (some .boolean) s0 = true ∧ Q (some (.int s0)) h)) : i_P i_MT i_AT L xs 237 107 [some (.ref x0), some (.int x1), some (.int x2), some (.int x3)] [.int s0] h 0 0 Q := by
  have hk := i_k237
  exact g_ireturn hk rfl (by decide) (by decide) H.1 H.2
theorem b237_122 {x0 : Nat} {x1 : Int32} {x2 : Int32} {x3 : Int32} {h : iH} {Q : Option Value → iH → Prop} (H : (∃ v1 : Nat, i_fld h x0 12 0 = some (.ref v1) ∧ (∃ (n2 : Nat) (f3 : Nat → Int32), i_arI h 0 v1 = some (n2, f3) ∧ ¬ ((2724 : Int32) < 0 ∨ n2 ≤ (2724 : Int32).toNatClampNeg) ∧ (∃ (n4 : Nat) (f5 : Nat → Int32), i_arI h 0 v1 = some (n4, f5) ∧ ¬ ((2724 : Int32) < 0 ∨ n4 ≤ (2724 : Int32).toNatClampNeg) ∧ i_P i_MT i_AT L xs 237 134 [some (.ref x0), some (.int x1), some (.int x2), some (.int x3)] [] (i_siI h v1 (2724 : Int32).toNatClampNeg ((f3 (2724 : Int32).toNatClampNeg) + (1 : Int32))) 0 0 Q)))) : i_P i_MT i_AT L xs 237 122 [some (.ref x0), some (.int x1), some (.int x2), some (.int x3)] [] h 0 0 Q := by
  have hk := i_k237
  refine g_s1 (pc2 := 123) hk rfl rfl rfl rfl rfl ?_
  obtain ⟨v1, ev1, H⟩ := H
  refine g_step (pc2 := 126) hk rfl rfl rfl (s_get ev1) ?_
  refine g_s1 (pc2 := 129) (st2 := [.int (2724 : Int32), .ref v1]) hk rfl rfl rfl rfl rfl ?_
  refine g_s1 (pc2 := 130) hk rfl rfl rfl rfl rfl ?_
  obtain ⟨n2, f3, ef3, hi, H⟩ := H
  refine g_step (pc2 := 131) hk rfl rfl rfl (s_aget (L := L) (xs := xs) ef3 hi) ?_
  refine g_s1 (pc2 := 132) (st2 := [.int (1 : Int32), .int (f3 (2724 : Int32).toNatClampNeg), .int (2724 : Int32), .ref v1]) hk rfl rfl rfl rfl rfl ?_
  refine g_s1 (pc2 := 133) hk rfl rfl rfl rfl rfl ?_
  obtain ⟨n4, f5, ef5, hi, H⟩ := H
  refine g_step (pc2 := 134) hk rfl rfl rfl (s_aput ef5 hi) ?_
  exact H
theorem b237_134 {x0 : Nat} {x1 : Int32} {x2 : Int32} {x3 : Int32} {h : iH} {Q : Option Value → iH → Prop} (H : (i_obj? h x0 12 ∧ i_C i_MT i_AT L xs 218 [.ref x0] h (fun v h1 => v = none ∧ i_P i_MT i_AT L xs 237 138 [some (.ref x0), some (.int x1), some (.int x2), some (.int x3)] [] h1 0 0 Q))) : i_P i_MT i_AT L xs 237 134 [some (.ref x0), some (.int x1), some (.int x2), some (.int x3)] [] h 0 0 Q := by
  have hk := i_k237
  refine g_s1 (pc2 := 135) hk rfl rfl rfl rfl rfl ?_
  obtain ⟨ho, H⟩ := H
  refine g_call hk rfl rfl i_k218.1 ⟨rfl, rfl⟩ rfl (i_rcv_v ho rfl (by decide)) rfl ?_
  exact H.mono (fun v h2 q => by obtain ⟨rfl, q⟩ := q; exact q)
theorem b237_138 {x0 : Nat} {x1 : Int32} {x2 : Int32} {x3 : Int32} {h : iH} {Q : Option Value → iH → Prop} (H : Q (some (.int 1)) h) : i_P i_MT i_AT L xs 237 138 [some (.ref x0), some (.int x1), some (.int x2), some (.int x3)] [] h 0 0 Q := by
  have hk := i_k237
  refine g_s1 (pc2 := 139) (st2 := [.int (1 : Int32)]) hk rfl rfl rfl rfl rfl ?_
  exact g_ireturn hk rfl (by decide) (by decide) rfl H
/-! StillTownModel.aPerson()Z -/
theorem e238 {x0 : Nat} {h : iH} {Q : Option Value → iH → Prop} (H : i_P i_MT i_AT L xs 238 0 [some (.ref x0), none, none, none] [] h 0 0 Q) : i_C i_MT i_AT L xs 238 [.ref x0] h Q := ⟨i_m238, i_k238.1, Nat.le_of_ble_eq_true rfl, H⟩
theorem b238_0 {x0 : Nat} {x1 : Option Value} {x2 : Option Value} {x3 : Option Value} {h : iH} {Q : Option Value → iH → Prop} (H : (∃ v1 : Nat, i_fld h x0 12 0 = some (.ref v1) ∧ (∃ (n2 : Nat) (f3 : Nat → Int32), i_arI h 0 v1 = some (n2, f3) ∧ ¬ ((2725 : Int32) < 0 ∨ n2 ≤ (2725 : Int32).toNatClampNeg) ∧ ((¬ (f3 (2725 : Int32).toNatClampNeg) = (8 : Int32) → (i_obj? h x0 12 ∧ i_C i_MT i_AT L xs 218 [.ref x0] h (fun v h4 => v = none ∧ i_P i_MT i_AT L xs 238 34 [some (.ref x0), some (.int (f3 (2725 : Int32).toNatClampNeg)), some (.int ((2874 : Int32) + ((5 : Int32) * (f3 (2725 : Int32).toNatClampNeg)))), x3] [] h4 0 0 Q))) ∧ (¬ (¬ (f3 (2725 : Int32).toNatClampNeg) = (8 : Int32)) → (i_obj? h x0 12 ∧ i_C i_MT i_AT L xs 221 [.ref x0, .int (6 : Int32)] h (fun v h6 => ∃ r7 : Int32, v = some (.int r7) ∧ i_P i_MT i_AT L xs 238 29 [some (.ref x0), some (.int (f3 (2725 : Int32).toNatClampNeg)), some (.int ((2874 : Int32) + ((5 : Int32) * (f3 (2725 : Int32).toNatClampNeg)))), x3] [.int r7] h6 0 0 Q))))))) : i_P i_MT i_AT L xs 238 0 [some (.ref x0), x1, x2, x3] [] h 0 0 Q := by
  have hk := i_k238
  refine g_s1 (pc2 := 1) hk rfl rfl rfl rfl rfl ?_
  obtain ⟨v1, ev1, H⟩ := H
  refine g_step (pc2 := 4) hk rfl rfl rfl (s_get ev1) ?_
  refine g_s1 (pc2 := 7) (st2 := [.int (2725 : Int32), .ref v1]) hk rfl rfl rfl rfl rfl ?_
  obtain ⟨n2, f3, ef3, hi, H⟩ := H
  refine g_step (pc2 := 8) hk rfl rfl rfl (s_aget (L := L) (xs := xs) ef3 hi) ?_
  refine g_s1 (pc2 := 9) (lo2 := [some (.ref x0), some (.int (f3 (2725 : Int32).toNatClampNeg)), x2, x3]) hk rfl rfl rfl rfl rfl ?_
  refine g_s1 (pc2 := 12) (st2 := [.int (2874 : Int32)]) hk rfl rfl rfl rfl rfl ?_
  refine g_s1 (pc2 := 13) (st2 := [.int (5 : Int32), .int (2874 : Int32)]) hk rfl rfl rfl rfl rfl ?_
  refine g_s1 (pc2 := 14) hk rfl rfl rfl rfl rfl ?_
  refine g_s1 (pc2 := 15) hk rfl rfl rfl rfl rfl ?_
  refine g_s1 (pc2 := 16) hk rfl rfl rfl rfl rfl ?_
  refine g_s1 (pc2 := 17) (lo2 := [some (.ref x0), some (.int (f3 (2725 : Int32).toNatClampNeg)), some (.int ((2874 : Int32) + ((5 : Int32) * (f3 (2725 : Int32).toNatClampNeg)))), x3]) hk rfl rfl rfl rfl rfl ?_
  refine g_s1 (pc2 := 18) hk rfl rfl rfl rfl rfl ?_
  refine g_s1 (pc2 := 20) (st2 := [.int (8 : Int32), .int (f3 (2725 : Int32).toNatClampNeg)]) hk rfl rfl rfl rfl rfl ?_
  refine g_icmp_ne hk rfl (fun hc => ?_) (fun hc => ?_)
  · have H := H.1 hc
    refine g_s1 (pc2 := 31) hk rfl rfl rfl rfl rfl ?_
    obtain ⟨ho, H⟩ := H
    refine g_call hk rfl rfl i_k218.1 ⟨rfl, rfl⟩ rfl (i_rcv_v ho rfl (by decide)) rfl ?_
    exact H.mono (fun v h2 q => by obtain ⟨rfl, q⟩ := q; exact q)
  · have H := H.2 hc
    refine g_s1 (pc2 := 24) hk rfl rfl rfl rfl rfl ?_
    refine g_s1 (pc2 := 26) (st2 := [.int (6 : Int32), .ref x0]) hk rfl rfl rfl rfl rfl ?_
    obtain ⟨ho, H⟩ := H
    refine g_call hk rfl rfl i_k221.1 ⟨rfl, rfl⟩ rfl (i_rcv_v ho rfl (by decide)) rfl ?_
    exact H.mono (fun v h2 q => by obtain ⟨r, rfl, q⟩ := q; exact q)
theorem b238_29 {x0 : Nat} {x1 : Int32} {x2 : Int32} {x3 : Option Value} {s0 : Int32} {h : iH} {Q : Option Value → iH → Prop} (H : (i_ret (some .boolean) s0 = true ∧ Q (some (.int s0)) h)) : i_P i_MT i_AT L xs 238 29 [some (.ref x0), some (.int x1), some (.int x2), x3] [.int s0] h 0 0 Q := by
  have hk := i_k238
  exact g_ireturn hk rfl (by decide) (by decide) H.1 H.2
theorem b238_34 {x0 : Nat} {x1 : Int32} {x2 : Int32} {x3 : Option Value} {h : iH} {Q : Option Value → iH → Prop} (H : (i_obj? h x0 12 ∧ i_C i_MT i_AT L xs 226 [.ref x0, .retAddr 7] h (fun v h1 => ∃ r2 : Int32, v = some (.int r2) ∧ i_P i_MT i_AT L xs 238 40 [some (.ref x0), some (.int x1), some (.int x2), x3] [.int r2] h1 0 0 Q))) : i_P i_MT i_AT L xs 238 34 [some (.ref x0), some (.int x1), some (.int x2), x3] [] h 0 0 Q := by
  have hk := i_k238
  refine g_s1 (pc2 := 35) hk rfl rfl rfl rfl rfl ?_
  refine g_step (pc2 := 37) (st2 := [.retAddr 7, .ref x0]) hk rfl rfl rfl rfl ?_
  obtain ⟨ho, H⟩ := H
  refine g_call hk rfl rfl i_k226.1 ⟨rfl, rfl⟩ rfl (i_rcv_v ho rfl (by decide)) rfl ?_
  exact H.mono (fun v h2 q => by obtain ⟨r, rfl, q⟩ := q; exact q)
theorem b238_40 {x0 : Nat} {x1 : Int32} {x2 : Int32} {x3 : Option Value} {s0 : Int32} {h : iH} {Q : Option Value → iH → Prop} (H : ((¬ s0 = 0 → (i_obj? h x0 12 ∧ i_C i_MT i_AT L xs 228 [.ref x0, .int (32 : Int32), .int x1] h (fun v h1 => ∃ r2 : Int32, v = some (.int r2) ∧ i_P i_MT i_AT L xs 238 56 [some (.ref x0), some (.int x1), some (.int x2), x3] [.int r2] h1 0 0 Q))) ∧ (¬ (¬ s0 = 0) → (i_obj? h x0 12 ∧ i_C i_MT i_AT L xs 221 [.ref x0, .int (2 : Int32)] h (fun v h3 => ∃ r4 : Int32, v = some (.int r4) ∧ i_P i_MT i_AT L xs 238 48 [some (.ref x0), some (.int x1), some (.int x2), x3] [.int r4] h3 0 0 Q))))) : i_P i_MT i_AT L xs 238 40 [some (.ref x0), some (.int x1), some (.int x2), x3] [.int s0] h 0 0 Q := by
  have hk := i_k238
  refine g_if_ne hk rfl (fun hc => ?_) (fun hc => ?_)
  · have H := H.1 hc
    refine g_s1 (pc2 := 50) hk rfl rfl rfl rfl rfl ?_
    refine g_s1 (pc2 := 52) (st2 := [.int (32 : Int32), .ref x0]) hk rfl rfl rfl rfl rfl ?_
    refine g_s1 (pc2 := 53) hk rfl rfl rfl rfl rfl ?_
    obtain ⟨ho, H⟩ := H
    refine g_call hk rfl rfl i_k228.1 ⟨rfl, rfl⟩ rfl (i_rcv_v ho rfl (by decide)) rfl ?_
    exact H.mono (fun v h2 q => by obtain ⟨r, rfl, q⟩ := q; exact q)
  · have H := H.2 hc
    refine g_s1 (pc2 := 44) hk rfl rfl rfl rfl rfl ?_
    refine g_s1 (pc2 := 45) (st2 := [.int (2 : Int32), .ref x0]) hk rfl rfl rfl rfl rfl ?_
    obtain ⟨ho, H⟩ := H
    refine g_call hk rfl rfl i_k221.1 ⟨rfl, rfl⟩ rfl (i_rcv_v ho rfl (by decide)) rfl ?_
    exact H.mono (fun v h2 q => by obtain ⟨r, rfl, q⟩ := q; exact q)
theorem b238_48 {x0 : Nat} {x1 : Int32} {x2 : Int32} {x3 : Option Value} {s0 : Int32} {h : iH} {Q : Option Value → iH → Prop} (H : (i_ret (some .boolean) s0 = true ∧ Q (some (.int s0)) h)) : i_P i_MT i_AT L xs 238 48 [some (.ref x0), some (.int x1), some (.int x2), x3] [.int s0] h 0 0 Q := by
  have hk := i_k238
  exact g_ireturn hk rfl (by decide) (by decide) H.1 H.2
theorem b238_56 {x0 : Nat} {x1 : Int32} {x2 : Int32} {x3 : Option Value} {s0 : Int32} {h : iH} {Q : Option Value → iH → Prop} (H : ((s0 = (-1 : Int32) → (∃ v1 : Nat, i_fld h x0 12 1 = some (.ref v1) ∧ (i_obj? h x0 12 ∧ i_C i_MT i_AT L xs 227 [.ref x0] h (fun v h2 => ∃ r3 : Int64, v = some (.long r3) ∧ i_P i_MT i_AT L xs 238 78 [some (.ref x0), some (.int x1), some (.int x2), x3] [.long r3, .int ((32 : Int32) + x1), .ref v1] h2 0 0 Q)))) ∧ (¬ (s0 = (-1 : Int32)) → (i_obj? h x0 12 ∧ i_C i_MT i_AT L xs 221 [.ref x0, .int (3 : Int32)] h (fun v h4 => ∃ r5 : Int32, v = some (.int r5) ∧ i_P i_MT i_AT L xs 238 65 [some (.ref x0), some (.int x1), some (.int x2), x3] [.int r5] h4 0 0 Q))))) : i_P i_MT i_AT L xs 238 56 [some (.ref x0), some (.int x1), some (.int x2), x3] [.int s0] h 0 0 Q := by
  have hk := i_k238
  refine g_s1 (pc2 := 57) (st2 := [.int (-1 : Int32), .int s0]) hk rfl rfl rfl rfl rfl ?_
  refine g_icmp_eq hk rfl (fun hc => ?_) (fun hc => ?_)
  · have H := H.1 hc
    refine g_s1 (pc2 := 67) hk rfl rfl rfl rfl rfl ?_
    obtain ⟨v1, ev1, H⟩ := H
    refine g_step (pc2 := 70) hk rfl rfl rfl (s_get ev1) ?_
    refine g_s1 (pc2 := 72) (st2 := [.int (32 : Int32), .ref v1]) hk rfl rfl rfl rfl rfl ?_
    refine g_s1 (pc2 := 73) hk rfl rfl rfl rfl rfl ?_
    refine g_s1 (pc2 := 74) hk rfl rfl rfl rfl rfl ?_
    refine g_s1 (pc2 := 75) hk rfl rfl rfl rfl rfl ?_
    obtain ⟨ho, H⟩ := H
    refine g_call hk rfl rfl i_k227.1 ⟨rfl, rfl⟩ rfl (i_rcv_v ho rfl (by decide)) rfl ?_
    exact H.mono (fun v h2 q => by obtain ⟨r, rfl, q⟩ := q; exact q)
  · have H := H.2 hc
    refine g_s1 (pc2 := 61) hk rfl rfl rfl rfl rfl ?_
    refine g_s1 (pc2 := 62) (st2 := [.int (3 : Int32), .ref x0]) hk rfl rfl rfl rfl rfl ?_
    obtain ⟨ho, H⟩ := H
    refine g_call hk rfl rfl i_k221.1 ⟨rfl, rfl⟩ rfl (i_rcv_v ho rfl (by decide)) rfl ?_
    exact H.mono (fun v h2 q => by obtain ⟨r, rfl, q⟩ := q; exact q)
theorem b238_65 {x0 : Nat} {x1 : Int32} {x2 : Int32} {x3 : Option Value} {s0 : Int32} {h : iH} {Q : Option Value → iH → Prop} (H : (i_ret (some .boolean) s0 = true ∧ Q (some (.int s0)) h)) : i_P i_MT i_AT L xs 238 65 [some (.ref x0), some (.int x1), some (.int x2), x3] [.int s0] h 0 0 Q := by
  have hk := i_k238
  exact g_ireturn hk rfl (by decide) (by decide) H.1 H.2
theorem b238_78 {x0 : Nat} {x1 : Int32} {x2 : Int32} {x3 : Option Value} {s0 : Nat} {s1 : Int32} {s2 : Int64} {h : iH} {Q : Option Value → iH → Prop} (H : (∃ (n1 : Nat) (f2 : Nat → Int64), i_arJ h s0 = some (n1, f2) ∧ ¬ (s1 < 0 ∨ n1 ≤ s1.toNatClampNeg) ∧ i_P i_MT i_AT L xs 238 79 [some (.ref x0), some (.int x1), some (.int x2), x3] [] (i_siJ h s0 s1.toNatClampNeg s2) 0 0 Q)) : i_P i_MT i_AT L xs 238 78 [some (.ref x0), some (.int x1), some (.int x2), x3] [.long s2, .int s1, .ref s0] h 0 0 Q := by
  have hk := i_k238
  obtain ⟨n1, f2, ef2, hi, H⟩ := H
  refine g_step (pc2 := 79) hk rfl rfl rfl (s_lput ef2 hi) ?_
  exact H
theorem b238_79 {x0 : Nat} {x1 : Int32} {x2 : Int32} {x3 : Option Value} {h : iH} {Q : Option Value → iH → Prop} (H : (i_obj? h x0 12 ∧ i_C i_MT i_AT L xs 218 [.ref x0] h (fun v h1 => v = none ∧ i_P i_MT i_AT L xs 238 83 [some (.ref x0), some (.int x1), some (.int x2), x3] [] h1 0 0 Q))) : i_P i_MT i_AT L xs 238 79 [some (.ref x0), some (.int x1), some (.int x2), x3] [] h 0 0 Q := by
  have hk := i_k238
  refine g_s1 (pc2 := 80) hk rfl rfl rfl rfl rfl ?_
  obtain ⟨ho, H⟩ := H
  refine g_call hk rfl rfl i_k218.1 ⟨rfl, rfl⟩ rfl (i_rcv_v ho rfl (by decide)) rfl ?_
  exact H.mono (fun v h2 q => by obtain ⟨rfl, q⟩ := q; exact q)
theorem b238_83 {x0 : Nat} {x1 : Int32} {x2 : Int32} {x3 : Option Value} {h : iH} {Q : Option Value → iH → Prop} (H : (i_obj? h x0 12 ∧ i_C i_MT i_AT L xs 224 [.ref x0, .retAddr 7, .int (20 : Int32)] h (fun v h1 => ∃ r2 : Int32, v = some (.int r2) ∧ i_P i_MT i_AT L xs 238 91 [some (.ref x0), some (.int x1), some (.int x2), x3] [.int r2] h1 0 0 Q))) : i_P i_MT i_AT L xs 238 83 [some (.ref x0), some (.int x1), some (.int x2), x3] [] h 0 0 Q := by
  have hk := i_k238
  refine g_s1 (pc2 := 84) hk rfl rfl rfl rfl rfl ?_
  refine g_step (pc2 := 86) (st2 := [.retAddr 7, .ref x0]) hk rfl rfl rfl rfl ?_
  refine g_s1 (pc2 := 88) (st2 := [.int (20 : Int32), .retAddr 7, .ref x0]) hk rfl rfl rfl rfl rfl ?_
  obtain ⟨ho, H⟩ := H
  refine g_call hk rfl rfl i_k224.1 ⟨rfl, rfl⟩ rfl (i_rcv_v ho rfl (by decide)) rfl ?_
  exact H.mono (fun v h2 q => by obtain ⟨r, rfl, q⟩ := q; exact q)
theorem b238_91 {x0 : Nat} {x1 : Int32} {x2 : Int32} {x3 : Option Value} {s0 : Int32} {h : iH} {Q : Option Value → iH → Prop} (H : ((s0 = 0 → i_P i_MT i_AT L xs 238 101 [some (.ref x0), some (.int x1), some (.int x2), x3] [] h 0 0 Q) ∧ (¬ (s0 = 0) → (i_obj? h x0 12 ∧ i_C i_MT i_AT L xs 231 [.ref x0] h (fun v h1 => ∃ r2 : Int32, v = some (.int r2) ∧ i_P i_MT i_AT L xs 238 98 [some (.ref x0), some (.int x1), some (.int x2), x3] [.int r2] h1 0 0 Q))))) : i_P i_MT i_AT L xs 238 91 [some (.ref x0), some (.int x1), some (.int x2), x3] [.int s0] h 0 0 Q := by
  have hk := i_k238
  refine g_if_eq hk rfl (fun hc => ?_) (fun hc => ?_)
  · have H := H.1 hc
    exact H
  · have H := H.2 hc
    refine g_s1 (pc2 := 95) hk rfl rfl rfl rfl rfl ?_
    obtain ⟨ho, H⟩ := H
    refine g_call hk rfl rfl i_k231.1 ⟨rfl, rfl⟩ rfl (i_rcv_v ho rfl (by decide)) rfl ?_
    exact H.mono (fun v h2 q => by obtain ⟨r, rfl, q⟩ := q; exact q)
theorem b238_98 {x0 : Nat} {x1 : Int32} {x2 : Int32} {x3 : Option Value} {s0 : Int32} {h : iH} {Q : Option Value → iH → Prop} (H : ((¬ s0 = 0 → (∃ v1 : Nat, i_fld h x0 12 0 = some (.ref v1) ∧ (∃ v2 : Int32, i_fld h x0 12 22 = some (.int v2) ∧ (∃ (n3 : Nat) (f4 : Nat → Int32), i_arI h 0 v1 = some (n3, f4) ∧ ¬ (((2730 : Int32) + v2) < 0 ∨ n3 ≤ ((2730 : Int32) + v2).toNatClampNeg) ∧ ((¬ (f4 ((2730 : Int32) + v2).toNatClampNeg) = (1 : Int32) → (∃ v5 : Nat, i_fld h x0 12 0 = some (.ref v5) ∧ (∃ v6 : Int32, i_fld h x0 12 22 = some (.int v6) ∧ (∃ (n7 : Nat) (f8 : Nat → Int32), i_arI h 0 v5 = some (n7, f8) ∧ ¬ (x2 < 0 ∨ n7 ≤ x2.toNatClampNeg) ∧ i_P i_MT i_AT L xs 238 136 [some (.ref x0), some (.int x1), some (.int x2), x3] [] (i_siI h v5 x2.toNatClampNeg v6) 0 0 Q)))) ∧ (¬ (¬ (f4 ((2730 : Int32) + v2).toNatClampNeg) = (1 : Int32)) → (i_obj? h x0 12 ∧ i_C i_MT i_AT L xs 221 [.ref x0, .int (5 : Int32)] h (fun v h9 => ∃ r10 : Int32, v = some (.int r10) ∧ i_P i_MT i_AT L xs 238 125 [some (.ref x0), some (.int x1), some (.int x2), x3] [.int r10] h9 0 0 Q)))))))) ∧ (¬ (¬ s0 = 0) → i_P i_MT i_AT L xs 238 101 [some (.ref x0), some (.int x1), some (.int x2), x3] [] h 0 0 Q))) : i_P i_MT i_AT L xs 238 98 [some (.ref x0), some (.int x1), some (.int x2), x3] [.int s0] h 0 0 Q := by
  have hk := i_k238
  refine g_if_ne hk rfl (fun hc => ?_) (fun hc => ?_)
  · have H := H.1 hc
    refine g_s1 (pc2 := 104) hk rfl rfl rfl rfl rfl ?_
    obtain ⟨v1, ev1, H⟩ := H
    refine g_step (pc2 := 107) hk rfl rfl rfl (s_get ev1) ?_
    refine g_s1 (pc2 := 110) (st2 := [.int (2730 : Int32), .ref v1]) hk rfl rfl rfl rfl rfl ?_
    refine g_s1 (pc2 := 111) hk rfl rfl rfl rfl rfl ?_
    obtain ⟨v2, ev2, H⟩ := H
    refine g_step (pc2 := 114) hk rfl rfl rfl (s_get ev2) ?_
    refine g_s1 (pc2 := 115) hk rfl rfl rfl rfl rfl ?_
    obtain ⟨n3, f4, ef4, hi, H⟩ := H
    refine g_step (pc2 := 116) hk rfl rfl rfl (s_aget (L := L) (xs := xs) ef4 hi) ?_
    refine g_s1 (pc2 := 117) (st2 := [.int (1 : Int32), .int (f4 ((2730 : Int32) + v2).toNatClampNeg)]) hk rfl rfl rfl rfl rfl ?_
    refine g_icmp_ne hk rfl (fun hc => ?_) (fun hc => ?_)
    · have H := H.1 hc
      refine g_s1 (pc2 := 127) hk rfl rfl rfl rfl rfl ?_
      obtain ⟨v5, ev5, H⟩ := H
      refine g_step (pc2 := 130) hk rfl rfl rfl (s_get ev5) ?_
      refine g_s1 (pc2 := 131) hk rfl rfl rfl rfl rfl ?_
      refine g_s1 (pc2 := 132) hk rfl rfl rfl rfl rfl ?_
      obtain ⟨v6, ev6, H⟩ := H
      refine g_step (pc2 := 135) hk rfl rfl rfl (s_get ev6) ?_
      obtain ⟨n7, f8, ef8, hi, H⟩ := H
      refine g_step (pc2 := 136) hk rfl rfl rfl (s_aput ef8 hi) ?_
      exact H
    · have H := H.2 hc
      refine g_s1 (pc2 := 121) hk rfl rfl rfl rfl rfl ?_
      refine g_s1 (pc2 := 122) (st2 := [.int (5 : Int32), .ref x0]) hk rfl rfl rfl rfl rfl ?_
      obtain ⟨ho, H⟩ := H
      refine g_call hk rfl rfl i_k221.1 ⟨rfl, rfl⟩ rfl (i_rcv_v ho rfl (by decide)) rfl ?_
      exact H.mono (fun v h2 q => by obtain ⟨r, rfl, q⟩ := q; exact q)
  · have H := H.2 hc
    exact H
theorem b238_101 {x0 : Nat} {x1 : Int32} {x2 : Int32} {x3 : Option Value} {h : iH} {Q : Option Value → iH → Prop} (H : Q (some (.int 0)) h) : i_P i_MT i_AT L xs 238 101 [some (.ref x0), some (.int x1), some (.int x2), x3] [] h 0 0 Q := by
  have hk := i_k238
  refine g_s1 (pc2 := 102) (st2 := [.int (0 : Int32)]) hk rfl rfl rfl rfl rfl ?_
  exact g_ireturn hk rfl (by decide) (by decide) rfl H
theorem b238_125 {x0 : Nat} {x1 : Int32} {x2 : Int32} {x3 : Option Value} {s0 : Int32} {h : iH} {Q : Option Value → iH → Prop} (H : (i_ret (some .boolean) s0 = true ∧ Q (some (.int s0)) h)) : i_P i_MT i_AT L xs 238 125 [some (.ref x0), some (.int x1), some (.int x2), x3] [.int s0] h 0 0 Q := by
  have hk := i_k238
  exact g_ireturn hk rfl (by decide) (by decide) H.1 H.2
theorem b238_136 {x0 : Nat} {x1 : Int32} {x2 : Int32} {x3 : Option Value} {h : iH} {Q : Option Value → iH → Prop} (H : (i_obj? h x0 12 ∧ i_C i_MT i_AT L xs 218 [.ref x0] h (fun v h1 => v = none ∧ i_P i_MT i_AT L xs 238 140 [some (.ref x0), some (.int x1), some (.int x2), x3] [] h1 0 0 Q))) : i_P i_MT i_AT L xs 238 136 [some (.ref x0), some (.int x1), some (.int x2), x3] [] h 0 0 Q := by
  have hk := i_k238
  refine g_s1 (pc2 := 137) hk rfl rfl rfl rfl rfl ?_
  obtain ⟨ho, H⟩ := H
  refine g_call hk rfl rfl i_k218.1 ⟨rfl, rfl⟩ rfl (i_rcv_v ho rfl (by decide)) rfl ?_
  exact H.mono (fun v h2 q => by obtain ⟨rfl, q⟩ := q; exact q)
theorem b238_140 {x0 : Nat} {x1 : Int32} {x2 : Int32} {x3 : Option Value} {h : iH} {Q : Option Value → iH → Prop} (H : (i_obj? h x0 12 ∧ i_C i_MT i_AT L xs 224 [.ref x0, .retAddr 7, .int (21 : Int32)] h (fun v h1 => ∃ r2 : Int32, v = some (.int r2) ∧ i_P i_MT i_AT L xs 238 148 [some (.ref x0), some (.int x1), some (.int x2), x3] [.int r2] h1 0 0 Q))) : i_P i_MT i_AT L xs 238 140 [some (.ref x0), some (.int x1), some (.int x2), x3] [] h 0 0 Q := by
  have hk := i_k238
  refine g_s1 (pc2 := 141) hk rfl rfl rfl rfl rfl ?_
  refine g_step (pc2 := 143) (st2 := [.retAddr 7, .ref x0]) hk rfl rfl rfl rfl ?_
  refine g_s1 (pc2 := 145) (st2 := [.int (21 : Int32), .retAddr 7, .ref x0]) hk rfl rfl rfl rfl rfl ?_
  obtain ⟨ho, H⟩ := H
  refine g_call hk rfl rfl i_k224.1 ⟨rfl, rfl⟩ rfl (i_rcv_v ho rfl (by decide)) rfl ?_
  exact H.mono (fun v h2 q => by obtain ⟨r, rfl, q⟩ := q; exact q)
theorem b238_148 {x0 : Nat} {x1 : Int32} {x2 : Int32} {x3 : Option Value} {s0 : Int32} {h : iH} {Q : Option Value → iH → Prop} (H : ((¬ s0 = 0 → (i_obj? h x0 12 ∧ i_C i_MT i_AT L xs 220 [.ref x0, .retAddr 7] h (fun v h1 => ∃ r2 : Int32, v = some (.int r2) ∧ i_P i_MT i_AT L xs 238 159 [some (.ref x0), some (.int x1), some (.int x2), x3] [.int r2] h1 0 0 Q))) ∧ (¬ (¬ s0 = 0) → Q (some (.int 0)) h))) : i_P i_MT i_AT L xs 238 148 [some (.ref x0), some (.int x1), some (.int x2), x3] [.int s0] h 0 0 Q := by
  have hk := i_k238
  refine g_if_ne hk rfl (fun hc => ?_) (fun hc => ?_)
  · have H := H.1 hc
    refine g_s1 (pc2 := 154) hk rfl rfl rfl rfl rfl ?_
    refine g_step (pc2 := 156) (st2 := [.retAddr 7, .ref x0]) hk rfl rfl rfl rfl ?_
    obtain ⟨ho, H⟩ := H
    refine g_call hk rfl rfl i_k220.1 ⟨rfl, rfl⟩ rfl (i_rcv_v ho rfl (by decide)) rfl ?_
    exact H.mono (fun v h2 q => by obtain ⟨r, rfl, q⟩ := q; exact q)
  · have H := H.2 hc
    refine g_s1 (pc2 := 152) (st2 := [.int (0 : Int32)]) hk rfl rfl rfl rfl rfl ?_
    exact g_ireturn hk rfl (by decide) (by decide) rfl H
theorem b238_159 {x0 : Nat} {x1 : Int32} {x2 : Int32} {x3 : Option Value} {s0 : Int32} {h : iH} {Q : Option Value → iH → Prop} (H : ((s0 < 0 → i_P i_MT i_AT L xs 238 170 [some (.ref x0), some (.int x1), some (.int x2), some (.int s0)] [] h 0 0 Q) ∧ (¬ (s0 < 0) → ((s0 ≤ (7 : Int32) → (∃ v1 : Nat, i_fld h x0 12 0 = some (.ref v1) ∧ (∃ (n2 : Nat) (f3 : Nat → Int32), i_arI h 0 v1 = some (n2, f3) ∧ ¬ ((x2 + (1 : Int32)) < 0 ∨ n2 ≤ (x2 + (1 : Int32)).toNatClampNeg) ∧ i_P i_MT i_AT L xs 238 185 [some (.ref x0), some (.int x1), some (.int x2), some (.int s0)] [] (i_siI h v1 (x2 + (1 : Int32)).toNatClampNeg s0) 0 0 Q))) ∧ (¬ (s0 ≤ (7 : Int32)) → i_P i_MT i_AT L xs 238 170 [some (.ref x0), some (.int x1), some (.int x2), some (.int s0)] [] h 0 0 Q))))) : i_P i_MT i_AT L xs 238 159 [some (.ref x0), some (.int x1), some (.int x2), x3] [.int s0] h 0 0 Q := by
  have hk := i_k238
  refine g_s1 (pc2 := 160) (lo2 := [some (.ref x0), some (.int x1), some (.int x2), some (.int s0)]) hk rfl rfl rfl rfl rfl ?_
  refine g_s1 (pc2 := 161) hk rfl rfl rfl rfl rfl ?_
  refine g_if_lt hk rfl (fun hc => ?_) (fun hc => ?_)
  · have H := H.1 hc
    exact H
  · have H := H.2 hc
    refine g_s1 (pc2 := 165) hk rfl rfl rfl rfl rfl ?_
    refine g_s1 (pc2 := 167) (st2 := [.int (7 : Int32), .int s0]) hk rfl rfl rfl rfl rfl ?_
    refine g_icmp_le hk rfl (fun hc => ?_) (fun hc => ?_)
    · have H := H.1 hc
      refine g_s1 (pc2 := 177) hk rfl rfl rfl rfl rfl ?_
      obtain ⟨v1, ev1, H⟩ := H
      refine g_step (pc2 := 180) hk rfl rfl rfl (s_get ev1) ?_
      refine g_s1 (pc2 := 181) hk rfl rfl rfl rfl rfl ?_
      refine g_s1 (pc2 := 182) (st2 := [.int (1 : Int32), .int x2, .ref v1]) hk rfl rfl rfl rfl rfl ?_
      refine g_s1 (pc2 := 183) hk rfl rfl rfl rfl rfl ?_
      refine g_s1 (pc2 := 184) hk rfl rfl rfl rfl rfl ?_
      obtain ⟨n2, f3, ef3, hi, H⟩ := H
      refine g_step (pc2 := 185) hk rfl rfl rfl (s_aput ef3 hi) ?_
      exact H
    · have H := H.2 hc
      exact H
theorem b238_170 {x0 : Nat} {x1 : Int32} {x2 : Int32} {x3 : Int32} {h : iH} {Q : Option Value → iH → Prop} (H : (i_obj? h x0 12 ∧ i_C i_MT i_AT L xs 221 [.ref x0, .int (2 : Int32)] h (fun v h1 => ∃ r2 : Int32, v = some (.int r2) ∧ i_P i_MT i_AT L xs 238 175 [some (.ref x0), some (.int x1), some (.int x2), some (.int x3)] [.int r2] h1 0 0 Q))) : i_P i_MT i_AT L xs 238 170 [some (.ref x0), some (.int x1), some (.int x2), some (.int x3)] [] h 0 0 Q := by
  have hk := i_k238
  refine g_s1 (pc2 := 171) hk rfl rfl rfl rfl rfl ?_
  refine g_s1 (pc2 := 172) (st2 := [.int (2 : Int32), .ref x0]) hk rfl rfl rfl rfl rfl ?_
  obtain ⟨ho, H⟩ := H
  refine g_call hk rfl rfl i_k221.1 ⟨rfl, rfl⟩ rfl (i_rcv_v ho rfl (by decide)) rfl ?_
  exact H.mono (fun v h2 q => by obtain ⟨r, rfl, q⟩ := q; exact q)
theorem b238_175 {x0 : Nat} {x1 : Int32} {x2 : Int32} {x3 : Int32} {s0 : Int32} {h : iH} {Q : Option Value → iH → Prop} (H : (i_ret (some .boolean) s0 = true ∧ Q (some (.int s0)) h)) : i_P i_MT i_AT L xs 238 175 [some (.ref x0), some (.int x1), some (.int x2), some (.int x3)] [.int s0] h 0 0 Q := by
  have hk := i_k238
  exact g_ireturn hk rfl (by decide) (by decide) H.1 H.2
theorem b238_185 {x0 : Nat} {x1 : Int32} {x2 : Int32} {x3 : Int32} {h : iH} {Q : Option Value → iH → Prop} (H : (i_obj? h x0 12 ∧ i_C i_MT i_AT L xs 218 [.ref x0] h (fun v h1 => v = none ∧ i_P i_MT i_AT L xs 238 189 [some (.ref x0), some (.int x1), some (.int x2), some (.int x3)] [] h1 0 0 Q))) : i_P i_MT i_AT L xs 238 185 [some (.ref x0), some (.int x1), some (.int x2), some (.int x3)] [] h 0 0 Q := by
  have hk := i_k238
  refine g_s1 (pc2 := 186) hk rfl rfl rfl rfl rfl ?_
  obtain ⟨ho, H⟩ := H
  refine g_call hk rfl rfl i_k218.1 ⟨rfl, rfl⟩ rfl (i_rcv_v ho rfl (by decide)) rfl ?_
  exact H.mono (fun v h2 q => by obtain ⟨rfl, q⟩ := q; exact q)
theorem b238_189 {x0 : Nat} {x1 : Int32} {x2 : Int32} {x3 : Int32} {h : iH} {Q : Option Value → iH → Prop} (H : (i_obj? h x0 12 ∧ i_C i_MT i_AT L xs 224 [.ref x0, .retAddr 7, .int (22 : Int32)] h (fun v h1 => ∃ r2 : Int32, v = some (.int r2) ∧ i_P i_MT i_AT L xs 238 197 [some (.ref x0), some (.int x1), some (.int x2), some (.int x3)] [.int r2] h1 0 0 Q))) : i_P i_MT i_AT L xs 238 189 [some (.ref x0), some (.int x1), some (.int x2), some (.int x3)] [] h 0 0 Q := by
  have hk := i_k238
  refine g_s1 (pc2 := 190) hk rfl rfl rfl rfl rfl ?_
  refine g_step (pc2 := 192) (st2 := [.retAddr 7, .ref x0]) hk rfl rfl rfl rfl ?_
  refine g_s1 (pc2 := 194) (st2 := [.int (22 : Int32), .retAddr 7, .ref x0]) hk rfl rfl rfl rfl rfl ?_
  obtain ⟨ho, H⟩ := H
  refine g_call hk rfl rfl i_k224.1 ⟨rfl, rfl⟩ rfl (i_rcv_v ho rfl (by decide)) rfl ?_
  exact H.mono (fun v h2 q => by obtain ⟨r, rfl, q⟩ := q; exact q)
theorem b238_197 {x0 : Nat} {x1 : Int32} {x2 : Int32} {x3 : Int32} {s0 : Int32} {h : iH} {Q : Option Value → iH → Prop} (H : ((s0 = 0 → i_P i_MT i_AT L xs 238 213 [some (.ref x0), some (.int x1), some (.int x2), some (.int x3)] [] h 0 0 Q) ∧ (¬ (s0 = 0) → (i_obj? h x0 12 ∧ i_C i_MT i_AT L xs 225 [.ref x0, .int (x2 + (2 : Int32)), .int (1 : Int32), .int (9 : Int32)] h (fun v h1 => ∃ r2 : Int32, v = some (.int r2) ∧ i_P i_MT i_AT L xs 238 210 [some (.ref x0), some (.int x1), some (.int x2), some (.int x3)] [.int r2] h1 0 0 Q))))) : i_P i_MT i_AT L xs 238 197 [some (.ref x0), some (.int x1), some (.int x2), some (.int x3)] [.int s0] h 0 0 Q := by
  have hk := i_k238
  refine g_if_eq hk rfl (fun hc => ?_) (fun hc => ?_)
  · have H := H.1 hc
    exact H
  · have H := H.2 hc
    refine g_s1 (pc2 := 201) hk rfl rfl rfl rfl rfl ?_
    refine g_s1 (pc2 := 202) hk rfl rfl rfl rfl rfl ?_
    refine g_s1 (pc2 := 203) (st2 := [.int (2 : Int32), .int x2, .ref x0]) hk rfl rfl rfl rfl rfl ?_
    refine g_s1 (pc2 := 204) hk rfl rfl rfl rfl rfl ?_
    refine g_s1 (pc2 := 205) (st2 := [.int (1 : Int32), .int (x2 + (2 : Int32)), .ref x0]) hk rfl rfl rfl rfl rfl ?_
    refine g_s1 (pc2 := 207) (st2 := [.int (9 : Int32), .int (1 : Int32), .int (x2 + (2 : Int32)), .ref x0]) hk rfl rfl rfl rfl rfl ?_
    obtain ⟨ho, H⟩ := H
    refine g_call hk rfl rfl i_k225.1 ⟨rfl, rfl⟩ rfl (i_rcv_v ho rfl (by decide)) rfl ?_
    exact H.mono (fun v h2 q => by obtain ⟨r, rfl, q⟩ := q; exact q)
theorem b238_210 {x0 : Nat} {x1 : Int32} {x2 : Int32} {x3 : Int32} {s0 : Int32} {h : iH} {Q : Option Value → iH → Prop} (H : ((¬ s0 = 0 → (∃ v1 : Nat, i_fld h x0 12 0 = some (.ref v1) ∧ (∃ (n2 : Nat) (f3 : Nat → Int32), i_arI h 0 v1 = some (n2, f3) ∧ ¬ ((2725 : Int32) < 0 ∨ n2 ≤ (2725 : Int32).toNatClampNeg) ∧ (∃ (n4 : Nat) (f5 : Nat → Int32), i_arI h 0 v1 = some (n4, f5) ∧ ¬ ((2725 : Int32) < 0 ∨ n4 ≤ (2725 : Int32).toNatClampNeg) ∧ i_P i_MT i_AT L xs 238 227 [some (.ref x0), some (.int x1), some (.int x2), some (.int x3)] [] (i_siI h v1 (2725 : Int32).toNatClampNeg ((f3 (2725 : Int32).toNatClampNeg) + (1 : Int32))) 0 0 Q)))) ∧ (¬ (¬ s0 = 0) → i_P i_MT i_AT L xs 238 213 [some (.ref x0), some (.int x1), some (.int x2), some (.int x3)] [] h 0 0 Q))) : i_P i_MT i_AT L xs 238 210 [some (.ref x0), some (.int x1), some (.int x2), some (.int x3)] [.int s0] h 0 0 Q := by
  have hk := i_k238
  refine g_if_ne hk rfl (fun hc => ?_) (fun hc => ?_)
  · have H := H.1 hc
    refine g_s1 (pc2 := 216) hk rfl rfl rfl rfl rfl ?_
    obtain ⟨v1, ev1, H⟩ := H
    refine g_step (pc2 := 219) hk rfl rfl rfl (s_get ev1) ?_
    refine g_s1 (pc2 := 222) (st2 := [.int (2725 : Int32), .ref v1]) hk rfl rfl rfl rfl rfl ?_
    refine g_s1 (pc2 := 223) hk rfl rfl rfl rfl rfl ?_
    obtain ⟨n2, f3, ef3, hi, H⟩ := H
    refine g_step (pc2 := 224) hk rfl rfl rfl (s_aget (L := L) (xs := xs) ef3 hi) ?_
    refine g_s1 (pc2 := 225) (st2 := [.int (1 : Int32), .int (f3 (2725 : Int32).toNatClampNeg), .int (2725 : Int32), .ref v1]) hk rfl rfl rfl rfl rfl ?_
    refine g_s1 (pc2 := 226) hk rfl rfl rfl rfl rfl ?_
    obtain ⟨n4, f5, ef5, hi, H⟩ := H
    refine g_step (pc2 := 227) hk rfl rfl rfl (s_aput ef5 hi) ?_
    exact H
  · have H := H.2 hc
    exact H
theorem b238_213 {x0 : Nat} {x1 : Int32} {x2 : Int32} {x3 : Int32} {h : iH} {Q : Option Value → iH → Prop} (H : Q (some (.int 0)) h) : i_P i_MT i_AT L xs 238 213 [some (.ref x0), some (.int x1), some (.int x2), some (.int x3)] [] h 0 0 Q := by
  have hk := i_k238
  refine g_s1 (pc2 := 214) (st2 := [.int (0 : Int32)]) hk rfl rfl rfl rfl rfl ?_
  exact g_ireturn hk rfl (by decide) (by decide) rfl H
theorem b238_227 {x0 : Nat} {x1 : Int32} {x2 : Int32} {x3 : Int32} {h : iH} {Q : Option Value → iH → Prop} (H : Q (some (.int 1)) h) : i_P i_MT i_AT L xs 238 227 [some (.ref x0), some (.int x1), some (.int x2), some (.int x3)] [] h 0 0 Q := by
  have hk := i_k238
  refine g_s1 (pc2 := 228) (st2 := [.int (1 : Int32)]) hk rfl rfl rfl rfl rfl ?_
  exact g_ireturn hk rfl (by decide) (by decide) rfl H
/-! StillTownModel.whoHere(II)I -/
theorem e239 {x0 : Nat} {x1 : Int32} {x2 : Int32} {h : iH} {Q : Option Value → iH → Prop} (H : i_P i_MT i_AT L xs 239 0 [some (.ref x0), some (.int x1), some (.int x2), none] [] h 0 0 Q) : i_C i_MT i_AT L xs 239 [.ref x0, .int x1, .int x2] h Q := ⟨i_m239, i_k239.1, Nat.le_of_ble_eq_true rfl, H⟩
theorem b239_0 {x0 : Nat} {x1 : Int32} {x2 : Int32} {x3 : Option Value} {h : iH} {Q : Option Value → iH → Prop} (H : (i_obj? h x0 12 ∧ i_C i_MT i_AT L xs 226 [.ref x0, .retAddr 7] h (fun v h1 => ∃ r2 : Int32, v = some (.int r2) ∧ i_P i_MT i_AT L xs 239 6 [some (.ref x0), some (.int x1), some (.int x2), x3] [.int r2] h1 0 0 Q))) : i_P i_MT i_AT L xs 239 0 [some (.ref x0), some (.int x1), some (.int x2), x3] [] h 0 0 Q := by
  have hk := i_k239
  refine g_s1 (pc2 := 1) hk rfl rfl rfl rfl rfl ?_
  refine g_step (pc2 := 3) (st2 := [.retAddr 7, .ref x0]) hk rfl rfl rfl rfl ?_
  obtain ⟨ho, H⟩ := H
  refine g_call hk rfl rfl i_k226.1 ⟨rfl, rfl⟩ rfl (i_rcv_v ho rfl (by decide)) rfl ?_
  exact H.mono (fun v h2 q => by obtain ⟨r, rfl, q⟩ := q; exact q)
theorem b239_6 {x0 : Nat} {x1 : Int32} {x2 : Int32} {x3 : Option Value} {s0 : Int32} {h : iH} {Q : Option Value → iH → Prop} (H : ((¬ s0 = 0 → (i_obj? h x0 12 ∧ i_C i_MT i_AT L xs 228 [.ref x0, .int x1, .int x2] h (fun v h1 => ∃ r2 : Int32, v = some (.int r2) ∧ i_P i_MT i_AT L xs 239 23 [some (.ref x0), some (.int x1), some (.int x2), x3] [.int r2] h1 0 0 Q))) ∧ (¬ (¬ s0 = 0) → (i_obj? h x0 12 ∧ i_C i_MT i_AT L xs 221 [.ref x0, .int (2 : Int32)] h (fun v h3 => ∃ r4 : Int32, v = some (.int r4) ∧ i_P i_MT i_AT L xs 239 14 [some (.ref x0), some (.int x1), some (.int x2), x3] [.int r4] h3 0 0 Q))))) : i_P i_MT i_AT L xs 239 6 [some (.ref x0), some (.int x1), some (.int x2), x3] [.int s0] h 0 0 Q := by
  have hk := i_k239
  refine g_if_ne hk rfl (fun hc => ?_) (fun hc => ?_)
  · have H := H.1 hc
    refine g_s1 (pc2 := 18) hk rfl rfl rfl rfl rfl ?_
    refine g_s1 (pc2 := 19) hk rfl rfl rfl rfl rfl ?_
    refine g_s1 (pc2 := 20) hk rfl rfl rfl rfl rfl ?_
    obtain ⟨ho, H⟩ := H
    refine g_call hk rfl rfl i_k228.1 ⟨rfl, rfl⟩ rfl (i_rcv_v ho rfl (by decide)) rfl ?_
    exact H.mono (fun v h2 q => by obtain ⟨r, rfl, q⟩ := q; exact q)
  · have H := H.2 hc
    refine g_s1 (pc2 := 10) hk rfl rfl rfl rfl rfl ?_
    refine g_s1 (pc2 := 11) (st2 := [.int (2 : Int32), .ref x0]) hk rfl rfl rfl rfl rfl ?_
    obtain ⟨ho, H⟩ := H
    refine g_call hk rfl rfl i_k221.1 ⟨rfl, rfl⟩ rfl (i_rcv_v ho rfl (by decide)) rfl ?_
    exact H.mono (fun v h2 q => by obtain ⟨r, rfl, q⟩ := q; exact q)
theorem b239_14 {x0 : Nat} {x1 : Int32} {x2 : Int32} {x3 : Option Value} {s0 : Int32} {h : iH} {Q : Option Value → iH → Prop} (H : Q (some (.int (-1 : Int32))) h) : i_P i_MT i_AT L xs 239 14 [some (.ref x0), some (.int x1), some (.int x2), x3] [.int s0] h 0 0 Q := by
  have hk := i_k239
  refine g_s1 (pc2 := 15) hk rfl rfl rfl rfl rfl ?_
  refine g_s1 (pc2 := 16) (st2 := [.int (-1 : Int32)]) hk rfl rfl rfl rfl rfl ?_
  exact g_ireturn hk rfl (by decide) (by decide) rfl H
theorem b239_23 {x0 : Nat} {x1 : Int32} {x2 : Int32} {x3 : Option Value} {s0 : Int32} {h : iH} {Q : Option Value → iH → Prop} (H : ((¬ s0 = (-1 : Int32) → i_P i_MT i_AT L xs 239 35 [some (.ref x0), some (.int x1), some (.int x2), some (.int s0)] [] h 0 0 Q) ∧ (¬ (¬ s0 = (-1 : Int32)) → (i_obj? h x0 12 ∧ i_C i_MT i_AT L xs 221 [.ref x0, .int (3 : Int32)] h (fun v h1 => ∃ r2 : Int32, v = some (.int r2) ∧ i_P i_MT i_AT L xs 239 34 [some (.ref x0), some (.int x1), some (.int x2), some (.int s0)] [.int r2] h1 0 0 Q))))) : i_P i_MT i_AT L xs 239 23 [some (.ref x0), some (.int x1), some (.int x2), x3] [.int s0] h 0 0 Q := by
  have hk := i_k239
  refine g_s1 (pc2 := 24) (lo2 := [some (.ref x0), some (.int x1), some (.int x2), some (.int s0)]) hk rfl rfl rfl rfl rfl ?_
  refine g_s1 (pc2 := 25) hk rfl rfl rfl rfl rfl ?_
  refine g_s1 (pc2 := 26) (st2 := [.int (-1 : Int32), .int s0]) hk rfl rfl rfl rfl rfl ?_
  refine g_icmp_ne hk rfl (fun hc => ?_) (fun hc => ?_)
  · have H := H.1 hc
    exact H
  · have H := H.2 hc
    refine g_s1 (pc2 := 30) hk rfl rfl rfl rfl rfl ?_
    refine g_s1 (pc2 := 31) (st2 := [.int (3 : Int32), .ref x0]) hk rfl rfl rfl rfl rfl ?_
    obtain ⟨ho, H⟩ := H
    refine g_call hk rfl rfl i_k221.1 ⟨rfl, rfl⟩ rfl (i_rcv_v ho rfl (by decide)) rfl ?_
    exact H.mono (fun v h2 q => by obtain ⟨r, rfl, q⟩ := q; exact q)
theorem b239_34 {x0 : Nat} {x1 : Int32} {x2 : Int32} {x3 : Int32} {s0 : Int32} {h : iH} {Q : Option Value → iH → Prop} (H : i_P i_MT i_AT L xs 239 35 [some (.ref x0), some (.int x1), some (.int x2), some (.int x3)] [] h 0 0 Q) : i_P i_MT i_AT L xs 239 34 [some (.ref x0), some (.int x1), some (.int x2), some (.int x3)] [.int s0] h 0 0 Q := by
  have hk := i_k239
  refine g_s1 (pc2 := 35) hk rfl rfl rfl rfl rfl ?_
  exact H
theorem b239_35 {x0 : Nat} {x1 : Int32} {x2 : Int32} {x3 : Int32} {h : iH} {Q : Option Value → iH → Prop} (H : Q (some (.int x3)) h) : i_P i_MT i_AT L xs 239 35 [some (.ref x0), some (.int x1), some (.int x2), some (.int x3)] [] h 0 0 Q := by
  have hk := i_k239
  refine g_s1 (pc2 := 36) hk rfl rfl rfl rfl rfl ?_
  exact g_ireturn hk rfl (by decide) (by decide) rfl H
/-! StillTownModel.aTie(Z)Z -/
theorem e240 {x0 : Nat} {x1 : Int32} {h : iH} {Q : Option Value → iH → Prop} (H : i_P i_MT i_AT L xs 240 0 [some (.ref x0), some (.int x1), none, none] [] h 0 0 Q) : i_C i_MT i_AT L xs 240 [.ref x0, .int x1] h Q := ⟨i_m240, i_k240.1, Nat.le_of_ble_eq_true rfl, H⟩
theorem b240_0 {x0 : Nat} {x1 : Int32} {x2 : Option Value} {x3 : Option Value} {h : iH} {Q : Option Value → iH → Prop} (H : (i_obj? h x0 12 ∧ i_C i_MT i_AT L xs 218 [.ref x0] h (fun v h1 => v = none ∧ i_P i_MT i_AT L xs 240 4 [some (.ref x0), some (.int x1), x2, x3] [] h1 0 0 Q))) : i_P i_MT i_AT L xs 240 0 [some (.ref x0), some (.int x1), x2, x3] [] h 0 0 Q := by
  have hk := i_k240
  refine g_s1 (pc2 := 1) hk rfl rfl rfl rfl rfl ?_
  obtain ⟨ho, H⟩ := H
  refine g_call hk rfl rfl i_k218.1 ⟨rfl, rfl⟩ rfl (i_rcv_v ho rfl (by decide)) rfl ?_
  exact H.mono (fun v h2 q => by obtain ⟨rfl, q⟩ := q; exact q)
theorem b240_4 {x0 : Nat} {x1 : Int32} {x2 : Option Value} {x3 : Option Value} {h : iH} {Q : Option Value → iH → Prop} (H : (∃ v1 : Nat, i_fld h x0 12 0 = some (.ref v1) ∧ (∃ (n2 : Nat) (f3 : Nat → Int32), i_arI h 0 v1 = some (n2, f3) ∧ ¬ ((2725 : Int32) < 0 ∨ n2 ≤ (2725 : Int32).toNatClampNeg) ∧ (i_obj? h x0 12 ∧ i_C i_MT i_AT L xs 239 [.ref x0, .int (32 : Int32), .int (f3 (2725 : Int32).toNatClampNeg)] h (fun v h4 => ∃ r5 : Int32, v = some (.int r5) ∧ i_P i_MT i_AT L xs 240 18 [some (.ref x0), some (.int x1), x2, x3] [.int r5] h4 0 0 Q))))) : i_P i_MT i_AT L xs 240 4 [some (.ref x0), some (.int x1), x2, x3] [] h 0 0 Q := by
  have hk := i_k240
  refine g_s1 (pc2 := 5) hk rfl rfl rfl rfl rfl ?_
  refine g_s1 (pc2 := 7) (st2 := [.int (32 : Int32), .ref x0]) hk rfl rfl rfl rfl rfl ?_
  refine g_s1 (pc2 := 8) hk rfl rfl rfl rfl rfl ?_
  obtain ⟨v1, ev1, H⟩ := H
  refine g_step (pc2 := 11) hk rfl rfl rfl (s_get ev1) ?_
  refine g_s1 (pc2 := 14) (st2 := [.int (2725 : Int32), .ref v1, .int (32 : Int32), .ref x0]) hk rfl rfl rfl rfl rfl ?_
  obtain ⟨n2, f3, ef3, hi, H⟩ := H
  refine g_step (pc2 := 15) hk rfl rfl rfl (s_aget (L := L) (xs := xs) ef3 hi) ?_
  obtain ⟨ho, H⟩ := H
  refine g_call hk rfl rfl i_k239.1 ⟨rfl, rfl⟩ rfl (i_rcv_v ho rfl (by decide)) rfl ?_
  exact H.mono (fun v h2 q => by obtain ⟨r, rfl, q⟩ := q; exact q)
theorem b240_18 {x0 : Nat} {x1 : Int32} {x2 : Option Value} {x3 : Option Value} {s0 : Int32} {h : iH} {Q : Option Value → iH → Prop} (H : ((¬ s0 = (-1 : Int32) → (i_obj? h x0 12 ∧ i_C i_MT i_AT L xs 218 [.ref x0] h (fun v h1 => v = none ∧ i_P i_MT i_AT L xs 240 30 [some (.ref x0), some (.int x1), some (.int s0), x3] [] h1 0 0 Q))) ∧ (¬ (¬ s0 = (-1 : Int32)) → Q (some (.int 0)) h))) : i_P i_MT i_AT L xs 240 18 [some (.ref x0), some (.int x1), x2, x3] [.int s0] h 0 0 Q := by
  have hk := i_k240
  refine g_s1 (pc2 := 19) (lo2 := [some (.ref x0), some (.int x1), some (.int s0), x3]) hk rfl rfl rfl rfl rfl ?_
  refine g_s1 (pc2 := 20) hk rfl rfl rfl rfl rfl ?_
  refine g_s1 (pc2 := 21) (st2 := [.int (-1 : Int32), .int s0]) hk rfl rfl rfl rfl rfl ?_
  refine g_icmp_ne hk rfl (fun hc => ?_) (fun hc => ?_)
  · have H := H.1 hc
    refine g_s1 (pc2 := 27) hk rfl rfl rfl rfl rfl ?_
    obtain ⟨ho, H⟩ := H
    refine g_call hk rfl rfl i_k218.1 ⟨rfl, rfl⟩ rfl (i_rcv_v ho rfl (by decide)) rfl ?_
    exact H.mono (fun v h2 q => by obtain ⟨rfl, q⟩ := q; exact q)
  · have H := H.2 hc
    refine g_s1 (pc2 := 25) (st2 := [.int (0 : Int32)]) hk rfl rfl rfl rfl rfl ?_
    exact g_ireturn hk rfl (by decide) (by decide) rfl H
theorem b240_30 {x0 : Nat} {x1 : Int32} {x2 : Int32} {x3 : Option Value} {h : iH} {Q : Option Value → iH → Prop} (H : ((x1 = 0 → i_P i_MT i_AT L xs 240 44 [some (.ref x0), some (.int x1), some (.int x2), x3] [.int (17 : Int32), .retAddr 7, .ref x0] h 0 0 Q) ∧ (¬ (x1 = 0) → i_P i_MT i_AT L xs 240 44 [some (.ref x0), some (.int x1), some (.int x2), x3] [.int (23 : Int32), .retAddr 7, .ref x0] h 0 0 Q))) : i_P i_MT i_AT L xs 240 30 [some (.ref x0), some (.int x1), some (.int x2), x3] [] h 0 0 Q := by
  have hk := i_k240
  refine g_s1 (pc2 := 31) hk rfl rfl rfl rfl rfl ?_
  refine g_step (pc2 := 33) (st2 := [.retAddr 7, .ref x0]) hk rfl rfl rfl rfl ?_
  refine g_s1 (pc2 := 34) hk rfl rfl rfl rfl rfl ?_
  refine g_if_eq hk rfl (fun hc => ?_) (fun hc => ?_)
  · have H := H.1 hc
    refine g_s1 (pc2 := 44) (st2 := [.int (17 : Int32), .retAddr 7, .ref x0]) hk rfl rfl rfl rfl rfl ?_
    exact H
  · have H := H.2 hc
    refine g_s1 (pc2 := 39) (st2 := [.int (23 : Int32), .retAddr 7, .ref x0]) hk rfl rfl rfl rfl rfl ?_
    refine g_s1 (pc2 := 44) hk rfl rfl rfl rfl rfl ?_
    exact H
theorem b240_44 {x0 : Nat} {x1 : Int32} {x2 : Int32} {x3 : Option Value} {s0 : Nat} {s1 : Nat} {s2 : Int32} {h : iH} {Q : Option Value → iH → Prop} (H : (i_obj? h s0 12 ∧ i_C i_MT i_AT L xs 224 [.ref s0, .retAddr s1, .int s2] h (fun v h1 => ∃ r2 : Int32, v = some (.int r2) ∧ i_P i_MT i_AT L xs 240 47 [some (.ref x0), some (.int x1), some (.int x2), x3] [.int r2] h1 0 0 Q))) : i_P i_MT i_AT L xs 240 44 [some (.ref x0), some (.int x1), some (.int x2), x3] [.int s2, .retAddr s1, .ref s0] h 0 0 Q := by
  have hk := i_k240
  obtain ⟨ho, H⟩ := H
  refine g_call hk rfl rfl i_k224.1 ⟨rfl, rfl⟩ rfl (i_rcv_v ho rfl (by decide)) rfl ?_
  exact H.mono (fun v h2 q => by obtain ⟨r, rfl, q⟩ := q; exact q)
theorem b240_47 {x0 : Nat} {x1 : Int32} {x2 : Int32} {x3 : Option Value} {s0 : Int32} {h : iH} {Q : Option Value → iH → Prop} (H : ((¬ s0 = 0 → (∃ v1 : Nat, i_fld h x0 12 0 = some (.ref v1) ∧ (∃ (n2 : Nat) (f3 : Nat → Int32), i_arI h 0 v1 = some (n2, f3) ∧ ¬ ((2725 : Int32) < 0 ∨ n2 ≤ (2725 : Int32).toNatClampNeg) ∧ (i_obj? h x0 12 ∧ i_C i_MT i_AT L xs 239 [.ref x0, .int (32 : Int32), .int (f3 (2725 : Int32).toNatClampNeg)] h (fun v h4 => ∃ r5 : Int32, v = some (.int r5) ∧ i_P i_MT i_AT L xs 240 66 [some (.ref x0), some (.int x1), some (.int x2), x3] [.int r5] h4 0 0 Q))))) ∧ (¬ (¬ s0 = 0) → Q (some (.int 0)) h))) : i_P i_MT i_AT L xs 240 47 [some (.ref x0), some (.int x1), some (.int x2), x3] [.int s0] h 0 0 Q := by
  have hk := i_k240
  refine g_if_ne hk rfl (fun hc => ?_) (fun hc => ?_)
  · have H := H.1 hc
    refine g_s1 (pc2 := 53) hk rfl rfl rfl rfl rfl ?_
    refine g_s1 (pc2 := 55) (st2 := [.int (32 : Int32), .ref x0]) hk rfl rfl rfl rfl rfl ?_
    refine g_s1 (pc2 := 56) hk rfl rfl rfl rfl rfl ?_
    obtain ⟨v1, ev1, H⟩ := H
    refine g_step (pc2 := 59) hk rfl rfl rfl (s_get ev1) ?_
    refine g_s1 (pc2 := 62) (st2 := [.int (2725 : Int32), .ref v1, .int (32 : Int32), .ref x0]) hk rfl rfl rfl rfl rfl ?_
    obtain ⟨n2, f3, ef3, hi, H⟩ := H
    refine g_step (pc2 := 63) hk rfl rfl rfl (s_aget (L := L) (xs := xs) ef3 hi) ?_
    obtain ⟨ho, H⟩ := H
    refine g_call hk rfl rfl i_k239.1 ⟨rfl, rfl⟩ rfl (i_rcv_v ho rfl (by decide)) rfl ?_
    exact H.mono (fun v h2 q => by obtain ⟨r, rfl, q⟩ := q; exact q)
  · have H := H.2 hc
    refine g_s1 (pc2 := 51) (st2 := [.int (0 : Int32)]) hk rfl rfl rfl rfl rfl ?_
    exact g_ireturn hk rfl (by decide) (by decide) rfl H
theorem b240_66 {x0 : Nat} {x1 : Int32} {x2 : Int32} {x3 : Option Value} {s0 : Int32} {h : iH} {Q : Option Value → iH → Prop} (H : ((¬ s0 = (-1 : Int32) → ((¬ s0 = x2 → (∃ v1 : Nat, i_fld h x0 12 0 = some (.ref v1) ∧ ((x1 = 0 → i_P i_MT i_AT L xs 240 105 [some (.ref x0), some (.int x1), some (.int x2), some (.int s0)] [.int (4 : Int32), .int ((2874 : Int32) + ((5 : Int32) * x2)), .ref v1] h 0 0 Q) ∧ (¬ (x1 = 0) → i_P i_MT i_AT L xs 240 105 [some (.ref x0), some (.int x1), some (.int x2), some (.int s0)] [.int (3 : Int32), .int ((2874 : Int32) + ((5 : Int32) * x2)), .ref v1] h 0 0 Q)))) ∧ (¬ (¬ s0 = x2) → (i_obj? h x0 12 ∧ i_C i_MT i_AT L xs 221 [.ref x0, .int (5 : Int32)] h (fun v h2 => ∃ r3 : Int32, v = some (.int r3) ∧ i_P i_MT i_AT L xs 240 84 [some (.ref x0), some (.int x1), some (.int x2), some (.int s0)] [.int r3] h2 0 0 Q))))) ∧ (¬ (¬ s0 = (-1 : Int32)) → Q (some (.int 0)) h))) : i_P i_MT i_AT L xs 240 66 [some (.ref x0), some (.int x1), some (.int x2), x3] [.int s0] h 0 0 Q := by
  have hk := i_k240
  refine g_s1 (pc2 := 67) (lo2 := [some (.ref x0), some (.int x1), some (.int x2), some (.int s0)]) hk rfl rfl rfl rfl rfl ?_
  refine g_s1 (pc2 := 68) hk rfl rfl rfl rfl rfl ?_
  refine g_s1 (pc2 := 69) (st2 := [.int (-1 : Int32), .int s0]) hk rfl rfl rfl rfl rfl ?_
  refine g_icmp_ne hk rfl (fun hc => ?_) (fun hc => ?_)
  · have H := H.1 hc
    refine g_s1 (pc2 := 75) hk rfl rfl rfl rfl rfl ?_
    refine g_s1 (pc2 := 76) hk rfl rfl rfl rfl rfl ?_
    refine g_icmp_ne hk rfl (fun hc => ?_) (fun hc => ?_)
    · have H := H.1 hc
      refine g_s1 (pc2 := 86) hk rfl rfl rfl rfl rfl ?_
      obtain ⟨v1, ev1, H⟩ := H
      refine g_step (pc2 := 89) hk rfl rfl rfl (s_get ev1) ?_
      refine g_s1 (pc2 := 92) (st2 := [.int (2874 : Int32), .ref v1]) hk rfl rfl rfl rfl rfl ?_
      refine g_s1 (pc2 := 93) (st2 := [.int (5 : Int32), .int (2874 : Int32), .ref v1]) hk rfl rfl rfl rfl rfl ?_
      refine g_s1 (pc2 := 94) hk rfl rfl rfl rfl rfl ?_
      refine g_s1 (pc2 := 95) hk rfl rfl rfl rfl rfl ?_
      refine g_s1 (pc2 := 96) hk rfl rfl rfl rfl rfl ?_
      refine g_s1 (pc2 := 97) hk rfl rfl rfl rfl rfl ?_
      refine g_if_eq hk rfl (fun hc => ?_) (fun hc => ?_)
      · have H := H.1 hc
        refine g_s1 (pc2 := 105) (st2 := [.int (4 : Int32), .int ((2874 : Int32) + ((5 : Int32) * x2)), .ref v1]) hk rfl rfl rfl rfl rfl ?_
        exact H
      · have H := H.2 hc
        refine g_s1 (pc2 := 101) (st2 := [.int (3 : Int32), .int ((2874 : Int32) + ((5 : Int32) * x2)), .ref v1]) hk rfl rfl rfl rfl rfl ?_
        refine g_s1 (pc2 := 105) hk rfl rfl rfl rfl rfl ?_
        exact H
    · have H := H.2 hc
      refine g_s1 (pc2 := 80) hk rfl rfl rfl rfl rfl ?_
      refine g_s1 (pc2 := 81) (st2 := [.int (5 : Int32), .ref x0]) hk rfl rfl rfl rfl rfl ?_
      obtain ⟨ho, H⟩ := H
      refine g_call hk rfl rfl i_k221.1 ⟨rfl, rfl⟩ rfl (i_rcv_v ho rfl (by decide)) rfl ?_
      exact H.mono (fun v h2 q => by obtain ⟨r, rfl, q⟩ := q; exact q)
  · have H := H.2 hc
    refine g_s1 (pc2 := 73) (st2 := [.int (0 : Int32)]) hk rfl rfl rfl rfl rfl ?_
    exact g_ireturn hk rfl (by decide) (by decide) rfl H
theorem b240_84 {x0 : Nat} {x1 : Int32} {x2 : Int32} {x3 : Int32} {s0 : Int32} {h : iH} {Q : Option Value → iH → Prop} (H : (i_ret (some .boolean) s0 = true ∧ Q (some (.int s0)) h)) : i_P i_MT i_AT L xs 240 84 [some (.ref x0), some (.int x1), some (.int x2), some (.int x3)] [.int s0] h 0 0 Q := by
  have hk := i_k240
  exact g_ireturn hk rfl (by decide) (by decide) H.1 H.2
theorem b240_105 {x0 : Nat} {x1 : Int32} {x2 : Int32} {x3 : Int32} {s0 : Nat} {s1 : Int32} {s2 : Int32} {h : iH} {Q : Option Value → iH → Prop} (H : (∃ (n1 : Nat) (f2 : Nat → Int32), i_arI h 0 s0 = some (n1, f2) ∧ ¬ ((s1 + s2) < 0 ∨ n1 ≤ (s1 + s2).toNatClampNeg) ∧ (∃ (n3 : Nat) (f4 : Nat → Int32), i_arI h 0 s0 = some (n3, f4) ∧ ¬ ((s1 + s2) < 0 ∨ n3 ≤ (s1 + s2).toNatClampNeg) ∧ i_P i_MT i_AT L xs 240 113 [some (.ref x0), some (.int x1), some (.int x2), some (.int x3)] [] (i_siI h s0 (s1 + s2).toNatClampNeg ((f2 (s1 + s2).toNatClampNeg) ||| ((1 : Int32) <<< (x3 &&& 31)))) 0 0 Q))) : i_P i_MT i_AT L xs 240 105 [some (.ref x0), some (.int x1), some (.int x2), some (.int x3)] [.int s2, .int s1, .ref s0] h 0 0 Q := by
  have hk := i_k240
  refine g_s1 (pc2 := 106) hk rfl rfl rfl rfl rfl ?_
  refine g_s1 (pc2 := 107) hk rfl rfl rfl rfl rfl ?_
  obtain ⟨n1, f2, ef2, hi, H⟩ := H
  refine g_step (pc2 := 108) hk rfl rfl rfl (s_aget (L := L) (xs := xs) ef2 hi) ?_
  refine g_s1 (pc2 := 109) (st2 := [.int (1 : Int32), .int (f2 (s1 + s2).toNatClampNeg), .int (s1 + s2), .ref s0]) hk rfl rfl rfl rfl rfl ?_
  refine g_s1 (pc2 := 110) hk rfl rfl rfl rfl rfl ?_
  refine g_s1 (pc2 := 111) hk rfl rfl rfl rfl rfl ?_
  refine g_s1 (pc2 := 112) hk rfl rfl rfl rfl rfl ?_
  obtain ⟨n3, f4, ef4, hi, H⟩ := H
  refine g_step (pc2 := 113) hk rfl rfl rfl (s_aput ef4 hi) ?_
  exact H
theorem b240_113 {x0 : Nat} {x1 : Int32} {x2 : Int32} {x3 : Int32} {h : iH} {Q : Option Value → iH → Prop} (H : (i_obj? h x0 12 ∧ i_C i_MT i_AT L xs 218 [.ref x0] h (fun v h1 => v = none ∧ i_P i_MT i_AT L xs 240 117 [some (.ref x0), some (.int x1), some (.int x2), some (.int x3)] [] h1 0 0 Q))) : i_P i_MT i_AT L xs 240 113 [some (.ref x0), some (.int x1), some (.int x2), some (.int x3)] [] h 0 0 Q := by
  have hk := i_k240
  refine g_s1 (pc2 := 114) hk rfl rfl rfl rfl rfl ?_
  obtain ⟨ho, H⟩ := H
  refine g_call hk rfl rfl i_k218.1 ⟨rfl, rfl⟩ rfl (i_rcv_v ho rfl (by decide)) rfl ?_
  exact H.mono (fun v h2 q => by obtain ⟨rfl, q⟩ := q; exact q)
theorem b240_117 {x0 : Nat} {x1 : Int32} {x2 : Int32} {x3 : Int32} {h : iH} {Q : Option Value → iH → Prop} (H : Q (some (.int 1)) h) : i_P i_MT i_AT L xs 240 117 [some (.ref x0), some (.int x1), some (.int x2), some (.int x3)] [] h 0 0 Q := by
  have hk := i_k240
  refine g_s1 (pc2 := 118) (st2 := [.int (1 : Int32)]) hk rfl rfl rfl rfl rfl ?_
  exact g_ireturn hk rfl (by decide) (by decide) rfl H
/-! StillTownModel.howSeen()Z -/
theorem e241 {x0 : Nat} {h : iH} {Q : Option Value → iH → Prop} (H : i_P i_MT i_AT L xs 241 0 [some (.ref x0), none] [] h 0 0 Q) : i_C i_MT i_AT L xs 241 [.ref x0] h Q := ⟨i_m241, i_k241.1, Nat.le_of_ble_eq_true rfl, H⟩
theorem b241_0 {x0 : Nat} {x1 : Option Value} {h : iH} {Q : Option Value → iH → Prop} (H : (∃ v1 : Int32, i_fld h x0 12 21 = some (.int v1) ∧ ((¬ v1 = (1 : Int32) → ((∃ o, i_fld h x0 12 21 = some o) ∧ i_P i_MT i_AT L xs 241 19 [some (.ref x0), x1] [] (i_sf h x0 21 (.int (1 : Int32))) 0 0 Q)) ∧ (¬ (¬ v1 = (1 : Int32)) → (i_obj? h x0 12 ∧ i_C i_MT i_AT L xs 221 [.ref x0, .int (5 : Int32)] h (fun v h2 => ∃ r3 : Int32, v = some (.int r3) ∧ i_P i_MT i_AT L xs 241 13 [some (.ref x0), x1] [.int r3] h2 0 0 Q)))))) : i_P i_MT i_AT L xs 241 0 [some (.ref x0), x1] [] h 0 0 Q := by
  have hk := i_k241
  refine g_s1 (pc2 := 1) hk rfl rfl rfl rfl rfl ?_
  obtain ⟨v1, ev1, H⟩ := H
  refine g_step (pc2 := 4) hk rfl rfl rfl (s_get ev1) ?_
  refine g_s1 (pc2 := 5) (st2 := [.int (1 : Int32), .int v1]) hk rfl rfl rfl rfl rfl ?_
  refine g_icmp_ne hk rfl (fun hc => ?_) (fun hc => ?_)
  · have H := H.1 hc
    refine g_s1 (pc2 := 15) hk rfl rfl rfl rfl rfl ?_
    refine g_s1 (pc2 := 16) (st2 := [.int (1 : Int32), .ref x0]) hk rfl rfl rfl rfl rfl ?_
    obtain ⟨⟨o, ho⟩, H⟩ := H
    refine g_step (pc2 := 19) hk rfl rfl rfl (s_put ho rfl) ?_
    exact H
  · have H := H.2 hc
    refine g_s1 (pc2 := 9) hk rfl rfl rfl rfl rfl ?_
    refine g_s1 (pc2 := 10) (st2 := [.int (5 : Int32), .ref x0]) hk rfl rfl rfl rfl rfl ?_
    obtain ⟨ho, H⟩ := H
    refine g_call hk rfl rfl i_k221.1 ⟨rfl, rfl⟩ rfl (i_rcv_v ho rfl (by decide)) rfl ?_
    exact H.mono (fun v h2 q => by obtain ⟨r, rfl, q⟩ := q; exact q)
theorem b241_13 {x0 : Nat} {x1 : Option Value} {s0 : Int32} {h : iH} {Q : Option Value → iH → Prop} (H : (i_ret (some .boolean) s0 = true ∧ Q (some (.int s0)) h)) : i_P i_MT i_AT L xs 241 13 [some (.ref x0), x1] [.int s0] h 0 0 Q := by
  have hk := i_k241
  exact g_ireturn hk rfl (by decide) (by decide) H.1 H.2
theorem b241_19 {x0 : Nat} {x1 : Option Value} {h : iH} {Q : Option Value → iH → Prop} (H : (i_obj? h x0 12 ∧ i_C i_MT i_AT L xs 218 [.ref x0] h (fun v h1 => v = none ∧ i_P i_MT i_AT L xs 241 23 [some (.ref x0), x1] [] h1 0 0 Q))) : i_P i_MT i_AT L xs 241 19 [some (.ref x0), x1] [] h 0 0 Q := by
  have hk := i_k241
  refine g_s1 (pc2 := 20) hk rfl rfl rfl rfl rfl ?_
  obtain ⟨ho, H⟩ := H
  refine g_call hk rfl rfl i_k218.1 ⟨rfl, rfl⟩ rfl (i_rcv_v ho rfl (by decide)) rfl ?_
  exact H.mono (fun v h2 q => by obtain ⟨rfl, q⟩ := q; exact q)
theorem b241_23 {x0 : Nat} {x1 : Option Value} {h : iH} {Q : Option Value → iH → Prop} (H : i_P i_MT i_AT L xs 241 25 [some (.ref x0), some (.int (0 : Int32))] [] h 0 0 Q) : i_P i_MT i_AT L xs 241 23 [some (.ref x0), x1] [] h 0 0 Q := by
  have hk := i_k241
  refine g_s1 (pc2 := 24) (st2 := [.int (0 : Int32)]) hk rfl rfl rfl rfl rfl ?_
  refine g_s1 (pc2 := 25) (lo2 := [some (.ref x0), some (.int (0 : Int32))]) hk rfl rfl rfl rfl rfl ?_
  exact H
theorem b241_25 {x0 : Nat} {x1 : Int32} {h : iH} {Q : Option Value → iH → Prop} (H : (((4 : Int32) ≤ x1 → Q (some (.int 1)) h) ∧ (¬ ((4 : Int32) ≤ x1) → (i_obj? h x0 12 ∧ i_C i_MT i_AT L xs 224 [.ref x0, .retAddr 7, .int ((24 : Int32) + x1)] h (fun v h1 => ∃ r2 : Int32, v = some (.int r2) ∧ i_P i_MT i_AT L xs 241 40 [some (.ref x0), some (.int x1)] [.int r2] h1 0 0 Q))))) : i_P i_MT i_AT L xs 241 25 [some (.ref x0), some (.int x1)] [] h 0 0 Q := by
  have hk := i_k241
  refine g_s1 (pc2 := 26) hk rfl rfl rfl rfl rfl ?_
  refine g_s1 (pc2 := 27) (st2 := [.int (4 : Int32), .int x1]) hk rfl rfl rfl rfl rfl ?_
  refine g_icmp_ge hk rfl (fun hc => ?_) (fun hc => ?_)
  · have H := H.1 hc
    refine g_s1 (pc2 := 67) (st2 := [.int (1 : Int32)]) hk rfl rfl rfl rfl rfl ?_
    exact g_ireturn hk rfl (by decide) (by decide) rfl H
  · have H := H.2 hc
    refine g_s1 (pc2 := 31) hk rfl rfl rfl rfl rfl ?_
    refine g_step (pc2 := 33) (st2 := [.retAddr 7, .ref x0]) hk rfl rfl rfl rfl ?_
    refine g_s1 (pc2 := 35) (st2 := [.int (24 : Int32), .retAddr 7, .ref x0]) hk rfl rfl rfl rfl rfl ?_
    refine g_s1 (pc2 := 36) hk rfl rfl rfl rfl rfl ?_
    refine g_s1 (pc2 := 37) hk rfl rfl rfl rfl rfl ?_
    obtain ⟨ho, H⟩ := H
    refine g_call hk rfl rfl i_k224.1 ⟨rfl, rfl⟩ rfl (i_rcv_v ho rfl (by decide)) rfl ?_
    exact H.mono (fun v h2 q => by obtain ⟨r, rfl, q⟩ := q; exact q)
theorem b241_40 {x0 : Nat} {x1 : Int32} {s0 : Int32} {h : iH} {Q : Option Value → iH → Prop} (H : ((s0 = 0 → i_P i_MT i_AT L xs 241 58 [some (.ref x0), some (.int x1)] [] h 0 0 Q) ∧ (¬ (s0 = 0) → (i_obj? h x0 12 ∧ i_C i_MT i_AT L xs 225 [.ref x0, .int ((2726 : Int32) + x1), .int (0 : Int32), .int (16 : Int32)] h (fun v h1 => ∃ r2 : Int32, v = some (.int r2) ∧ i_P i_MT i_AT L xs 241 55 [some (.ref x0), some (.int x1)] [.int r2] h1 0 0 Q))))) : i_P i_MT i_AT L xs 241 40 [some (.ref x0), some (.int x1)] [.int s0] h 0 0 Q := by
  have hk := i_k241
  refine g_if_eq hk rfl (fun hc => ?_) (fun hc => ?_)
  · have H := H.1 hc
    exact H
  · have H := H.2 hc
    refine g_s1 (pc2 := 44) hk rfl rfl rfl rfl rfl ?_
    refine g_s1 (pc2 := 47) (st2 := [.int (2726 : Int32), .ref x0]) hk rfl rfl rfl rfl rfl ?_
    refine g_s1 (pc2 := 48) hk rfl rfl rfl rfl rfl ?_
    refine g_s1 (pc2 := 49) hk rfl rfl rfl rfl rfl ?_
    refine g_s1 (pc2 := 50) (st2 := [.int (0 : Int32), .int ((2726 : Int32) + x1), .ref x0]) hk rfl rfl rfl rfl rfl ?_
    refine g_s1 (pc2 := 52) (st2 := [.int (16 : Int32), .int (0 : Int32), .int ((2726 : Int32) + x1), .ref x0]) hk rfl rfl rfl rfl rfl ?_
    obtain ⟨ho, H⟩ := H
    refine g_call hk rfl rfl i_k225.1 ⟨rfl, rfl⟩ rfl (i_rcv_v ho rfl (by decide)) rfl ?_
    exact H.mono (fun v h2 q => by obtain ⟨r, rfl, q⟩ := q; exact q)
theorem b241_55 {x0 : Nat} {x1 : Int32} {s0 : Int32} {h : iH} {Q : Option Value → iH → Prop} (H : ((¬ s0 = 0 → i_P i_MT i_AT L xs 241 25 [some (.ref x0), some (.int (x1 + 1))] [] h 0 0 Q) ∧ (¬ (¬ s0 = 0) → i_P i_MT i_AT L xs 241 58 [some (.ref x0), some (.int x1)] [] h 0 0 Q))) : i_P i_MT i_AT L xs 241 55 [some (.ref x0), some (.int x1)] [.int s0] h 0 0 Q := by
  have hk := i_k241
  refine g_if_ne hk rfl (fun hc => ?_) (fun hc => ?_)
  · have H := H.1 hc
    refine g_s1 (pc2 := 63) (lo2 := [some (.ref x0), some (.int (x1 + 1))]) hk rfl rfl rfl rfl rfl ?_
    refine g_s1 (pc2 := 25) hk rfl rfl rfl rfl rfl ?_
    exact H
  · have H := H.2 hc
    exact H
theorem b241_58 {x0 : Nat} {x1 : Int32} {h : iH} {Q : Option Value → iH → Prop} (H : Q (some (.int 0)) h) : i_P i_MT i_AT L xs 241 58 [some (.ref x0), some (.int x1)] [] h 0 0 Q := by
  have hk := i_k241
  refine g_s1 (pc2 := 59) (st2 := [.int (0 : Int32)]) hk rfl rfl rfl rfl rfl ?_
  exact g_ireturn hk rfl (by decide) (by decide) rfl H
/-! StillTownModel.townPart()Z -/
theorem e242 {x0 : Nat} {h : iH} {Q : Option Value → iH → Prop} (H : i_P i_MT i_AT L xs 242 0 [some (.ref x0), none] [] h 0 0 Q) : i_C i_MT i_AT L xs 242 [.ref x0] h Q := ⟨i_m242, i_k242.1, Nat.le_of_ble_eq_true rfl, H⟩
theorem b242_0 {x0 : Nat} {x1 : Option Value} {h : iH} {Q : Option Value → iH → Prop} (H : (i_obj? h x0 12 ∧ i_C i_MT i_AT L xs 220 [.ref x0, .retAddr 7] h (fun v h1 => ∃ r2 : Int32, v = some (.int r2) ∧ i_P i_MT i_AT L xs 242 6 [some (.ref x0), x1] [.int r2] h1 0 0 Q))) : i_P i_MT i_AT L xs 242 0 [some (.ref x0), x1] [] h 0 0 Q := by
  have hk := i_k242
  refine g_s1 (pc2 := 1) hk rfl rfl rfl rfl rfl ?_
  refine g_step (pc2 := 3) (st2 := [.retAddr 7, .ref x0]) hk rfl rfl rfl rfl ?_
  obtain ⟨ho, H⟩ := H
  refine g_call hk rfl rfl i_k220.1 ⟨rfl, rfl⟩ rfl (i_rcv_v ho rfl (by decide)) rfl ?_
  exact H.mono (fun v h2 q => by obtain ⟨r, rfl, q⟩ := q; exact q)
theorem b242_6 {x0 : Nat} {x1 : Option Value} {s0 : Int32} {h : iH} {Q : Option Value → iH → Prop} (H : ((s0.toInt < 9 ∨ 16 < s0.toInt → (i_obj? h x0 12 ∧ i_C i_MT i_AT L xs 221 [.ref x0, .int (2 : Int32)] h (fun v h1 => ∃ r2 : Int32, v = some (.int r2) ∧ i_P i_MT i_AT L xs 242 123 [some (.ref x0), x1] [.int r2] h1 0 0 Q))) ∧ (s0.toInt = 9 → (i_obj? h x0 12 ∧ i_C i_MT i_AT L xs 233 [.ref x0] h (fun v h3 => ∃ r4 : Int32, v = some (.int r4) ∧ i_P i_MT i_AT L xs 242 56 [some (.ref x0), x1] [.int r4] h3 0 0 Q))) ∧ (s0.toInt = 10 → (i_obj? h x0 12 ∧ i_C i_MT i_AT L xs 235 [.ref x0] h (fun v h5 => ∃ r6 : Int32, v = some (.int r6) ∧ i_P i_MT i_AT L xs 242 64 [some (.ref x0), x1] [.int r6] h5 0 0 Q))) ∧ (s0.toInt = 11 → (i_obj? h x0 12 ∧ i_C i_MT i_AT L xs 236 [.ref x0] h (fun v h7 => ∃ r8 : Int32, v = some (.int r8) ∧ i_P i_MT i_AT L xs 242 72 [some (.ref x0), x1] [.int r8] h7 0 0 Q))) ∧ (s0.toInt = 12 → (i_obj? h x0 12 ∧ i_C i_MT i_AT L xs 237 [.ref x0] h (fun v h9 => ∃ r10 : Int32, v = some (.int r10) ∧ i_P i_MT i_AT L xs 242 80 [some (.ref x0), x1] [.int r10] h9 0 0 Q))) ∧ (s0.toInt = 13 → (i_obj? h x0 12 ∧ i_C i_MT i_AT L xs 238 [.ref x0] h (fun v h11 => ∃ r12 : Int32, v = some (.int r12) ∧ i_P i_MT i_AT L xs 242 88 [some (.ref x0), x1] [.int r12] h11 0 0 Q))) ∧ (s0.toInt = 14 → (i_obj? h x0 12 ∧ i_C i_MT i_AT L xs 240 [.ref x0, .int (1 : Int32)] h (fun v h13 => ∃ r14 : Int32, v = some (.int r14) ∧ i_P i_MT i_AT L xs 242 97 [some (.ref x0), x1] [.int r14] h13 0 0 Q))) ∧ (s0.toInt = 15 → (i_obj? h x0 12 ∧ i_C i_MT i_AT L xs 240 [.ref x0, .int (0 : Int32)] h (fun v h15 => ∃ r16 : Int32, v = some (.int r16) ∧ i_P i_MT i_AT L xs 242 106 [some (.ref x0), x1] [.int r16] h15 0 0 Q))) ∧ (s0.toInt = 16 → (i_obj? h x0 12 ∧ i_C i_MT i_AT L xs 241 [.ref x0] h (fun v h17 => ∃ r18 : Int32, v = some (.int r18) ∧ i_P i_MT i_AT L xs 242 114 [some (.ref x0), x1] [.int r18] h17 0 0 Q))))) : i_P i_MT i_AT L xs 242 6 [some (.ref x0), x1] [.int s0] h 0 0 Q := by
  have hk := i_k242
  rcases (show (s0.toInt < 9 ∨ 16 < s0.toInt) ∨ s0.toInt = 9 ∨ s0.toInt = 10 ∨ s0.toInt = 11 ∨ s0.toInt = 12 ∨ s0.toInt = 13 ∨ s0.toInt = 14 ∨ s0.toInt = 15 ∨ s0.toInt = 16 by omega) with hx | hx | hx | hx | hx | hx | hx | hx | hx
  · refine g_sw (t := 118) hk rfl (by unfold i_swt; rw [if_pos hx]; rfl) ?_
    have H := H.1 hx
    refine g_s1 (pc2 := 119) hk rfl rfl rfl rfl rfl ?_
    refine g_s1 (pc2 := 120) (st2 := [.int (2 : Int32), .ref x0]) hk rfl rfl rfl rfl rfl ?_
    obtain ⟨ho, H⟩ := H
    refine g_call hk rfl rfl i_k221.1 ⟨rfl, rfl⟩ rfl (i_rcv_v ho rfl (by decide)) rfl ?_
    exact H.mono (fun v h2 q => by obtain ⟨r, rfl, q⟩ := q; exact q)
  · refine g_sw (t := 52) hk rfl (by rw [hx]; rfl) ?_
    have H := H.2.1 hx
    refine g_s1 (pc2 := 53) hk rfl rfl rfl rfl rfl ?_
    obtain ⟨ho, H⟩ := H
    refine g_call hk rfl rfl i_k233.1 ⟨rfl, rfl⟩ rfl (i_rcv_v ho rfl (by decide)) rfl ?_
    exact H.mono (fun v h2 q => by obtain ⟨r, rfl, q⟩ := q; exact q)
  · refine g_sw (t := 60) hk rfl (by rw [hx]; rfl) ?_
    have H := H.2.2.1 hx
    refine g_s1 (pc2 := 61) hk rfl rfl rfl rfl rfl ?_
    obtain ⟨ho, H⟩ := H
    refine g_call hk rfl rfl i_k235.1 ⟨rfl, rfl⟩ rfl (i_rcv_v ho rfl (by decide)) rfl ?_
    exact H.mono (fun v h2 q => by obtain ⟨r, rfl, q⟩ := q; exact q)
  · refine g_sw (t := 68) hk rfl (by rw [hx]; rfl) ?_
    have H := H.2.2.2.1 hx
    refine g_s1 (pc2 := 69) hk rfl rfl rfl rfl rfl ?_
    obtain ⟨ho, H⟩ := H
    refine g_call hk rfl rfl i_k236.1 ⟨rfl, rfl⟩ rfl (i_rcv_v ho rfl (by decide)) rfl ?_
    exact H.mono (fun v h2 q => by obtain ⟨r, rfl, q⟩ := q; exact q)
  · refine g_sw (t := 76) hk rfl (by rw [hx]; rfl) ?_
    have H := H.2.2.2.2.1 hx
    refine g_s1 (pc2 := 77) hk rfl rfl rfl rfl rfl ?_
    obtain ⟨ho, H⟩ := H
    refine g_call hk rfl rfl i_k237.1 ⟨rfl, rfl⟩ rfl (i_rcv_v ho rfl (by decide)) rfl ?_
    exact H.mono (fun v h2 q => by obtain ⟨r, rfl, q⟩ := q; exact q)
  · refine g_sw (t := 84) hk rfl (by rw [hx]; rfl) ?_
    have H := H.2.2.2.2.2.1 hx
    refine g_s1 (pc2 := 85) hk rfl rfl rfl rfl rfl ?_
    obtain ⟨ho, H⟩ := H
    refine g_call hk rfl rfl i_k238.1 ⟨rfl, rfl⟩ rfl (i_rcv_v ho rfl (by decide)) rfl ?_
    exact H.mono (fun v h2 q => by obtain ⟨r, rfl, q⟩ := q; exact q)
  · refine g_sw (t := 92) hk rfl (by rw [hx]; rfl) ?_
    have H := H.2.2.2.2.2.2.1 hx
    refine g_s1 (pc2 := 93) hk rfl rfl rfl rfl rfl ?_
    refine g_s1 (pc2 := 94) (st2 := [.int (1 : Int32), .ref x0]) hk rfl rfl rfl rfl rfl ?_
    obtain ⟨ho, H⟩ := H
    refine g_call hk rfl rfl i_k240.1 ⟨rfl, rfl⟩ rfl (i_rcv_v ho rfl (by decide)) rfl ?_
    exact H.mono (fun v h2 q => by obtain ⟨r, rfl, q⟩ := q; exact q)
  · refine g_sw (t := 101) hk rfl (by rw [hx]; rfl) ?_
    have H := H.2.2.2.2.2.2.2.1 hx
    refine g_s1 (pc2 := 102) hk rfl rfl rfl rfl rfl ?_
    refine g_s1 (pc2 := 103) (st2 := [.int (0 : Int32), .ref x0]) hk rfl rfl rfl rfl rfl ?_
    obtain ⟨ho, H⟩ := H
    refine g_call hk rfl rfl i_k240.1 ⟨rfl, rfl⟩ rfl (i_rcv_v ho rfl (by decide)) rfl ?_
    exact H.mono (fun v h2 q => by obtain ⟨r, rfl, q⟩ := q; exact q)
  · refine g_sw (t := 110) hk rfl (by rw [hx]; rfl) ?_
    have H := H.2.2.2.2.2.2.2.2 hx
    refine g_s1 (pc2 := 111) hk rfl rfl rfl rfl rfl ?_
    obtain ⟨ho, H⟩ := H
    refine g_call hk rfl rfl i_k241.1 ⟨rfl, rfl⟩ rfl (i_rcv_v ho rfl (by decide)) rfl ?_
    exact H.mono (fun v h2 q => by obtain ⟨r, rfl, q⟩ := q; exact q)
theorem b242_56 {x0 : Nat} {x1 : Option Value} {s0 : Int32} {h : iH} {Q : Option Value → iH → Prop} (H : i_P i_MT i_AT L xs 242 124 [some (.ref x0), some (.int s0)] [] h 0 0 Q) : i_P i_MT i_AT L xs 242 56 [some (.ref x0), x1] [.int s0] h 0 0 Q := by
  have hk := i_k242
  refine g_s1 (pc2 := 57) (lo2 := [some (.ref x0), some (.int s0)]) hk rfl rfl rfl rfl rfl ?_
  refine g_s1 (pc2 := 124) hk rfl rfl rfl rfl rfl ?_
  exact H
theorem b242_64 {x0 : Nat} {x1 : Option Value} {s0 : Int32} {h : iH} {Q : Option Value → iH → Prop} (H : i_P i_MT i_AT L xs 242 124 [some (.ref x0), some (.int s0)] [] h 0 0 Q) : i_P i_MT i_AT L xs 242 64 [some (.ref x0), x1] [.int s0] h 0 0 Q := by
  have hk := i_k242
  refine g_s1 (pc2 := 65) (lo2 := [some (.ref x0), some (.int s0)]) hk rfl rfl rfl rfl rfl ?_
  refine g_s1 (pc2 := 124) hk rfl rfl rfl rfl rfl ?_
  exact H
theorem b242_72 {x0 : Nat} {x1 : Option Value} {s0 : Int32} {h : iH} {Q : Option Value → iH → Prop} (H : i_P i_MT i_AT L xs 242 124 [some (.ref x0), some (.int s0)] [] h 0 0 Q) : i_P i_MT i_AT L xs 242 72 [some (.ref x0), x1] [.int s0] h 0 0 Q := by
  have hk := i_k242
  refine g_s1 (pc2 := 73) (lo2 := [some (.ref x0), some (.int s0)]) hk rfl rfl rfl rfl rfl ?_
  refine g_s1 (pc2 := 124) hk rfl rfl rfl rfl rfl ?_
  exact H
theorem b242_80 {x0 : Nat} {x1 : Option Value} {s0 : Int32} {h : iH} {Q : Option Value → iH → Prop} (H : i_P i_MT i_AT L xs 242 124 [some (.ref x0), some (.int s0)] [] h 0 0 Q) : i_P i_MT i_AT L xs 242 80 [some (.ref x0), x1] [.int s0] h 0 0 Q := by
  have hk := i_k242
  refine g_s1 (pc2 := 81) (lo2 := [some (.ref x0), some (.int s0)]) hk rfl rfl rfl rfl rfl ?_
  refine g_s1 (pc2 := 124) hk rfl rfl rfl rfl rfl ?_
  exact H
theorem b242_88 {x0 : Nat} {x1 : Option Value} {s0 : Int32} {h : iH} {Q : Option Value → iH → Prop} (H : i_P i_MT i_AT L xs 242 124 [some (.ref x0), some (.int s0)] [] h 0 0 Q) : i_P i_MT i_AT L xs 242 88 [some (.ref x0), x1] [.int s0] h 0 0 Q := by
  have hk := i_k242
  refine g_s1 (pc2 := 89) (lo2 := [some (.ref x0), some (.int s0)]) hk rfl rfl rfl rfl rfl ?_
  refine g_s1 (pc2 := 124) hk rfl rfl rfl rfl rfl ?_
  exact H
theorem b242_97 {x0 : Nat} {x1 : Option Value} {s0 : Int32} {h : iH} {Q : Option Value → iH → Prop} (H : i_P i_MT i_AT L xs 242 124 [some (.ref x0), some (.int s0)] [] h 0 0 Q) : i_P i_MT i_AT L xs 242 97 [some (.ref x0), x1] [.int s0] h 0 0 Q := by
  have hk := i_k242
  refine g_s1 (pc2 := 98) (lo2 := [some (.ref x0), some (.int s0)]) hk rfl rfl rfl rfl rfl ?_
  refine g_s1 (pc2 := 124) hk rfl rfl rfl rfl rfl ?_
  exact H
theorem b242_106 {x0 : Nat} {x1 : Option Value} {s0 : Int32} {h : iH} {Q : Option Value → iH → Prop} (H : i_P i_MT i_AT L xs 242 124 [some (.ref x0), some (.int s0)] [] h 0 0 Q) : i_P i_MT i_AT L xs 242 106 [some (.ref x0), x1] [.int s0] h 0 0 Q := by
  have hk := i_k242
  refine g_s1 (pc2 := 107) (lo2 := [some (.ref x0), some (.int s0)]) hk rfl rfl rfl rfl rfl ?_
  refine g_s1 (pc2 := 124) hk rfl rfl rfl rfl rfl ?_
  exact H
theorem b242_114 {x0 : Nat} {x1 : Option Value} {s0 : Int32} {h : iH} {Q : Option Value → iH → Prop} (H : i_P i_MT i_AT L xs 242 124 [some (.ref x0), some (.int s0)] [] h 0 0 Q) : i_P i_MT i_AT L xs 242 114 [some (.ref x0), x1] [.int s0] h 0 0 Q := by
  have hk := i_k242
  refine g_s1 (pc2 := 115) (lo2 := [some (.ref x0), some (.int s0)]) hk rfl rfl rfl rfl rfl ?_
  refine g_s1 (pc2 := 124) hk rfl rfl rfl rfl rfl ?_
  exact H
theorem b242_123 {x0 : Nat} {x1 : Option Value} {s0 : Int32} {h : iH} {Q : Option Value → iH → Prop} (H : (i_ret (some .boolean) s0 = true ∧ Q (some (.int s0)) h)) : i_P i_MT i_AT L xs 242 123 [some (.ref x0), x1] [.int s0] h 0 0 Q := by
  have hk := i_k242
  exact g_ireturn hk rfl (by decide) (by decide) H.1 H.2
theorem b242_124 {x0 : Nat} {x1 : Int32} {h : iH} {Q : Option Value → iH → Prop} (H : ((x1 = 0 → i_P i_MT i_AT L xs 242 141 [some (.ref x0), some (.int x1)] [] h 0 0 Q) ∧ (¬ (x1 = 0) → (i_obj? h x0 12 ∧ i_C i_MT i_AT L xs 223 [.ref x0, .int (59 : Int32)] h (fun v h1 => ∃ r2 : Int32, v = some (.int r2) ∧ i_P i_MT i_AT L xs 242 134 [some (.ref x0), some (.int x1)] [.int r2] h1 0 0 Q))))) : i_P i_MT i_AT L xs 242 124 [some (.ref x0), some (.int x1)] [] h 0 0 Q := by
  have hk := i_k242
  refine g_s1 (pc2 := 125) hk rfl rfl rfl rfl rfl ?_
  refine g_if_eq hk rfl (fun hc => ?_) (fun hc => ?_)
  · have H := H.1 hc
    exact H
  · have H := H.2 hc
    refine g_s1 (pc2 := 129) hk rfl rfl rfl rfl rfl ?_
    refine g_s1 (pc2 := 131) (st2 := [.int (59 : Int32), .ref x0]) hk rfl rfl rfl rfl rfl ?_
    obtain ⟨ho, H⟩ := H
    refine g_call hk rfl rfl i_k223.1 ⟨rfl, rfl⟩ rfl (i_rcv_v ho rfl (by decide)) rfl ?_
    exact H.mono (fun v h2 q => by obtain ⟨r, rfl, q⟩ := q; exact q)
theorem b242_134 {x0 : Nat} {x1 : Int32} {s0 : Int32} {h : iH} {Q : Option Value → iH → Prop} (H : ((s0 = 0 → i_P i_MT i_AT L xs 242 141 [some (.ref x0), some (.int x1)] [] h 0 0 Q) ∧ (¬ (s0 = 0) → i_P i_MT i_AT L xs 242 142 [some (.ref x0), some (.int x1)] [.int (1 : Int32)] h 0 0 Q))) : i_P i_MT i_AT L xs 242 134 [some (.ref x0), some (.int x1)] [.int s0] h 0 0 Q := by
  have hk := i_k242
  refine g_if_eq hk rfl (fun hc => ?_) (fun hc => ?_)
  · have H := H.1 hc
    exact H
  · have H := H.2 hc
    refine g_s1 (pc2 := 138) (st2 := [.int (1 : Int32)]) hk rfl rfl rfl rfl rfl ?_
    refine g_s1 (pc2 := 142) hk rfl rfl rfl rfl rfl ?_
    exact H
theorem b242_141 {x0 : Nat} {x1 : Int32} {h : iH} {Q : Option Value → iH → Prop} (H : i_P i_MT i_AT L xs 242 142 [some (.ref x0), some (.int x1)] [.int (0 : Int32)] h 0 0 Q) : i_P i_MT i_AT L xs 242 141 [some (.ref x0), some (.int x1)] [] h 0 0 Q := by
  have hk := i_k242
  refine g_s1 (pc2 := 142) (st2 := [.int (0 : Int32)]) hk rfl rfl rfl rfl rfl ?_
  exact H
theorem b242_142 {x0 : Nat} {x1 : Int32} {s0 : Int32} {h : iH} {Q : Option Value → iH → Prop} (H : (i_ret (some .boolean) s0 = true ∧ Q (some (.int s0)) h)) : i_P i_MT i_AT L xs 242 142 [some (.ref x0), some (.int x1)] [.int s0] h 0 0 Q := by
  have hk := i_k242
  exact g_ireturn hk rfl (by decide) (by decide) H.1 H.2
/-! StillTownModel.town(I)I -/
theorem e243 {x0 : Nat} {x1 : Int32} {h : iH} {Q : Option Value → iH → Prop} (H : i_P i_MT i_AT L xs 243 0 [some (.ref x0), some (.int x1), none, none] [] h 0 0 Q) : i_C i_MT i_AT L xs 243 [.ref x0, .int x1] h Q := ⟨i_m243, i_k243.1, Nat.le_of_ble_eq_true rfl, H⟩
theorem b243_0 {x0 : Nat} {x1 : Int32} {x2 : Option Value} {x3 : Option Value} {h : iH} {Q : Option Value → iH → Prop} (H : (i_obj? h x0 12 ∧ i_C i_MT i_AT L xs 222 [.ref x0, .int x1, .int (900 : Int32)] h (fun v h1 => ∃ r2 : Int32, v = some (.int r2) ∧ i_P i_MT i_AT L xs 243 8 [some (.ref x0), some (.int x1), x2, x3] [.int r2] h1 0 0 Q))) : i_P i_MT i_AT L xs 243 0 [some (.ref x0), some (.int x1), x2, x3] [] h 0 0 Q := by
  have hk := i_k243
  refine g_s1 (pc2 := 1) hk rfl rfl rfl rfl rfl ?_
  refine g_s1 (pc2 := 2) hk rfl rfl rfl rfl rfl ?_
  refine g_s1 (pc2 := 5) (st2 := [.int (900 : Int32), .int x1, .ref x0]) hk rfl rfl rfl rfl rfl ?_
  obtain ⟨ho, H⟩ := H
  refine g_call hk rfl rfl i_k222.1 ⟨rfl, rfl⟩ rfl (i_rcv_v ho rfl (by decide)) rfl ?_
  exact H.mono (fun v h2 q => by obtain ⟨r, rfl, q⟩ := q; exact q)
theorem b243_8 {x0 : Nat} {x1 : Int32} {x2 : Option Value} {x3 : Option Value} {s0 : Int32} {h : iH} {Q : Option Value → iH → Prop} (H : ((¬ s0 = 0 → (i_obj? h x0 12 ∧ i_C i_MT i_AT L xs 196 [.ref x0, .int (2720 : Int32)] h (fun v h1 => v = none ∧ i_P i_MT i_AT L xs 243 24 [some (.ref x0), some (.int x1), x2, x3] [] h1 0 0 Q))) ∧ (¬ (¬ s0 = 0) → (i_obj? h x0 12 ∧ i_C i_MT i_AT L xs 201 [.ref x0, .int (1 : Int32)] h (fun v h3 => ∃ r4 : Int32, v = some (.int r4) ∧ i_P i_MT i_AT L xs 243 16 [some (.ref x0), some (.int x1), x2, x3] [.int r4] h3 0 0 Q))))) : i_P i_MT i_AT L xs 243 8 [some (.ref x0), some (.int x1), x2, x3] [.int s0] h 0 0 Q := by
  have hk := i_k243
  refine g_if_ne hk rfl (fun hc => ?_) (fun hc => ?_)
  · have H := H.1 hc
    refine g_s1 (pc2 := 18) hk rfl rfl rfl rfl rfl ?_
    refine g_s1 (pc2 := 21) (st2 := [.int (2720 : Int32), .ref x0]) hk rfl rfl rfl rfl rfl ?_
    obtain ⟨ho, H⟩ := H
    refine g_call hk rfl rfl i_k196.1 ⟨rfl, rfl⟩ rfl (i_rcv_v ho rfl (by decide)) rfl ?_
    exact H.mono (fun v h2 q => by obtain ⟨rfl, q⟩ := q; exact q)
  · have H := H.2 hc
    refine g_s1 (pc2 := 12) hk rfl rfl rfl rfl rfl ?_
    refine g_s1 (pc2 := 13) (st2 := [.int (1 : Int32), .ref x0]) hk rfl rfl rfl rfl rfl ?_
    obtain ⟨ho, H⟩ := H
    refine g_call hk rfl rfl i_k201.1 ⟨rfl, rfl⟩ rfl (i_rcv_v ho rfl (by decide)) rfl ?_
    exact H.mono (fun v h2 q => by obtain ⟨r, rfl, q⟩ := q; exact q)
theorem b243_16 {x0 : Nat} {x1 : Int32} {x2 : Option Value} {x3 : Option Value} {s0 : Int32} {h : iH} {Q : Option Value → iH → Prop} (H : Q (some (.int s0)) h) : i_P i_MT i_AT L xs 243 16 [some (.ref x0), some (.int x1), x2, x3] [.int s0] h 0 0 Q := by
  have hk := i_k243
  exact g_ireturn hk rfl (by decide) (by decide) rfl H
theorem b243_24 {x0 : Nat} {x1 : Int32} {x2 : Option Value} {x3 : Option Value} {h : iH} {Q : Option Value → iH → Prop} (H : (i_obj? h x0 12 ∧ i_C i_MT i_AT L xs 224 [.ref x0, .retAddr 7, .int (8 : Int32)] h (fun v h1 => ∃ r2 : Int32, v = some (.int r2) ∧ i_P i_MT i_AT L xs 243 32 [some (.ref x0), some (.int x1), x2, x3] [.int r2] h1 0 0 Q))) : i_P i_MT i_AT L xs 243 24 [some (.ref x0), some (.int x1), x2, x3] [] h 0 0 Q := by
  have hk := i_k243
  refine g_s1 (pc2 := 25) hk rfl rfl rfl rfl rfl ?_
  refine g_step (pc2 := 27) (st2 := [.retAddr 7, .ref x0]) hk rfl rfl rfl rfl ?_
  refine g_s1 (pc2 := 29) (st2 := [.int (8 : Int32), .retAddr 7, .ref x0]) hk rfl rfl rfl rfl rfl ?_
  obtain ⟨ho, H⟩ := H
  refine g_call hk rfl rfl i_k224.1 ⟨rfl, rfl⟩ rfl (i_rcv_v ho rfl (by decide)) rfl ?_
  exact H.mono (fun v h2 q => by obtain ⟨r, rfl, q⟩ := q; exact q)
theorem b243_32 {x0 : Nat} {x1 : Int32} {x2 : Option Value} {x3 : Option Value} {s0 : Int32} {h : iH} {Q : Option Value → iH → Prop} (H : ((s0 = 0 → i_P i_MT i_AT L xs 243 74 [some (.ref x0), some (.int x1), x2, x3] [] h 0 0 Q) ∧ (¬ (s0 = 0) → (i_obj? h x0 12 ∧ i_C i_MT i_AT L xs 225 [.ref x0, .int (2720 : Int32), .int (2 : Int32), .int (8 : Int32)] h (fun v h1 => ∃ r2 : Int32, v = some (.int r2) ∧ i_P i_MT i_AT L xs 243 45 [some (.ref x0), some (.int x1), x2, x3] [.int r2] h1 0 0 Q))))) : i_P i_MT i_AT L xs 243 32 [some (.ref x0), some (.int x1), x2, x3] [.int s0] h 0 0 Q := by
  have hk := i_k243
  refine g_if_eq hk rfl (fun hc => ?_) (fun hc => ?_)
  · have H := H.1 hc
    exact H
  · have H := H.2 hc
    refine g_s1 (pc2 := 36) hk rfl rfl rfl rfl rfl ?_
    refine g_s1 (pc2 := 39) (st2 := [.int (2720 : Int32), .ref x0]) hk rfl rfl rfl rfl rfl ?_
    refine g_s1 (pc2 := 40) (st2 := [.int (2 : Int32), .int (2720 : Int32), .ref x0]) hk rfl rfl rfl rfl rfl ?_
    refine g_s1 (pc2 := 42) (st2 := [.int (8 : Int32), .int (2 : Int32), .int (2720 : Int32), .ref x0]) hk rfl rfl rfl rfl rfl ?_
    obtain ⟨ho, H⟩ := H
    refine g_call hk rfl rfl i_k225.1 ⟨rfl, rfl⟩ rfl (i_rcv_v ho rfl (by decide)) rfl ?_
    exact H.mono (fun v h2 q => by obtain ⟨r, rfl, q⟩ := q; exact q)
theorem b243_45 {x0 : Nat} {x1 : Int32} {x2 : Option Value} {x3 : Option Value} {s0 : Int32} {h : iH} {Q : Option Value → iH → Prop} (H : ((s0 = 0 → i_P i_MT i_AT L xs 243 74 [some (.ref x0), some (.int x1), x2, x3] [] h 0 0 Q) ∧ (¬ (s0 = 0) → (i_obj? h x0 12 ∧ i_C i_MT i_AT L xs 225 [.ref x0, .int (2721 : Int32), .int (2 : Int32), .int (6 : Int32)] h (fun v h1 => ∃ r2 : Int32, v = some (.int r2) ∧ i_P i_MT i_AT L xs 243 58 [some (.ref x0), some (.int x1), x2, x3] [.int r2] h1 0 0 Q))))) : i_P i_MT i_AT L xs 243 45 [some (.ref x0), some (.int x1), x2, x3] [.int s0] h 0 0 Q := by
  have hk := i_k243
  refine g_if_eq hk rfl (fun hc => ?_) (fun hc => ?_)
  · have H := H.1 hc
    exact H
  · have H := H.2 hc
    refine g_s1 (pc2 := 49) hk rfl rfl rfl rfl rfl ?_
    refine g_s1 (pc2 := 52) (st2 := [.int (2721 : Int32), .ref x0]) hk rfl rfl rfl rfl rfl ?_
    refine g_s1 (pc2 := 53) (st2 := [.int (2 : Int32), .int (2721 : Int32), .ref x0]) hk rfl rfl rfl rfl rfl ?_
    refine g_s1 (pc2 := 55) (st2 := [.int (6 : Int32), .int (2 : Int32), .int (2721 : Int32), .ref x0]) hk rfl rfl rfl rfl rfl ?_
    obtain ⟨ho, H⟩ := H
    refine g_call hk rfl rfl i_k225.1 ⟨rfl, rfl⟩ rfl (i_rcv_v ho rfl (by decide)) rfl ?_
    exact H.mono (fun v h2 q => by obtain ⟨r, rfl, q⟩ := q; exact q)
theorem b243_58 {x0 : Nat} {x1 : Int32} {x2 : Option Value} {x3 : Option Value} {s0 : Int32} {h : iH} {Q : Option Value → iH → Prop} (H : ((s0 = 0 → i_P i_MT i_AT L xs 243 74 [some (.ref x0), some (.int x1), x2, x3] [] h 0 0 Q) ∧ (¬ (s0 = 0) → (i_obj? h x0 12 ∧ i_C i_MT i_AT L xs 223 [.ref x0, .int (59 : Int32)] h (fun v h1 => ∃ r2 : Int32, v = some (.int r2) ∧ i_P i_MT i_AT L xs 243 67 [some (.ref x0), some (.int x1), x2, x3] [.int r2] h1 0 0 Q))))) : i_P i_MT i_AT L xs 243 58 [some (.ref x0), some (.int x1), x2, x3] [.int s0] h 0 0 Q := by
  have hk := i_k243
  refine g_if_eq hk rfl (fun hc => ?_) (fun hc => ?_)
  · have H := H.1 hc
    exact H
  · have H := H.2 hc
    refine g_s1 (pc2 := 62) hk rfl rfl rfl rfl rfl ?_
    refine g_s1 (pc2 := 64) (st2 := [.int (59 : Int32), .ref x0]) hk rfl rfl rfl rfl rfl ?_
    obtain ⟨ho, H⟩ := H
    refine g_call hk rfl rfl i_k223.1 ⟨rfl, rfl⟩ rfl (i_rcv_v ho rfl (by decide)) rfl ?_
    exact H.mono (fun v h2 q => by obtain ⟨r, rfl, q⟩ := q; exact q)
theorem b243_67 {x0 : Nat} {x1 : Int32} {x2 : Option Value} {x3 : Option Value} {s0 : Int32} {h : iH} {Q : Option Value → iH → Prop} (H : ((s0 = 0 → i_P i_MT i_AT L xs 243 74 [some (.ref x0), some (.int x1), x2, x3] [] h 0 0 Q) ∧ (¬ (s0 = 0) → i_P i_MT i_AT L xs 243 75 [some (.ref x0), some (.int x1), x2, x3] [.int (1 : Int32)] h 0 0 Q))) : i_P i_MT i_AT L xs 243 67 [some (.ref x0), some (.int x1), x2, x3] [.int s0] h 0 0 Q := by
  have hk := i_k243
  refine g_if_eq hk rfl (fun hc => ?_) (fun hc => ?_)
  · have H := H.1 hc
    exact H
  · have H := H.2 hc
    refine g_s1 (pc2 := 71) (st2 := [.int (1 : Int32)]) hk rfl rfl rfl rfl rfl ?_
    refine g_s1 (pc2 := 75) hk rfl rfl rfl rfl rfl ?_
    exact H
theorem b243_74 {x0 : Nat} {x1 : Int32} {x2 : Option Value} {x3 : Option Value} {h : iH} {Q : Option Value → iH → Prop} (H : i_P i_MT i_AT L xs 243 75 [some (.ref x0), some (.int x1), x2, x3] [.int (0 : Int32)] h 0 0 Q) : i_P i_MT i_AT L xs 243 74 [some (.ref x0), some (.int x1), x2, x3] [] h 0 0 Q := by
  have hk := i_k243
  refine g_s1 (pc2 := 75) (st2 := [.int (0 : Int32)]) hk rfl rfl rfl rfl rfl ?_
  exact H
theorem b243_75 {x0 : Nat} {x1 : Int32} {x2 : Option Value} {x3 : Option Value} {s0 : Int32} {h : iH} {Q : Option Value → iH → Prop} (H : i_P i_MT i_AT L xs 243 76 [some (.ref x0), some (.int x1), some (.int s0), x3] [] h 0 0 Q) : i_P i_MT i_AT L xs 243 75 [some (.ref x0), some (.int x1), x2, x3] [.int s0] h 0 0 Q := by
  have hk := i_k243
  refine g_s1 (pc2 := 76) (lo2 := [some (.ref x0), some (.int x1), some (.int s0), x3]) hk rfl rfl rfl rfl rfl ?_
  exact H
theorem b243_76 {x0 : Nat} {x1 : Int32} {x2 : Int32} {x3 : Option Value} {h : iH} {Q : Option Value → iH → Prop} (H : ((x2 = 0 → i_P i_MT i_AT L xs 243 95 [some (.ref x0), some (.int x1), some (.int x2), x3] [] h 0 0 Q) ∧ (¬ (x2 = 0) → (∃ v1 : Int32, i_fld h x0 12 14 = some (.int v1) ∧ ((v1 = 0 → i_P i_MT i_AT L xs 243 95 [some (.ref x0), some (.int x1), some (.int x2), x3] [] h 0 0 Q) ∧ (¬ (v1 = 0) → (i_obj? h x0 12 ∧ i_C i_MT i_AT L xs 242 [.ref x0] h (fun v h2 => ∃ r3 : Int32, v = some (.int r3) ∧ i_P i_MT i_AT L xs 243 91 [some (.ref x0), some (.int x1), some (.int x2), x3] [.int r3] h2 0 0 Q)))))))) : i_P i_MT i_AT L xs 243 76 [some (.ref x0), some (.int x1), some (.int x2), x3] [] h 0 0 Q := by
  have hk := i_k243
  refine g_s1 (pc2 := 77) hk rfl rfl rfl rfl rfl ?_
  refine g_if_eq hk rfl (fun hc => ?_) (fun hc => ?_)
  · have H := H.1 hc
    exact H
  · have H := H.2 hc
    refine g_s1 (pc2 := 81) hk rfl rfl rfl rfl rfl ?_
    obtain ⟨v1, ev1, H⟩ := H
    refine g_step (pc2 := 84) hk rfl rfl rfl (s_get ev1) ?_
    refine g_if_eq hk rfl (fun hc => ?_) (fun hc => ?_)
    · have H := H.1 hc
      exact H
    · have H := H.2 hc
      refine g_s1 (pc2 := 88) hk rfl rfl rfl rfl rfl ?_
      obtain ⟨ho, H⟩ := H
      refine g_call hk rfl rfl i_k242.1 ⟨rfl, rfl⟩ rfl (i_rcv_v ho rfl (by decide)) rfl ?_
      exact H.mono (fun v h2 q => by obtain ⟨r, rfl, q⟩ := q; exact q)
theorem b243_91 {x0 : Nat} {x1 : Int32} {x2 : Int32} {x3 : Option Value} {s0 : Int32} {h : iH} {Q : Option Value → iH → Prop} (H : i_P i_MT i_AT L xs 243 76 [some (.ref x0), some (.int x1), some (.int s0), x3] [] h 0 0 Q) : i_P i_MT i_AT L xs 243 91 [some (.ref x0), some (.int x1), some (.int x2), x3] [.int s0] h 0 0 Q := by
  have hk := i_k243
  refine g_s1 (pc2 := 92) (lo2 := [some (.ref x0), some (.int x1), some (.int s0), x3]) hk rfl rfl rfl rfl rfl ?_
  refine g_s1 (pc2 := 76) hk rfl rfl rfl rfl rfl ?_
  exact H
theorem b243_95 {x0 : Nat} {x1 : Int32} {x2 : Int32} {x3 : Option Value} {h : iH} {Q : Option Value → iH → Prop} (H : (∃ v1 : Int32, i_fld h x0 12 20 = some (.int v1) ∧ ((¬ v1 = 0 → i_P i_MT i_AT L xs 243 166 [some (.ref x0), some (.int x1), some (.int x2), x3] [] h 0 0 Q) ∧ (¬ (¬ v1 = 0) → i_P i_MT i_AT L xs 243 104 [some (.ref x0), some (.int x1), some (.int x2), some (.int (0 : Int32))] [] h 0 0 Q)))) : i_P i_MT i_AT L xs 243 95 [some (.ref x0), some (.int x1), some (.int x2), x3] [] h 0 0 Q := by
  have hk := i_k243
  refine g_s1 (pc2 := 96) hk rfl rfl rfl rfl rfl ?_
  obtain ⟨v1, ev1, H⟩ := H
  refine g_step (pc2 := 99) hk rfl rfl rfl (s_get ev1) ?_
  refine g_if_ne hk rfl (fun hc => ?_) (fun hc => ?_)
  · have H := H.1 hc
    exact H
  · have H := H.2 hc
    refine g_s1 (pc2 := 103) (st2 := [.int (0 : Int32)]) hk rfl rfl rfl rfl rfl ?_
    refine g_s1 (pc2 := 104) (lo2 := [some (.ref x0), some (.int x1), some (.int x2), some (.int (0 : Int32))]) hk rfl rfl rfl rfl rfl ?_
    exact H
theorem b243_104 {x0 : Nat} {x1 : Int32} {x2 : Int32} {x3 : Int32} {h : iH} {Q : Option Value → iH → Prop} (H : (((680 : Int32) ≤ x3 → i_P i_MT i_AT L xs 243 135 [some (.ref x0), some (.int x1), some (.int x2), some (.int (0 : Int32))] [] h 0 0 Q) ∧ (¬ ((680 : Int32) ≤ x3) → (∃ v1 : Nat, i_fld h x0 12 0 = some (.ref v1) ∧ (∃ v2 : Nat, i_fld h x0 12 0 = some (.ref v2) ∧ (∃ (n3 : Nat) (f4 : Nat → Int32), i_arI h 0 v2 = some (n3, f4) ∧ ¬ (((2720 : Int32) + x3) < 0 ∨ n3 ≤ ((2720 : Int32) + x3).toNatClampNeg) ∧ (∃ (n5 : Nat) (f6 : Nat → Int32), i_arI h 0 v1 = some (n5, f6) ∧ ¬ (x3 < 0 ∨ n5 ≤ x3.toNatClampNeg) ∧ i_P i_MT i_AT L xs 243 127 [some (.ref x0), some (.int x1), some (.int x2), some (.int x3)] [] (i_siI h v1 x3.toNatClampNeg (f4 ((2720 : Int32) + x3).toNatClampNeg)) 0 0 Q))))))) : i_P i_MT i_AT L xs 243 104 [some (.ref x0), some (.int x1), some (.int x2), some (.int x3)] [] h 0 0 Q := by
  have hk := i_k243
  refine g_s1 (pc2 := 105) hk rfl rfl rfl rfl rfl ?_
  refine g_s1 (pc2 := 108) (st2 := [.int (680 : Int32), .int x3]) hk rfl rfl rfl rfl rfl ?_
  refine g_icmp_ge hk rfl (fun hc => ?_) (fun hc => ?_)
  · have H := H.1 hc
    refine g_s1 (pc2 := 134) (st2 := [.int (0 : Int32)]) hk rfl rfl rfl rfl rfl ?_
    refine g_s1 (pc2 := 135) (lo2 := [some (.ref x0), some (.int x1), some (.int x2), some (.int (0 : Int32))]) hk rfl rfl rfl rfl rfl ?_
    exact H
  · have H := H.2 hc
    refine g_s1 (pc2 := 112) hk rfl rfl rfl rfl rfl ?_
    obtain ⟨v1, ev1, H⟩ := H
    refine g_step (pc2 := 115) hk rfl rfl rfl (s_get ev1) ?_
    refine g_s1 (pc2 := 116) hk rfl rfl rfl rfl rfl ?_
    refine g_s1 (pc2 := 117) hk rfl rfl rfl rfl rfl ?_
    obtain ⟨v2, ev2, H⟩ := H
    refine g_step (pc2 := 120) hk rfl rfl rfl (s_get ev2) ?_
    refine g_s1 (pc2 := 123) (st2 := [.int (2720 : Int32), .ref v2, .int x3, .ref v1]) hk rfl rfl rfl rfl rfl ?_
    refine g_s1 (pc2 := 124) hk rfl rfl rfl rfl rfl ?_
    refine g_s1 (pc2 := 125) hk rfl rfl rfl rfl rfl ?_
    obtain ⟨n3, f4, ef4, hi, H⟩ := H
    refine g_step (pc2 := 126) hk rfl rfl rfl (s_aget (L := L) (xs := xs) ef4 hi) ?_
    obtain ⟨n5, f6, ef6, hi, H⟩ := H
    refine g_step (pc2 := 127) hk rfl rfl rfl (s_aput ef6 hi) ?_
    exact H
theorem b243_127 {x0 : Nat} {x1 : Int32} {x2 : Int32} {x3 : Int32} {h : iH} {Q : Option Value → iH → Prop} (H : i_P i_MT i_AT L xs 243 104 [some (.ref x0), some (.int x1), some (.int x2), some (.int (x3 + 1))] [] h 0 0 Q) : i_P i_MT i_AT L xs 243 127 [some (.ref x0), some (.int x1), some (.int x2), some (.int x3)] [] h 0 0 Q := by
  have hk := i_k243
  refine g_s1 (pc2 := 130) (lo2 := [some (.ref x0), some (.int x1), some (.int x2), some (.int (x3 + 1))]) hk rfl rfl rfl rfl rfl ?_
  refine g_s1 (pc2 := 104) hk rfl rfl rfl rfl rfl ?_
  exact H
theorem b243_135 {x0 : Nat} {x1 : Int32} {x2 : Int32} {x3 : Int32} {h : iH} {Q : Option Value → iH → Prop} (H : (((8 : Int32) ≤ x3 → (i_obj? h x0 12 ∧ i_C i_MT i_AT L xs 252 [.ref x0] h (fun v h1 => v = none ∧ i_P i_MT i_AT L xs 243 166 [some (.ref x0), some (.int x1), some (.int x2), some (.int x3)] [] h1 0 0 Q))) ∧ (¬ ((8 : Int32) ≤ x3) → (∃ v3 : Nat, i_fld h x0 12 1 = some (.ref v3) ∧ (∃ v4 : Nat, i_fld h x0 12 1 = some (.ref v4) ∧ (∃ (n5 : Nat) (f6 : Nat → Int64), i_arJ h v4 = some (n5, f6) ∧ ¬ (((32 : Int32) + x3) < 0 ∨ n5 ≤ ((32 : Int32) + x3).toNatClampNeg) ∧ (∃ (n7 : Nat) (f8 : Nat → Int64), i_arJ h v3 = some (n7, f8) ∧ ¬ (x3 < 0 ∨ n7 ≤ x3.toNatClampNeg) ∧ i_P i_MT i_AT L xs 243 156 [some (.ref x0), some (.int x1), some (.int x2), some (.int x3)] [] (i_siJ h v3 x3.toNatClampNeg (f6 ((32 : Int32) + x3).toNatClampNeg)) 0 0 Q))))))) : i_P i_MT i_AT L xs 243 135 [some (.ref x0), some (.int x1), some (.int x2), some (.int x3)] [] h 0 0 Q := by
  have hk := i_k243
  refine g_s1 (pc2 := 136) hk rfl rfl rfl rfl rfl ?_
  refine g_s1 (pc2 := 138) (st2 := [.int (8 : Int32), .int x3]) hk rfl rfl rfl rfl rfl ?_
  refine g_icmp_ge hk rfl (fun hc => ?_) (fun hc => ?_)
  · have H := H.1 hc
    refine g_s1 (pc2 := 163) hk rfl rfl rfl rfl rfl ?_
    obtain ⟨ho, H⟩ := H
    refine g_call hk rfl rfl i_k252.1 ⟨rfl, rfl⟩ rfl (i_rcv_v ho rfl (by decide)) rfl ?_
    exact H.mono (fun v h2 q => by obtain ⟨rfl, q⟩ := q; exact q)
  · have H := H.2 hc
    refine g_s1 (pc2 := 142) hk rfl rfl rfl rfl rfl ?_
    obtain ⟨v3, ev3, H⟩ := H
    refine g_step (pc2 := 145) hk rfl rfl rfl (s_get ev3) ?_
    refine g_s1 (pc2 := 146) hk rfl rfl rfl rfl rfl ?_
    refine g_s1 (pc2 := 147) hk rfl rfl rfl rfl rfl ?_
    obtain ⟨v4, ev4, H⟩ := H
    refine g_step (pc2 := 150) hk rfl rfl rfl (s_get ev4) ?_
    refine g_s1 (pc2 := 152) (st2 := [.int (32 : Int32), .ref v4, .int x3, .ref v3]) hk rfl rfl rfl rfl rfl ?_
    refine g_s1 (pc2 := 153) hk rfl rfl rfl rfl rfl ?_
    refine g_s1 (pc2 := 154) hk rfl rfl rfl rfl rfl ?_
    obtain ⟨n5, f6, ef6, hi, H⟩ := H
    refine g_step (pc2 := 155) hk rfl rfl rfl (s_lget ef6 hi) ?_
    obtain ⟨n7, f8, ef8, hi, H⟩ := H
    refine g_step (pc2 := 156) hk rfl rfl rfl (s_lput ef8 hi) ?_
    exact H
theorem b243_156 {x0 : Nat} {x1 : Int32} {x2 : Int32} {x3 : Int32} {h : iH} {Q : Option Value → iH → Prop} (H : i_P i_MT i_AT L xs 243 135 [some (.ref x0), some (.int x1), some (.int x2), some (.int (x3 + 1))] [] h 0 0 Q) : i_P i_MT i_AT L xs 243 156 [some (.ref x0), some (.int x1), some (.int x2), some (.int x3)] [] h 0 0 Q := by
  have hk := i_k243
  refine g_s1 (pc2 := 159) (lo2 := [some (.ref x0), some (.int x1), some (.int x2), some (.int (x3 + 1))]) hk rfl rfl rfl rfl rfl ?_
  refine g_s1 (pc2 := 135) hk rfl rfl rfl rfl rfl ?_
  exact H
theorem b243_166 {x0 : Nat} {x1 : Int32} {x2 : Int32} {x3 : Option Value} {h : iH} {Q : Option Value → iH → Prop} (H : (i_obj? h x0 12 ∧ i_C i_MT i_AT L xs 248 [.ref x0] h (fun v h1 => ∃ r2 : Int32, v = some (.int r2) ∧ i_P i_MT i_AT L xs 243 171 [some (.ref x0), some (.int x1), some (.int x2), x3] [.int r2, .ref x0] h1 0 0 Q))) : i_P i_MT i_AT L xs 243 166 [some (.ref x0), some (.int x1), some (.int x2), x3] [] h 0 0 Q := by
  have hk := i_k243
  refine g_s1 (pc2 := 167) hk rfl rfl rfl rfl rfl ?_
  refine g_s1 (pc2 := 168) hk rfl rfl rfl rfl rfl ?_
  obtain ⟨ho, H⟩ := H
  refine g_call hk rfl rfl i_k248.1 ⟨rfl, rfl⟩ rfl (i_rcv_v ho rfl (by decide)) rfl ?_
  exact H.mono (fun v h2 q => by obtain ⟨r, rfl, q⟩ := q; exact q)
theorem b243_171 {x0 : Nat} {x1 : Int32} {x2 : Int32} {x3 : Option Value} {s0 : Nat} {s1 : Int32} {h : iH} {Q : Option Value → iH → Prop} (H : (i_obj? h s0 12 ∧ i_C i_MT i_AT L xs 230 [.ref s0, .int s1] h (fun v h1 => ∃ r2 : Int32, v = some (.int r2) ∧ i_P i_MT i_AT L xs 243 174 [some (.ref x0), some (.int x1), some (.int x2), x3] [.int r2] h1 0 0 Q))) : i_P i_MT i_AT L xs 243 171 [some (.ref x0), some (.int x1), some (.int x2), x3] [.int s1, .ref s0] h 0 0 Q := by
  have hk := i_k243
  obtain ⟨ho, H⟩ := H
  refine g_call hk rfl rfl i_k230.1 ⟨rfl, rfl⟩ rfl (i_rcv_v ho rfl (by decide)) rfl ?_
  exact H.mono (fun v h2 q => by obtain ⟨r, rfl, q⟩ := q; exact q)
theorem b243_174 {x0 : Nat} {x1 : Int32} {x2 : Int32} {x3 : Option Value} {s0 : Int32} {h : iH} {Q : Option Value → iH → Prop} (H : Q (some (.int s0)) h) : i_P i_MT i_AT L xs 243 174 [some (.ref x0), some (.int x1), some (.int x2), x3] [.int s0] h 0 0 Q := by
  have hk := i_k243
  exact g_ireturn hk rfl (by decide) (by decide) rfl H
/-! StillTownModel.aMove()Z -/
theorem e244 {x0 : Nat} {h : iH} {Q : Option Value → iH → Prop} (H : i_P i_MT i_AT L xs 244 0 [some (.ref x0), none, none, none, none] [] h 0 0 Q) : i_C i_MT i_AT L xs 244 [.ref x0] h Q := ⟨i_m244, i_k244.1, Nat.le_of_ble_eq_true rfl, H⟩
theorem b244_0 {x0 : Nat} {x1 : Option Value} {x2 : Option Value} {x3 : Option Value} {x4 : Option Value} {h : iH} {Q : Option Value → iH → Prop} (H : (i_obj? h x0 12 ∧ i_C i_MT i_AT L xs 220 [.ref x0, .retAddr 7] h (fun v h1 => ∃ r2 : Int32, v = some (.int r2) ∧ i_P i_MT i_AT L xs 244 6 [some (.ref x0), x1, x2, x3, x4] [.int r2] h1 0 0 Q))) : i_P i_MT i_AT L xs 244 0 [some (.ref x0), x1, x2, x3, x4] [] h 0 0 Q := by
  have hk := i_k244
  refine g_s1 (pc2 := 1) hk rfl rfl rfl rfl rfl ?_
  refine g_step (pc2 := 3) (st2 := [.retAddr 7, .ref x0]) hk rfl rfl rfl rfl ?_
  obtain ⟨ho, H⟩ := H
  refine g_call hk rfl rfl i_k220.1 ⟨rfl, rfl⟩ rfl (i_rcv_v ho rfl (by decide)) rfl ?_
  exact H.mono (fun v h2 q => by obtain ⟨r, rfl, q⟩ := q; exact q)
theorem b244_6 {x0 : Nat} {x1 : Option Value} {x2 : Option Value} {x3 : Option Value} {x4 : Option Value} {s0 : Int32} {h : iH} {Q : Option Value → iH → Prop} (H : ((s0 = (29 : Int32) → i_P i_MT i_AT L xs 244 25 [some (.ref x0), some (.int s0), x2, x3, x4] [] h 0 0 Q) ∧ (¬ (s0 = (29 : Int32)) → ((s0 = (24 : Int32) → i_P i_MT i_AT L xs 244 25 [some (.ref x0), some (.int s0), x2, x3, x4] [] h 0 0 Q) ∧ (¬ (s0 = (24 : Int32)) → ((¬ s0 = (25 : Int32) → i_P i_MT i_AT L xs 244 30 [some (.ref x0), some (.int s0), x2, x3, x4] [.int (0 : Int32)] h 0 0 Q) ∧ (¬ (¬ s0 = (25 : Int32)) → i_P i_MT i_AT L xs 244 25 [some (.ref x0), some (.int s0), x2, x3, x4] [] h 0 0 Q))))))) : i_P i_MT i_AT L xs 244 6 [some (.ref x0), x1, x2, x3, x4] [.int s0] h 0 0 Q := by
  have hk := i_k244
  refine g_s1 (pc2 := 7) (lo2 := [some (.ref x0), some (.int s0), x2, x3, x4]) hk rfl rfl rfl rfl rfl ?_
  refine g_s1 (pc2 := 8) hk rfl rfl rfl rfl rfl ?_
  refine g_s1 (pc2 := 10) (st2 := [.int (29 : Int32), .int s0]) hk rfl rfl rfl rfl rfl ?_
  refine g_icmp_eq hk rfl (fun hc => ?_) (fun hc => ?_)
  · have H := H.1 hc
    exact H
  · have H := H.2 hc
    refine g_s1 (pc2 := 14) hk rfl rfl rfl rfl rfl ?_
    refine g_s1 (pc2 := 16) (st2 := [.int (24 : Int32), .int s0]) hk rfl rfl rfl rfl rfl ?_
    refine g_icmp_eq hk rfl (fun hc => ?_) (fun hc => ?_)
    · have H := H.1 hc
      exact H
    · have H := H.2 hc
      refine g_s1 (pc2 := 20) hk rfl rfl rfl rfl rfl ?_
      refine g_s1 (pc2 := 22) (st2 := [.int (25 : Int32), .int s0]) hk rfl rfl rfl rfl rfl ?_
      refine g_icmp_ne hk rfl (fun hc => ?_) (fun hc => ?_)
      · have H := H.1 hc
        refine g_s1 (pc2 := 30) (st2 := [.int (0 : Int32)]) hk rfl rfl rfl rfl rfl ?_
        exact H
      · have H := H.2 hc
        exact H
theorem b244_25 {x0 : Nat} {x1 : Int32} {x2 : Option Value} {x3 : Option Value} {x4 : Option Value} {h : iH} {Q : Option Value → iH → Prop} (H : i_P i_MT i_AT L xs 244 30 [some (.ref x0), some (.int x1), x2, x3, x4] [.int (1 : Int32)] h 0 0 Q) : i_P i_MT i_AT L xs 244 25 [some (.ref x0), some (.int x1), x2, x3, x4] [] h 0 0 Q := by
  have hk := i_k244
  refine g_s1 (pc2 := 26) (st2 := [.int (1 : Int32)]) hk rfl rfl rfl rfl rfl ?_
  refine g_s1 (pc2 := 30) hk rfl rfl rfl rfl rfl ?_
  exact H
theorem b244_30 {x0 : Nat} {x1 : Int32} {x2 : Option Value} {x3 : Option Value} {x4 : Option Value} {s0 : Int32} {h : iH} {Q : Option Value → iH → Prop} (H : ((¬ x1 = (26 : Int32) → i_P i_MT i_AT L xs 244 42 [some (.ref x0), some (.int x1), some (.int s0), x3, x4] [.int (0 : Int32)] h 0 0 Q) ∧ (¬ (¬ x1 = (26 : Int32)) → i_P i_MT i_AT L xs 244 42 [some (.ref x0), some (.int x1), some (.int s0), x3, x4] [.int (1 : Int32)] h 0 0 Q))) : i_P i_MT i_AT L xs 244 30 [some (.ref x0), some (.int x1), x2, x3, x4] [.int s0] h 0 0 Q := by
  have hk := i_k244
  refine g_s1 (pc2 := 31) (lo2 := [some (.ref x0), some (.int x1), some (.int s0), x3, x4]) hk rfl rfl rfl rfl rfl ?_
  refine g_s1 (pc2 := 32) hk rfl rfl rfl rfl rfl ?_
  refine g_s1 (pc2 := 34) (st2 := [.int (26 : Int32), .int x1]) hk rfl rfl rfl rfl rfl ?_
  refine g_icmp_ne hk rfl (fun hc => ?_) (fun hc => ?_)
  · have H := H.1 hc
    refine g_s1 (pc2 := 42) (st2 := [.int (0 : Int32)]) hk rfl rfl rfl rfl rfl ?_
    exact H
  · have H := H.2 hc
    refine g_s1 (pc2 := 38) (st2 := [.int (1 : Int32)]) hk rfl rfl rfl rfl rfl ?_
    refine g_s1 (pc2 := 42) hk rfl rfl rfl rfl rfl ?_
    exact H
theorem b244_42 {x0 : Nat} {x1 : Int32} {x2 : Int32} {x3 : Option Value} {x4 : Option Value} {s0 : Int32} {h : iH} {Q : Option Value → iH → Prop} (H : ((¬ x2 = 0 → i_P i_MT i_AT L xs 244 82 [some (.ref x0), some (.int x1), some (.int x2), some (.int s0), x4] [] h 0 0 Q) ∧ (¬ (¬ x2 = 0) → ((¬ s0 = 0 → i_P i_MT i_AT L xs 244 82 [some (.ref x0), some (.int x1), some (.int x2), some (.int s0), x4] [] h 0 0 Q) ∧ (¬ (¬ s0 = 0) → ((x1 = (30 : Int32) → i_P i_MT i_AT L xs 244 82 [some (.ref x0), some (.int x1), some (.int x2), some (.int s0), x4] [] h 0 0 Q) ∧ (¬ (x1 = (30 : Int32)) → ((x1 = (31 : Int32) → i_P i_MT i_AT L xs 244 82 [some (.ref x0), some (.int x1), some (.int x2), some (.int s0), x4] [] h 0 0 Q) ∧ (¬ (x1 = (31 : Int32)) → ((¬ x1 = (32 : Int32) → i_P i_MT i_AT L xs 244 76 [some (.ref x0), some (.int x1), some (.int x2), some (.int s0), x4] [] h 0 0 Q) ∧ (¬ (¬ x1 = (32 : Int32)) → (∃ v1 : Int32, i_fld h x0 12 28 = some (.int v1) ∧ ((¬ v1 = 0 → i_P i_MT i_AT L xs 244 82 [some (.ref x0), some (.int x1), some (.int x2), some (.int s0), x4] [] h 0 0 Q) ∧ (¬ (¬ v1 = 0) → i_P i_MT i_AT L xs 244 76 [some (.ref x0), some (.int x1), some (.int x2), some (.int s0), x4] [] h 0 0 Q)))))))))))))) : i_P i_MT i_AT L xs 244 42 [some (.ref x0), some (.int x1), some (.int x2), x3, x4] [.int s0] h 0 0 Q := by
  have hk := i_k244
  refine g_s1 (pc2 := 43) (lo2 := [some (.ref x0), some (.int x1), some (.int x2), some (.int s0), x4]) hk rfl rfl rfl rfl rfl ?_
  refine g_s1 (pc2 := 44) hk rfl rfl rfl rfl rfl ?_
  refine g_if_ne hk rfl (fun hc => ?_) (fun hc => ?_)
  · have H := H.1 hc
    exact H
  · have H := H.2 hc
    refine g_s1 (pc2 := 48) hk rfl rfl rfl rfl rfl ?_
    refine g_if_ne hk rfl (fun hc => ?_) (fun hc => ?_)
    · have H := H.1 hc
      exact H
    · have H := H.2 hc
      refine g_s1 (pc2 := 52) hk rfl rfl rfl rfl rfl ?_
      refine g_s1 (pc2 := 54) (st2 := [.int (30 : Int32), .int x1]) hk rfl rfl rfl rfl rfl ?_
      refine g_icmp_eq hk rfl (fun hc => ?_) (fun hc => ?_)
      · have H := H.1 hc
        exact H
      · have H := H.2 hc
        refine g_s1 (pc2 := 58) hk rfl rfl rfl rfl rfl ?_
        refine g_s1 (pc2 := 60) (st2 := [.int (31 : Int32), .int x1]) hk rfl rfl rfl rfl rfl ?_
        refine g_icmp_eq hk rfl (fun hc => ?_) (fun hc => ?_)
        · have H := H.1 hc
          exact H
        · have H := H.2 hc
          refine g_s1 (pc2 := 64) hk rfl rfl rfl rfl rfl ?_
          refine g_s1 (pc2 := 66) (st2 := [.int (32 : Int32), .int x1]) hk rfl rfl rfl rfl rfl ?_
          refine g_icmp_ne hk rfl (fun hc => ?_) (fun hc => ?_)
          · have H := H.1 hc
            exact H
          · have H := H.2 hc
            refine g_s1 (pc2 := 70) hk rfl rfl rfl rfl rfl ?_
            obtain ⟨v1, ev1, H⟩ := H
            refine g_step (pc2 := 73) hk rfl rfl rfl (s_get ev1) ?_
            refine g_if_ne hk rfl (fun hc => ?_) (fun hc => ?_)
            · have H := H.1 hc
              exact H
            · have H := H.2 hc
              exact H
theorem b244_76 {x0 : Nat} {x1 : Int32} {x2 : Int32} {x3 : Int32} {x4 : Option Value} {h : iH} {Q : Option Value → iH → Prop} (H : (i_obj? h x0 12 ∧ i_C i_MT i_AT L xs 221 [.ref x0, .int (2 : Int32)] h (fun v h1 => ∃ r2 : Int32, v = some (.int r2) ∧ i_P i_MT i_AT L xs 244 81 [some (.ref x0), some (.int x1), some (.int x2), some (.int x3), x4] [.int r2] h1 0 0 Q))) : i_P i_MT i_AT L xs 244 76 [some (.ref x0), some (.int x1), some (.int x2), some (.int x3), x4] [] h 0 0 Q := by
  have hk := i_k244
  refine g_s1 (pc2 := 77) hk rfl rfl rfl rfl rfl ?_
  refine g_s1 (pc2 := 78) (st2 := [.int (2 : Int32), .ref x0]) hk rfl rfl rfl rfl rfl ?_
  obtain ⟨ho, H⟩ := H
  refine g_call hk rfl rfl i_k221.1 ⟨rfl, rfl⟩ rfl (i_rcv_v ho rfl (by decide)) rfl ?_
  exact H.mono (fun v h2 q => by obtain ⟨r, rfl, q⟩ := q; exact q)
theorem b244_81 {x0 : Nat} {x1 : Int32} {x2 : Int32} {x3 : Int32} {x4 : Option Value} {s0 : Int32} {h : iH} {Q : Option Value → iH → Prop} (H : (i_ret (some .boolean) s0 = true ∧ Q (some (.int s0)) h)) : i_P i_MT i_AT L xs 244 81 [some (.ref x0), some (.int x1), some (.int x2), some (.int x3), x4] [.int s0] h 0 0 Q := by
  have hk := i_k244
  exact g_ireturn hk rfl (by decide) (by decide) H.1 H.2
theorem b244_82 {x0 : Nat} {x1 : Int32} {x2 : Int32} {x3 : Int32} {x4 : Option Value} {h : iH} {Q : Option Value → iH → Prop} (H : ((x1 = (32 : Int32) → i_P i_MT i_AT L xs 244 104 [some (.ref x0), some (.int x1), some (.int x2), some (.int x3), x4] [] h 0 0 Q) ∧ (¬ (x1 = (32 : Int32)) → (∃ v1 : Int32, i_fld h x0 12 27 = some (.int v1) ∧ ((¬ v1 = (40 : Int32) → i_P i_MT i_AT L xs 244 104 [some (.ref x0), some (.int x1), some (.int x2), some (.int x3), x4] [] h 0 0 Q) ∧ (¬ (¬ v1 = (40 : Int32)) → (i_obj? h x0 12 ∧ i_C i_MT i_AT L xs 221 [.ref x0, .int (6 : Int32)] h (fun v h2 => ∃ r3 : Int32, v = some (.int r3) ∧ i_P i_MT i_AT L xs 244 103 [some (.ref x0), some (.int x1), some (.int x2), some (.int x3), x4] [.int r3] h2 0 0 Q)))))))) : i_P i_MT i_AT L xs 244 82 [some (.ref x0), some (.int x1), some (.int x2), some (.int x3), x4] [] h 0 0 Q := by
  have hk := i_k244
  refine g_s1 (pc2 := 83) hk rfl rfl rfl rfl rfl ?_
  refine g_s1 (pc2 := 85) (st2 := [.int (32 : Int32), .int x1]) hk rfl rfl rfl rfl rfl ?_
  refine g_icmp_eq hk rfl (fun hc => ?_) (fun hc => ?_)
  · have H := H.1 hc
    exact H
  · have H := H.2 hc
    refine g_s1 (pc2 := 89) hk rfl rfl rfl rfl rfl ?_
    obtain ⟨v1, ev1, H⟩ := H
    refine g_step (pc2 := 92) hk rfl rfl rfl (s_get ev1) ?_
    refine g_s1 (pc2 := 94) (st2 := [.int (40 : Int32), .int v1]) hk rfl rfl rfl rfl rfl ?_
    refine g_icmp_ne hk rfl (fun hc => ?_) (fun hc => ?_)
    · have H := H.1 hc
      exact H
    · have H := H.2 hc
      refine g_s1 (pc2 := 98) hk rfl rfl rfl rfl rfl ?_
      refine g_s1 (pc2 := 100) (st2 := [.int (6 : Int32), .ref x0]) hk rfl rfl rfl rfl rfl ?_
      obtain ⟨ho, H⟩ := H
      refine g_call hk rfl rfl i_k221.1 ⟨rfl, rfl⟩ rfl (i_rcv_v ho rfl (by decide)) rfl ?_
      exact H.mono (fun v h2 q => by obtain ⟨r, rfl, q⟩ := q; exact q)
theorem b244_103 {x0 : Nat} {x1 : Int32} {x2 : Int32} {x3 : Int32} {x4 : Option Value} {s0 : Int32} {h : iH} {Q : Option Value → iH → Prop} (H : (i_ret (some .boolean) s0 = true ∧ Q (some (.int s0)) h)) : i_P i_MT i_AT L xs 244 103 [some (.ref x0), some (.int x1), some (.int x2), some (.int x3), x4] [.int s0] h 0 0 Q := by
  have hk := i_k244
  exact g_ireturn hk rfl (by decide) (by decide) H.1 H.2
theorem b244_104 {x0 : Nat} {x1 : Int32} {x2 : Int32} {x3 : Int32} {x4 : Option Value} {h : iH} {Q : Option Value → iH → Prop} (H : ((¬ x1 = (31 : Int32) → i_P i_MT i_AT L xs 244 125 [some (.ref x0), some (.int x1), some (.int x2), some (.int x3), x4] [] h 0 0 Q) ∧ (¬ (¬ x1 = (31 : Int32)) → (∃ v1 : Int32, i_fld h x0 12 28 = some (.int v1) ∧ ((¬ v1 = (2 : Int32) → i_P i_MT i_AT L xs 244 125 [some (.ref x0), some (.int x1), some (.int x2), some (.int x3), x4] [] h 0 0 Q) ∧ (¬ (¬ v1 = (2 : Int32)) → (i_obj? h x0 12 ∧ i_C i_MT i_AT L xs 221 [.ref x0, .int (7 : Int32)] h (fun v h2 => ∃ r3 : Int32, v = some (.int r3) ∧ i_P i_MT i_AT L xs 244 124 [some (.ref x0), some (.int x1), some (.int x2), some (.int x3), x4] [.int r3] h2 0 0 Q)))))))) : i_P i_MT i_AT L xs 244 104 [some (.ref x0), some (.int x1), some (.int x2), some (.int x3), x4] [] h 0 0 Q := by
  have hk := i_k244
  refine g_s1 (pc2 := 105) hk rfl rfl rfl rfl rfl ?_
  refine g_s1 (pc2 := 107) (st2 := [.int (31 : Int32), .int x1]) hk rfl rfl rfl rfl rfl ?_
  refine g_icmp_ne hk rfl (fun hc => ?_) (fun hc => ?_)
  · have H := H.1 hc
    exact H
  · have H := H.2 hc
    refine g_s1 (pc2 := 111) hk rfl rfl rfl rfl rfl ?_
    obtain ⟨v1, ev1, H⟩ := H
    refine g_step (pc2 := 114) hk rfl rfl rfl (s_get ev1) ?_
    refine g_s1 (pc2 := 115) (st2 := [.int (2 : Int32), .int v1]) hk rfl rfl rfl rfl rfl ?_
    refine g_icmp_ne hk rfl (fun hc => ?_) (fun hc => ?_)
    · have H := H.1 hc
      exact H
    · have H := H.2 hc
      refine g_s1 (pc2 := 119) hk rfl rfl rfl rfl rfl ?_
      refine g_s1 (pc2 := 121) (st2 := [.int (7 : Int32), .ref x0]) hk rfl rfl rfl rfl rfl ?_
      obtain ⟨ho, H⟩ := H
      refine g_call hk rfl rfl i_k221.1 ⟨rfl, rfl⟩ rfl (i_rcv_v ho rfl (by decide)) rfl ?_
      exact H.mono (fun v h2 q => by obtain ⟨r, rfl, q⟩ := q; exact q)
theorem b244_124 {x0 : Nat} {x1 : Int32} {x2 : Int32} {x3 : Int32} {x4 : Option Value} {s0 : Int32} {h : iH} {Q : Option Value → iH → Prop} (H : (i_ret (some .boolean) s0 = true ∧ Q (some (.int s0)) h)) : i_P i_MT i_AT L xs 244 124 [some (.ref x0), some (.int x1), some (.int x2), some (.int x3), x4] [.int s0] h 0 0 Q := by
  have hk := i_k244
  exact g_ireturn hk rfl (by decide) (by decide) H.1 H.2
theorem b244_125 {x0 : Nat} {x1 : Int32} {x2 : Int32} {x3 : Int32} {x4 : Option Value} {h : iH} {Q : Option Value → iH → Prop} (H : (∃ v1 : Int32, i_fld h x0 12 27 = some (.int v1) ∧ ((¬ x1 = (32 : Int32) → i_P i_MT i_AT L xs 244 141 [some (.ref x0), some (.int x1), some (.int x2), some (.int x3), x4] [.int (1 : Int32), .int v1, .ref x0] h 0 0 Q) ∧ (¬ (¬ x1 = (32 : Int32)) → i_P i_MT i_AT L xs 244 141 [some (.ref x0), some (.int x1), some (.int x2), some (.int x3), x4] [.int (0 : Int32), .int v1, .ref x0] h 0 0 Q)))) : i_P i_MT i_AT L xs 244 125 [some (.ref x0), some (.int x1), some (.int x2), some (.int x3), x4] [] h 0 0 Q := by
  have hk := i_k244
  refine g_s1 (pc2 := 126) hk rfl rfl rfl rfl rfl ?_
  refine g_s1 (pc2 := 127) hk rfl rfl rfl rfl rfl ?_
  obtain ⟨v1, ev1, H⟩ := H
  refine g_step (pc2 := 130) hk rfl rfl rfl (s_get ev1) ?_
  refine g_s1 (pc2 := 131) hk rfl rfl rfl rfl rfl ?_
  refine g_s1 (pc2 := 133) (st2 := [.int (32 : Int32), .int x1, .int v1, .ref x0]) hk rfl rfl rfl rfl rfl ?_
  refine g_icmp_ne hk rfl (fun hc => ?_) (fun hc => ?_)
  · have H := H.1 hc
    refine g_s1 (pc2 := 141) (st2 := [.int (1 : Int32), .int v1, .ref x0]) hk rfl rfl rfl rfl rfl ?_
    exact H
  · have H := H.2 hc
    refine g_s1 (pc2 := 137) (st2 := [.int (0 : Int32), .int v1, .ref x0]) hk rfl rfl rfl rfl rfl ?_
    refine g_s1 (pc2 := 141) hk rfl rfl rfl rfl rfl ?_
    exact H
theorem b244_141 {x0 : Nat} {x1 : Int32} {x2 : Int32} {x3 : Int32} {x4 : Option Value} {s0 : Nat} {s1 : Int32} {s2 : Int32} {h : iH} {Q : Option Value → iH → Prop} (H : ((∃ o, i_fld h s0 12 27 = some o) ∧ i_P i_MT i_AT L xs 244 145 [some (.ref x0), some (.int x1), some (.int x2), some (.int x3), x4] [] (i_sf h s0 27 (.int (s1 + s2))) 0 0 Q)) : i_P i_MT i_AT L xs 244 141 [some (.ref x0), some (.int x1), some (.int x2), some (.int x3), x4] [.int s2, .int s1, .ref s0] h 0 0 Q := by
  have hk := i_k244
  refine g_s1 (pc2 := 142) hk rfl rfl rfl rfl rfl ?_
  obtain ⟨⟨o, ho⟩, H⟩ := H
  refine g_step (pc2 := 145) hk rfl rfl rfl (s_put ho rfl) ?_
  exact H
theorem b244_145 {x0 : Nat} {x1 : Int32} {x2 : Int32} {x3 : Int32} {x4 : Option Value} {h : iH} {Q : Option Value → iH → Prop} (H : (∃ v1 : Int32, i_fld h x0 12 26 = some (.int v1) ∧ (∃ v2 : Nat, i_fld h x0 12 23 = some (.ref v2) ∧ (∃ (n3 : Nat) (f4 : Nat → Int32), i_arI h 0 v2 = some (n3, f4) ∧ ¬ (((3 : Int32) * v1) < 0 ∨ n3 ≤ ((3 : Int32) * v1).toNatClampNeg) ∧ i_P i_MT i_AT L xs 244 161 [some (.ref x0), some (.int x1), some (.int x2), some (.int x3), some (.int ((3 : Int32) * v1))] [] (i_siI h v2 ((3 : Int32) * v1).toNatClampNeg x1) 0 0 Q)))) : i_P i_MT i_AT L xs 244 145 [some (.ref x0), some (.int x1), some (.int x2), some (.int x3), x4] [] h 0 0 Q := by
  have hk := i_k244
  refine g_s1 (pc2 := 146) (st2 := [.int (3 : Int32)]) hk rfl rfl rfl rfl rfl ?_
  refine g_s1 (pc2 := 147) hk rfl rfl rfl rfl rfl ?_
  obtain ⟨v1, ev1, H⟩ := H
  refine g_step (pc2 := 150) hk rfl rfl rfl (s_get ev1) ?_
  refine g_s1 (pc2 := 151) hk rfl rfl rfl rfl rfl ?_
  refine g_s1 (pc2 := 153) (lo2 := [some (.ref x0), some (.int x1), some (.int x2), some (.int x3), some (.int ((3 : Int32) * v1))]) hk rfl rfl rfl rfl rfl ?_
  refine g_s1 (pc2 := 154) hk rfl rfl rfl rfl rfl ?_
  obtain ⟨v2, ev2, H⟩ := H
  refine g_step (pc2 := 157) hk rfl rfl rfl (s_get ev2) ?_
  refine g_s1 (pc2 := 159) hk rfl rfl rfl rfl rfl ?_
  refine g_s1 (pc2 := 160) hk rfl rfl rfl rfl rfl ?_
  obtain ⟨n3, f4, ef4, hi, H⟩ := H
  refine g_step (pc2 := 161) hk rfl rfl rfl (s_aput ef4 hi) ?_
  exact H
theorem b244_161 {x0 : Nat} {x1 : Int32} {x2 : Int32} {x3 : Int32} {x4 : Int32} {h : iH} {Q : Option Value → iH → Prop} (H : (∃ v1 : Nat, i_fld h x0 12 23 = some (.ref v1) ∧ (∃ (n2 : Nat) (f3 : Nat → Int32), i_arI h 0 v1 = some (n2, f3) ∧ ¬ ((x4 + (1 : Int32)) < 0 ∨ n2 ≤ (x4 + (1 : Int32)).toNatClampNeg) ∧ i_P i_MT i_AT L xs 244 171 [some (.ref x0), some (.int x1), some (.int x2), some (.int x3), some (.int x4)] [] (i_siI h v1 (x4 + (1 : Int32)).toNatClampNeg (0 : Int32)) 0 0 Q))) : i_P i_MT i_AT L xs 244 161 [some (.ref x0), some (.int x1), some (.int x2), some (.int x3), some (.int x4)] [] h 0 0 Q := by
  have hk := i_k244
  refine g_s1 (pc2 := 162) hk rfl rfl rfl rfl rfl ?_
  obtain ⟨v1, ev1, H⟩ := H
  refine g_step (pc2 := 165) hk rfl rfl rfl (s_get ev1) ?_
  refine g_s1 (pc2 := 167) hk rfl rfl rfl rfl rfl ?_
  refine g_s1 (pc2 := 168) (st2 := [.int (1 : Int32), .int x4, .ref v1]) hk rfl rfl rfl rfl rfl ?_
  refine g_s1 (pc2 := 169) hk rfl rfl rfl rfl rfl ?_
  refine g_s1 (pc2 := 170) (st2 := [.int (0 : Int32), .int (x4 + (1 : Int32)), .ref v1]) hk rfl rfl rfl rfl rfl ?_
  obtain ⟨n2, f3, ef3, hi, H⟩ := H
  refine g_step (pc2 := 171) hk rfl rfl rfl (s_aput ef3 hi) ?_
  exact H
theorem b244_171 {x0 : Nat} {x1 : Int32} {x2 : Int32} {x3 : Int32} {x4 : Int32} {h : iH} {Q : Option Value → iH → Prop} (H : (∃ v1 : Int32, i_fld h x0 12 26 = some (.int v1) ∧ ((∃ o, i_fld h x0 12 26 = some o) ∧ i_P i_MT i_AT L xs 244 181 [some (.ref x0), some (.int x1), some (.int x2), some (.int x3), some (.int x4)] [] (i_sf h x0 26 (.int (v1 + (1 : Int32)))) 0 0 Q))) : i_P i_MT i_AT L xs 244 171 [some (.ref x0), some (.int x1), some (.int x2), some (.int x3), some (.int x4)] [] h 0 0 Q := by
  have hk := i_k244
  refine g_s1 (pc2 := 172) hk rfl rfl rfl rfl rfl ?_
  refine g_s1 (pc2 := 173) hk rfl rfl rfl rfl rfl ?_
  obtain ⟨v1, ev1, H⟩ := H
  refine g_step (pc2 := 176) hk rfl rfl rfl (s_get ev1) ?_
  refine g_s1 (pc2 := 177) (st2 := [.int (1 : Int32), .int v1, .ref x0]) hk rfl rfl rfl rfl rfl ?_
  refine g_s1 (pc2 := 178) hk rfl rfl rfl rfl rfl ?_
  obtain ⟨⟨o, ho⟩, H⟩ := H
  refine g_step (pc2 := 181) hk rfl rfl rfl (s_put ho rfl) ?_
  exact H
theorem b244_181 {x0 : Nat} {x1 : Int32} {x2 : Int32} {x3 : Int32} {x4 : Int32} {h : iH} {Q : Option Value → iH → Prop} (H : (i_obj? h x0 12 ∧ i_C i_MT i_AT L xs 218 [.ref x0] h (fun v h1 => v = none ∧ i_P i_MT i_AT L xs 244 185 [some (.ref x0), some (.int x1), some (.int x2), some (.int x3), some (.int x4)] [] h1 0 0 Q))) : i_P i_MT i_AT L xs 244 181 [some (.ref x0), some (.int x1), some (.int x2), some (.int x3), some (.int x4)] [] h 0 0 Q := by
  have hk := i_k244
  refine g_s1 (pc2 := 182) hk rfl rfl rfl rfl rfl ?_
  obtain ⟨ho, H⟩ := H
  refine g_call hk rfl rfl i_k218.1 ⟨rfl, rfl⟩ rfl (i_rcv_v ho rfl (by decide)) rfl ?_
  exact H.mono (fun v h2 q => by obtain ⟨rfl, q⟩ := q; exact q)
theorem b244_185 {x0 : Nat} {x1 : Int32} {x2 : Int32} {x3 : Int32} {x4 : Int32} {h : iH} {Q : Option Value → iH → Prop} (H : ((x2 = 0 → i_P i_MT i_AT L xs 244 240 [some (.ref x0), some (.int x1), some (.int x2), some (.int x3), some (.int x4)] [] h 0 0 Q) ∧ (¬ (x2 = 0) → (∃ v1 : Nat, i_fld h x0 12 23 = some (.ref v1) ∧ (i_obj? h x0 12 ∧ i_C i_MT i_AT L xs 220 [.ref x0, .retAddr 7] h (fun v h2 => ∃ r3 : Int32, v = some (.int r3) ∧ i_P i_MT i_AT L xs 244 203 [some (.ref x0), some (.int x1), some (.int x2), some (.int x3), some (.int x4)] [.int r3, .int (x4 + (1 : Int32)), .ref v1] h2 0 0 Q)))))) : i_P i_MT i_AT L xs 244 185 [some (.ref x0), some (.int x1), some (.int x2), some (.int x3), some (.int x4)] [] h 0 0 Q := by
  have hk := i_k244
  refine g_s1 (pc2 := 186) hk rfl rfl rfl rfl rfl ?_
  refine g_if_eq hk rfl (fun hc => ?_) (fun hc => ?_)
  · have H := H.1 hc
    exact H
  · have H := H.2 hc
    refine g_s1 (pc2 := 190) hk rfl rfl rfl rfl rfl ?_
    obtain ⟨v1, ev1, H⟩ := H
    refine g_step (pc2 := 193) hk rfl rfl rfl (s_get ev1) ?_
    refine g_s1 (pc2 := 195) hk rfl rfl rfl rfl rfl ?_
    refine g_s1 (pc2 := 196) (st2 := [.int (1 : Int32), .int x4, .ref v1]) hk rfl rfl rfl rfl rfl ?_
    refine g_s1 (pc2 := 197) hk rfl rfl rfl rfl rfl ?_
    refine g_s1 (pc2 := 198) hk rfl rfl rfl rfl rfl ?_
    refine g_step (pc2 := 200) (st2 := [.retAddr 7, .ref x0, .int (x4 + (1 : Int32)), .ref v1]) hk rfl rfl rfl rfl ?_
    obtain ⟨ho, H⟩ := H
    refine g_call hk rfl rfl i_k220.1 ⟨rfl, rfl⟩ rfl (i_rcv_v ho rfl (by decide)) rfl ?_
    exact H.mono (fun v h2 q => by obtain ⟨r, rfl, q⟩ := q; exact q)
theorem b244_203 {x0 : Nat} {x1 : Int32} {x2 : Int32} {x3 : Int32} {x4 : Int32} {s0 : Nat} {s1 : Int32} {s2 : Int32} {h : iH} {Q : Option Value → iH → Prop} (H : (∃ (n1 : Nat) (f2 : Nat → Int32), i_arI h 0 s0 = some (n1, f2) ∧ ¬ (s1 < 0 ∨ n1 ≤ s1.toNatClampNeg) ∧ i_P i_MT i_AT L xs 244 204 [some (.ref x0), some (.int x1), some (.int x2), some (.int x3), some (.int x4)] [] (i_siI h s0 s1.toNatClampNeg s2) 0 0 Q)) : i_P i_MT i_AT L xs 244 203 [some (.ref x0), some (.int x1), some (.int x2), some (.int x3), some (.int x4)] [.int s2, .int s1, .ref s0] h 0 0 Q := by
  have hk := i_k244
  obtain ⟨n1, f2, ef2, hi, H⟩ := H
  refine g_step (pc2 := 204) hk rfl rfl rfl (s_aput ef2 hi) ?_
  exact H
theorem b244_204 {x0 : Nat} {x1 : Int32} {x2 : Int32} {x3 : Int32} {x4 : Int32} {h : iH} {Q : Option Value → iH → Prop} (H : (∃ v1 : Nat, i_fld h x0 12 23 = some (.ref v1) ∧ (∃ (n2 : Nat) (f3 : Nat → Int32), i_arI h 0 v1 = some (n2, f3) ∧ ¬ ((x4 + (1 : Int32)) < 0 ∨ n2 ≤ (x4 + (1 : Int32)).toNatClampNeg) ∧ (((f3 (x4 + (1 : Int32)).toNatClampNeg) < 0 → i_P i_MT i_AT L xs 244 230 [some (.ref x0), some (.int x1), some (.int x2), some (.int x3), some (.int x4)] [] h 0 0 Q) ∧ (¬ ((f3 (x4 + (1 : Int32)).toNatClampNeg) < 0) → (∃ v4 : Nat, i_fld h x0 12 23 = some (.ref v4) ∧ (∃ (n5 : Nat) (f6 : Nat → Int32), i_arI h 0 v4 = some (n5, f6) ∧ ¬ ((x4 + (1 : Int32)) < 0 ∨ n5 ≤ (x4 + (1 : Int32)).toNatClampNeg) ∧ (((f6 (x4 + (1 : Int32)).toNatClampNeg) ≤ (7 : Int32) → (i_obj? h x0 12 ∧ i_C i_MT i_AT L xs 218 [.ref x0] h (fun v h7 => v = none ∧ i_P i_MT i_AT L xs 244 240 [some (.ref x0), some (.int x1), some (.int x2), some (.int x3), some (.int x4)] [] h7 0 0 Q))) ∧ (¬ ((f6 (x4 + (1 : Int32)).toNatClampNeg) ≤ (7 : Int32)) → i_P i_MT i_AT L xs 244 230 [some (.ref x0), some (.int x1), some (.int x2), some (.int x3), some (.int x4)] [] h 0 0 Q))))))))) : i_P i_MT i_AT L xs 244 204 [some (.ref x0), some (.int x1), some (.int x2), some (.int x3), some (.int x4)] [] h 0 0 Q := by
  have hk := i_k244
  refine g_s1 (pc2 := 205) hk rfl rfl rfl rfl rfl ?_
  obtain ⟨v1, ev1, H⟩ := H
  refine g_step (pc2 := 208) hk rfl rfl rfl (s_get ev1) ?_
  refine g_s1 (pc2 := 210) hk rfl rfl rfl rfl rfl ?_
  refine g_s1 (pc2 := 211) (st2 := [.int (1 : Int32), .int x4, .ref v1]) hk rfl rfl rfl rfl rfl ?_
  refine g_s1 (pc2 := 212) hk rfl rfl rfl rfl rfl ?_
  obtain ⟨n2, f3, ef3, hi, H⟩ := H
  refine g_step (pc2 := 213) hk rfl rfl rfl (s_aget (L := L) (xs := xs) ef3 hi) ?_
  refine g_if_lt hk rfl (fun hc => ?_) (fun hc => ?_)
  · have H := H.1 hc
    exact H
  · have H := H.2 hc
    refine g_s1 (pc2 := 217) hk rfl rfl rfl rfl rfl ?_
    obtain ⟨v4, ev4, H⟩ := H
    refine g_step (pc2 := 220) hk rfl rfl rfl (s_get ev4) ?_
    refine g_s1 (pc2 := 222) hk rfl rfl rfl rfl rfl ?_
    refine g_s1 (pc2 := 223) (st2 := [.int (1 : Int32), .int x4, .ref v4]) hk rfl rfl rfl rfl rfl ?_
    refine g_s1 (pc2 := 224) hk rfl rfl rfl rfl rfl ?_
    obtain ⟨n5, f6, ef6, hi, H⟩ := H
    refine g_step (pc2 := 225) hk rfl rfl rfl (s_aget (L := L) (xs := xs) ef6 hi) ?_
    refine g_s1 (pc2 := 227) (st2 := [.int (7 : Int32), .int (f6 (x4 + (1 : Int32)).toNatClampNeg)]) hk rfl rfl rfl rfl rfl ?_
    refine g_icmp_le hk rfl (fun hc => ?_) (fun hc => ?_)
    · have H := H.1 hc
      refine g_s1 (pc2 := 237) hk rfl rfl rfl rfl rfl ?_
      obtain ⟨ho, H⟩ := H
      refine g_call hk rfl rfl i_k218.1 ⟨rfl, rfl⟩ rfl (i_rcv_v ho rfl (by decide)) rfl ?_
      exact H.mono (fun v h2 q => by obtain ⟨rfl, q⟩ := q; exact q)
    · have H := H.2 hc
      exact H
theorem b244_230 {x0 : Nat} {x1 : Int32} {x2 : Int32} {x3 : Int32} {x4 : Int32} {h : iH} {Q : Option Value → iH → Prop} (H : (i_obj? h x0 12 ∧ i_C i_MT i_AT L xs 221 [.ref x0, .int (2 : Int32)] h (fun v h1 => ∃ r2 : Int32, v = some (.int r2) ∧ i_P i_MT i_AT L xs 244 235 [some (.ref x0), some (.int x1), some (.int x2), some (.int x3), some (.int x4)] [.int r2] h1 0 0 Q))) : i_P i_MT i_AT L xs 244 230 [some (.ref x0), some (.int x1), some (.int x2), some (.int x3), some (.int x4)] [] h 0 0 Q := by
  have hk := i_k244
  refine g_s1 (pc2 := 231) hk rfl rfl rfl rfl rfl ?_
  refine g_s1 (pc2 := 232) (st2 := [.int (2 : Int32), .ref x0]) hk rfl rfl rfl rfl rfl ?_
  obtain ⟨ho, H⟩ := H
  refine g_call hk rfl rfl i_k221.1 ⟨rfl, rfl⟩ rfl (i_rcv_v ho rfl (by decide)) rfl ?_
  exact H.mono (fun v h2 q => by obtain ⟨r, rfl, q⟩ := q; exact q)
theorem b244_235 {x0 : Nat} {x1 : Int32} {x2 : Int32} {x3 : Int32} {x4 : Int32} {s0 : Int32} {h : iH} {Q : Option Value → iH → Prop} (H : (i_ret (some .boolean) s0 = true ∧ Q (some (.int s0)) h)) : i_P i_MT i_AT L xs 244 235 [some (.ref x0), some (.int x1), some (.int x2), some (.int x3), some (.int x4)] [.int s0] h 0 0 Q := by
  have hk := i_k244
  exact g_ireturn hk rfl (by decide) (by decide) H.1 H.2
theorem b244_240 {x0 : Nat} {x1 : Int32} {x2 : Int32} {x3 : Int32} {x4 : Int32} {h : iH} {Q : Option Value → iH → Prop} (H : ((x1 = (30 : Int32) → i_P i_MT i_AT L xs 244 252 [some (.ref x0), some (.int x1), some (.int x2), some (.int x3), some (.int x4)] [] h 0 0 Q) ∧ (¬ (x1 = (30 : Int32)) → ((¬ x1 = (31 : Int32) → i_P i_MT i_AT L xs 244 306 [some (.ref x0), some (.int x1), some (.int x2), some (.int x3), some (.int x4)] [] h 0 0 Q) ∧ (¬ (¬ x1 = (31 : Int32)) → i_P i_MT i_AT L xs 244 252 [some (.ref x0), some (.int x1), some (.int x2), some (.int x3), some (.int x4)] [] h 0 0 Q))))) : i_P i_MT i_AT L xs 244 240 [some (.ref x0), some (.int x1), some (.int x2), some (.int x3), some (.int x4)] [] h 0 0 Q := by
  have hk := i_k244
  refine g_s1 (pc2 := 241) hk rfl rfl rfl rfl rfl ?_
  refine g_s1 (pc2 := 243) (st2 := [.int (30 : Int32), .int x1]) hk rfl rfl rfl rfl rfl ?_
  refine g_icmp_eq hk rfl (fun hc => ?_) (fun hc => ?_)
  · have H := H.1 hc
    exact H
  · have H := H.2 hc
    refine g_s1 (pc2 := 247) hk rfl rfl rfl rfl rfl ?_
    refine g_s1 (pc2 := 249) (st2 := [.int (31 : Int32), .int x1]) hk rfl rfl rfl rfl rfl ?_
    refine g_icmp_ne hk rfl (fun hc => ?_) (fun hc => ?_)
    · have H := H.1 hc
      exact H
    · have H := H.2 hc
      exact H
theorem b244_252 {x0 : Nat} {x1 : Int32} {x2 : Int32} {x3 : Int32} {x4 : Int32} {h : iH} {Q : Option Value → iH → Prop} (H : (∃ v1 : Int32, i_fld h x0 12 14 = some (.int v1) ∧ ((v1 = (3 : Int32) → (∃ v2 : Int32, i_fld h x0 12 17 = some (.int v2) ∧ ((v2 < (1 : Int32) → i_P i_MT i_AT L xs 244 283 [some (.ref x0), some (.int x1), some (.int x2), some (.int x3), some (.int x4)] [] h 0 0 Q) ∧ (¬ (v2 < (1 : Int32)) → (∃ v3 : Int32, i_fld h x0 12 17 = some (.int v3) ∧ ((v3 ≤ (60 : Int32) → (∃ v4 : Nat, i_fld h x0 12 23 = some (.ref v4) ∧ (∃ v5 : Int32, i_fld h x0 12 17 = some (.int v5) ∧ (∃ (n6 : Nat) (f7 : Nat → Int32), i_arI h 0 v4 = some (n6, f7) ∧ ¬ ((x4 + (1 : Int32)) < 0 ∨ n6 ≤ (x4 + (1 : Int32)).toNatClampNeg) ∧ i_P i_MT i_AT L xs 244 302 [some (.ref x0), some (.int x1), some (.int x2), some (.int x3), some (.int x4)] [] (i_siI h v4 (x4 + (1 : Int32)).toNatClampNeg v5) 0 0 Q)))) ∧ (¬ (v3 ≤ (60 : Int32)) → i_P i_MT i_AT L xs 244 283 [some (.ref x0), some (.int x1), some (.int x2), some (.int x3), some (.int x4)] [] h 0 0 Q))))))) ∧ (¬ (v1 = (3 : Int32)) → (i_obj? h x0 12 ∧ i_C i_MT i_AT L xs 221 [.ref x0, .int (2 : Int32)] h (fun v h8 => ∃ r9 : Int32, v = some (.int r9) ∧ i_P i_MT i_AT L xs 244 265 [some (.ref x0), some (.int x1), some (.int x2), some (.int x3), some (.int x4)] [.int r9] h8 0 0 Q)))))) : i_P i_MT i_AT L xs 244 252 [some (.ref x0), some (.int x1), some (.int x2), some (.int x3), some (.int x4)] [] h 0 0 Q := by
  have hk := i_k244
  refine g_s1 (pc2 := 253) hk rfl rfl rfl rfl rfl ?_
  obtain ⟨v1, ev1, H⟩ := H
  refine g_step (pc2 := 256) hk rfl rfl rfl (s_get ev1) ?_
  refine g_s1 (pc2 := 257) (st2 := [.int (3 : Int32), .int v1]) hk rfl rfl rfl rfl rfl ?_
  refine g_icmp_eq hk rfl (fun hc => ?_) (fun hc => ?_)
  · have H := H.1 hc
    refine g_s1 (pc2 := 267) hk rfl rfl rfl rfl rfl ?_
    obtain ⟨v2, ev2, H⟩ := H
    refine g_step (pc2 := 270) hk rfl rfl rfl (s_get ev2) ?_
    refine g_s1 (pc2 := 271) (st2 := [.int (1 : Int32), .int v2]) hk rfl rfl rfl rfl rfl ?_
    refine g_icmp_lt hk rfl (fun hc => ?_) (fun hc => ?_)
    · have H := H.1 hc
      exact H
    · have H := H.2 hc
      refine g_s1 (pc2 := 275) hk rfl rfl rfl rfl rfl ?_
      obtain ⟨v3, ev3, H⟩ := H
      refine g_step (pc2 := 278) hk rfl rfl rfl (s_get ev3) ?_
      refine g_s1 (pc2 := 280) (st2 := [.int (60 : Int32), .int v3]) hk rfl rfl rfl rfl rfl ?_
      refine g_icmp_le hk rfl (fun hc => ?_) (fun hc => ?_)
      · have H := H.1 hc
        refine g_s1 (pc2 := 290) hk rfl rfl rfl rfl rfl ?_
        obtain ⟨v4, ev4, H⟩ := H
        refine g_step (pc2 := 293) hk rfl rfl rfl (s_get ev4) ?_
        refine g_s1 (pc2 := 295) hk rfl rfl rfl rfl rfl ?_
        refine g_s1 (pc2 := 296) (st2 := [.int (1 : Int32), .int x4, .ref v4]) hk rfl rfl rfl rfl rfl ?_
        refine g_s1 (pc2 := 297) hk rfl rfl rfl rfl rfl ?_
        refine g_s1 (pc2 := 298) hk rfl rfl rfl rfl rfl ?_
        obtain ⟨v5, ev5, H⟩ := H
        refine g_step (pc2 := 301) hk rfl rfl rfl (s_get ev5) ?_
        obtain ⟨n6, f7, ef7, hi, H⟩ := H
        refine g_step (pc2 := 302) hk rfl rfl rfl (s_aput ef7 hi) ?_
        exact H
      · have H := H.2 hc
        exact H
  · have H := H.2 hc
    refine g_s1 (pc2 := 261) hk rfl rfl rfl rfl rfl ?_
    refine g_s1 (pc2 := 262) (st2 := [.int (2 : Int32), .ref x0]) hk rfl rfl rfl rfl rfl ?_
    obtain ⟨ho, H⟩ := H
    refine g_call hk rfl rfl i_k221.1 ⟨rfl, rfl⟩ rfl (i_rcv_v ho rfl (by decide)) rfl ?_
    exact H.mono (fun v h2 q => by obtain ⟨r, rfl, q⟩ := q; exact q)
theorem b244_265 {x0 : Nat} {x1 : Int32} {x2 : Int32} {x3 : Int32} {x4 : Int32} {s0 : Int32} {h : iH} {Q : Option Value → iH → Prop} (H : (i_ret (some .boolean) s0 = true ∧ Q (some (.int s0)) h)) : i_P i_MT i_AT L xs 244 265 [some (.ref x0), some (.int x1), some (.int x2), some (.int x3), some (.int x4)] [.int s0] h 0 0 Q := by
  have hk := i_k244
  exact g_ireturn hk rfl (by decide) (by decide) H.1 H.2
theorem b244_283 {x0 : Nat} {x1 : Int32} {x2 : Int32} {x3 : Int32} {x4 : Int32} {h : iH} {Q : Option Value → iH → Prop} (H : (i_obj? h x0 12 ∧ i_C i_MT i_AT L xs 221 [.ref x0, .int (4 : Int32)] h (fun v h1 => ∃ r2 : Int32, v = some (.int r2) ∧ i_P i_MT i_AT L xs 244 288 [some (.ref x0), some (.int x1), some (.int x2), some (.int x3), some (.int x4)] [.int r2] h1 0 0 Q))) : i_P i_MT i_AT L xs 244 283 [some (.ref x0), some (.int x1), some (.int x2), some (.int x3), some (.int x4)] [] h 0 0 Q := by
  have hk := i_k244
  refine g_s1 (pc2 := 284) hk rfl rfl rfl rfl rfl ?_
  refine g_s1 (pc2 := 285) (st2 := [.int (4 : Int32), .ref x0]) hk rfl rfl rfl rfl rfl ?_
  obtain ⟨ho, H⟩ := H
  refine g_call hk rfl rfl i_k221.1 ⟨rfl, rfl⟩ rfl (i_rcv_v ho rfl (by decide)) rfl ?_
  exact H.mono (fun v h2 q => by obtain ⟨r, rfl, q⟩ := q; exact q)
theorem b244_288 {x0 : Nat} {x1 : Int32} {x2 : Int32} {x3 : Int32} {x4 : Int32} {s0 : Int32} {h : iH} {Q : Option Value → iH → Prop} (H : (i_ret (some .boolean) s0 = true ∧ Q (some (.int s0)) h)) : i_P i_MT i_AT L xs 244 288 [some (.ref x0), some (.int x1), some (.int x2), some (.int x3), some (.int x4)] [.int s0] h 0 0 Q := by
  have hk := i_k244
  exact g_ireturn hk rfl (by decide) (by decide) H.1 H.2
theorem b244_302 {x0 : Nat} {x1 : Int32} {x2 : Int32} {x3 : Int32} {x4 : Int32} {h : iH} {Q : Option Value → iH → Prop} (H : (i_obj? h x0 12 ∧ i_C i_MT i_AT L xs 218 [.ref x0] h (fun v h1 => v = none ∧ i_P i_MT i_AT L xs 244 306 [some (.ref x0), some (.int x1), some (.int x2), some (.int x3), some (.int x4)] [] h1 0 0 Q))) : i_P i_MT i_AT L xs 244 302 [some (.ref x0), some (.int x1), some (.int x2), some (.int x3), some (.int x4)] [] h 0 0 Q := by
  have hk := i_k244
  refine g_s1 (pc2 := 303) hk rfl rfl rfl rfl rfl ?_
  obtain ⟨ho, H⟩ := H
  refine g_call hk rfl rfl i_k218.1 ⟨rfl, rfl⟩ rfl (i_rcv_v ho rfl (by decide)) rfl ?_
  exact H.mono (fun v h2 q => by obtain ⟨rfl, q⟩ := q; exact q)
theorem b244_306 {x0 : Nat} {x1 : Int32} {x2 : Int32} {x3 : Int32} {x4 : Int32} {h : iH} {Q : Option Value → iH → Prop} (H : ((¬ x1 = (31 : Int32) → i_P i_MT i_AT L xs 244 337 [some (.ref x0), some (.int x1), some (.int x2), some (.int x3), some (.int x4)] [] h 0 0 Q) ∧ (¬ (¬ x1 = (31 : Int32)) → (∃ v1 : Nat, i_fld h x0 12 24 = some (.ref v1) ∧ (∃ v2 : Int32, i_fld h x0 12 28 = some (.int v2) ∧ (∃ v3 : Int32, i_fld h x0 12 26 = some (.int v3) ∧ (∃ (n4 : Nat) (f5 : Nat → Int32), i_arI h 0 v1 = some (n4, f5) ∧ ¬ (v2 < 0 ∨ n4 ≤ v2.toNatClampNeg) ∧ i_P i_MT i_AT L xs 244 327 [some (.ref x0), some (.int x1), some (.int x2), some (.int x3), some (.int x4)] [] (i_siI h v1 v2.toNatClampNeg (v3 - (1 : Int32))) 0 0 Q))))))) : i_P i_MT i_AT L xs 244 306 [some (.ref x0), some (.int x1), some (.int x2), some (.int x3), some (.int x4)] [] h 0 0 Q := by
  have hk := i_k244
  refine g_s1 (pc2 := 307) hk rfl rfl rfl rfl rfl ?_
  refine g_s1 (pc2 := 309) (st2 := [.int (31 : Int32), .int x1]) hk rfl rfl rfl rfl rfl ?_
  refine g_icmp_ne hk rfl (fun hc => ?_) (fun hc => ?_)
  · have H := H.1 hc
    exact H
  · have H := H.2 hc
    refine g_s1 (pc2 := 313) hk rfl rfl rfl rfl rfl ?_
    obtain ⟨v1, ev1, H⟩ := H
    refine g_step (pc2 := 316) hk rfl rfl rfl (s_get ev1) ?_
    refine g_s1 (pc2 := 317) hk rfl rfl rfl rfl rfl ?_
    obtain ⟨v2, ev2, H⟩ := H
    refine g_step (pc2 := 320) hk rfl rfl rfl (s_get ev2) ?_
    refine g_s1 (pc2 := 321) hk rfl rfl rfl rfl rfl ?_
    obtain ⟨v3, ev3, H⟩ := H
    refine g_step (pc2 := 324) hk rfl rfl rfl (s_get ev3) ?_
    refine g_s1 (pc2 := 325) (st2 := [.int (1 : Int32), .int v3, .int v2, .ref v1]) hk rfl rfl rfl rfl rfl ?_
    refine g_s1 (pc2 := 326) hk rfl rfl rfl rfl rfl ?_
    obtain ⟨n4, f5, ef5, hi, H⟩ := H
    refine g_step (pc2 := 327) hk rfl rfl rfl (s_aput ef5 hi) ?_
    exact H
theorem b244_327 {x0 : Nat} {x1 : Int32} {x2 : Int32} {x3 : Int32} {x4 : Int32} {h : iH} {Q : Option Value → iH → Prop} (H : (∃ v1 : Int32, i_fld h x0 12 28 = some (.int v1) ∧ ((∃ o, i_fld h x0 12 28 = some o) ∧ i_P i_MT i_AT L xs 244 337 [some (.ref x0), some (.int x1), some (.int x2), some (.int x3), some (.int x4)] [] (i_sf h x0 28 (.int (v1 + (1 : Int32)))) 0 0 Q))) : i_P i_MT i_AT L xs 244 327 [some (.ref x0), some (.int x1), some (.int x2), some (.int x3), some (.int x4)] [] h 0 0 Q := by
  have hk := i_k244
  refine g_s1 (pc2 := 328) hk rfl rfl rfl rfl rfl ?_
  refine g_s1 (pc2 := 329) hk rfl rfl rfl rfl rfl ?_
  obtain ⟨v1, ev1, H⟩ := H
  refine g_step (pc2 := 332) hk rfl rfl rfl (s_get ev1) ?_
  refine g_s1 (pc2 := 333) (st2 := [.int (1 : Int32), .int v1, .ref x0]) hk rfl rfl rfl rfl rfl ?_
  refine g_s1 (pc2 := 334) hk rfl rfl rfl rfl rfl ?_
  obtain ⟨⟨o, ho⟩, H⟩ := H
  refine g_step (pc2 := 337) hk rfl rfl rfl (s_put ho rfl) ?_
  exact H
theorem b244_337 {x0 : Nat} {x1 : Int32} {x2 : Int32} {x3 : Int32} {x4 : Int32} {h : iH} {Q : Option Value → iH → Prop} (H : ((¬ x1 = (32 : Int32) → i_P i_MT i_AT L xs 244 371 [some (.ref x0), some (.int x1), some (.int x2), some (.int x3), some (.int x4)] [] h 0 0 Q) ∧ (¬ (¬ x1 = (32 : Int32)) → (∃ v1 : Int32, i_fld h x0 12 28 = some (.int v1) ∧ ((∃ o, i_fld h x0 12 28 = some o) ∧ i_P i_MT i_AT L xs 244 353 [some (.ref x0), some (.int x1), some (.int x2), some (.int x3), some (.int x4)] [] (i_sf h x0 28 (.int (v1 - (1 : Int32)))) 0 0 Q))))) : i_P i_MT i_AT L xs 244 337 [some (.ref x0), some (.int x1), some (.int x2), some (.int x3), some (.int x4)] [] h 0 0 Q := by
  have hk := i_k244
  refine g_s1 (pc2 := 338) hk rfl rfl rfl rfl rfl ?_
  refine g_s1 (pc2 := 340) (st2 := [.int (32 : Int32), .int x1]) hk rfl rfl rfl rfl rfl ?_
  refine g_icmp_ne hk rfl (fun hc => ?_) (fun hc => ?_)
  · have H := H.1 hc
    exact H
  · have H := H.2 hc
    refine g_s1 (pc2 := 344) hk rfl rfl rfl rfl rfl ?_
    refine g_s1 (pc2 := 345) hk rfl rfl rfl rfl rfl ?_
    obtain ⟨v1, ev1, H⟩ := H
    refine g_step (pc2 := 348) hk rfl rfl rfl (s_get ev1) ?_
    refine g_s1 (pc2 := 349) (st2 := [.int (1 : Int32), .int v1, .ref x0]) hk rfl rfl rfl rfl rfl ?_
    refine g_s1 (pc2 := 350) hk rfl rfl rfl rfl rfl ?_
    obtain ⟨⟨o, ho⟩, H⟩ := H
    refine g_step (pc2 := 353) hk rfl rfl rfl (s_put ho rfl) ?_
    exact H
theorem b244_353 {x0 : Nat} {x1 : Int32} {x2 : Int32} {x3 : Int32} {x4 : Int32} {h : iH} {Q : Option Value → iH → Prop} (H : (∃ v1 : Nat, i_fld h x0 12 23 = some (.ref v1) ∧ (∃ v2 : Nat, i_fld h x0 12 24 = some (.ref v2) ∧ (∃ v3 : Int32, i_fld h x0 12 28 = some (.int v3) ∧ (∃ (n4 : Nat) (f5 : Nat → Int32), i_arI h 0 v2 = some (n4, f5) ∧ ¬ (v3 < 0 ∨ n4 ≤ v3.toNatClampNeg) ∧ (∃ (n6 : Nat) (f7 : Nat → Int32), i_arI h 0 v1 = some (n6, f7) ∧ ¬ ((x4 + (2 : Int32)) < 0 ∨ n6 ≤ (x4 + (2 : Int32)).toNatClampNeg) ∧ i_P i_MT i_AT L xs 244 371 [some (.ref x0), some (.int x1), some (.int x2), some (.int x3), some (.int x4)] [] (i_siI h v1 (x4 + (2 : Int32)).toNatClampNeg (f5 v3.toNatClampNeg)) 0 0 Q)))))) : i_P i_MT i_AT L xs 244 353 [some (.ref x0), some (.int x1), some (.int x2), some (.int x3), some (.int x4)] [] h 0 0 Q := by
  have hk := i_k244
  refine g_s1 (pc2 := 354) hk rfl rfl rfl rfl rfl ?_
  obtain ⟨v1, ev1, H⟩ := H
  refine g_step (pc2 := 357) hk rfl rfl rfl (s_get ev1) ?_
  refine g_s1 (pc2 := 359) hk rfl rfl rfl rfl rfl ?_
  refine g_s1 (pc2 := 360) (st2 := [.int (2 : Int32), .int x4, .ref v1]) hk rfl rfl rfl rfl rfl ?_
  refine g_s1 (pc2 := 361) hk rfl rfl rfl rfl rfl ?_
  refine g_s1 (pc2 := 362) hk rfl rfl rfl rfl rfl ?_
  obtain ⟨v2, ev2, H⟩ := H
  refine g_step (pc2 := 365) hk rfl rfl rfl (s_get ev2) ?_
  refine g_s1 (pc2 := 366) hk rfl rfl rfl rfl rfl ?_
  obtain ⟨v3, ev3, H⟩ := H
  refine g_step (pc2 := 369) hk rfl rfl rfl (s_get ev3) ?_
  obtain ⟨n4, f5, ef5, hi, H⟩ := H
  refine g_step (pc2 := 370) hk rfl rfl rfl (s_aget (L := L) (xs := xs) ef5 hi) ?_
  obtain ⟨n6, f7, ef7, hi, H⟩ := H
  refine g_step (pc2 := 371) hk rfl rfl rfl (s_aput ef7 hi) ?_
  exact H
theorem b244_371 {x0 : Nat} {x1 : Int32} {x2 : Int32} {x3 : Int32} {x4 : Int32} {h : iH} {Q : Option Value → iH → Prop} (H : Q (some (.int 1)) h) : i_P i_MT i_AT L xs 244 371 [some (.ref x0), some (.int x1), some (.int x2), some (.int x3), some (.int x4)] [] h 0 0 Q := by
  have hk := i_k244
  refine g_s1 (pc2 := 372) (st2 := [.int (1 : Int32)]) hk rfl rfl rfl rfl rfl ?_
  exact g_ireturn hk rfl (by decide) (by decide) rfl H
/-! StillTownModel.fills(I)V -/
theorem e245 {x0 : Nat} {x1 : Int32} {h : iH} {Q : Option Value → iH → Prop} (H : i_P i_MT i_AT L xs 245 0 [some (.ref x0), some (.int x1), none, none, none, none, none, none, none] [] h 0 0 Q) : i_C i_MT i_AT L xs 245 [.ref x0, .int x1] h Q := ⟨i_m245, i_k245.1, Nat.le_of_ble_eq_true rfl, H⟩
theorem b245_0 {x0 : Nat} {x1 : Int32} {x2 : Option Value} {x3 : Option Value} {x4 : Option Value} {x5 : Option Value} {x6 : Option Value} {x7 : Option Value} {x8 : Option Value} {h : iH} {Q : Option Value → iH → Prop} (H : i_P i_MT i_AT L xs 245 14 [some (.ref x0), some (.int x1), some (.int (0 : Int32)), some (.int (0 : Int32)), some (.int ((2914 : Int32) + ((60 : Int32) * x1))), x5, x6, x7, x8] [] h 0 0 Q) : i_P i_MT i_AT L xs 245 0 [some (.ref x0), some (.int x1), x2, x3, x4, x5, x6, x7, x8] [] h 0 0 Q := by
  have hk := i_k245
  refine g_s1 (pc2 := 1) (st2 := [.int (0 : Int32)]) hk rfl rfl rfl rfl rfl ?_
  refine g_s1 (pc2 := 2) (lo2 := [some (.ref x0), some (.int x1), some (.int (0 : Int32)), x3, x4, x5, x6, x7, x8]) hk rfl rfl rfl rfl rfl ?_
  refine g_s1 (pc2 := 3) (st2 := [.int (0 : Int32)]) hk rfl rfl rfl rfl rfl ?_
  refine g_s1 (pc2 := 4) (lo2 := [some (.ref x0), some (.int x1), some (.int (0 : Int32)), some (.int (0 : Int32)), x4, x5, x6, x7, x8]) hk rfl rfl rfl rfl rfl ?_
  refine g_s1 (pc2 := 7) (st2 := [.int (2914 : Int32)]) hk rfl rfl rfl rfl rfl ?_
  refine g_s1 (pc2 := 9) (st2 := [.int (60 : Int32), .int (2914 : Int32)]) hk rfl rfl rfl rfl rfl ?_
  refine g_s1 (pc2 := 10) hk rfl rfl rfl rfl rfl ?_
  refine g_s1 (pc2 := 11) hk rfl rfl rfl rfl rfl ?_
  refine g_s1 (pc2 := 12) hk rfl rfl rfl rfl rfl ?_
  refine g_s1 (pc2 := 14) (lo2 := [some (.ref x0), some (.int x1), some (.int (0 : Int32)), some (.int (0 : Int32)), some (.int ((2914 : Int32) + ((60 : Int32) * x1))), x5, x6, x7, x8]) hk rfl rfl rfl rfl rfl ?_
  exact H
theorem b245_14 {x0 : Nat} {x1 : Int32} {x2 : Int32} {x3 : Int32} {x4 : Int32} {x5 : Option Value} {x6 : Option Value} {x7 : Option Value} {x8 : Option Value} {h : iH} {Q : Option Value → iH → Prop} (H : (∃ v1 : Int32, i_fld h x0 12 26 = some (.int v1) ∧ ((v1 ≤ x3 → i_P i_MT i_AT L xs 245 235 [some (.ref x0), some (.int x1), some (.int x2), some (.int x3), some (.int x4), x5, x6, x7, x8] [] h 0 0 Q) ∧ (¬ (v1 ≤ x3) → (((60 : Int32) ≤ x2 → i_P i_MT i_AT L xs 245 235 [some (.ref x0), some (.int x1), some (.int x2), some (.int x3), some (.int x4), x5, x6, x7, x8] [] h 0 0 Q) ∧ (¬ ((60 : Int32) ≤ x2) → (∃ v2 : Nat, i_fld h x0 12 23 = some (.ref v2) ∧ (∃ (n3 : Nat) (f4 : Nat → Int32), i_arI h 0 v2 = some (n3, f4) ∧ ¬ (((3 : Int32) * x3) < 0 ∨ n3 ≤ ((3 : Int32) * x3).toNatClampNeg) ∧ (∃ v5 : Nat, i_fld h x0 12 23 = some (.ref v5) ∧ (∃ (n6 : Nat) (f7 : Nat → Int32), i_arI h 0 v5 = some (n6, f7) ∧ ¬ ((((3 : Int32) * x3) + (1 : Int32)) < 0 ∨ n6 ≤ (((3 : Int32) * x3) + (1 : Int32)).toNatClampNeg) ∧ ((¬ (f4 ((3 : Int32) * x3).toNatClampNeg) = (31 : Int32) → i_P i_MT i_AT L xs 245 67 [some (.ref x0), some (.int x1), some (.int x2), some (.int x3), some (.int x4), some (.int (f4 ((3 : Int32) * x3).toNatClampNeg)), some (.int (f7 (((3 : Int32) * x3) + (1 : Int32)).toNatClampNeg)), x7, x8] [] h 0 0 Q) ∧ (¬ (¬ (f4 ((3 : Int32) * x3).toNatClampNeg) = (31 : Int32)) → (∃ v8 : Nat, i_fld h x0 12 25 = some (.ref v8) ∧ (∃ (n9 : Nat) (f10 : Nat → Int32), i_arI h 0 v8 = some (n9, f10) ∧ ¬ (x3 < 0 ∨ n9 ≤ x3.toNatClampNeg) ∧ i_P i_MT i_AT L xs 245 67 [some (.ref x0), some (.int x1), some (.int x2), some (.int x3), some (.int x4), some (.int (f4 ((3 : Int32) * x3).toNatClampNeg)), some (.int (f7 (((3 : Int32) * x3) + (1 : Int32)).toNatClampNeg)), x7, x8] [] (i_siI h v8 x3.toNatClampNeg ((f7 (((3 : Int32) * x3) + (1 : Int32)).toNatClampNeg) - (1 : Int32))) 0 0 Q)))))))))))))) : i_P i_MT i_AT L xs 245 14 [some (.ref x0), some (.int x1), some (.int x2), some (.int x3), some (.int x4), x5, x6, x7, x8] [] h 0 0 Q := by
  have hk := i_k245
  refine g_s1 (pc2 := 15) hk rfl rfl rfl rfl rfl ?_
  refine g_s1 (pc2 := 16) hk rfl rfl rfl rfl rfl ?_
  obtain ⟨v1, ev1, H⟩ := H
  refine g_step (pc2 := 19) hk rfl rfl rfl (s_get ev1) ?_
  refine g_icmp_ge hk rfl (fun hc => ?_) (fun hc => ?_)
  · have H := H.1 hc
    exact H
  · have H := H.2 hc
    refine g_s1 (pc2 := 23) hk rfl rfl rfl rfl rfl ?_
    refine g_s1 (pc2 := 25) (st2 := [.int (60 : Int32), .int x2]) hk rfl rfl rfl rfl rfl ?_
    refine g_icmp_ge hk rfl (fun hc => ?_) (fun hc => ?_)
    · have H := H.1 hc
      exact H
    · have H := H.2 hc
      refine g_s1 (pc2 := 29) hk rfl rfl rfl rfl rfl ?_
      obtain ⟨v2, ev2, H⟩ := H
      refine g_step (pc2 := 32) hk rfl rfl rfl (s_get ev2) ?_
      refine g_s1 (pc2 := 33) (st2 := [.int (3 : Int32), .ref v2]) hk rfl rfl rfl rfl rfl ?_
      refine g_s1 (pc2 := 34) hk rfl rfl rfl rfl rfl ?_
      refine g_s1 (pc2 := 35) hk rfl rfl rfl rfl rfl ?_
      obtain ⟨n3, f4, ef4, hi, H⟩ := H
      refine g_step (pc2 := 36) hk rfl rfl rfl (s_aget (L := L) (xs := xs) ef4 hi) ?_
      refine g_s1 (pc2 := 38) (lo2 := [some (.ref x0), some (.int x1), some (.int x2), some (.int x3), some (.int x4), some (.int (f4 ((3 : Int32) * x3).toNatClampNeg)), x6, x7, x8]) hk rfl rfl rfl rfl rfl ?_
      refine g_s1 (pc2 := 39) hk rfl rfl rfl rfl rfl ?_
      obtain ⟨v5, ev5, H⟩ := H
      refine g_step (pc2 := 42) hk rfl rfl rfl (s_get ev5) ?_
      refine g_s1 (pc2 := 43) (st2 := [.int (3 : Int32), .ref v5]) hk rfl rfl rfl rfl rfl ?_
      refine g_s1 (pc2 := 44) hk rfl rfl rfl rfl rfl ?_
      refine g_s1 (pc2 := 45) hk rfl rfl rfl rfl rfl ?_
      refine g_s1 (pc2 := 46) (st2 := [.int (1 : Int32), .int ((3 : Int32) * x3), .ref v5]) hk rfl rfl rfl rfl rfl ?_
      refine g_s1 (pc2 := 47) hk rfl rfl rfl rfl rfl ?_
      obtain ⟨n6, f7, ef7, hi, H⟩ := H
      refine g_step (pc2 := 48) hk rfl rfl rfl (s_aget (L := L) (xs := xs) ef7 hi) ?_
      refine g_s1 (pc2 := 50) (lo2 := [some (.ref x0), some (.int x1), some (.int x2), some (.int x3), some (.int x4), some (.int (f4 ((3 : Int32) * x3).toNatClampNeg)), some (.int (f7 (((3 : Int32) * x3) + (1 : Int32)).toNatClampNeg)), x7, x8]) hk rfl rfl rfl rfl rfl ?_
      refine g_s1 (pc2 := 52) hk rfl rfl rfl rfl rfl ?_
      refine g_s1 (pc2 := 54) (st2 := [.int (31 : Int32), .int (f4 ((3 : Int32) * x3).toNatClampNeg)]) hk rfl rfl rfl rfl rfl ?_
      refine g_icmp_ne hk rfl (fun hc => ?_) (fun hc => ?_)
      · have H := H.1 hc
        exact H
      · have H := H.2 hc
        refine g_s1 (pc2 := 58) hk rfl rfl rfl rfl rfl ?_
        obtain ⟨v8, ev8, H⟩ := H
        refine g_step (pc2 := 61) hk rfl rfl rfl (s_get ev8) ?_
        refine g_s1 (pc2 := 62) hk rfl rfl rfl rfl rfl ?_
        refine g_s1 (pc2 := 64) hk rfl rfl rfl rfl rfl ?_
        refine g_s1 (pc2 := 65) (st2 := [.int (1 : Int32), .int (f7 (((3 : Int32) * x3) + (1 : Int32)).toNatClampNeg), .int x3, .ref v8]) hk rfl rfl rfl rfl rfl ?_
        refine g_s1 (pc2 := 66) hk rfl rfl rfl rfl rfl ?_
        obtain ⟨n9, f10, ef10, hi, H⟩ := H
        refine g_step (pc2 := 67) hk rfl rfl rfl (s_aput ef10 hi) ?_
        exact H
theorem b245_67 {x0 : Nat} {x1 : Int32} {x2 : Int32} {x3 : Int32} {x4 : Int32} {x5 : Int32} {x6 : Int32} {x7 : Option Value} {x8 : Option Value} {h : iH} {Q : Option Value → iH → Prop} (H : ((¬ x5 = (32 : Int32) → ((¬ x5 = (30 : Int32) → i_P i_MT i_AT L xs 245 159 [some (.ref x0), some (.int x1), some (.int x2), some (.int x3), some (.int x4), some (.int x5), some (.int x6), x7, x8] [] h 0 0 Q) ∧ (¬ (¬ x5 = (30 : Int32)) → (i_C i_MT i_AT L xs 337 [.int (60 : Int32), .int (x2 + x6)] h (fun v h1 => ∃ r2 : Int32, v = some (.int r2) ∧ i_P i_MT i_AT L xs 245 158 [some (.ref x0), some (.int x1), some (.int x2), some (.int x3), some (.int x4), some (.int x5), some (.int x6), x7, x8] [.int r2] h1 0 0 Q))))) ∧ (¬ (¬ x5 = (32 : Int32)) → (∃ v3 : Nat, i_fld h x0 12 23 = some (.ref v3) ∧ (∃ (n4 : Nat) (f5 : Nat → Int32), i_arI h 0 v3 = some (n4, f5) ∧ ¬ ((((3 : Int32) * x3) + (2 : Int32)) < 0 ∨ n4 ≤ (((3 : Int32) * x3) + (2 : Int32)).toNatClampNeg) ∧ (∃ v6 : Nat, i_fld h x0 12 25 = some (.ref v6) ∧ (∃ (n7 : Nat) (f8 : Nat → Int32), i_arI h 0 v6 = some (n7, f8) ∧ ¬ ((f5 (((3 : Int32) * x3) + (2 : Int32)).toNatClampNeg) < 0 ∨ n7 ≤ (f5 (((3 : Int32) * x3) + (2 : Int32)).toNatClampNeg).toNatClampNeg) ∧ (((f8 (f5 (((3 : Int32) * x3) + (2 : Int32)).toNatClampNeg).toNatClampNeg) ≤ 0 → i_P i_MT i_AT L xs 245 101 [some (.ref x0), some (.int x1), some (.int x2), some (.int x3), some (.int x4), some (.int x5), some (.int x6), some (.int (f5 (((3 : Int32) * x3) + (2 : Int32)).toNatClampNeg)), x8] [.int (0 : Int32)] h 0 0 Q) ∧ (¬ ((f8 (f5 (((3 : Int32) * x3) + (2 : Int32)).toNatClampNeg).toNatClampNeg) ≤ 0) → i_P i_MT i_AT L xs 245 101 [some (.ref x0), some (.int x1), some (.int x2), some (.int x3), some (.int x4), some (.int x5), some (.int x6), some (.int (f5 (((3 : Int32) * x3) + (2 : Int32)).toNatClampNeg)), x8] [.int (1 : Int32)] h 0 0 Q))))))))) : i_P i_MT i_AT L xs 245 67 [some (.ref x0), some (.int x1), some (.int x2), some (.int x3), some (.int x4), some (.int x5), some (.int x6), x7, x8] [] h 0 0 Q := by
  have hk := i_k245
  refine g_s1 (pc2 := 69) hk rfl rfl rfl rfl rfl ?_
  refine g_s1 (pc2 := 71) (st2 := [.int (32 : Int32), .int x5]) hk rfl rfl rfl rfl rfl ?_
  refine g_icmp_ne hk rfl (fun hc => ?_) (fun hc => ?_)
  · have H := H.1 hc
    refine g_s1 (pc2 := 144) hk rfl rfl rfl rfl rfl ?_
    refine g_s1 (pc2 := 146) (st2 := [.int (30 : Int32), .int x5]) hk rfl rfl rfl rfl rfl ?_
    refine g_icmp_ne hk rfl (fun hc => ?_) (fun hc => ?_)
    · have H := H.1 hc
      exact H
    · have H := H.2 hc
      refine g_s1 (pc2 := 151) (st2 := [.int (60 : Int32)]) hk rfl rfl rfl rfl rfl ?_
      refine g_s1 (pc2 := 152) hk rfl rfl rfl rfl rfl ?_
      refine g_s1 (pc2 := 154) hk rfl rfl rfl rfl rfl ?_
      refine g_s1 (pc2 := 155) hk rfl rfl rfl rfl rfl ?_
      refine g_call hk rfl rfl i_k337.1 ⟨rfl, rfl⟩ rfl (i_rcv_0 rfl) rfl ?_
      exact H.mono (fun v h2 q => by obtain ⟨r, rfl, q⟩ := q; exact q)
  · have H := H.2 hc
    refine g_s1 (pc2 := 75) hk rfl rfl rfl rfl rfl ?_
    obtain ⟨v3, ev3, H⟩ := H
    refine g_step (pc2 := 78) hk rfl rfl rfl (s_get ev3) ?_
    refine g_s1 (pc2 := 79) (st2 := [.int (3 : Int32), .ref v3]) hk rfl rfl rfl rfl rfl ?_
    refine g_s1 (pc2 := 80) hk rfl rfl rfl rfl rfl ?_
    refine g_s1 (pc2 := 81) hk rfl rfl rfl rfl rfl ?_
    refine g_s1 (pc2 := 82) (st2 := [.int (2 : Int32), .int ((3 : Int32) * x3), .ref v3]) hk rfl rfl rfl rfl rfl ?_
    refine g_s1 (pc2 := 83) hk rfl rfl rfl rfl rfl ?_
    obtain ⟨n4, f5, ef5, hi, H⟩ := H
    refine g_step (pc2 := 84) hk rfl rfl rfl (s_aget (L := L) (xs := xs) ef5 hi) ?_
    refine g_s1 (pc2 := 86) (lo2 := [some (.ref x0), some (.int x1), some (.int x2), some (.int x3), some (.int x4), some (.int x5), some (.int x6), some (.int (f5 (((3 : Int32) * x3) + (2 : Int32)).toNatClampNeg)), x8]) hk rfl rfl rfl rfl rfl ?_
    refine g_s1 (pc2 := 87) hk rfl rfl rfl rfl rfl ?_
    obtain ⟨v6, ev6, H⟩ := H
    refine g_step (pc2 := 90) hk rfl rfl rfl (s_get ev6) ?_
    refine g_s1 (pc2 := 92) hk rfl rfl rfl rfl rfl ?_
    obtain ⟨n7, f8, ef8, hi, H⟩ := H
    refine g_step (pc2 := 93) hk rfl rfl rfl (s_aget (L := L) (xs := xs) ef8 hi) ?_
    refine g_if_le hk rfl (fun hc => ?_) (fun hc => ?_)
    · have H := H.1 hc
      refine g_s1 (pc2 := 101) (st2 := [.int (0 : Int32)]) hk rfl rfl rfl rfl rfl ?_
      exact H
    · have H := H.2 hc
      refine g_s1 (pc2 := 97) (st2 := [.int (1 : Int32)]) hk rfl rfl rfl rfl rfl ?_
      refine g_s1 (pc2 := 101) hk rfl rfl rfl rfl rfl ?_
      exact H
theorem b245_101 {x0 : Nat} {x1 : Int32} {x2 : Int32} {x3 : Int32} {x4 : Int32} {x5 : Int32} {x6 : Int32} {x7 : Int32} {x8 : Option Value} {s0 : Int32} {h : iH} {Q : Option Value → iH → Prop} (H : (∃ v1 : Nat, i_fld h x0 12 25 = some (.ref v1) ∧ (∃ (n2 : Nat) (f3 : Nat → Int32), i_arI h 0 v1 = some (n2, f3) ∧ ¬ (x7 < 0 ∨ n2 ≤ x7.toNatClampNeg) ∧ ((s0 = 0 → i_P i_MT i_AT L xs 245 121 [some (.ref x0), some (.int x1), some (.int x2), some (.int x3), some (.int x4), some (.int x5), some (.int x6), some (.int x7), some (.int s0)] [.int (0 : Int32), .int (f3 x7.toNatClampNeg), .int x7, .ref v1] h 0 0 Q) ∧ (¬ (s0 = 0) → i_P i_MT i_AT L xs 245 121 [some (.ref x0), some (.int x1), some (.int x2), some (.int x3), some (.int x4), some (.int x5), some (.int x6), some (.int x7), some (.int s0)] [.int (1 : Int32), .int (f3 x7.toNatClampNeg), .int x7, .ref v1] h 0 0 Q))))) : i_P i_MT i_AT L xs 245 101 [some (.ref x0), some (.int x1), some (.int x2), some (.int x3), some (.int x4), some (.int x5), some (.int x6), some (.int x7), x8] [.int s0] h 0 0 Q := by
  have hk := i_k245
  refine g_s1 (pc2 := 103) (lo2 := [some (.ref x0), some (.int x1), some (.int x2), some (.int x3), some (.int x4), some (.int x5), some (.int x6), some (.int x7), some (.int s0)]) hk rfl rfl rfl rfl rfl ?_
  refine g_s1 (pc2 := 104) hk rfl rfl rfl rfl rfl ?_
  obtain ⟨v1, ev1, H⟩ := H
  refine g_step (pc2 := 107) hk rfl rfl rfl (s_get ev1) ?_
  refine g_s1 (pc2 := 109) hk rfl rfl rfl rfl rfl ?_
  refine g_s1 (pc2 := 110) hk rfl rfl rfl rfl rfl ?_
  obtain ⟨n2, f3, ef3, hi, H⟩ := H
  refine g_step (pc2 := 111) hk rfl rfl rfl (s_aget (L := L) (xs := xs) ef3 hi) ?_
  refine g_s1 (pc2 := 113) hk rfl rfl rfl rfl rfl ?_
  refine g_if_eq hk rfl (fun hc => ?_) (fun hc => ?_)
  · have H := H.1 hc
    refine g_s1 (pc2 := 121) (st2 := [.int (0 : Int32), .int (f3 x7.toNatClampNeg), .int x7, .ref v1]) hk rfl rfl rfl rfl rfl ?_
    exact H
  · have H := H.2 hc
    refine g_s1 (pc2 := 117) (st2 := [.int (1 : Int32), .int (f3 x7.toNatClampNeg), .int x7, .ref v1]) hk rfl rfl rfl rfl rfl ?_
    refine g_s1 (pc2 := 121) hk rfl rfl rfl rfl rfl ?_
    exact H
theorem b245_121 {x0 : Nat} {x1 : Int32} {x2 : Int32} {x3 : Int32} {x4 : Int32} {x5 : Int32} {x6 : Int32} {x7 : Int32} {x8 : Int32} {s0 : Nat} {s1 : Int32} {s2 : Int32} {s3 : Int32} {h : iH} {Q : Option Value → iH → Prop} (H : (∃ (n1 : Nat) (f2 : Nat → Int32), i_arI h 0 s0 = some (n1, f2) ∧ ¬ (s1 < 0 ∨ n1 ≤ s1.toNatClampNeg) ∧ i_P i_MT i_AT L xs 245 123 [some (.ref x0), some (.int x1), some (.int x2), some (.int x3), some (.int x4), some (.int x5), some (.int x6), some (.int x7), some (.int x8)] [] (i_siI h s0 s1.toNatClampNeg (s2 - s3)) 0 0 Q)) : i_P i_MT i_AT L xs 245 121 [some (.ref x0), some (.int x1), some (.int x2), some (.int x3), some (.int x4), some (.int x5), some (.int x6), some (.int x7), some (.int x8)] [.int s3, .int s2, .int s1, .ref s0] h 0 0 Q := by
  have hk := i_k245
  refine g_s1 (pc2 := 122) hk rfl rfl rfl rfl rfl ?_
  obtain ⟨n1, f2, ef2, hi, H⟩ := H
  refine g_step (pc2 := 123) hk rfl rfl rfl (s_aput ef2 hi) ?_
  exact H
theorem b245_123 {x0 : Nat} {x1 : Int32} {x2 : Int32} {x3 : Int32} {x4 : Int32} {x5 : Int32} {x6 : Int32} {x7 : Int32} {x8 : Int32} {h : iH} {Q : Option Value → iH → Prop} (H : ((x8 = 0 → i_P i_MT i_AT L xs 245 138 [some (.ref x0), some (.int x1), some (.int x2), some (.int x3), some (.int x4), some (.int x5), some (.int x6), some (.int x7), some (.int x8)] [.int (x3 + (1 : Int32))] h 0 0 Q) ∧ (¬ (x8 = 0) → i_P i_MT i_AT L xs 245 138 [some (.ref x0), some (.int x1), some (.int x2), some (.int x3), some (.int x4), some (.int x5), some (.int x6), some (.int x7), some (.int x8)] [.int (x7 + (1 : Int32))] h 0 0 Q))) : i_P i_MT i_AT L xs 245 123 [some (.ref x0), some (.int x1), some (.int x2), some (.int x3), some (.int x4), some (.int x5), some (.int x6), some (.int x7), some (.int x8)] [] h 0 0 Q := by
  have hk := i_k245
  refine g_s1 (pc2 := 125) hk rfl rfl rfl rfl rfl ?_
  refine g_if_eq hk rfl (fun hc => ?_) (fun hc => ?_)
  · have H := H.1 hc
    refine g_s1 (pc2 := 136) hk rfl rfl rfl rfl rfl ?_
    refine g_s1 (pc2 := 137) (st2 := [.int (1 : Int32), .int x3]) hk rfl rfl rfl rfl rfl ?_
    refine g_s1 (pc2 := 138) hk rfl rfl rfl rfl rfl ?_
    exact H
  · have H := H.2 hc
    refine g_s1 (pc2 := 130) hk rfl rfl rfl rfl rfl ?_
    refine g_s1 (pc2 := 131) (st2 := [.int (1 : Int32), .int x7]) hk rfl rfl rfl rfl rfl ?_
    refine g_s1 (pc2 := 132) hk rfl rfl rfl rfl rfl ?_
    refine g_s1 (pc2 := 138) hk rfl rfl rfl rfl rfl ?_
    exact H
theorem b245_138 {x0 : Nat} {x1 : Int32} {x2 : Int32} {x3 : Int32} {x4 : Int32} {x5 : Int32} {x6 : Int32} {x7 : Int32} {x8 : Int32} {s0 : Int32} {h : iH} {Q : Option Value → iH → Prop} (H : i_P i_MT i_AT L xs 245 14 [some (.ref x0), some (.int x1), some (.int x2), some (.int s0), some (.int x4), some (.int x5), some (.int x6), some (.int x7), some (.int x8)] [] h 0 0 Q) : i_P i_MT i_AT L xs 245 138 [some (.ref x0), some (.int x1), some (.int x2), some (.int x3), some (.int x4), some (.int x5), some (.int x6), some (.int x7), some (.int x8)] [.int s0] h 0 0 Q := by
  have hk := i_k245
  refine g_s1 (pc2 := 139) (lo2 := [some (.ref x0), some (.int x1), some (.int x2), some (.int s0), some (.int x4), some (.int x5), some (.int x6), some (.int x7), some (.int x8)]) hk rfl rfl rfl rfl rfl ?_
  refine g_s1 (pc2 := 14) hk rfl rfl rfl rfl rfl ?_
  exact H
theorem b245_158 {x0 : Nat} {x1 : Int32} {x2 : Int32} {x3 : Int32} {x4 : Int32} {x5 : Int32} {x6 : Int32} {x7 : Option Value} {x8 : Option Value} {s0 : Int32} {h : iH} {Q : Option Value → iH → Prop} (H : i_P i_MT i_AT L xs 245 159 [some (.ref x0), some (.int x1), some (.int s0), some (.int x3), some (.int x4), some (.int x5), some (.int x6), x7, x8] [] h 0 0 Q) : i_P i_MT i_AT L xs 245 158 [some (.ref x0), some (.int x1), some (.int x2), some (.int x3), some (.int x4), some (.int x5), some (.int x6), x7, x8] [.int s0] h 0 0 Q := by
  have hk := i_k245
  refine g_s1 (pc2 := 159) (lo2 := [some (.ref x0), some (.int x1), some (.int s0), some (.int x3), some (.int x4), some (.int x5), some (.int x6), x7, x8]) hk rfl rfl rfl rfl rfl ?_
  exact H
theorem b245_159 {x0 : Nat} {x1 : Int32} {x2 : Int32} {x3 : Int32} {x4 : Int32} {x5 : Int32} {x6 : Int32} {x7 : Option Value} {x8 : Option Value} {h : iH} {Q : Option Value → iH → Prop} (H : ((x5 = (31 : Int32) → i_P i_MT i_AT L xs 245 229 [some (.ref x0), some (.int x1), some (.int x2), some (.int x3), some (.int x4), some (.int x5), some (.int x6), x7, x8] [] h 0 0 Q) ∧ (¬ (x5 = (31 : Int32)) → ((x5 = (30 : Int32) → i_P i_MT i_AT L xs 245 229 [some (.ref x0), some (.int x1), some (.int x2), some (.int x3), some (.int x4), some (.int x5), some (.int x6), x7, x8] [] h 0 0 Q) ∧ (¬ (x5 = (30 : Int32)) → ((¬ x5 = (29 : Int32) → ((¬ x5 = (24 : Int32) → ((¬ x5 = (25 : Int32) → i_P i_MT i_AT L xs 245 207 [some (.ref x0), some (.int x1), some (.int x2), some (.int x3), some (.int x4), some (.int x5), some (.int x6), x7, x8] [.int (4 : Int32)] h 0 0 Q) ∧ (¬ (¬ x5 = (25 : Int32)) → i_P i_MT i_AT L xs 245 207 [some (.ref x0), some (.int x1), some (.int x2), some (.int x3), some (.int x4), some (.int x5), some (.int x6), x7, x8] [.int (3 : Int32)] h 0 0 Q))) ∧ (¬ (¬ x5 = (24 : Int32)) → i_P i_MT i_AT L xs 245 207 [some (.ref x0), some (.int x1), some (.int x2), some (.int x3), some (.int x4), some (.int x5), some (.int x6), x7, x8] [.int (2 : Int32)] h 0 0 Q))) ∧ (¬ (¬ x5 = (29 : Int32)) → i_P i_MT i_AT L xs 245 207 [some (.ref x0), some (.int x1), some (.int x2), some (.int x3), some (.int x4), some (.int x5), some (.int x6), x7, x8] [.int (1 : Int32)] h 0 0 Q))))))) : i_P i_MT i_AT L xs 245 159 [some (.ref x0), some (.int x1), some (.int x2), some (.int x3), some (.int x4), some (.int x5), some (.int x6), x7, x8] [] h 0 0 Q := by
  have hk := i_k245
  refine g_s1 (pc2 := 161) hk rfl rfl rfl rfl rfl ?_
  refine g_s1 (pc2 := 163) (st2 := [.int (31 : Int32), .int x5]) hk rfl rfl rfl rfl rfl ?_
  refine g_icmp_eq hk rfl (fun hc => ?_) (fun hc => ?_)
  · have H := H.1 hc
    exact H
  · have H := H.2 hc
    refine g_s1 (pc2 := 168) hk rfl rfl rfl rfl rfl ?_
    refine g_s1 (pc2 := 170) (st2 := [.int (30 : Int32), .int x5]) hk rfl rfl rfl rfl rfl ?_
    refine g_icmp_eq hk rfl (fun hc => ?_) (fun hc => ?_)
    · have H := H.1 hc
      exact H
    · have H := H.2 hc
      refine g_s1 (pc2 := 175) hk rfl rfl rfl rfl rfl ?_
      refine g_s1 (pc2 := 177) (st2 := [.int (29 : Int32), .int x5]) hk rfl rfl rfl rfl rfl ?_
      refine g_icmp_ne hk rfl (fun hc => ?_) (fun hc => ?_)
      · have H := H.1 hc
        refine g_s1 (pc2 := 186) hk rfl rfl rfl rfl rfl ?_
        refine g_s1 (pc2 := 188) (st2 := [.int (24 : Int32), .int x5]) hk rfl rfl rfl rfl rfl ?_
        refine g_icmp_ne hk rfl (fun hc => ?_) (fun hc => ?_)
        · have H := H.1 hc
          refine g_s1 (pc2 := 197) hk rfl rfl rfl rfl rfl ?_
          refine g_s1 (pc2 := 199) (st2 := [.int (25 : Int32), .int x5]) hk rfl rfl rfl rfl rfl ?_
          refine g_icmp_ne hk rfl (fun hc => ?_) (fun hc => ?_)
          · have H := H.1 hc
            refine g_s1 (pc2 := 207) (st2 := [.int (4 : Int32)]) hk rfl rfl rfl rfl rfl ?_
            exact H
          · have H := H.2 hc
            refine g_s1 (pc2 := 203) (st2 := [.int (3 : Int32)]) hk rfl rfl rfl rfl rfl ?_
            refine g_s1 (pc2 := 207) hk rfl rfl rfl rfl rfl ?_
            exact H
        · have H := H.2 hc
          refine g_s1 (pc2 := 192) (st2 := [.int (2 : Int32)]) hk rfl rfl rfl rfl rfl ?_
          refine g_s1 (pc2 := 207) hk rfl rfl rfl rfl rfl ?_
          exact H
      · have H := H.2 hc
        refine g_s1 (pc2 := 181) (st2 := [.int (1 : Int32)]) hk rfl rfl rfl rfl rfl ?_
        refine g_s1 (pc2 := 207) hk rfl rfl rfl rfl rfl ?_
        exact H
theorem b245_207 {x0 : Nat} {x1 : Int32} {x2 : Int32} {x3 : Int32} {x4 : Int32} {x5 : Int32} {x6 : Int32} {x7 : Option Value} {x8 : Option Value} {s0 : Int32} {h : iH} {Q : Option Value → iH → Prop} (H : (∃ v1 : Nat, i_fld h x0 12 0 = some (.ref v1) ∧ (∃ (n2 : Nat) (f3 : Nat → Int32), i_arI h 0 v1 = some (n2, f3) ∧ ¬ ((x4 + x2) < 0 ∨ n2 ≤ (x4 + x2).toNatClampNeg) ∧ i_P i_MT i_AT L xs 245 226 [some (.ref x0), some (.int x1), some (.int x2), some (.int x3), some (.int x4), some (.int x5), some (.int x6), some (.int s0), x8] [] (i_siI h v1 (x4 + x2).toNatClampNeg (((8 : Int32) * s0) + x6)) 0 0 Q))) : i_P i_MT i_AT L xs 245 207 [some (.ref x0), some (.int x1), some (.int x2), some (.int x3), some (.int x4), some (.int x5), some (.int x6), x7, x8] [.int s0] h 0 0 Q := by
  have hk := i_k245
  refine g_s1 (pc2 := 209) (lo2 := [some (.ref x0), some (.int x1), some (.int x2), some (.int x3), some (.int x4), some (.int x5), some (.int x6), some (.int s0), x8]) hk rfl rfl rfl rfl rfl ?_
  refine g_s1 (pc2 := 210) hk rfl rfl rfl rfl rfl ?_
  obtain ⟨v1, ev1, H⟩ := H
  refine g_step (pc2 := 213) hk rfl rfl rfl (s_get ev1) ?_
  refine g_s1 (pc2 := 215) hk rfl rfl rfl rfl rfl ?_
  refine g_s1 (pc2 := 216) hk rfl rfl rfl rfl rfl ?_
  refine g_s1 (pc2 := 217) hk rfl rfl rfl rfl rfl ?_
  refine g_s1 (pc2 := 219) (st2 := [.int (8 : Int32), .int (x4 + x2), .ref v1]) hk rfl rfl rfl rfl rfl ?_
  refine g_s1 (pc2 := 221) hk rfl rfl rfl rfl rfl ?_
  refine g_s1 (pc2 := 222) hk rfl rfl rfl rfl rfl ?_
  refine g_s1 (pc2 := 224) hk rfl rfl rfl rfl rfl ?_
  refine g_s1 (pc2 := 225) hk rfl rfl rfl rfl rfl ?_
  obtain ⟨n2, f3, ef3, hi, H⟩ := H
  refine g_step (pc2 := 226) hk rfl rfl rfl (s_aput ef3 hi) ?_
  exact H
theorem b245_226 {x0 : Nat} {x1 : Int32} {x2 : Int32} {x3 : Int32} {x4 : Int32} {x5 : Int32} {x6 : Int32} {x7 : Int32} {x8 : Option Value} {h : iH} {Q : Option Value → iH → Prop} (H : i_P i_MT i_AT L xs 245 229 [some (.ref x0), some (.int x1), some (.int (x2 + 1)), some (.int x3), some (.int x4), some (.int x5), some (.int x6), some (.int x7), x8] [] h 0 0 Q) : i_P i_MT i_AT L xs 245 226 [some (.ref x0), some (.int x1), some (.int x2), some (.int x3), some (.int x4), some (.int x5), some (.int x6), some (.int x7), x8] [] h 0 0 Q := by
  have hk := i_k245
  refine g_s1 (pc2 := 229) (lo2 := [some (.ref x0), some (.int x1), some (.int (x2 + 1)), some (.int x3), some (.int x4), some (.int x5), some (.int x6), some (.int x7), x8]) hk rfl rfl rfl rfl rfl ?_
  exact H
theorem b245_229 {x0 : Nat} {x1 : Int32} {x2 : Int32} {x3 : Int32} {x4 : Int32} {x5 : Int32} {x6 : Int32} {x7 : Option Value} {x8 : Option Value} {h : iH} {Q : Option Value → iH → Prop} (H : i_P i_MT i_AT L xs 245 14 [some (.ref x0), some (.int x1), some (.int x2), some (.int (x3 + 1)), some (.int x4), some (.int x5), some (.int x6), x7, x8] [] h 0 0 Q) : i_P i_MT i_AT L xs 245 229 [some (.ref x0), some (.int x1), some (.int x2), some (.int x3), some (.int x4), some (.int x5), some (.int x6), x7, x8] [] h 0 0 Q := by
  have hk := i_k245
  refine g_s1 (pc2 := 232) (lo2 := [some (.ref x0), some (.int x1), some (.int x2), some (.int (x3 + 1)), some (.int x4), some (.int x5), some (.int x6), x7, x8]) hk rfl rfl rfl rfl rfl ?_
  refine g_s1 (pc2 := 14) hk rfl rfl rfl rfl rfl ?_
  exact H
theorem b245_235 {x0 : Nat} {x1 : Int32} {x2 : Int32} {x3 : Int32} {x4 : Int32} {x5 : Option Value} {x6 : Option Value} {x7 : Option Value} {x8 : Option Value} {h : iH} {Q : Option Value → iH → Prop} (H : Q none h) : i_P i_MT i_AT L xs 245 235 [some (.ref x0), some (.int x1), some (.int x2), some (.int x3), some (.int x4), x5, x6, x7, x8] [] h 0 0 Q := by
  have hk := i_k245
  exact g_return hk rfl (by decide) (by decide) rfl H
/-! StillTownModel.aPlan()Z -/
theorem e246 {x0 : Nat} {h : iH} {Q : Option Value → iH → Prop} (H : i_P i_MT i_AT L xs 246 0 [some (.ref x0), none, none] [] h 0 0 Q) : i_C i_MT i_AT L xs 246 [.ref x0] h Q := ⟨i_m246, i_k246.1, Nat.le_of_ble_eq_true rfl, H⟩
theorem b246_0 {x0 : Nat} {x1 : Option Value} {x2 : Option Value} {h : iH} {Q : Option Value → iH → Prop} (H : (∃ v1 : Nat, i_fld h x0 12 0 = some (.ref v1) ∧ (∃ (n2 : Nat) (f3 : Nat → Int32), i_arI h 0 v1 = some (n2, f3) ∧ ¬ ((5 : Int32) < 0 ∨ n2 ≤ (5 : Int32).toNatClampNeg) ∧ (i_obj? h x0 12 ∧ i_C i_MT i_AT L xs 239 [.ref x0, .int (0 : Int32), .int (f3 (5 : Int32).toNatClampNeg)] h (fun v h4 => ∃ r5 : Int32, v = some (.int r5) ∧ i_P i_MT i_AT L xs 246 11 [some (.ref x0), x1, x2] [.int r5] h4 0 0 Q))))) : i_P i_MT i_AT L xs 246 0 [some (.ref x0), x1, x2] [] h 0 0 Q := by
  have hk := i_k246
  refine g_s1 (pc2 := 1) hk rfl rfl rfl rfl rfl ?_
  refine g_s1 (pc2 := 2) (st2 := [.int (0 : Int32), .ref x0]) hk rfl rfl rfl rfl rfl ?_
  refine g_s1 (pc2 := 3) hk rfl rfl rfl rfl rfl ?_
  obtain ⟨v1, ev1, H⟩ := H
  refine g_step (pc2 := 6) hk rfl rfl rfl (s_get ev1) ?_
  refine g_s1 (pc2 := 7) (st2 := [.int (5 : Int32), .ref v1, .int (0 : Int32), .ref x0]) hk rfl rfl rfl rfl rfl ?_
  obtain ⟨n2, f3, ef3, hi, H⟩ := H
  refine g_step (pc2 := 8) hk rfl rfl rfl (s_aget (L := L) (xs := xs) ef3 hi) ?_
  obtain ⟨ho, H⟩ := H
  refine g_call hk rfl rfl i_k239.1 ⟨rfl, rfl⟩ rfl (i_rcv_v ho rfl (by decide)) rfl ?_
  exact H.mono (fun v h2 q => by obtain ⟨r, rfl, q⟩ := q; exact q)
theorem b246_11 {x0 : Nat} {x1 : Option Value} {x2 : Option Value} {s0 : Int32} {h : iH} {Q : Option Value → iH → Prop} (H : ((¬ s0 = (-1 : Int32) → (∃ v1 : Int32, i_fld h x0 12 21 = some (.int v1) ∧ ((¬ ((v1 >>> (s0 &&& 31)) &&& (1 : Int32)) = (1 : Int32) → (∃ v2 : Int32, i_fld h x0 12 21 = some (.int v2) ∧ ((∃ o, i_fld h x0 12 21 = some o) ∧ i_P i_MT i_AT L xs 246 49 [some (.ref x0), some (.int s0), x2] [] (i_sf h x0 21 (.int (v2 ||| ((1 : Int32) <<< (s0 &&& 31))))) 0 0 Q))) ∧ (¬ (¬ ((v1 >>> (s0 &&& 31)) &&& (1 : Int32)) = (1 : Int32)) → (i_obj? h x0 12 ∧ i_C i_MT i_AT L xs 221 [.ref x0, .int (5 : Int32)] h (fun v h3 => ∃ r4 : Int32, v = some (.int r4) ∧ i_P i_MT i_AT L xs 246 36 [some (.ref x0), some (.int s0), x2] [.int r4] h3 0 0 Q)))))) ∧ (¬ (¬ s0 = (-1 : Int32)) → Q (some (.int 0)) h))) : i_P i_MT i_AT L xs 246 11 [some (.ref x0), x1, x2] [.int s0] h 0 0 Q := by
  have hk := i_k246
  refine g_s1 (pc2 := 12) (lo2 := [some (.ref x0), some (.int s0), x2]) hk rfl rfl rfl rfl rfl ?_
  refine g_s1 (pc2 := 13) hk rfl rfl rfl rfl rfl ?_
  refine g_s1 (pc2 := 14) (st2 := [.int (-1 : Int32), .int s0]) hk rfl rfl rfl rfl rfl ?_
  refine g_icmp_ne hk rfl (fun hc => ?_) (fun hc => ?_)
  · have H := H.1 hc
    refine g_s1 (pc2 := 20) hk rfl rfl rfl rfl rfl ?_
    obtain ⟨v1, ev1, H⟩ := H
    refine g_step (pc2 := 23) hk rfl rfl rfl (s_get ev1) ?_
    refine g_s1 (pc2 := 24) hk rfl rfl rfl rfl rfl ?_
    refine g_s1 (pc2 := 25) hk rfl rfl rfl rfl rfl ?_
    refine g_s1 (pc2 := 26) (st2 := [.int (1 : Int32), .int (v1 >>> (s0 &&& 31))]) hk rfl rfl rfl rfl rfl ?_
    refine g_s1 (pc2 := 27) hk rfl rfl rfl rfl rfl ?_
    refine g_s1 (pc2 := 28) (st2 := [.int (1 : Int32), .int ((v1 >>> (s0 &&& 31)) &&& (1 : Int32))]) hk rfl rfl rfl rfl rfl ?_
    refine g_icmp_ne hk rfl (fun hc => ?_) (fun hc => ?_)
    · have H := H.1 hc
      refine g_s1 (pc2 := 38) hk rfl rfl rfl rfl rfl ?_
      refine g_s1 (pc2 := 39) hk rfl rfl rfl rfl rfl ?_
      obtain ⟨v2, ev2, H⟩ := H
      refine g_step (pc2 := 42) hk rfl rfl rfl (s_get ev2) ?_
      refine g_s1 (pc2 := 43) (st2 := [.int (1 : Int32), .int v2, .ref x0]) hk rfl rfl rfl rfl rfl ?_
      refine g_s1 (pc2 := 44) hk rfl rfl rfl rfl rfl ?_
      refine g_s1 (pc2 := 45) hk rfl rfl rfl rfl rfl ?_
      refine g_s1 (pc2 := 46) hk rfl rfl rfl rfl rfl ?_
      obtain ⟨⟨o, ho⟩, H⟩ := H
      refine g_step (pc2 := 49) hk rfl rfl rfl (s_put ho rfl) ?_
      exact H
    · have H := H.2 hc
      refine g_s1 (pc2 := 32) hk rfl rfl rfl rfl rfl ?_
      refine g_s1 (pc2 := 33) (st2 := [.int (5 : Int32), .ref x0]) hk rfl rfl rfl rfl rfl ?_
      obtain ⟨ho, H⟩ := H
      refine g_call hk rfl rfl i_k221.1 ⟨rfl, rfl⟩ rfl (i_rcv_v ho rfl (by decide)) rfl ?_
      exact H.mono (fun v h2 q => by obtain ⟨r, rfl, q⟩ := q; exact q)
  · have H := H.2 hc
    refine g_s1 (pc2 := 18) (st2 := [.int (0 : Int32)]) hk rfl rfl rfl rfl rfl ?_
    exact g_ireturn hk rfl (by decide) (by decide) rfl H
theorem b246_36 {x0 : Nat} {x1 : Int32} {x2 : Option Value} {s0 : Int32} {h : iH} {Q : Option Value → iH → Prop} (H : (i_ret (some .boolean) s0 = true ∧ Q (some (.int s0)) h)) : i_P i_MT i_AT L xs 246 36 [some (.ref x0), some (.int x1), x2] [.int s0] h 0 0 Q := by
  have hk := i_k246
  exact g_ireturn hk rfl (by decide) (by decide) H.1 H.2
theorem b246_49 {x0 : Nat} {x1 : Int32} {x2 : Option Value} {h : iH} {Q : Option Value → iH → Prop} (H : (i_obj? h x0 12 ∧ i_C i_MT i_AT L xs 218 [.ref x0] h (fun v h1 => v = none ∧ i_P i_MT i_AT L xs 246 53 [some (.ref x0), some (.int x1), x2] [] h1 0 0 Q))) : i_P i_MT i_AT L xs 246 49 [some (.ref x0), some (.int x1), x2] [] h 0 0 Q := by
  have hk := i_k246
  refine g_s1 (pc2 := 50) hk rfl rfl rfl rfl rfl ?_
  obtain ⟨ho, H⟩ := H
  refine g_call hk rfl rfl i_k218.1 ⟨rfl, rfl⟩ rfl (i_rcv_v ho rfl (by decide)) rfl ?_
  exact H.mono (fun v h2 q => by obtain ⟨rfl, q⟩ := q; exact q)
theorem b246_53 {x0 : Nat} {x1 : Int32} {x2 : Option Value} {h : iH} {Q : Option Value → iH → Prop} (H : (i_obj? h x0 12 ∧ i_C i_MT i_AT L xs 224 [.ref x0, .retAddr 7, .int (28 : Int32)] h (fun v h1 => ∃ r2 : Int32, v = some (.int r2) ∧ i_P i_MT i_AT L xs 246 61 [some (.ref x0), some (.int x1), x2] [.int r2] h1 0 0 Q))) : i_P i_MT i_AT L xs 246 53 [some (.ref x0), some (.int x1), x2] [] h 0 0 Q := by
  have hk := i_k246
  refine g_s1 (pc2 := 54) hk rfl rfl rfl rfl rfl ?_
  refine g_step (pc2 := 56) (st2 := [.retAddr 7, .ref x0]) hk rfl rfl rfl rfl ?_
  refine g_s1 (pc2 := 58) (st2 := [.int (28 : Int32), .retAddr 7, .ref x0]) hk rfl rfl rfl rfl rfl ?_
  obtain ⟨ho, H⟩ := H
  refine g_call hk rfl rfl i_k224.1 ⟨rfl, rfl⟩ rfl (i_rcv_v ho rfl (by decide)) rfl ?_
  exact H.mono (fun v h2 q => by obtain ⟨r, rfl, q⟩ := q; exact q)
theorem b246_61 {x0 : Nat} {x1 : Int32} {x2 : Option Value} {s0 : Int32} {h : iH} {Q : Option Value → iH → Prop} (H : ((¬ s0 = 0 → ((∃ o, i_fld h x0 12 26 = some o) ∧ i_P i_MT i_AT L xs 246 71 [some (.ref x0), some (.int x1), x2] [] (i_sf h x0 26 (.int (0 : Int32))) 0 0 Q)) ∧ (¬ (¬ s0 = 0) → Q (some (.int 0)) h))) : i_P i_MT i_AT L xs 246 61 [some (.ref x0), some (.int x1), x2] [.int s0] h 0 0 Q := by
  have hk := i_k246
  refine g_if_ne hk rfl (fun hc => ?_) (fun hc => ?_)
  · have H := H.1 hc
    refine g_s1 (pc2 := 67) hk rfl rfl rfl rfl rfl ?_
    refine g_s1 (pc2 := 68) (st2 := [.int (0 : Int32), .ref x0]) hk rfl rfl rfl rfl rfl ?_
    obtain ⟨⟨o, ho⟩, H⟩ := H
    refine g_step (pc2 := 71) hk rfl rfl rfl (s_put ho rfl) ?_
    exact H
  · have H := H.2 hc
    refine g_s1 (pc2 := 65) (st2 := [.int (0 : Int32)]) hk rfl rfl rfl rfl rfl ?_
    exact g_ireturn hk rfl (by decide) (by decide) rfl H
theorem b246_71 {x0 : Nat} {x1 : Int32} {x2 : Option Value} {h : iH} {Q : Option Value → iH → Prop} (H : ((∃ o, i_fld h x0 12 28 = some o) ∧ i_P i_MT i_AT L xs 246 76 [some (.ref x0), some (.int x1), x2] [] (i_sf h x0 28 (.int (0 : Int32))) 0 0 Q)) : i_P i_MT i_AT L xs 246 71 [some (.ref x0), some (.int x1), x2] [] h 0 0 Q := by
  have hk := i_k246
  refine g_s1 (pc2 := 72) hk rfl rfl rfl rfl rfl ?_
  refine g_s1 (pc2 := 73) (st2 := [.int (0 : Int32), .ref x0]) hk rfl rfl rfl rfl rfl ?_
  obtain ⟨⟨o, ho⟩, H⟩ := H
  refine g_step (pc2 := 76) hk rfl rfl rfl (s_put ho rfl) ?_
  exact H
theorem b246_76 {x0 : Nat} {x1 : Int32} {x2 : Option Value} {h : iH} {Q : Option Value → iH → Prop} (H : i_P i_MT i_AT L xs 246 78 [some (.ref x0), some (.int x1), some (.int (1 : Int32))] [] h 0 0 Q) : i_P i_MT i_AT L xs 246 76 [some (.ref x0), some (.int x1), x2] [] h 0 0 Q := by
  have hk := i_k246
  refine g_s1 (pc2 := 77) (st2 := [.int (1 : Int32)]) hk rfl rfl rfl rfl rfl ?_
  refine g_s1 (pc2 := 78) (lo2 := [some (.ref x0), some (.int x1), some (.int (1 : Int32))]) hk rfl rfl rfl rfl rfl ?_
  exact H
theorem b246_78 {x0 : Nat} {x1 : Int32} {x2 : Int32} {h : iH} {Q : Option Value → iH → Prop} (H : ((x2 = 0 → i_P i_MT i_AT L xs 246 107 [some (.ref x0), some (.int x1), some (.int x2)] [] h 0 0 Q) ∧ (¬ (x2 = 0) → (i_obj? h x0 12 ∧ i_C i_MT i_AT L xs 219 [.ref x0, .int (59 : Int32)] h (fun v h1 => ∃ r2 : Int32, v = some (.int r2) ∧ i_P i_MT i_AT L xs 246 88 [some (.ref x0), some (.int x1), some (.int x2)] [.int r2] h1 0 0 Q))))) : i_P i_MT i_AT L xs 246 78 [some (.ref x0), some (.int x1), some (.int x2)] [] h 0 0 Q := by
  have hk := i_k246
  refine g_s1 (pc2 := 79) hk rfl rfl rfl rfl rfl ?_
  refine g_if_eq hk rfl (fun hc => ?_) (fun hc => ?_)
  · have H := H.1 hc
    exact H
  · have H := H.2 hc
    refine g_s1 (pc2 := 83) hk rfl rfl rfl rfl rfl ?_
    refine g_s1 (pc2 := 85) (st2 := [.int (59 : Int32), .ref x0]) hk rfl rfl rfl rfl rfl ?_
    obtain ⟨ho, H⟩ := H
    refine g_call hk rfl rfl i_k219.1 ⟨rfl, rfl⟩ rfl (i_rcv_v ho rfl (by decide)) rfl ?_
    exact H.mono (fun v h2 q => by obtain ⟨r, rfl, q⟩ := q; exact q)
theorem b246_88 {x0 : Nat} {x1 : Int32} {x2 : Int32} {s0 : Int32} {h : iH} {Q : Option Value → iH → Prop} (H : ((¬ s0 = 0 → i_P i_MT i_AT L xs 246 107 [some (.ref x0), some (.int x1), some (.int x2)] [] h 0 0 Q) ∧ (¬ (¬ s0 = 0) → (∃ v1 : Int32, i_fld h x0 12 14 = some (.int v1) ∧ ((¬ v1 = (2 : Int32) → i_P i_MT i_AT L xs 246 107 [some (.ref x0), some (.int x1), some (.int x2)] [] h 0 0 Q) ∧ (¬ (¬ v1 = (2 : Int32)) → (i_obj? h x0 12 ∧ i_C i_MT i_AT L xs 244 [.ref x0] h (fun v h2 => ∃ r3 : Int32, v = some (.int r3) ∧ i_P i_MT i_AT L xs 246 103 [some (.ref x0), some (.int x1), some (.int x2)] [.int r3] h2 0 0 Q)))))))) : i_P i_MT i_AT L xs 246 88 [some (.ref x0), some (.int x1), some (.int x2)] [.int s0] h 0 0 Q := by
  have hk := i_k246
  refine g_if_ne hk rfl (fun hc => ?_) (fun hc => ?_)
  · have H := H.1 hc
    exact H
  · have H := H.2 hc
    refine g_s1 (pc2 := 92) hk rfl rfl rfl rfl rfl ?_
    obtain ⟨v1, ev1, H⟩ := H
    refine g_step (pc2 := 95) hk rfl rfl rfl (s_get ev1) ?_
    refine g_s1 (pc2 := 96) (st2 := [.int (2 : Int32), .int v1]) hk rfl rfl rfl rfl rfl ?_
    refine g_icmp_ne hk rfl (fun hc => ?_) (fun hc => ?_)
    · have H := H.1 hc
      exact H
    · have H := H.2 hc
      refine g_s1 (pc2 := 100) hk rfl rfl rfl rfl rfl ?_
      obtain ⟨ho, H⟩ := H
      refine g_call hk rfl rfl i_k244.1 ⟨rfl, rfl⟩ rfl (i_rcv_v ho rfl (by decide)) rfl ?_
      exact H.mono (fun v h2 q => by obtain ⟨r, rfl, q⟩ := q; exact q)
theorem b246_103 {x0 : Nat} {x1 : Int32} {x2 : Int32} {s0 : Int32} {h : iH} {Q : Option Value → iH → Prop} (H : i_P i_MT i_AT L xs 246 78 [some (.ref x0), some (.int x1), some (.int s0)] [] h 0 0 Q) : i_P i_MT i_AT L xs 246 103 [some (.ref x0), some (.int x1), some (.int x2)] [.int s0] h 0 0 Q := by
  have hk := i_k246
  refine g_s1 (pc2 := 104) (lo2 := [some (.ref x0), some (.int x1), some (.int s0)]) hk rfl rfl rfl rfl rfl ?_
  refine g_s1 (pc2 := 78) hk rfl rfl rfl rfl rfl ?_
  exact H
theorem b246_107 {x0 : Nat} {x1 : Int32} {x2 : Int32} {h : iH} {Q : Option Value → iH → Prop} (H : ((¬ x2 = 0 → (∃ v1 : Int32, i_fld h x0 12 28 = some (.int v1) ∧ ((v1 ≤ 0 → (i_obj? h x0 12 ∧ i_C i_MT i_AT L xs 245 [.ref x0, .int x1] h (fun v h2 => v = none ∧ i_P i_MT i_AT L xs 246 131 [some (.ref x0), some (.int x1), some (.int x2)] [] h2 0 0 Q))) ∧ (¬ (v1 ≤ 0) → (i_obj? h x0 12 ∧ i_C i_MT i_AT L xs 221 [.ref x0, .int (2 : Int32)] h (fun v h4 => ∃ r5 : Int32, v = some (.int r5) ∧ i_P i_MT i_AT L xs 246 125 [some (.ref x0), some (.int x1), some (.int x2)] [.int r5] h4 0 0 Q)))))) ∧ (¬ (¬ x2 = 0) → Q (some (.int 0)) h))) : i_P i_MT i_AT L xs 246 107 [some (.ref x0), some (.int x1), some (.int x2)] [] h 0 0 Q := by
  have hk := i_k246
  refine g_s1 (pc2 := 108) hk rfl rfl rfl rfl rfl ?_
  refine g_if_ne hk rfl (fun hc => ?_) (fun hc => ?_)
  · have H := H.1 hc
    refine g_s1 (pc2 := 114) hk rfl rfl rfl rfl rfl ?_
    obtain ⟨v1, ev1, H⟩ := H
    refine g_step (pc2 := 117) hk rfl rfl rfl (s_get ev1) ?_
    refine g_if_le hk rfl (fun hc => ?_) (fun hc => ?_)
    · have H := H.1 hc
      refine g_s1 (pc2 := 127) hk rfl rfl rfl rfl rfl ?_
      refine g_s1 (pc2 := 128) hk rfl rfl rfl rfl rfl ?_
      obtain ⟨ho, H⟩ := H
      refine g_call hk rfl rfl i_k245.1 ⟨rfl, rfl⟩ rfl (i_rcv_v ho rfl (by decide)) rfl ?_
      exact H.mono (fun v h2 q => by obtain ⟨rfl, q⟩ := q; exact q)
    · have H := H.2 hc
      refine g_s1 (pc2 := 121) hk rfl rfl rfl rfl rfl ?_
      refine g_s1 (pc2 := 122) (st2 := [.int (2 : Int32), .ref x0]) hk rfl rfl rfl rfl rfl ?_
      obtain ⟨ho, H⟩ := H
      refine g_call hk rfl rfl i_k221.1 ⟨rfl, rfl⟩ rfl (i_rcv_v ho rfl (by decide)) rfl ?_
      exact H.mono (fun v h2 q => by obtain ⟨r, rfl, q⟩ := q; exact q)
  · have H := H.2 hc
    refine g_s1 (pc2 := 112) (st2 := [.int (0 : Int32)]) hk rfl rfl rfl rfl rfl ?_
    exact g_ireturn hk rfl (by decide) (by decide) rfl H
theorem b246_125 {x0 : Nat} {x1 : Int32} {x2 : Int32} {s0 : Int32} {h : iH} {Q : Option Value → iH → Prop} (H : (i_ret (some .boolean) s0 = true ∧ Q (some (.int s0)) h)) : i_P i_MT i_AT L xs 246 125 [some (.ref x0), some (.int x1), some (.int x2)] [.int s0] h 0 0 Q := by
  have hk := i_k246
  exact g_ireturn hk rfl (by decide) (by decide) H.1 H.2
theorem b246_131 {x0 : Nat} {x1 : Int32} {x2 : Int32} {h : iH} {Q : Option Value → iH → Prop} (H : (i_obj? h x0 12 ∧ i_C i_MT i_AT L xs 223 [.ref x0, .int (59 : Int32)] h (fun v h1 => ∃ r2 : Int32, v = some (.int r2) ∧ i_P i_MT i_AT L xs 246 137 [some (.ref x0), some (.int x1), some (.int x2)] [.int r2] h1 0 0 Q))) : i_P i_MT i_AT L xs 246 131 [some (.ref x0), some (.int x1), some (.int x2)] [] h 0 0 Q := by
  have hk := i_k246
  refine g_s1 (pc2 := 132) hk rfl rfl rfl rfl rfl ?_
  refine g_s1 (pc2 := 134) (st2 := [.int (59 : Int32), .ref x0]) hk rfl rfl rfl rfl rfl ?_
  obtain ⟨ho, H⟩ := H
  refine g_call hk rfl rfl i_k223.1 ⟨rfl, rfl⟩ rfl (i_rcv_v ho rfl (by decide)) rfl ?_
  exact H.mono (fun v h2 q => by obtain ⟨r, rfl, q⟩ := q; exact q)
theorem b246_137 {x0 : Nat} {x1 : Int32} {x2 : Int32} {s0 : Int32} {h : iH} {Q : Option Value → iH → Prop} (H : (i_ret (some .boolean) s0 = true ∧ Q (some (.int s0)) h)) : i_P i_MT i_AT L xs 246 137 [some (.ref x0), some (.int x1), some (.int x2)] [.int s0] h 0 0 Q := by
  have hk := i_k246
  exact g_ireturn hk rfl (by decide) (by decide) H.1 H.2
/-! StillTownModel.plan(I)I -/
theorem e247 {x0 : Nat} {x1 : Int32} {h : iH} {Q : Option Value → iH → Prop} (H : i_P i_MT i_AT L xs 247 0 [some (.ref x0), some (.int x1), none, none] [] h 0 0 Q) : i_C i_MT i_AT L xs 247 [.ref x0, .int x1] h Q := ⟨i_m247, i_k247.1, Nat.le_of_ble_eq_true rfl, H⟩
theorem b247_0 {x0 : Nat} {x1 : Int32} {x2 : Option Value} {x3 : Option Value} {h : iH} {Q : Option Value → iH → Prop} (H : (i_obj? h x0 12 ∧ i_C i_MT i_AT L xs 222 [.ref x0, .int x1, .int (300 : Int32)] h (fun v h1 => ∃ r2 : Int32, v = some (.int r2) ∧ i_P i_MT i_AT L xs 247 8 [some (.ref x0), some (.int x1), x2, x3] [.int r2] h1 0 0 Q))) : i_P i_MT i_AT L xs 247 0 [some (.ref x0), some (.int x1), x2, x3] [] h 0 0 Q := by
  have hk := i_k247
  refine g_s1 (pc2 := 1) hk rfl rfl rfl rfl rfl ?_
  refine g_s1 (pc2 := 2) hk rfl rfl rfl rfl rfl ?_
  refine g_s1 (pc2 := 5) (st2 := [.int (300 : Int32), .int x1, .ref x0]) hk rfl rfl rfl rfl rfl ?_
  obtain ⟨ho, H⟩ := H
  refine g_call hk rfl rfl i_k222.1 ⟨rfl, rfl⟩ rfl (i_rcv_v ho rfl (by decide)) rfl ?_
  exact H.mono (fun v h2 q => by obtain ⟨r, rfl, q⟩ := q; exact q)
theorem b247_8 {x0 : Nat} {x1 : Int32} {x2 : Option Value} {x3 : Option Value} {s0 : Int32} {h : iH} {Q : Option Value → iH → Prop} (H : ((¬ s0 = 0 → i_P i_MT i_AT L xs 247 21 [some (.ref x0), some (.int x1), some (.int (194 : Int32)), x3] [] h 0 0 Q) ∧ (¬ (¬ s0 = 0) → (i_obj? h x0 12 ∧ i_C i_MT i_AT L xs 201 [.ref x0, .int (1 : Int32)] h (fun v h1 => ∃ r2 : Int32, v = some (.int r2) ∧ i_P i_MT i_AT L xs 247 16 [some (.ref x0), some (.int x1), x2, x3] [.int r2] h1 0 0 Q))))) : i_P i_MT i_AT L xs 247 8 [some (.ref x0), some (.int x1), x2, x3] [.int s0] h 0 0 Q := by
  have hk := i_k247
  refine g_if_ne hk rfl (fun hc => ?_) (fun hc => ?_)
  · have H := H.1 hc
    refine g_s1 (pc2 := 20) (st2 := [.int (194 : Int32)]) hk rfl rfl rfl rfl rfl ?_
    refine g_s1 (pc2 := 21) (lo2 := [some (.ref x0), some (.int x1), some (.int (194 : Int32)), x3]) hk rfl rfl rfl rfl rfl ?_
    exact H
  · have H := H.2 hc
    refine g_s1 (pc2 := 12) hk rfl rfl rfl rfl rfl ?_
    refine g_s1 (pc2 := 13) (st2 := [.int (1 : Int32), .ref x0]) hk rfl rfl rfl rfl rfl ?_
    obtain ⟨ho, H⟩ := H
    refine g_call hk rfl rfl i_k201.1 ⟨rfl, rfl⟩ rfl (i_rcv_v ho rfl (by decide)) rfl ?_
    exact H.mono (fun v h2 q => by obtain ⟨r, rfl, q⟩ := q; exact q)
theorem b247_16 {x0 : Nat} {x1 : Int32} {x2 : Option Value} {x3 : Option Value} {s0 : Int32} {h : iH} {Q : Option Value → iH → Prop} (H : Q (some (.int s0)) h) : i_P i_MT i_AT L xs 247 16 [some (.ref x0), some (.int x1), x2, x3] [.int s0] h 0 0 Q := by
  have hk := i_k247
  exact g_ireturn hk rfl (by decide) (by decide) rfl H
theorem b247_21 {x0 : Nat} {x1 : Int32} {x2 : Int32} {x3 : Option Value} {h : iH} {Q : Option Value → iH → Prop} (H : (((680 : Int32) ≤ x2 → ((∃ o, i_fld h x0 12 27 = some o) ∧ i_P i_MT i_AT L xs 247 50 [some (.ref x0), some (.int x1), some (.int x2), x3] [] (i_sf h x0 27 (.int (0 : Int32))) 0 0 Q)) ∧ (¬ ((680 : Int32) ≤ x2) → (∃ v1 : Nat, i_fld h x0 12 0 = some (.ref v1) ∧ (∃ (n2 : Nat) (f3 : Nat → Int32), i_arI h 0 v1 = some (n2, f3) ∧ ¬ (((2720 : Int32) + x2) < 0 ∨ n2 ≤ ((2720 : Int32) + x2).toNatClampNeg) ∧ i_P i_MT i_AT L xs 247 39 [some (.ref x0), some (.int x1), some (.int x2), x3] [] (i_siI h v1 ((2720 : Int32) + x2).toNatClampNeg (0 : Int32)) 0 0 Q))))) : i_P i_MT i_AT L xs 247 21 [some (.ref x0), some (.int x1), some (.int x2), x3] [] h 0 0 Q := by
  have hk := i_k247
  refine g_s1 (pc2 := 22) hk rfl rfl rfl rfl rfl ?_
  refine g_s1 (pc2 := 25) (st2 := [.int (680 : Int32), .int x2]) hk rfl rfl rfl rfl rfl ?_
  refine g_icmp_ge hk rfl (fun hc => ?_) (fun hc => ?_)
  · have H := H.1 hc
    refine g_s1 (pc2 := 46) hk rfl rfl rfl rfl rfl ?_
    refine g_s1 (pc2 := 47) (st2 := [.int (0 : Int32), .ref x0]) hk rfl rfl rfl rfl rfl ?_
    obtain ⟨⟨o, ho⟩, H⟩ := H
    refine g_step (pc2 := 50) hk rfl rfl rfl (s_put ho rfl) ?_
    exact H
  · have H := H.2 hc
    refine g_s1 (pc2 := 29) hk rfl rfl rfl rfl rfl ?_
    obtain ⟨v1, ev1, H⟩ := H
    refine g_step (pc2 := 32) hk rfl rfl rfl (s_get ev1) ?_
    refine g_s1 (pc2 := 35) (st2 := [.int (2720 : Int32), .ref v1]) hk rfl rfl rfl rfl rfl ?_
    refine g_s1 (pc2 := 36) hk rfl rfl rfl rfl rfl ?_
    refine g_s1 (pc2 := 37) hk rfl rfl rfl rfl rfl ?_
    refine g_s1 (pc2 := 38) (st2 := [.int (0 : Int32), .int ((2720 : Int32) + x2), .ref v1]) hk rfl rfl rfl rfl rfl ?_
    obtain ⟨n2, f3, ef3, hi, H⟩ := H
    refine g_step (pc2 := 39) hk rfl rfl rfl (s_aput ef3 hi) ?_
    exact H
theorem b247_39 {x0 : Nat} {x1 : Int32} {x2 : Int32} {x3 : Option Value} {h : iH} {Q : Option Value → iH → Prop} (H : i_P i_MT i_AT L xs 247 21 [some (.ref x0), some (.int x1), some (.int (x2 + 1)), x3] [] h 0 0 Q) : i_P i_MT i_AT L xs 247 39 [some (.ref x0), some (.int x1), some (.int x2), x3] [] h 0 0 Q := by
  have hk := i_k247
  refine g_s1 (pc2 := 42) (lo2 := [some (.ref x0), some (.int x1), some (.int (x2 + 1)), x3]) hk rfl rfl rfl rfl rfl ?_
  refine g_s1 (pc2 := 21) hk rfl rfl rfl rfl rfl ?_
  exact H
theorem b247_50 {x0 : Nat} {x1 : Int32} {x2 : Int32} {x3 : Option Value} {h : iH} {Q : Option Value → iH → Prop} (H : i_P i_MT i_AT L xs 247 52 [some (.ref x0), some (.int x1), some (.int (1 : Int32)), x3] [] h 0 0 Q) : i_P i_MT i_AT L xs 247 50 [some (.ref x0), some (.int x1), some (.int x2), x3] [] h 0 0 Q := by
  have hk := i_k247
  refine g_s1 (pc2 := 51) (st2 := [.int (1 : Int32)]) hk rfl rfl rfl rfl rfl ?_
  refine g_s1 (pc2 := 52) (lo2 := [some (.ref x0), some (.int x1), some (.int (1 : Int32)), x3]) hk rfl rfl rfl rfl rfl ?_
  exact H
theorem b247_52 {x0 : Nat} {x1 : Int32} {x2 : Int32} {x3 : Option Value} {h : iH} {Q : Option Value → iH → Prop} (H : ((x2 = 0 → i_P i_MT i_AT L xs 247 71 [some (.ref x0), some (.int x1), some (.int x2), x3] [] h 0 0 Q) ∧ (¬ (x2 = 0) → (∃ v1 : Int32, i_fld h x0 12 14 = some (.int v1) ∧ ((v1 = 0 → i_P i_MT i_AT L xs 247 71 [some (.ref x0), some (.int x1), some (.int x2), x3] [] h 0 0 Q) ∧ (¬ (v1 = 0) → (i_obj? h x0 12 ∧ i_C i_MT i_AT L xs 246 [.ref x0] h (fun v h2 => ∃ r3 : Int32, v = some (.int r3) ∧ i_P i_MT i_AT L xs 247 67 [some (.ref x0), some (.int x1), some (.int x2), x3] [.int r3] h2 0 0 Q)))))))) : i_P i_MT i_AT L xs 247 52 [some (.ref x0), some (.int x1), some (.int x2), x3] [] h 0 0 Q := by
  have hk := i_k247
  refine g_s1 (pc2 := 53) hk rfl rfl rfl rfl rfl ?_
  refine g_if_eq hk rfl (fun hc => ?_) (fun hc => ?_)
  · have H := H.1 hc
    exact H
  · have H := H.2 hc
    refine g_s1 (pc2 := 57) hk rfl rfl rfl rfl rfl ?_
    obtain ⟨v1, ev1, H⟩ := H
    refine g_step (pc2 := 60) hk rfl rfl rfl (s_get ev1) ?_
    refine g_if_eq hk rfl (fun hc => ?_) (fun hc => ?_)
    · have H := H.1 hc
      exact H
    · have H := H.2 hc
      refine g_s1 (pc2 := 64) hk rfl rfl rfl rfl rfl ?_
      obtain ⟨ho, H⟩ := H
      refine g_call hk rfl rfl i_k246.1 ⟨rfl, rfl⟩ rfl (i_rcv_v ho rfl (by decide)) rfl ?_
      exact H.mono (fun v h2 q => by obtain ⟨r, rfl, q⟩ := q; exact q)
theorem b247_67 {x0 : Nat} {x1 : Int32} {x2 : Int32} {x3 : Option Value} {s0 : Int32} {h : iH} {Q : Option Value → iH → Prop} (H : i_P i_MT i_AT L xs 247 52 [some (.ref x0), some (.int x1), some (.int s0), x3] [] h 0 0 Q) : i_P i_MT i_AT L xs 247 67 [some (.ref x0), some (.int x1), some (.int x2), x3] [.int s0] h 0 0 Q := by
  have hk := i_k247
  refine g_s1 (pc2 := 68) (lo2 := [some (.ref x0), some (.int x1), some (.int s0), x3]) hk rfl rfl rfl rfl rfl ?_
  refine g_s1 (pc2 := 52) hk rfl rfl rfl rfl rfl ?_
  exact H
theorem b247_71 {x0 : Nat} {x1 : Int32} {x2 : Int32} {x3 : Option Value} {h : iH} {Q : Option Value → iH → Prop} (H : (∃ v1 : Int32, i_fld h x0 12 20 = some (.int v1) ∧ ((¬ v1 = 0 → i_P i_MT i_AT L xs 247 115 [some (.ref x0), some (.int x1), some (.int x2), x3] [] h 0 0 Q) ∧ (¬ (¬ v1 = 0) → i_P i_MT i_AT L xs 247 82 [some (.ref x0), some (.int x1), some (.int x2), some (.int (194 : Int32))] [] h 0 0 Q)))) : i_P i_MT i_AT L xs 247 71 [some (.ref x0), some (.int x1), some (.int x2), x3] [] h 0 0 Q := by
  have hk := i_k247
  refine g_s1 (pc2 := 72) hk rfl rfl rfl rfl rfl ?_
  obtain ⟨v1, ev1, H⟩ := H
  refine g_step (pc2 := 75) hk rfl rfl rfl (s_get ev1) ?_
  refine g_if_ne hk rfl (fun hc => ?_) (fun hc => ?_)
  · have H := H.1 hc
    exact H
  · have H := H.2 hc
    refine g_s1 (pc2 := 81) (st2 := [.int (194 : Int32)]) hk rfl rfl rfl rfl rfl ?_
    refine g_s1 (pc2 := 82) (lo2 := [some (.ref x0), some (.int x1), some (.int x2), some (.int (194 : Int32))]) hk rfl rfl rfl rfl rfl ?_
    exact H
theorem b247_82 {x0 : Nat} {x1 : Int32} {x2 : Int32} {x3 : Int32} {h : iH} {Q : Option Value → iH → Prop} (H : (((680 : Int32) ≤ x3 → (i_obj? h x0 12 ∧ i_C i_MT i_AT L xs 252 [.ref x0] h (fun v h1 => v = none ∧ i_P i_MT i_AT L xs 247 115 [some (.ref x0), some (.int x1), some (.int x2), some (.int x3)] [] h1 0 0 Q))) ∧ (¬ ((680 : Int32) ≤ x3) → (∃ v3 : Nat, i_fld h x0 12 0 = some (.ref v3) ∧ (∃ v4 : Nat, i_fld h x0 12 0 = some (.ref v4) ∧ (∃ (n5 : Nat) (f6 : Nat → Int32), i_arI h 0 v4 = some (n5, f6) ∧ ¬ (((2720 : Int32) + x3) < 0 ∨ n5 ≤ ((2720 : Int32) + x3).toNatClampNeg) ∧ (∃ (n7 : Nat) (f8 : Nat → Int32), i_arI h 0 v3 = some (n7, f8) ∧ ¬ (x3 < 0 ∨ n7 ≤ x3.toNatClampNeg) ∧ i_P i_MT i_AT L xs 247 105 [some (.ref x0), some (.int x1), some (.int x2), some (.int x3)] [] (i_siI h v3 x3.toNatClampNeg (f6 ((2720 : Int32) + x3).toNatClampNeg)) 0 0 Q))))))) : i_P i_MT i_AT L xs 247 82 [some (.ref x0), some (.int x1), some (.int x2), some (.int x3)] [] h 0 0 Q := by
  have hk := i_k247
  refine g_s1 (pc2 := 83) hk rfl rfl rfl rfl rfl ?_
  refine g_s1 (pc2 := 86) (st2 := [.int (680 : Int32), .int x3]) hk rfl rfl rfl rfl rfl ?_
  refine g_icmp_ge hk rfl (fun hc => ?_) (fun hc => ?_)
  · have H := H.1 hc
    refine g_s1 (pc2 := 112) hk rfl rfl rfl rfl rfl ?_
    obtain ⟨ho, H⟩ := H
    refine g_call hk rfl rfl i_k252.1 ⟨rfl, rfl⟩ rfl (i_rcv_v ho rfl (by decide)) rfl ?_
    exact H.mono (fun v h2 q => by obtain ⟨rfl, q⟩ := q; exact q)
  · have H := H.2 hc
    refine g_s1 (pc2 := 90) hk rfl rfl rfl rfl rfl ?_
    obtain ⟨v3, ev3, H⟩ := H
    refine g_step (pc2 := 93) hk rfl rfl rfl (s_get ev3) ?_
    refine g_s1 (pc2 := 94) hk rfl rfl rfl rfl rfl ?_
    refine g_s1 (pc2 := 95) hk rfl rfl rfl rfl rfl ?_
    obtain ⟨v4, ev4, H⟩ := H
    refine g_step (pc2 := 98) hk rfl rfl rfl (s_get ev4) ?_
    refine g_s1 (pc2 := 101) (st2 := [.int (2720 : Int32), .ref v4, .int x3, .ref v3]) hk rfl rfl rfl rfl rfl ?_
    refine g_s1 (pc2 := 102) hk rfl rfl rfl rfl rfl ?_
    refine g_s1 (pc2 := 103) hk rfl rfl rfl rfl rfl ?_
    obtain ⟨n5, f6, ef6, hi, H⟩ := H
    refine g_step (pc2 := 104) hk rfl rfl rfl (s_aget (L := L) (xs := xs) ef6 hi) ?_
    obtain ⟨n7, f8, ef8, hi, H⟩ := H
    refine g_step (pc2 := 105) hk rfl rfl rfl (s_aput ef8 hi) ?_
    exact H
theorem b247_105 {x0 : Nat} {x1 : Int32} {x2 : Int32} {x3 : Int32} {h : iH} {Q : Option Value → iH → Prop} (H : i_P i_MT i_AT L xs 247 82 [some (.ref x0), some (.int x1), some (.int x2), some (.int (x3 + 1))] [] h 0 0 Q) : i_P i_MT i_AT L xs 247 105 [some (.ref x0), some (.int x1), some (.int x2), some (.int x3)] [] h 0 0 Q := by
  have hk := i_k247
  refine g_s1 (pc2 := 108) (lo2 := [some (.ref x0), some (.int x1), some (.int x2), some (.int (x3 + 1))]) hk rfl rfl rfl rfl rfl ?_
  refine g_s1 (pc2 := 82) hk rfl rfl rfl rfl rfl ?_
  exact H
theorem b247_115 {x0 : Nat} {x1 : Int32} {x2 : Int32} {x3 : Option Value} {h : iH} {Q : Option Value → iH → Prop} (H : (∃ v1 : Int32, i_fld h x0 12 27 = some (.int v1) ∧ (i_obj? h x0 12 ∧ i_C i_MT i_AT L xs 230 [.ref x0, .int v1] h (fun v h2 => ∃ r3 : Int32, v = some (.int r3) ∧ i_P i_MT i_AT L xs 247 123 [some (.ref x0), some (.int x1), some (.int x2), x3] [.int r3] h2 0 0 Q)))) : i_P i_MT i_AT L xs 247 115 [some (.ref x0), some (.int x1), some (.int x2), x3] [] h 0 0 Q := by
  have hk := i_k247
  refine g_s1 (pc2 := 116) hk rfl rfl rfl rfl rfl ?_
  refine g_s1 (pc2 := 117) hk rfl rfl rfl rfl rfl ?_
  obtain ⟨v1, ev1, H⟩ := H
  refine g_step (pc2 := 120) hk rfl rfl rfl (s_get ev1) ?_
  obtain ⟨ho, H⟩ := H
  refine g_call hk rfl rfl i_k230.1 ⟨rfl, rfl⟩ rfl (i_rcv_v ho rfl (by decide)) rfl ?_
  exact H.mono (fun v h2 q => by obtain ⟨r, rfl, q⟩ := q; exact q)
theorem b247_123 {x0 : Nat} {x1 : Int32} {x2 : Int32} {x3 : Option Value} {s0 : Int32} {h : iH} {Q : Option Value → iH → Prop} (H : Q (some (.int s0)) h) : i_P i_MT i_AT L xs 247 123 [some (.ref x0), some (.int x1), some (.int x2), x3] [.int s0] h 0 0 Q := by
  have hk := i_k247
  exact g_ireturn hk rfl (by decide) (by decide) rfl H
/-! StillTownModel.cells()I -/
theorem e248 {x0 : Nat} {h : iH} {Q : Option Value → iH → Prop} (H : i_P i_MT i_AT L xs 248 0 [some (.ref x0)] [] h 0 0 Q) : i_C i_MT i_AT L xs 248 [.ref x0] h Q := ⟨i_m248, i_k248.1, Nat.le_of_ble_eq_true rfl, H⟩
theorem b248_0 {x0 : Nat} {h : iH} {Q : Option Value → iH → Prop} (H : (∃ v1 : Nat, i_fld h x0 12 0 = some (.ref v1) ∧ (∃ (n2 : Nat) (f3 : Nat → Int32), i_arI h 0 v1 = some (n2, f3) ∧ ¬ ((0 : Int32) < 0 ∨ n2 ≤ (0 : Int32).toNatClampNeg) ∧ (∃ v4 : Nat, i_fld h x0 12 0 = some (.ref v4) ∧ (∃ (n5 : Nat) (f6 : Nat → Int32), i_arI h 0 v4 = some (n5, f6) ∧ ¬ ((1 : Int32) < 0 ∨ n5 ≤ (1 : Int32).toNatClampNeg) ∧ Q (some (.int ((f3 (0 : Int32).toNatClampNeg) * (f6 (1 : Int32).toNatClampNeg)))) h))))) : i_P i_MT i_AT L xs 248 0 [some (.ref x0)] [] h 0 0 Q := by
  have hk := i_k248
  refine g_s1 (pc2 := 1) hk rfl rfl rfl rfl rfl ?_
  obtain ⟨v1, ev1, H⟩ := H
  refine g_step (pc2 := 4) hk rfl rfl rfl (s_get ev1) ?_
  refine g_s1 (pc2 := 5) (st2 := [.int (0 : Int32), .ref v1]) hk rfl rfl rfl rfl rfl ?_
  obtain ⟨n2, f3, ef3, hi, H⟩ := H
  refine g_step (pc2 := 6) hk rfl rfl rfl (s_aget (L := L) (xs := xs) ef3 hi) ?_
  refine g_s1 (pc2 := 7) hk rfl rfl rfl rfl rfl ?_
  obtain ⟨v4, ev4, H⟩ := H
  refine g_step (pc2 := 10) hk rfl rfl rfl (s_get ev4) ?_
  refine g_s1 (pc2 := 11) (st2 := [.int (1 : Int32), .ref v4, .int (f3 (0 : Int32).toNatClampNeg)]) hk rfl rfl rfl rfl rfl ?_
  obtain ⟨n5, f6, ef6, hi, H⟩ := H
  refine g_step (pc2 := 12) hk rfl rfl rfl (s_aget (L := L) (xs := xs) ef6 hi) ?_
  refine g_s1 (pc2 := 13) hk rfl rfl rfl rfl rfl ?_
  exact g_ireturn hk rfl (by decide) (by decide) rfl H
/-! StillTownModel.isCell(J)Z -/
theorem e249 {x0 : Nat} {x1 : Int64} {h : iH} {Q : Option Value → iH → Prop} (H : i_P i_MT i_AT L xs 249 0 [some (.ref x0), some (.long x1), none] [] h 0 0 Q) : i_C i_MT i_AT L xs 249 [.ref x0, .long x1] h Q := ⟨i_m249, i_k249.1, Nat.le_of_ble_eq_true rfl, H⟩
theorem b249_0 {x0 : Nat} {x1 : Int64} {h : iH} {Q : Option Value → iH → Prop} (H : (((lg_cmp x1 (0 : Int64)) < 0 → i_P i_MT i_AT L xs 249 20 [some (.ref x0), some (.long x1), none] [] h 0 0 Q) ∧ (¬ ((lg_cmp x1 (0 : Int64)) < 0) → (i_obj? h x0 12 ∧ i_C i_MT i_AT L xs 248 [.ref x0] h (fun v h1 => ∃ r2 : Int32, v = some (.int r2) ∧ i_P i_MT i_AT L xs 249 11 [some (.ref x0), some (.long x1), none] [.int r2, .long x1] h1 0 0 Q))))) : i_P i_MT i_AT L xs 249 0 [some (.ref x0), some (.long x1), none] [] h 0 0 Q := by
  have hk := i_k249
  refine g_s1 (pc2 := 1) hk rfl rfl rfl rfl rfl ?_
  refine g_s1 (pc2 := 2) (st2 := [.long (0 : Int64), .long x1]) hk rfl rfl rfl rfl rfl ?_
  refine g_s1 (pc2 := 3) hk rfl rfl rfl rfl rfl ?_
  refine g_if_lt hk rfl (fun hc => ?_) (fun hc => ?_)
  · have H := H.1 hc
    exact H
  · have H := H.2 hc
    refine g_s1 (pc2 := 7) hk rfl rfl rfl rfl rfl ?_
    refine g_s1 (pc2 := 8) hk rfl rfl rfl rfl rfl ?_
    obtain ⟨ho, H⟩ := H
    refine g_call hk rfl rfl i_k248.1 ⟨rfl, rfl⟩ rfl (i_rcv_v ho rfl (by decide)) rfl ?_
    exact H.mono (fun v h2 q => by obtain ⟨r, rfl, q⟩ := q; exact q)
theorem b249_11 {x0 : Nat} {x1 : Int64} {s0 : Int64} {s1 : Int32} {h : iH} {Q : Option Value → iH → Prop} (H : ((0 ≤ (lg_cmp s0 (s1.toInt64)) → i_P i_MT i_AT L xs 249 20 [some (.ref x0), some (.long x1), none] [] h 0 0 Q) ∧ (¬ (0 ≤ (lg_cmp s0 (s1.toInt64))) → i_P i_MT i_AT L xs 249 21 [some (.ref x0), some (.long x1), none] [.int (1 : Int32)] h 0 0 Q))) : i_P i_MT i_AT L xs 249 11 [some (.ref x0), some (.long x1), none] [.int s1, .long s0] h 0 0 Q := by
  have hk := i_k249
  refine g_s1 (pc2 := 12) hk rfl rfl rfl rfl rfl ?_
  refine g_s1 (pc2 := 13) hk rfl rfl rfl rfl rfl ?_
  refine g_if_ge hk rfl (fun hc => ?_) (fun hc => ?_)
  · have H := H.1 hc
    exact H
  · have H := H.2 hc
    refine g_s1 (pc2 := 17) (st2 := [.int (1 : Int32)]) hk rfl rfl rfl rfl rfl ?_
    refine g_s1 (pc2 := 21) hk rfl rfl rfl rfl rfl ?_
    exact H
theorem b249_20 {x0 : Nat} {x1 : Int64} {h : iH} {Q : Option Value → iH → Prop} (H : i_P i_MT i_AT L xs 249 21 [some (.ref x0), some (.long x1), none] [.int (0 : Int32)] h 0 0 Q) : i_P i_MT i_AT L xs 249 20 [some (.ref x0), some (.long x1), none] [] h 0 0 Q := by
  have hk := i_k249
  refine g_s1 (pc2 := 21) (st2 := [.int (0 : Int32)]) hk rfl rfl rfl rfl rfl ?_
  exact H
theorem b249_21 {x0 : Nat} {x1 : Int64} {s0 : Int32} {h : iH} {Q : Option Value → iH → Prop} (H : (i_ret (some .boolean) s0 = true ∧ Q (some (.int s0)) h)) : i_P i_MT i_AT L xs 249 21 [some (.ref x0), some (.long x1), none] [.int s0] h 0 0 Q := by
  have hk := i_k249
  exact g_ireturn hk rfl (by decide) (by decide) H.1 H.2
/-! StillTownModel.isOpen(I)Z -/
theorem e250 {x0 : Nat} {x1 : Int32} {h : iH} {Q : Option Value → iH → Prop} (H : i_P i_MT i_AT L xs 250 0 [some (.ref x0), some (.int x1)] [] h 0 0 Q) : i_C i_MT i_AT L xs 250 [.ref x0, .int x1] h Q := ⟨i_m250, i_k250.1, Nat.le_of_ble_eq_true rfl, H⟩
theorem b250_0 {x0 : Nat} {x1 : Int32} {h : iH} {Q : Option Value → iH → Prop} (H : ((x1 = (-1 : Int32) → i_P i_MT i_AT L xs 250 21 [some (.ref x0), some (.int x1)] [] h 0 0 Q) ∧ (¬ (x1 = (-1 : Int32)) → (∃ v1 : Nat, i_fld h x0 12 0 = some (.ref v1) ∧ (∃ (n2 : Nat) (f3 : Nat → Int32), i_arI h 0 v1 = some (n2, f3) ∧ ¬ (((10 : Int32) + x1) < 0 ∨ n2 ≤ ((10 : Int32) + x1).toNatClampNeg) ∧ ((¬ (f3 ((10 : Int32) + x1).toNatClampNeg) = 0 → i_P i_MT i_AT L xs 250 21 [some (.ref x0), some (.int x1)] [] h 0 0 Q) ∧ (¬ (¬ (f3 ((10 : Int32) + x1).toNatClampNeg) = 0) → i_P i_MT i_AT L xs 250 22 [some (.ref x0), some (.int x1)] [.int (1 : Int32)] h 0 0 Q))))))) : i_P i_MT i_AT L xs 250 0 [some (.ref x0), some (.int x1)] [] h 0 0 Q := by
  have hk := i_k250
  refine g_s1 (pc2 := 1) hk rfl rfl rfl rfl rfl ?_
  refine g_s1 (pc2 := 2) (st2 := [.int (-1 : Int32), .int x1]) hk rfl rfl rfl rfl rfl ?_
  refine g_icmp_eq hk rfl (fun hc => ?_) (fun hc => ?_)
  · have H := H.1 hc
    exact H
  · have H := H.2 hc
    refine g_s1 (pc2 := 6) hk rfl rfl rfl rfl rfl ?_
    obtain ⟨v1, ev1, H⟩ := H
    refine g_step (pc2 := 9) hk rfl rfl rfl (s_get ev1) ?_
    refine g_s1 (pc2 := 11) (st2 := [.int (10 : Int32), .ref v1]) hk rfl rfl rfl rfl rfl ?_
    refine g_s1 (pc2 := 12) hk rfl rfl rfl rfl rfl ?_
    refine g_s1 (pc2 := 13) hk rfl rfl rfl rfl rfl ?_
    obtain ⟨n2, f3, ef3, hi, H⟩ := H
    refine g_step (pc2 := 14) hk rfl rfl rfl (s_aget (L := L) (xs := xs) ef3 hi) ?_
    refine g_if_ne hk rfl (fun hc => ?_) (fun hc => ?_)
    · have H := H.1 hc
      exact H
    · have H := H.2 hc
      refine g_s1 (pc2 := 18) (st2 := [.int (1 : Int32)]) hk rfl rfl rfl rfl rfl ?_
      refine g_s1 (pc2 := 22) hk rfl rfl rfl rfl rfl ?_
      exact H
theorem b250_21 {x0 : Nat} {x1 : Int32} {h : iH} {Q : Option Value → iH → Prop} (H : i_P i_MT i_AT L xs 250 22 [some (.ref x0), some (.int x1)] [.int (0 : Int32)] h 0 0 Q) : i_P i_MT i_AT L xs 250 21 [some (.ref x0), some (.int x1)] [] h 0 0 Q := by
  have hk := i_k250
  refine g_s1 (pc2 := 22) (st2 := [.int (0 : Int32)]) hk rfl rfl rfl rfl rfl ?_
  exact H
theorem b250_22 {x0 : Nat} {x1 : Int32} {s0 : Int32} {h : iH} {Q : Option Value → iH → Prop} (H : (i_ret (some .boolean) s0 = true ∧ Q (some (.int s0)) h)) : i_P i_MT i_AT L xs 250 22 [some (.ref x0), some (.int x1)] [.int s0] h 0 0 Q := by
  have hk := i_k250
  exact g_ireturn hk rfl (by decide) (by decide) H.1 H.2
/-! StillTownModel.leads(II)I -/
theorem e251 {x0 : Nat} {x1 : Int32} {x2 : Int32} {h : iH} {Q : Option Value → iH → Prop} (H : i_P i_MT i_AT L xs 251 0 [some (.ref x0), some (.int x1), some (.int x2), none, none] [] h 0 0 Q) : i_C i_MT i_AT L xs 251 [.ref x0, .int x1, .int x2] h Q := ⟨i_m251, i_k251.1, Nat.le_of_ble_eq_true rfl, H⟩
theorem b251_0 {x0 : Nat} {x1 : Int32} {x2 : Int32} {x3 : Option Value} {x4 : Option Value} {h : iH} {Q : Option Value → iH → Prop} (H : (∃ v1 : Nat, i_fld h x0 12 0 = some (.ref v1) ∧ (∃ (n2 : Nat) (f3 : Nat → Int32), i_arI h 0 v1 = some (n2, f3) ∧ ¬ ((0 : Int32) < 0 ∨ n2 ≤ (0 : Int32).toNatClampNeg) ∧ (¬ (f3 (0 : Int32).toNatClampNeg) = 0 ∧ (∃ v4 : Nat, i_fld h x0 12 2 = some (.ref v4) ∧ (∃ (n5 : Nat) (f6 : Nat → Int32), i_arI h 0 v4 = some (n5, f6) ∧ ¬ (x2 < 0 ∨ n5 ≤ x2.toNatClampNeg) ∧ (∃ v7 : Nat, i_fld h x0 12 0 = some (.ref v7) ∧ (∃ (n8 : Nat) (f9 : Nat → Int32), i_arI h 0 v7 = some (n8, f9) ∧ ¬ ((0 : Int32) < 0 ∨ n8 ≤ (0 : Int32).toNatClampNeg) ∧ (¬ (f9 (0 : Int32).toNatClampNeg) = 0 ∧ (∃ v10 : Nat, i_fld h x0 12 3 = some (.ref v10) ∧ (∃ (n11 : Nat) (f12 : Nat → Int32), i_arI h 0 v10 = some (n11, f12) ∧ ¬ (x2 < 0 ∨ n11 ≤ x2.toNatClampNeg) ∧ ((((x1 - x1 / (f3 (0 : Int32).toNatClampNeg) * (f3 (0 : Int32).toNatClampNeg)) + (f6 x2.toNatClampNeg)) < 0 → i_P i_MT i_AT L xs 251 63 [some (.ref x0), some (.int x1), some (.int x2), some (.int ((x1 - x1 / (f3 (0 : Int32).toNatClampNeg) * (f3 (0 : Int32).toNatClampNeg)) + (f6 x2.toNatClampNeg))), some (.int ((x1 / (f9 (0 : Int32).toNatClampNeg)) + (f12 x2.toNatClampNeg)))] [] h 0 0 Q) ∧ (¬ (((x1 - x1 / (f3 (0 : Int32).toNatClampNeg) * (f3 (0 : Int32).toNatClampNeg)) + (f6 x2.toNatClampNeg)) < 0) → ((((x1 / (f9 (0 : Int32).toNatClampNeg)) + (f12 x2.toNatClampNeg)) < 0 → i_P i_MT i_AT L xs 251 63 [some (.ref x0), some (.int x1), some (.int x2), some (.int ((x1 - x1 / (f3 (0 : Int32).toNatClampNeg) * (f3 (0 : Int32).toNatClampNeg)) + (f6 x2.toNatClampNeg))), some (.int ((x1 / (f9 (0 : Int32).toNatClampNeg)) + (f12 x2.toNatClampNeg)))] [] h 0 0 Q) ∧ (¬ (((x1 / (f9 (0 : Int32).toNatClampNeg)) + (f12 x2.toNatClampNeg)) < 0) → (∃ v13 : Nat, i_fld h x0 12 0 = some (.ref v13) ∧ (∃ (n14 : Nat) (f15 : Nat → Int32), i_arI h 0 v13 = some (n14, f15) ∧ ¬ ((0 : Int32) < 0 ∨ n14 ≤ (0 : Int32).toNatClampNeg) ∧ (((f15 (0 : Int32).toNatClampNeg) ≤ ((x1 - x1 / (f3 (0 : Int32).toNatClampNeg) * (f3 (0 : Int32).toNatClampNeg)) + (f6 x2.toNatClampNeg)) → i_P i_MT i_AT L xs 251 63 [some (.ref x0), some (.int x1), some (.int x2), some (.int ((x1 - x1 / (f3 (0 : Int32).toNatClampNeg) * (f3 (0 : Int32).toNatClampNeg)) + (f6 x2.toNatClampNeg))), some (.int ((x1 / (f9 (0 : Int32).toNatClampNeg)) + (f12 x2.toNatClampNeg)))] [] h 0 0 Q) ∧ (¬ ((f15 (0 : Int32).toNatClampNeg) ≤ ((x1 - x1 / (f3 (0 : Int32).toNatClampNeg) * (f3 (0 : Int32).toNatClampNeg)) + (f6 x2.toNatClampNeg))) → (∃ v16 : Nat, i_fld h x0 12 0 = some (.ref v16) ∧ (∃ (n17 : Nat) (f18 : Nat → Int32), i_arI h 0 v16 = some (n17, f18) ∧ ¬ ((1 : Int32) < 0 ∨ n17 ≤ (1 : Int32).toNatClampNeg) ∧ ((((x1 / (f9 (0 : Int32).toNatClampNeg)) + (f12 x2.toNatClampNeg)) < (f18 (1 : Int32).toNatClampNeg) → (∃ v19 : Nat, i_fld h x0 12 0 = some (.ref v19) ∧ (∃ (n20 : Nat) (f21 : Nat → Int32), i_arI h 0 v19 = some (n20, f21) ∧ ¬ ((0 : Int32) < 0 ∨ n20 ≤ (0 : Int32).toNatClampNeg) ∧ i_P i_MT i_AT L xs 251 78 [some (.ref x0), some (.int x1), some (.int x2), some (.int ((x1 - x1 / (f3 (0 : Int32).toNatClampNeg) * (f3 (0 : Int32).toNatClampNeg)) + (f6 x2.toNatClampNeg))), some (.int ((x1 / (f9 (0 : Int32).toNatClampNeg)) + (f12 x2.toNatClampNeg)))] [.int (((f21 (0 : Int32).toNatClampNeg) * ((x1 / (f9 (0 : Int32).toNatClampNeg)) + (f12 x2.toNatClampNeg))) + ((x1 - x1 / (f3 (0 : Int32).toNatClampNeg) * (f3 (0 : Int32).toNatClampNeg)) + (f6 x2.toNatClampNeg)))] h 0 0 Q))) ∧ (¬ (((x1 / (f9 (0 : Int32).toNatClampNeg)) + (f12 x2.toNatClampNeg)) < (f18 (1 : Int32).toNatClampNeg)) → i_P i_MT i_AT L xs 251 63 [some (.ref x0), some (.int x1), some (.int x2), some (.int ((x1 - x1 / (f3 (0 : Int32).toNatClampNeg) * (f3 (0 : Int32).toNatClampNeg)) + (f6 x2.toNatClampNeg))), some (.int ((x1 / (f9 (0 : Int32).toNatClampNeg)) + (f12 x2.toNatClampNeg)))] [] h 0 0 Q))))))))))))))))))))))) : i_P i_MT i_AT L xs 251 0 [some (.ref x0), some (.int x1), some (.int x2), x3, x4] [] h 0 0 Q := by
  have hk := i_k251
  refine g_s1 (pc2 := 1) hk rfl rfl rfl rfl rfl ?_
  refine g_s1 (pc2 := 2) hk rfl rfl rfl rfl rfl ?_
  obtain ⟨v1, ev1, H⟩ := H
  refine g_step (pc2 := 5) hk rfl rfl rfl (s_get ev1) ?_
  refine g_s1 (pc2 := 6) (st2 := [.int (0 : Int32), .ref v1, .int x1]) hk rfl rfl rfl rfl rfl ?_
  obtain ⟨n2, f3, ef3, hi, H⟩ := H
  refine g_step (pc2 := 7) hk rfl rfl rfl (s_aget (L := L) (xs := xs) ef3 hi) ?_
  obtain ⟨hz, H⟩ := H
  refine g_s1 (pc2 := 8) hk rfl rfl rfl rfl (s_if hz) ?_
  refine g_s1 (pc2 := 9) hk rfl rfl rfl rfl rfl ?_
  obtain ⟨v4, ev4, H⟩ := H
  refine g_step (pc2 := 12) hk rfl rfl rfl (s_get ev4) ?_
  refine g_s1 (pc2 := 13) hk rfl rfl rfl rfl rfl ?_
  obtain ⟨n5, f6, ef6, hi, H⟩ := H
  refine g_step (pc2 := 14) hk rfl rfl rfl (s_aget (L := L) (xs := xs) ef6 hi) ?_
  refine g_s1 (pc2 := 15) hk rfl rfl rfl rfl rfl ?_
  refine g_s1 (pc2 := 16) (lo2 := [some (.ref x0), some (.int x1), some (.int x2), some (.int ((x1 - x1 / (f3 (0 : Int32).toNatClampNeg) * (f3 (0 : Int32).toNatClampNeg)) + (f6 x2.toNatClampNeg))), x4]) hk rfl rfl rfl rfl rfl ?_
  refine g_s1 (pc2 := 17) hk rfl rfl rfl rfl rfl ?_
  refine g_s1 (pc2 := 18) hk rfl rfl rfl rfl rfl ?_
  obtain ⟨v7, ev7, H⟩ := H
  refine g_step (pc2 := 21) hk rfl rfl rfl (s_get ev7) ?_
  refine g_s1 (pc2 := 22) (st2 := [.int (0 : Int32), .ref v7, .int x1]) hk rfl rfl rfl rfl rfl ?_
  obtain ⟨n8, f9, ef9, hi, H⟩ := H
  refine g_step (pc2 := 23) hk rfl rfl rfl (s_aget (L := L) (xs := xs) ef9 hi) ?_
  obtain ⟨hz, H⟩ := H
  refine g_s1 (pc2 := 24) hk rfl rfl rfl rfl (s_if hz) ?_
  refine g_s1 (pc2 := 25) hk rfl rfl rfl rfl rfl ?_
  obtain ⟨v10, ev10, H⟩ := H
  refine g_step (pc2 := 28) hk rfl rfl rfl (s_get ev10) ?_
  refine g_s1 (pc2 := 29) hk rfl rfl rfl rfl rfl ?_
  obtain ⟨n11, f12, ef12, hi, H⟩ := H
  refine g_step (pc2 := 30) hk rfl rfl rfl (s_aget (L := L) (xs := xs) ef12 hi) ?_
  refine g_s1 (pc2 := 31) hk rfl rfl rfl rfl rfl ?_
  refine g_s1 (pc2 := 33) (lo2 := [some (.ref x0), some (.int x1), some (.int x2), some (.int ((x1 - x1 / (f3 (0 : Int32).toNatClampNeg) * (f3 (0 : Int32).toNatClampNeg)) + (f6 x2.toNatClampNeg))), some (.int ((x1 / (f9 (0 : Int32).toNatClampNeg)) + (f12 x2.toNatClampNeg)))]) hk rfl rfl rfl rfl rfl ?_
  refine g_s1 (pc2 := 34) hk rfl rfl rfl rfl rfl ?_
  refine g_if_lt hk rfl (fun hc => ?_) (fun hc => ?_)
  · have H := H.1 hc
    exact H
  · have H := H.2 hc
    refine g_s1 (pc2 := 39) hk rfl rfl rfl rfl rfl ?_
    refine g_if_lt hk rfl (fun hc => ?_) (fun hc => ?_)
    · have H := H.1 hc
      exact H
    · have H := H.2 hc
      refine g_s1 (pc2 := 43) hk rfl rfl rfl rfl rfl ?_
      refine g_s1 (pc2 := 44) hk rfl rfl rfl rfl rfl ?_
      obtain ⟨v13, ev13, H⟩ := H
      refine g_step (pc2 := 47) hk rfl rfl rfl (s_get ev13) ?_
      refine g_s1 (pc2 := 48) (st2 := [.int (0 : Int32), .ref v13, .int ((x1 - x1 / (f3 (0 : Int32).toNatClampNeg) * (f3 (0 : Int32).toNatClampNeg)) + (f6 x2.toNatClampNeg))]) hk rfl rfl rfl rfl rfl ?_
      obtain ⟨n14, f15, ef15, hi, H⟩ := H
      refine g_step (pc2 := 49) hk rfl rfl rfl (s_aget (L := L) (xs := xs) ef15 hi) ?_
      refine g_icmp_ge hk rfl (fun hc => ?_) (fun hc => ?_)
      · have H := H.1 hc
        exact H
      · have H := H.2 hc
        refine g_s1 (pc2 := 54) hk rfl rfl rfl rfl rfl ?_
        refine g_s1 (pc2 := 55) hk rfl rfl rfl rfl rfl ?_
        obtain ⟨v16, ev16, H⟩ := H
        refine g_step (pc2 := 58) hk rfl rfl rfl (s_get ev16) ?_
        refine g_s1 (pc2 := 59) (st2 := [.int (1 : Int32), .ref v16, .int ((x1 / (f9 (0 : Int32).toNatClampNeg)) + (f12 x2.toNatClampNeg))]) hk rfl rfl rfl rfl rfl ?_
        obtain ⟨n17, f18, ef18, hi, H⟩ := H
        refine g_step (pc2 := 60) hk rfl rfl rfl (s_aget (L := L) (xs := xs) ef18 hi) ?_
        refine g_icmp_lt hk rfl (fun hc => ?_) (fun hc => ?_)
        · have H := H.1 hc
          refine g_s1 (pc2 := 68) hk rfl rfl rfl rfl rfl ?_
          obtain ⟨v19, ev19, H⟩ := H
          refine g_step (pc2 := 71) hk rfl rfl rfl (s_get ev19) ?_
          refine g_s1 (pc2 := 72) (st2 := [.int (0 : Int32), .ref v19]) hk rfl rfl rfl rfl rfl ?_
          obtain ⟨n20, f21, ef21, hi, H⟩ := H
          refine g_step (pc2 := 73) hk rfl rfl rfl (s_aget (L := L) (xs := xs) ef21 hi) ?_
          refine g_s1 (pc2 := 75) hk rfl rfl rfl rfl rfl ?_
          refine g_s1 (pc2 := 76) hk rfl rfl rfl rfl rfl ?_
          refine g_s1 (pc2 := 77) hk rfl rfl rfl rfl rfl ?_
          refine g_s1 (pc2 := 78) hk rfl rfl rfl rfl rfl ?_
          exact H
        · have H := H.2 hc
          exact H
theorem b251_63 {x0 : Nat} {x1 : Int32} {x2 : Int32} {x3 : Int32} {x4 : Int32} {h : iH} {Q : Option Value → iH → Prop} (H : i_P i_MT i_AT L xs 251 78 [some (.ref x0), some (.int x1), some (.int x2), some (.int x3), some (.int x4)] [.int (-1 : Int32)] h 0 0 Q) : i_P i_MT i_AT L xs 251 63 [some (.ref x0), some (.int x1), some (.int x2), some (.int x3), some (.int x4)] [] h 0 0 Q := by
  have hk := i_k251
  refine g_s1 (pc2 := 64) (st2 := [.int (-1 : Int32)]) hk rfl rfl rfl rfl rfl ?_
  refine g_s1 (pc2 := 78) hk rfl rfl rfl rfl rfl ?_
  exact H
theorem b251_78 {x0 : Nat} {x1 : Int32} {x2 : Int32} {x3 : Int32} {x4 : Int32} {s0 : Int32} {h : iH} {Q : Option Value → iH → Prop} (H : Q (some (.int s0)) h) : i_P i_MT i_AT L xs 251 78 [some (.ref x0), some (.int x1), some (.int x2), some (.int x3), some (.int x4)] [.int s0] h 0 0 Q := by
  have hk := i_k251
  exact g_ireturn hk rfl (by decide) (by decide) rfl H
/-! StillTownModel.lays()V -/
theorem e252 {x0 : Nat} {h : iH} {Q : Option Value → iH → Prop} (H : i_P i_MT i_AT L xs 252 0 [some (.ref x0), none, none, none, none] [] h 0 0 Q) : i_C i_MT i_AT L xs 252 [.ref x0] h Q := ⟨i_m252, i_k252.1, Nat.le_of_ble_eq_true rfl, H⟩
theorem b252_0 {x0 : Nat} {x1 : Option Value} {x2 : Option Value} {x3 : Option Value} {x4 : Option Value} {h : iH} {Q : Option Value → iH → Prop} (H : i_P i_MT i_AT L xs 252 2 [some (.ref x0), some (.int (0 : Int32)), x2, x3, x4] [] h 0 0 Q) : i_P i_MT i_AT L xs 252 0 [some (.ref x0), x1, x2, x3, x4] [] h 0 0 Q := by
  have hk := i_k252
  refine g_s1 (pc2 := 1) (st2 := [.int (0 : Int32)]) hk rfl rfl rfl rfl rfl ?_
  refine g_s1 (pc2 := 2) (lo2 := [some (.ref x0), some (.int (0 : Int32)), x2, x3, x4]) hk rfl rfl rfl rfl rfl ?_
  exact H
theorem b252_2 {x0 : Nat} {x1 : Int32} {x2 : Option Value} {x3 : Option Value} {x4 : Option Value} {h : iH} {Q : Option Value → iH → Prop} (H : (∃ v1 : Nat, i_fld h x0 12 0 = some (.ref v1) ∧ (∃ (n2 : Nat) (f3 : Nat → Int32), i_arI h 0 v1 = some (n2, f3) ∧ ¬ ((5 : Int32) < 0 ∨ n2 ≤ (5 : Int32).toNatClampNeg) ∧ (((f3 (5 : Int32).toNatClampNeg) ≤ x1 → i_P i_MT i_AT L xs 252 116 [some (.ref x0), some (.int (0 : Int32)), x2, x3, x4] [] h 0 0 Q) ∧ (¬ ((f3 (5 : Int32).toNatClampNeg) ≤ x1) → (∃ v4 : Nat, i_fld h x0 12 29 = some (.ref v4) ∧ (∃ v5 : Nat, i_fld h x0 12 0 = some (.ref v5) ∧ (∃ (n6 : Nat) (f7 : Nat → Int32), i_arI h 0 v5 = some (n6, f7) ∧ ¬ (((154 : Int32) + ((5 : Int32) * x1)) < 0 ∨ n6 ≤ ((154 : Int32) + ((5 : Int32) * x1)).toNatClampNeg) ∧ (∃ (n8 : Nat) (f9 : Nat → Int32), i_arI h 0 v4 = some (n8, f9) ∧ ¬ (((61 : Int32) * x1) < 0 ∨ n8 ≤ ((61 : Int32) * x1).toNatClampNeg) ∧ i_P i_MT i_AT L xs 252 33 [some (.ref x0), some (.int x1), x2, x3, x4] [] (i_siI h v4 ((61 : Int32) * x1).toNatClampNeg (f7 ((154 : Int32) + ((5 : Int32) * x1)).toNatClampNeg)) 0 0 Q))))))))) : i_P i_MT i_AT L xs 252 2 [some (.ref x0), some (.int x1), x2, x3, x4] [] h 0 0 Q := by
  have hk := i_k252
  refine g_s1 (pc2 := 3) hk rfl rfl rfl rfl rfl ?_
  refine g_s1 (pc2 := 4) hk rfl rfl rfl rfl rfl ?_
  obtain ⟨v1, ev1, H⟩ := H
  refine g_step (pc2 := 7) hk rfl rfl rfl (s_get ev1) ?_
  refine g_s1 (pc2 := 8) (st2 := [.int (5 : Int32), .ref v1, .int x1]) hk rfl rfl rfl rfl rfl ?_
  obtain ⟨n2, f3, ef3, hi, H⟩ := H
  refine g_step (pc2 := 9) hk rfl rfl rfl (s_aget (L := L) (xs := xs) ef3 hi) ?_
  refine g_icmp_ge hk rfl (fun hc => ?_) (fun hc => ?_)
  · have H := H.1 hc
    refine g_s1 (pc2 := 115) (st2 := [.int (0 : Int32)]) hk rfl rfl rfl rfl rfl ?_
    refine g_s1 (pc2 := 116) (lo2 := [some (.ref x0), some (.int (0 : Int32)), x2, x3, x4]) hk rfl rfl rfl rfl rfl ?_
    exact H
  · have H := H.2 hc
    refine g_s1 (pc2 := 13) hk rfl rfl rfl rfl rfl ?_
    obtain ⟨v4, ev4, H⟩ := H
    refine g_step (pc2 := 16) hk rfl rfl rfl (s_get ev4) ?_
    refine g_s1 (pc2 := 18) (st2 := [.int (61 : Int32), .ref v4]) hk rfl rfl rfl rfl rfl ?_
    refine g_s1 (pc2 := 19) hk rfl rfl rfl rfl rfl ?_
    refine g_s1 (pc2 := 20) hk rfl rfl rfl rfl rfl ?_
    refine g_s1 (pc2 := 21) hk rfl rfl rfl rfl rfl ?_
    obtain ⟨v5, ev5, H⟩ := H
    refine g_step (pc2 := 24) hk rfl rfl rfl (s_get ev5) ?_
    refine g_s1 (pc2 := 27) (st2 := [.int (154 : Int32), .ref v5, .int ((61 : Int32) * x1), .ref v4]) hk rfl rfl rfl rfl rfl ?_
    refine g_s1 (pc2 := 28) (st2 := [.int (5 : Int32), .int (154 : Int32), .ref v5, .int ((61 : Int32) * x1), .ref v4]) hk rfl rfl rfl rfl rfl ?_
    refine g_s1 (pc2 := 29) hk rfl rfl rfl rfl rfl ?_
    refine g_s1 (pc2 := 30) hk rfl rfl rfl rfl rfl ?_
    refine g_s1 (pc2 := 31) hk rfl rfl rfl rfl rfl ?_
    obtain ⟨n6, f7, ef7, hi, H⟩ := H
    refine g_step (pc2 := 32) hk rfl rfl rfl (s_aget (L := L) (xs := xs) ef7 hi) ?_
    obtain ⟨n8, f9, ef9, hi, H⟩ := H
    refine g_step (pc2 := 33) hk rfl rfl rfl (s_aput ef9 hi) ?_
    exact H
theorem b252_33 {x0 : Nat} {x1 : Int32} {x2 : Option Value} {x3 : Option Value} {x4 : Option Value} {h : iH} {Q : Option Value → iH → Prop} (H : (∃ v1 : Nat, i_fld h x0 12 30 = some (.ref v1) ∧ (∃ v2 : Nat, i_fld h x0 12 0 = some (.ref v2) ∧ (∃ (n3 : Nat) (f4 : Nat → Int32), i_arI h 0 v2 = some (n3, f4) ∧ ¬ ((((154 : Int32) + ((5 : Int32) * x1)) + (1 : Int32)) < 0 ∨ n3 ≤ (((154 : Int32) + ((5 : Int32) * x1)) + (1 : Int32)).toNatClampNeg) ∧ (∃ (n5 : Nat) (f6 : Nat → Int32), i_arI h 0 v1 = some (n5, f6) ∧ ¬ (((61 : Int32) * x1) < 0 ∨ n5 ≤ ((61 : Int32) * x1).toNatClampNeg) ∧ i_P i_MT i_AT L xs 252 56 [some (.ref x0), some (.int x1), x2, x3, x4] [] (i_siI h v1 ((61 : Int32) * x1).toNatClampNeg (f4 (((154 : Int32) + ((5 : Int32) * x1)) + (1 : Int32)).toNatClampNeg)) 0 0 Q))))) : i_P i_MT i_AT L xs 252 33 [some (.ref x0), some (.int x1), x2, x3, x4] [] h 0 0 Q := by
  have hk := i_k252
  refine g_s1 (pc2 := 34) hk rfl rfl rfl rfl rfl ?_
  obtain ⟨v1, ev1, H⟩ := H
  refine g_step (pc2 := 37) hk rfl rfl rfl (s_get ev1) ?_
  refine g_s1 (pc2 := 39) (st2 := [.int (61 : Int32), .ref v1]) hk rfl rfl rfl rfl rfl ?_
  refine g_s1 (pc2 := 40) hk rfl rfl rfl rfl rfl ?_
  refine g_s1 (pc2 := 41) hk rfl rfl rfl rfl rfl ?_
  refine g_s1 (pc2 := 42) hk rfl rfl rfl rfl rfl ?_
  obtain ⟨v2, ev2, H⟩ := H
  refine g_step (pc2 := 45) hk rfl rfl rfl (s_get ev2) ?_
  refine g_s1 (pc2 := 48) (st2 := [.int (154 : Int32), .ref v2, .int ((61 : Int32) * x1), .ref v1]) hk rfl rfl rfl rfl rfl ?_
  refine g_s1 (pc2 := 49) (st2 := [.int (5 : Int32), .int (154 : Int32), .ref v2, .int ((61 : Int32) * x1), .ref v1]) hk rfl rfl rfl rfl rfl ?_
  refine g_s1 (pc2 := 50) hk rfl rfl rfl rfl rfl ?_
  refine g_s1 (pc2 := 51) hk rfl rfl rfl rfl rfl ?_
  refine g_s1 (pc2 := 52) hk rfl rfl rfl rfl rfl ?_
  refine g_s1 (pc2 := 53) (st2 := [.int (1 : Int32), .int ((154 : Int32) + ((5 : Int32) * x1)), .ref v2, .int ((61 : Int32) * x1), .ref v1]) hk rfl rfl rfl rfl rfl ?_
  refine g_s1 (pc2 := 54) hk rfl rfl rfl rfl rfl ?_
  obtain ⟨n3, f4, ef4, hi, H⟩ := H
  refine g_step (pc2 := 55) hk rfl rfl rfl (s_aget (L := L) (xs := xs) ef4 hi) ?_
  obtain ⟨n5, f6, ef6, hi, H⟩ := H
  refine g_step (pc2 := 56) hk rfl rfl rfl (s_aput ef6 hi) ?_
  exact H
theorem b252_56 {x0 : Nat} {x1 : Int32} {x2 : Option Value} {x3 : Option Value} {x4 : Option Value} {h : iH} {Q : Option Value → iH → Prop} (H : (∃ v1 : Nat, i_fld h x0 12 31 = some (.ref v1) ∧ (∃ (n2 : Nat) (f3 : Nat → Int32), i_arI h 0 v1 = some (n2, f3) ∧ ¬ (((61 : Int32) * x1) < 0 ∨ n2 ≤ ((61 : Int32) * x1).toNatClampNeg) ∧ i_P i_MT i_AT L xs 252 66 [some (.ref x0), some (.int x1), x2, x3, x4] [] (i_siI h v1 ((61 : Int32) * x1).toNatClampNeg (0 : Int32)) 0 0 Q))) : i_P i_MT i_AT L xs 252 56 [some (.ref x0), some (.int x1), x2, x3, x4] [] h 0 0 Q := by
  have hk := i_k252
  refine g_s1 (pc2 := 57) hk rfl rfl rfl rfl rfl ?_
  obtain ⟨v1, ev1, H⟩ := H
  refine g_step (pc2 := 60) hk rfl rfl rfl (s_get ev1) ?_
  refine g_s1 (pc2 := 62) (st2 := [.int (61 : Int32), .ref v1]) hk rfl rfl rfl rfl rfl ?_
  refine g_s1 (pc2 := 63) hk rfl rfl rfl rfl rfl ?_
  refine g_s1 (pc2 := 64) hk rfl rfl rfl rfl rfl ?_
  refine g_s1 (pc2 := 65) (st2 := [.int (0 : Int32), .int ((61 : Int32) * x1), .ref v1]) hk rfl rfl rfl rfl rfl ?_
  obtain ⟨n2, f3, ef3, hi, H⟩ := H
  refine g_step (pc2 := 66) hk rfl rfl rfl (s_aput ef3 hi) ?_
  exact H
theorem b252_66 {x0 : Nat} {x1 : Int32} {x2 : Option Value} {x3 : Option Value} {x4 : Option Value} {h : iH} {Q : Option Value → iH → Prop} (H : i_P i_MT i_AT L xs 252 68 [some (.ref x0), some (.int x1), some (.int (1 : Int32)), x3, x4] [] h 0 0 Q) : i_P i_MT i_AT L xs 252 66 [some (.ref x0), some (.int x1), x2, x3, x4] [] h 0 0 Q := by
  have hk := i_k252
  refine g_s1 (pc2 := 67) (st2 := [.int (1 : Int32)]) hk rfl rfl rfl rfl rfl ?_
  refine g_s1 (pc2 := 68) (lo2 := [some (.ref x0), some (.int x1), some (.int (1 : Int32)), x3, x4]) hk rfl rfl rfl rfl rfl ?_
  exact H
theorem b252_68 {x0 : Nat} {x1 : Int32} {x2 : Int32} {x3 : Option Value} {x4 : Option Value} {h : iH} {Q : Option Value → iH → Prop} (H : (((60 : Int32) < x2 → i_P i_MT i_AT L xs 252 2 [some (.ref x0), some (.int (x1 + 1)), some (.int x2), x3, x4] [] h 0 0 Q) ∧ (¬ ((60 : Int32) < x2) → (∃ v1 : Nat, i_fld h x0 12 0 = some (.ref v1) ∧ (∃ (n2 : Nat) (f3 : Nat → Int32), i_arI h 0 v1 = some (n2, f3) ∧ ¬ (((((194 : Int32) + ((60 : Int32) * x1)) + x2) - (1 : Int32)) < 0 ∨ n2 ≤ ((((194 : Int32) + ((60 : Int32) * x1)) + x2) - (1 : Int32)).toNatClampNeg) ∧ (i_obj? h x0 12 ∧ i_C i_MT i_AT L xs 253 [.ref x0, .int x1, .int (((61 : Int32) * x1) + x2), .int (f3 ((((194 : Int32) + ((60 : Int32) * x1)) + x2) - (1 : Int32)).toNatClampNeg)] h (fun v h4 => v = none ∧ i_P i_MT i_AT L xs 252 102 [some (.ref x0), some (.int x1), some (.int x2), x3, x4] [] h4 0 0 Q))))))) : i_P i_MT i_AT L xs 252 68 [some (.ref x0), some (.int x1), some (.int x2), x3, x4] [] h 0 0 Q := by
  have hk := i_k252
  refine g_s1 (pc2 := 69) hk rfl rfl rfl rfl rfl ?_
  refine g_s1 (pc2 := 71) (st2 := [.int (60 : Int32), .int x2]) hk rfl rfl rfl rfl rfl ?_
  refine g_icmp_gt hk rfl (fun hc => ?_) (fun hc => ?_)
  · have H := H.1 hc
    refine g_s1 (pc2 := 111) (lo2 := [some (.ref x0), some (.int (x1 + 1)), some (.int x2), x3, x4]) hk rfl rfl rfl rfl rfl ?_
    refine g_s1 (pc2 := 2) hk rfl rfl rfl rfl rfl ?_
    exact H
  · have H := H.2 hc
    refine g_s1 (pc2 := 75) hk rfl rfl rfl rfl rfl ?_
    refine g_s1 (pc2 := 76) hk rfl rfl rfl rfl rfl ?_
    refine g_s1 (pc2 := 78) (st2 := [.int (61 : Int32), .int x1, .ref x0]) hk rfl rfl rfl rfl rfl ?_
    refine g_s1 (pc2 := 79) hk rfl rfl rfl rfl rfl ?_
    refine g_s1 (pc2 := 80) hk rfl rfl rfl rfl rfl ?_
    refine g_s1 (pc2 := 81) hk rfl rfl rfl rfl rfl ?_
    refine g_s1 (pc2 := 82) hk rfl rfl rfl rfl rfl ?_
    refine g_s1 (pc2 := 83) hk rfl rfl rfl rfl rfl ?_
    obtain ⟨v1, ev1, H⟩ := H
    refine g_step (pc2 := 86) hk rfl rfl rfl (s_get ev1) ?_
    refine g_s1 (pc2 := 89) (st2 := [.int (194 : Int32), .ref v1, .int (((61 : Int32) * x1) + x2), .int x1, .ref x0]) hk rfl rfl rfl rfl rfl ?_
    refine g_s1 (pc2 := 91) (st2 := [.int (60 : Int32), .int (194 : Int32), .ref v1, .int (((61 : Int32) * x1) + x2), .int x1, .ref x0]) hk rfl rfl rfl rfl rfl ?_
    refine g_s1 (pc2 := 92) hk rfl rfl rfl rfl rfl ?_
    refine g_s1 (pc2 := 93) hk rfl rfl rfl rfl rfl ?_
    refine g_s1 (pc2 := 94) hk rfl rfl rfl rfl rfl ?_
    refine g_s1 (pc2 := 95) hk rfl rfl rfl rfl rfl ?_
    refine g_s1 (pc2 := 96) hk rfl rfl rfl rfl rfl ?_
    refine g_s1 (pc2 := 97) (st2 := [.int (1 : Int32), .int (((194 : Int32) + ((60 : Int32) * x1)) + x2), .ref v1, .int (((61 : Int32) * x1) + x2), .int x1, .ref x0]) hk rfl rfl rfl rfl rfl ?_
    refine g_s1 (pc2 := 98) hk rfl rfl rfl rfl rfl ?_
    obtain ⟨n2, f3, ef3, hi, H⟩ := H
    refine g_step (pc2 := 99) hk rfl rfl rfl (s_aget (L := L) (xs := xs) ef3 hi) ?_
    obtain ⟨ho, H⟩ := H
    refine g_call hk rfl rfl i_k253.1 ⟨rfl, rfl⟩ rfl (i_rcv_v ho rfl (by decide)) rfl ?_
    exact H.mono (fun v h2 q => by obtain ⟨rfl, q⟩ := q; exact q)
theorem b252_102 {x0 : Nat} {x1 : Int32} {x2 : Int32} {x3 : Option Value} {x4 : Option Value} {h : iH} {Q : Option Value → iH → Prop} (H : i_P i_MT i_AT L xs 252 68 [some (.ref x0), some (.int x1), some (.int (x2 + 1)), x3, x4] [] h 0 0 Q) : i_P i_MT i_AT L xs 252 102 [some (.ref x0), some (.int x1), some (.int x2), x3, x4] [] h 0 0 Q := by
  have hk := i_k252
  refine g_s1 (pc2 := 105) (lo2 := [some (.ref x0), some (.int x1), some (.int (x2 + 1)), x3, x4]) hk rfl rfl rfl rfl rfl ?_
  refine g_s1 (pc2 := 68) hk rfl rfl rfl rfl rfl ?_
  exact H
theorem b252_116 {x0 : Nat} {x1 : Int32} {x2 : Option Value} {x3 : Option Value} {x4 : Option Value} {h : iH} {Q : Option Value → iH → Prop} (H : (∃ v1 : Nat, i_fld h x0 12 0 = some (.ref v1) ∧ (∃ (n2 : Nat) (f3 : Nat → Int32), i_arI h 0 v1 = some (n2, f3) ∧ ¬ ((3 : Int32) < 0 ∨ n2 ≤ (3 : Int32).toNatClampNeg) ∧ (((f3 (3 : Int32).toNatClampNeg) ≤ x1 → Q none h) ∧ (¬ ((f3 (3 : Int32).toNatClampNeg) ≤ x1) → (∃ v4 : Nat, i_fld h x0 12 32 = some (.ref v4) ∧ (∃ v5 : Nat, i_fld h x0 12 0 = some (.ref v5) ∧ (∃ (n6 : Nat) (f7 : Nat → Int32), i_arI h 0 v5 = some (n6, f7) ∧ ¬ (((114 : Int32) + ((10 : Int32) * x1)) < 0 ∨ n6 ≤ ((114 : Int32) + ((10 : Int32) * x1)).toNatClampNeg) ∧ (∃ (n8 : Nat) (f9 : Nat → Int32), i_arI h 0 v4 = some (n8, f9) ∧ ¬ (((61 : Int32) * x1) < 0 ∨ n8 ≤ ((61 : Int32) * x1).toNatClampNeg) ∧ i_P i_MT i_AT L xs 252 149 [some (.ref x0), some (.int x1), some (.int ((114 : Int32) + ((10 : Int32) * x1))), x3, x4] [] (i_siI h v4 ((61 : Int32) * x1).toNatClampNeg (f7 ((114 : Int32) + ((10 : Int32) * x1)).toNatClampNeg)) 0 0 Q))))))))) : i_P i_MT i_AT L xs 252 116 [some (.ref x0), some (.int x1), x2, x3, x4] [] h 0 0 Q := by
  have hk := i_k252
  refine g_s1 (pc2 := 117) hk rfl rfl rfl rfl rfl ?_
  refine g_s1 (pc2 := 118) hk rfl rfl rfl rfl rfl ?_
  obtain ⟨v1, ev1, H⟩ := H
  refine g_step (pc2 := 121) hk rfl rfl rfl (s_get ev1) ?_
  refine g_s1 (pc2 := 122) (st2 := [.int (3 : Int32), .ref v1, .int x1]) hk rfl rfl rfl rfl rfl ?_
  obtain ⟨n2, f3, ef3, hi, H⟩ := H
  refine g_step (pc2 := 123) hk rfl rfl rfl (s_aget (L := L) (xs := xs) ef3 hi) ?_
  refine g_icmp_ge hk rfl (fun hc => ?_) (fun hc => ?_)
  · have H := H.1 hc
    exact g_return hk rfl (by decide) (by decide) rfl H
  · have H := H.2 hc
    refine g_s1 (pc2 := 128) (st2 := [.int (114 : Int32)]) hk rfl rfl rfl rfl rfl ?_
    refine g_s1 (pc2 := 130) (st2 := [.int (10 : Int32), .int (114 : Int32)]) hk rfl rfl rfl rfl rfl ?_
    refine g_s1 (pc2 := 131) hk rfl rfl rfl rfl rfl ?_
    refine g_s1 (pc2 := 132) hk rfl rfl rfl rfl rfl ?_
    refine g_s1 (pc2 := 133) hk rfl rfl rfl rfl rfl ?_
    refine g_s1 (pc2 := 134) (lo2 := [some (.ref x0), some (.int x1), some (.int ((114 : Int32) + ((10 : Int32) * x1))), x3, x4]) hk rfl rfl rfl rfl rfl ?_
    refine g_s1 (pc2 := 135) hk rfl rfl rfl rfl rfl ?_
    obtain ⟨v4, ev4, H⟩ := H
    refine g_step (pc2 := 138) hk rfl rfl rfl (s_get ev4) ?_
    refine g_s1 (pc2 := 140) (st2 := [.int (61 : Int32), .ref v4]) hk rfl rfl rfl rfl rfl ?_
    refine g_s1 (pc2 := 141) hk rfl rfl rfl rfl rfl ?_
    refine g_s1 (pc2 := 142) hk rfl rfl rfl rfl rfl ?_
    refine g_s1 (pc2 := 143) hk rfl rfl rfl rfl rfl ?_
    obtain ⟨v5, ev5, H⟩ := H
    refine g_step (pc2 := 146) hk rfl rfl rfl (s_get ev5) ?_
    refine g_s1 (pc2 := 147) hk rfl rfl rfl rfl rfl ?_
    obtain ⟨n6, f7, ef7, hi, H⟩ := H
    refine g_step (pc2 := 148) hk rfl rfl rfl (s_aget (L := L) (xs := xs) ef7 hi) ?_
    obtain ⟨n8, f9, ef9, hi, H⟩ := H
    refine g_step (pc2 := 149) hk rfl rfl rfl (s_aput ef9 hi) ?_
    exact H
theorem b252_149 {x0 : Nat} {x1 : Int32} {x2 : Int32} {x3 : Option Value} {x4 : Option Value} {h : iH} {Q : Option Value → iH → Prop} (H : i_P i_MT i_AT L xs 252 151 [some (.ref x0), some (.int x1), some (.int x2), some (.int (1 : Int32)), x4] [] h 0 0 Q) : i_P i_MT i_AT L xs 252 149 [some (.ref x0), some (.int x1), some (.int x2), x3, x4] [] h 0 0 Q := by
  have hk := i_k252
  refine g_s1 (pc2 := 150) (st2 := [.int (1 : Int32)]) hk rfl rfl rfl rfl rfl ?_
  refine g_s1 (pc2 := 151) (lo2 := [some (.ref x0), some (.int x1), some (.int x2), some (.int (1 : Int32)), x4]) hk rfl rfl rfl rfl rfl ?_
  exact H
theorem b252_151 {x0 : Nat} {x1 : Int32} {x2 : Int32} {x3 : Int32} {x4 : Option Value} {h : iH} {Q : Option Value → iH → Prop} (H : (((60 : Int32) < x3 → i_P i_MT i_AT L xs 252 116 [some (.ref x0), some (.int (x1 + 1)), some (.int x2), some (.int x3), x4] [] h 0 0 Q) ∧ (¬ ((60 : Int32) < x3) → (∃ v1 : Nat, i_fld h x0 12 32 = some (.ref v1) ∧ (∃ (n2 : Nat) (f3 : Nat → Int32), i_arI h 0 v1 = some (n2, f3) ∧ ¬ (((((61 : Int32) * x1) + x3) - (1 : Int32)) < 0 ∨ n2 ≤ ((((61 : Int32) * x1) + x3) - (1 : Int32)).toNatClampNeg) ∧ (∃ v4 : Nat, i_fld h x0 12 0 = some (.ref v4) ∧ (∃ v5 : Nat, i_fld h x0 12 0 = some (.ref v5) ∧ (∃ (n6 : Nat) (f7 : Nat → Int32), i_arI h 0 v5 = some (n6, f7) ∧ ¬ ((x2 + (1 : Int32)) < 0 ∨ n6 ≤ (x2 + (1 : Int32)).toNatClampNeg) ∧ (¬ (f7 (x2 + (1 : Int32)).toNatClampNeg) = 0 ∧ (∃ (n8 : Nat) (f9 : Nat → Int32), i_arI h 0 v4 = some (n8, f9) ∧ ¬ (((x2 + (2 : Int32)) + ((x3 - (1 : Int32)) - (x3 - (1 : Int32)) / (f7 (x2 + (1 : Int32)).toNatClampNeg) * (f7 (x2 + (1 : Int32)).toNatClampNeg))) < 0 ∨ n8 ≤ ((x2 + (2 : Int32)) + ((x3 - (1 : Int32)) - (x3 - (1 : Int32)) / (f7 (x2 + (1 : Int32)).toNatClampNeg) * (f7 (x2 + (1 : Int32)).toNatClampNeg))).toNatClampNeg) ∧ (i_obj? h x0 12 ∧ i_C i_MT i_AT L xs 251 [.ref x0, .int (f3 ((((61 : Int32) * x1) + x3) - (1 : Int32)).toNatClampNeg), .int (f9 ((x2 + (2 : Int32)) + ((x3 - (1 : Int32)) - (x3 - (1 : Int32)) / (f7 (x2 + (1 : Int32)).toNatClampNeg) * (f7 (x2 + (1 : Int32)).toNatClampNeg))).toNatClampNeg)] h (fun v h10 => ∃ r11 : Int32, v = some (.int r11) ∧ i_P i_MT i_AT L xs 252 195 [some (.ref x0), some (.int x1), some (.int x2), some (.int x3), x4] [.int r11] h10 0 0 Q)))))))))))) : i_P i_MT i_AT L xs 252 151 [some (.ref x0), some (.int x1), some (.int x2), some (.int x3), x4] [] h 0 0 Q := by
  have hk := i_k252
  refine g_s1 (pc2 := 152) hk rfl rfl rfl rfl rfl ?_
  refine g_s1 (pc2 := 154) (st2 := [.int (60 : Int32), .int x3]) hk rfl rfl rfl rfl rfl ?_
  refine g_icmp_gt hk rfl (fun hc => ?_) (fun hc => ?_)
  · have H := H.1 hc
    refine g_s1 (pc2 := 241) (lo2 := [some (.ref x0), some (.int (x1 + 1)), some (.int x2), some (.int x3), x4]) hk rfl rfl rfl rfl rfl ?_
    refine g_s1 (pc2 := 116) hk rfl rfl rfl rfl rfl ?_
    exact H
  · have H := H.2 hc
    refine g_s1 (pc2 := 158) hk rfl rfl rfl rfl rfl ?_
    refine g_s1 (pc2 := 159) hk rfl rfl rfl rfl rfl ?_
    obtain ⟨v1, ev1, H⟩ := H
    refine g_step (pc2 := 162) hk rfl rfl rfl (s_get ev1) ?_
    refine g_s1 (pc2 := 164) (st2 := [.int (61 : Int32), .ref v1, .ref x0]) hk rfl rfl rfl rfl rfl ?_
    refine g_s1 (pc2 := 165) hk rfl rfl rfl rfl rfl ?_
    refine g_s1 (pc2 := 166) hk rfl rfl rfl rfl rfl ?_
    refine g_s1 (pc2 := 167) hk rfl rfl rfl rfl rfl ?_
    refine g_s1 (pc2 := 168) hk rfl rfl rfl rfl rfl ?_
    refine g_s1 (pc2 := 169) (st2 := [.int (1 : Int32), .int (((61 : Int32) * x1) + x3), .ref v1, .ref x0]) hk rfl rfl rfl rfl rfl ?_
    refine g_s1 (pc2 := 170) hk rfl rfl rfl rfl rfl ?_
    obtain ⟨n2, f3, ef3, hi, H⟩ := H
    refine g_step (pc2 := 171) hk rfl rfl rfl (s_aget (L := L) (xs := xs) ef3 hi) ?_
    refine g_s1 (pc2 := 172) hk rfl rfl rfl rfl rfl ?_
    obtain ⟨v4, ev4, H⟩ := H
    refine g_step (pc2 := 175) hk rfl rfl rfl (s_get ev4) ?_
    refine g_s1 (pc2 := 176) hk rfl rfl rfl rfl rfl ?_
    refine g_s1 (pc2 := 177) (st2 := [.int (2 : Int32), .int x2, .ref v4, .int (f3 ((((61 : Int32) * x1) + x3) - (1 : Int32)).toNatClampNeg), .ref x0]) hk rfl rfl rfl rfl rfl ?_
    refine g_s1 (pc2 := 178) hk rfl rfl rfl rfl rfl ?_
    refine g_s1 (pc2 := 179) hk rfl rfl rfl rfl rfl ?_
    refine g_s1 (pc2 := 180) (st2 := [.int (1 : Int32), .int x3, .int (x2 + (2 : Int32)), .ref v4, .int (f3 ((((61 : Int32) * x1) + x3) - (1 : Int32)).toNatClampNeg), .ref x0]) hk rfl rfl rfl rfl rfl ?_
    refine g_s1 (pc2 := 181) hk rfl rfl rfl rfl rfl ?_
    refine g_s1 (pc2 := 182) hk rfl rfl rfl rfl rfl ?_
    obtain ⟨v5, ev5, H⟩ := H
    refine g_step (pc2 := 185) hk rfl rfl rfl (s_get ev5) ?_
    refine g_s1 (pc2 := 186) hk rfl rfl rfl rfl rfl ?_
    refine g_s1 (pc2 := 187) (st2 := [.int (1 : Int32), .int x2, .ref v5, .int (x3 - (1 : Int32)), .int (x2 + (2 : Int32)), .ref v4, .int (f3 ((((61 : Int32) * x1) + x3) - (1 : Int32)).toNatClampNeg), .ref x0]) hk rfl rfl rfl rfl rfl ?_
    refine g_s1 (pc2 := 188) hk rfl rfl rfl rfl rfl ?_
    obtain ⟨n6, f7, ef7, hi, H⟩ := H
    refine g_step (pc2 := 189) hk rfl rfl rfl (s_aget (L := L) (xs := xs) ef7 hi) ?_
    obtain ⟨hz, H⟩ := H
    refine g_s1 (pc2 := 190) hk rfl rfl rfl rfl (s_if hz) ?_
    refine g_s1 (pc2 := 191) hk rfl rfl rfl rfl rfl ?_
    obtain ⟨n8, f9, ef9, hi, H⟩ := H
    refine g_step (pc2 := 192) hk rfl rfl rfl (s_aget (L := L) (xs := xs) ef9 hi) ?_
    obtain ⟨ho, H⟩ := H
    refine g_call hk rfl rfl i_k251.1 ⟨rfl, rfl⟩ rfl (i_rcv_v ho rfl (by decide)) rfl ?_
    exact H.mono (fun v h2 q => by obtain ⟨r, rfl, q⟩ := q; exact q)
theorem b252_195 {x0 : Nat} {x1 : Int32} {x2 : Int32} {x3 : Int32} {x4 : Option Value} {s0 : Int32} {h : iH} {Q : Option Value → iH → Prop} (H : (∃ v1 : Nat, i_fld h x0 12 32 = some (.ref v1) ∧ ((¬ s0 = (-1 : Int32) → i_P i_MT i_AT L xs 252 231 [some (.ref x0), some (.int x1), some (.int x2), some (.int x3), some (.int s0)] [.int s0, .int (((61 : Int32) * x1) + x3), .ref v1] h 0 0 Q) ∧ (¬ (¬ s0 = (-1 : Int32)) → (∃ v2 : Nat, i_fld h x0 12 32 = some (.ref v2) ∧ (∃ (n3 : Nat) (f4 : Nat → Int32), i_arI h 0 v2 = some (n3, f4) ∧ ¬ (((((61 : Int32) * x1) + x3) - (1 : Int32)) < 0 ∨ n3 ≤ ((((61 : Int32) * x1) + x3) - (1 : Int32)).toNatClampNeg) ∧ i_P i_MT i_AT L xs 252 231 [some (.ref x0), some (.int x1), some (.int x2), some (.int x3), some (.int s0)] [.int (f4 ((((61 : Int32) * x1) + x3) - (1 : Int32)).toNatClampNeg), .int (((61 : Int32) * x1) + x3), .ref v1] h 0 0 Q)))))) : i_P i_MT i_AT L xs 252 195 [some (.ref x0), some (.int x1), some (.int x2), some (.int x3), x4] [.int s0] h 0 0 Q := by
  have hk := i_k252
  refine g_s1 (pc2 := 197) (lo2 := [some (.ref x0), some (.int x1), some (.int x2), some (.int x3), some (.int s0)]) hk rfl rfl rfl rfl rfl ?_
  refine g_s1 (pc2 := 198) hk rfl rfl rfl rfl rfl ?_
  obtain ⟨v1, ev1, H⟩ := H
  refine g_step (pc2 := 201) hk rfl rfl rfl (s_get ev1) ?_
  refine g_s1 (pc2 := 203) (st2 := [.int (61 : Int32), .ref v1]) hk rfl rfl rfl rfl rfl ?_
  refine g_s1 (pc2 := 204) hk rfl rfl rfl rfl rfl ?_
  refine g_s1 (pc2 := 205) hk rfl rfl rfl rfl rfl ?_
  refine g_s1 (pc2 := 206) hk rfl rfl rfl rfl rfl ?_
  refine g_s1 (pc2 := 207) hk rfl rfl rfl rfl rfl ?_
  refine g_s1 (pc2 := 209) hk rfl rfl rfl rfl rfl ?_
  refine g_s1 (pc2 := 210) (st2 := [.int (-1 : Int32), .int s0, .int (((61 : Int32) * x1) + x3), .ref v1]) hk rfl rfl rfl rfl rfl ?_
  refine g_icmp_ne hk rfl (fun hc => ?_) (fun hc => ?_)
  · have H := H.1 hc
    refine g_s1 (pc2 := 231) hk rfl rfl rfl rfl rfl ?_
    exact H
  · have H := H.2 hc
    refine g_s1 (pc2 := 214) hk rfl rfl rfl rfl rfl ?_
    obtain ⟨v2, ev2, H⟩ := H
    refine g_step (pc2 := 217) hk rfl rfl rfl (s_get ev2) ?_
    refine g_s1 (pc2 := 219) (st2 := [.int (61 : Int32), .ref v2, .int (((61 : Int32) * x1) + x3), .ref v1]) hk rfl rfl rfl rfl rfl ?_
    refine g_s1 (pc2 := 220) hk rfl rfl rfl rfl rfl ?_
    refine g_s1 (pc2 := 221) hk rfl rfl rfl rfl rfl ?_
    refine g_s1 (pc2 := 222) hk rfl rfl rfl rfl rfl ?_
    refine g_s1 (pc2 := 223) hk rfl rfl rfl rfl rfl ?_
    refine g_s1 (pc2 := 224) (st2 := [.int (1 : Int32), .int (((61 : Int32) * x1) + x3), .ref v2, .int (((61 : Int32) * x1) + x3), .ref v1]) hk rfl rfl rfl rfl rfl ?_
    refine g_s1 (pc2 := 225) hk rfl rfl rfl rfl rfl ?_
    obtain ⟨n3, f4, ef4, hi, H⟩ := H
    refine g_step (pc2 := 226) hk rfl rfl rfl (s_aget (L := L) (xs := xs) ef4 hi) ?_
    refine g_s1 (pc2 := 231) hk rfl rfl rfl rfl rfl ?_
    exact H
theorem b252_231 {x0 : Nat} {x1 : Int32} {x2 : Int32} {x3 : Int32} {x4 : Int32} {s0 : Nat} {s1 : Int32} {s2 : Int32} {h : iH} {Q : Option Value → iH → Prop} (H : (∃ (n1 : Nat) (f2 : Nat → Int32), i_arI h 0 s0 = some (n1, f2) ∧ ¬ (s1 < 0 ∨ n1 ≤ s1.toNatClampNeg) ∧ i_P i_MT i_AT L xs 252 232 [some (.ref x0), some (.int x1), some (.int x2), some (.int x3), some (.int x4)] [] (i_siI h s0 s1.toNatClampNeg s2) 0 0 Q)) : i_P i_MT i_AT L xs 252 231 [some (.ref x0), some (.int x1), some (.int x2), some (.int x3), some (.int x4)] [.int s2, .int s1, .ref s0] h 0 0 Q := by
  have hk := i_k252
  obtain ⟨n1, f2, ef2, hi, H⟩ := H
  refine g_step (pc2 := 232) hk rfl rfl rfl (s_aput ef2 hi) ?_
  exact H
theorem b252_232 {x0 : Nat} {x1 : Int32} {x2 : Int32} {x3 : Int32} {x4 : Int32} {h : iH} {Q : Option Value → iH → Prop} (H : i_P i_MT i_AT L xs 252 151 [some (.ref x0), some (.int x1), some (.int x2), some (.int (x3 + 1)), some (.int x4)] [] h 0 0 Q) : i_P i_MT i_AT L xs 252 232 [some (.ref x0), some (.int x1), some (.int x2), some (.int x3), some (.int x4)] [] h 0 0 Q := by
  have hk := i_k252
  refine g_s1 (pc2 := 235) (lo2 := [some (.ref x0), some (.int x1), some (.int x2), some (.int (x3 + 1)), some (.int x4)]) hk rfl rfl rfl rfl rfl ?_
  refine g_s1 (pc2 := 151) hk rfl rfl rfl rfl rfl ?_
  exact H
/-! StillTownModel.laysMinute(III)V -/
theorem e253 {x0 : Nat} {x1 : Int32} {x2 : Int32} {x3 : Int32} {h : iH} {Q : Option Value → iH → Prop} (H : i_P i_MT i_AT L xs 253 0 [some (.ref x0), some (.int x1), some (.int x2), some (.int x3), none, none, none, none] [] h 0 0 Q) : i_C i_MT i_AT L xs 253 [.ref x0, .int x1, .int x2, .int x3] h Q := ⟨i_m253, i_k253.1, Nat.le_of_ble_eq_true rfl, H⟩
theorem b253_0 {x0 : Nat} {x1 : Int32} {x2 : Int32} {x3 : Int32} {x4 : Option Value} {x5 : Option Value} {x6 : Option Value} {x7 : Option Value} {h : iH} {Q : Option Value → iH → Prop} (H : (¬ (8 : Int32) = 0 ∧ (¬ (8 : Int32) = 0 ∧ (((x3 / (8 : Int32)) = (1 : Int32) → i_P i_MT i_AT L xs 253 24 [some (.ref x0), some (.int x1), some (.int x2), some (.int x3), some (.int (x3 / (8 : Int32))), some (.int (x3 - x3 / (8 : Int32) * (8 : Int32))), x6, x7] [] h 0 0 Q) ∧ (¬ ((x3 / (8 : Int32)) = (1 : Int32)) → ((¬ (x3 / (8 : Int32)) = (2 : Int32) → (∃ v1 : Nat, i_fld h x0 12 29 = some (.ref v1) ∧ (∃ (n2 : Nat) (f3 : Nat → Int32), i_arI h 0 v1 = some (n2, f3) ∧ ¬ ((x2 - (1 : Int32)) < 0 ∨ n2 ≤ (x2 - (1 : Int32)).toNatClampNeg) ∧ i_P i_MT i_AT L xs 253 49 [some (.ref x0), some (.int x1), some (.int x2), some (.int x3), some (.int (x3 / (8 : Int32))), some (.int (x3 - x3 / (8 : Int32) * (8 : Int32))), x6, x7] [.int (f3 (x2 - (1 : Int32)).toNatClampNeg)] h 0 0 Q))) ∧ (¬ (¬ (x3 / (8 : Int32)) = (2 : Int32)) → i_P i_MT i_AT L xs 253 24 [some (.ref x0), some (.int x1), some (.int x2), some (.int x3), some (.int (x3 / (8 : Int32))), some (.int (x3 - x3 / (8 : Int32) * (8 : Int32))), x6, x7] [] h 0 0 Q))))))) : i_P i_MT i_AT L xs 253 0 [some (.ref x0), some (.int x1), some (.int x2), some (.int x3), x4, x5, x6, x7] [] h 0 0 Q := by
  have hk := i_k253
  refine g_s1 (pc2 := 1) hk rfl rfl rfl rfl rfl ?_
  refine g_s1 (pc2 := 3) (st2 := [.int (8 : Int32), .int x3]) hk rfl rfl rfl rfl rfl ?_
  obtain ⟨hz, H⟩ := H
  refine g_s1 (pc2 := 4) hk rfl rfl rfl rfl (s_if hz) ?_
  refine g_s1 (pc2 := 6) (lo2 := [some (.ref x0), some (.int x1), some (.int x2), some (.int x3), some (.int (x3 / (8 : Int32))), x5, x6, x7]) hk rfl rfl rfl rfl rfl ?_
  refine g_s1 (pc2 := 7) hk rfl rfl rfl rfl rfl ?_
  refine g_s1 (pc2 := 9) (st2 := [.int (8 : Int32), .int x3]) hk rfl rfl rfl rfl rfl ?_
  obtain ⟨hz, H⟩ := H
  refine g_s1 (pc2 := 10) hk rfl rfl rfl rfl (s_if hz) ?_
  refine g_s1 (pc2 := 12) (lo2 := [some (.ref x0), some (.int x1), some (.int x2), some (.int x3), some (.int (x3 / (8 : Int32))), some (.int (x3 - x3 / (8 : Int32) * (8 : Int32))), x6, x7]) hk rfl rfl rfl rfl rfl ?_
  refine g_s1 (pc2 := 14) hk rfl rfl rfl rfl rfl ?_
  refine g_s1 (pc2 := 15) (st2 := [.int (1 : Int32), .int (x3 / (8 : Int32))]) hk rfl rfl rfl rfl rfl ?_
  refine g_icmp_eq hk rfl (fun hc => ?_) (fun hc => ?_)
  · have H := H.1 hc
    exact H
  · have H := H.2 hc
    refine g_s1 (pc2 := 20) hk rfl rfl rfl rfl rfl ?_
    refine g_s1 (pc2 := 21) (st2 := [.int (2 : Int32), .int (x3 / (8 : Int32))]) hk rfl rfl rfl rfl rfl ?_
    refine g_icmp_ne hk rfl (fun hc => ?_) (fun hc => ?_)
    · have H := H.1 hc
      refine g_s1 (pc2 := 42) hk rfl rfl rfl rfl rfl ?_
      obtain ⟨v1, ev1, H⟩ := H
      refine g_step (pc2 := 45) hk rfl rfl rfl (s_get ev1) ?_
      refine g_s1 (pc2 := 46) hk rfl rfl rfl rfl rfl ?_
      refine g_s1 (pc2 := 47) (st2 := [.int (1 : Int32), .int x2, .ref v1]) hk rfl rfl rfl rfl rfl ?_
      refine g_s1 (pc2 := 48) hk rfl rfl rfl rfl rfl ?_
      obtain ⟨n2, f3, ef3, hi, H⟩ := H
      refine g_step (pc2 := 49) hk rfl rfl rfl (s_aget (L := L) (xs := xs) ef3 hi) ?_
      exact H
    · have H := H.2 hc
      exact H
theorem b253_24 {x0 : Nat} {x1 : Int32} {x2 : Int32} {x3 : Int32} {x4 : Int32} {x5 : Int32} {x6 : Option Value} {x7 : Option Value} {h : iH} {Q : Option Value → iH → Prop} (H : (∃ v1 : Nat, i_fld h x0 12 29 = some (.ref v1) ∧ (∃ (n2 : Nat) (f3 : Nat → Int32), i_arI h 0 v1 = some (n2, f3) ∧ ¬ ((x2 - (1 : Int32)) < 0 ∨ n2 ≤ (x2 - (1 : Int32)).toNatClampNeg) ∧ (i_obj? h x0 12 ∧ i_C i_MT i_AT L xs 251 [.ref x0, .int (f3 (x2 - (1 : Int32)).toNatClampNeg), .int x5] h (fun v h4 => ∃ r5 : Int32, v = some (.int r5) ∧ i_P i_MT i_AT L xs 253 38 [some (.ref x0), some (.int x1), some (.int x2), some (.int x3), some (.int x4), some (.int x5), x6, x7] [.int r5] h4 0 0 Q))))) : i_P i_MT i_AT L xs 253 24 [some (.ref x0), some (.int x1), some (.int x2), some (.int x3), some (.int x4), some (.int x5), x6, x7] [] h 0 0 Q := by
  have hk := i_k253
  refine g_s1 (pc2 := 25) hk rfl rfl rfl rfl rfl ?_
  refine g_s1 (pc2 := 26) hk rfl rfl rfl rfl rfl ?_
  obtain ⟨v1, ev1, H⟩ := H
  refine g_step (pc2 := 29) hk rfl rfl rfl (s_get ev1) ?_
  refine g_s1 (pc2 := 30) hk rfl rfl rfl rfl rfl ?_
  refine g_s1 (pc2 := 31) (st2 := [.int (1 : Int32), .int x2, .ref v1, .ref x0]) hk rfl rfl rfl rfl rfl ?_
  refine g_s1 (pc2 := 32) hk rfl rfl rfl rfl rfl ?_
  obtain ⟨n2, f3, ef3, hi, H⟩ := H
  refine g_step (pc2 := 33) hk rfl rfl rfl (s_aget (L := L) (xs := xs) ef3 hi) ?_
  refine g_s1 (pc2 := 35) hk rfl rfl rfl rfl rfl ?_
  obtain ⟨ho, H⟩ := H
  refine g_call hk rfl rfl i_k251.1 ⟨rfl, rfl⟩ rfl (i_rcv_v ho rfl (by decide)) rfl ?_
  exact H.mono (fun v h2 q => by obtain ⟨r, rfl, q⟩ := q; exact q)
theorem b253_38 {x0 : Nat} {x1 : Int32} {x2 : Int32} {x3 : Int32} {x4 : Int32} {x5 : Int32} {x6 : Option Value} {x7 : Option Value} {s0 : Int32} {h : iH} {Q : Option Value → iH → Prop} (H : i_P i_MT i_AT L xs 253 49 [some (.ref x0), some (.int x1), some (.int x2), some (.int x3), some (.int x4), some (.int x5), x6, x7] [.int s0] h 0 0 Q) : i_P i_MT i_AT L xs 253 38 [some (.ref x0), some (.int x1), some (.int x2), some (.int x3), some (.int x4), some (.int x5), x6, x7] [.int s0] h 0 0 Q := by
  have hk := i_k253
  refine g_s1 (pc2 := 49) hk rfl rfl rfl rfl rfl ?_
  exact H
theorem b253_49 {x0 : Nat} {x1 : Int32} {x2 : Int32} {x3 : Int32} {x4 : Int32} {x5 : Int32} {x6 : Option Value} {x7 : Option Value} {s0 : Int32} {h : iH} {Q : Option Value → iH → Prop} (H : (i_obj? h x0 12 ∧ i_C i_MT i_AT L xs 250 [.ref x0, .int s0] h (fun v h1 => ∃ r2 : Int32, v = some (.int r2) ∧ i_P i_MT i_AT L xs 253 57 [some (.ref x0), some (.int x1), some (.int x2), some (.int x3), some (.int x4), some (.int x5), some (.int s0), x7] [.int r2] h1 0 0 Q))) : i_P i_MT i_AT L xs 253 49 [some (.ref x0), some (.int x1), some (.int x2), some (.int x3), some (.int x4), some (.int x5), x6, x7] [.int s0] h 0 0 Q := by
  have hk := i_k253
  refine g_s1 (pc2 := 51) (lo2 := [some (.ref x0), some (.int x1), some (.int x2), some (.int x3), some (.int x4), some (.int x5), some (.int s0), x7]) hk rfl rfl rfl rfl rfl ?_
  refine g_s1 (pc2 := 52) hk rfl rfl rfl rfl rfl ?_
  refine g_s1 (pc2 := 54) hk rfl rfl rfl rfl rfl ?_
  obtain ⟨ho, H⟩ := H
  refine g_call hk rfl rfl i_k250.1 ⟨rfl, rfl⟩ rfl (i_rcv_v ho rfl (by decide)) rfl ?_
  exact H.mono (fun v h2 q => by obtain ⟨r, rfl, q⟩ := q; exact q)
theorem b253_57 {x0 : Nat} {x1 : Int32} {x2 : Int32} {x3 : Int32} {x4 : Int32} {x5 : Int32} {x6 : Int32} {x7 : Option Value} {s0 : Int32} {h : iH} {Q : Option Value → iH → Prop} (H : ((¬ s0 = 0 → i_P i_MT i_AT L xs 253 65 [some (.ref x0), some (.int x1), some (.int x2), some (.int x3), some (.int x4), some (.int x5), some (.int x6), x7] [.int (0 : Int32)] h 0 0 Q) ∧ (¬ (¬ s0 = 0) → i_P i_MT i_AT L xs 253 65 [some (.ref x0), some (.int x1), some (.int x2), some (.int x3), some (.int x4), some (.int x5), some (.int x6), x7] [.int (1 : Int32)] h 0 0 Q))) : i_P i_MT i_AT L xs 253 57 [some (.ref x0), some (.int x1), some (.int x2), some (.int x3), some (.int x4), some (.int x5), some (.int x6), x7] [.int s0] h 0 0 Q := by
  have hk := i_k253
  refine g_if_ne hk rfl (fun hc => ?_) (fun hc => ?_)
  · have H := H.1 hc
    refine g_s1 (pc2 := 65) (st2 := [.int (0 : Int32)]) hk rfl rfl rfl rfl rfl ?_
    exact H
  · have H := H.2 hc
    refine g_s1 (pc2 := 61) (st2 := [.int (1 : Int32)]) hk rfl rfl rfl rfl rfl ?_
    refine g_s1 (pc2 := 65) hk rfl rfl rfl rfl rfl ?_
    exact H
theorem b253_65 {x0 : Nat} {x1 : Int32} {x2 : Int32} {x3 : Int32} {x4 : Int32} {x5 : Int32} {x6 : Int32} {x7 : Option Value} {s0 : Int32} {h : iH} {Q : Option Value → iH → Prop} (H : (∃ v1 : Nat, i_fld h x0 12 29 = some (.ref v1) ∧ ((s0 = 0 → i_P i_MT i_AT L xs 253 90 [some (.ref x0), some (.int x1), some (.int x2), some (.int x3), some (.int x4), some (.int x5), some (.int x6), some (.int s0)] [.int x6, .int x2, .ref v1] h 0 0 Q) ∧ (¬ (s0 = 0) → (∃ v2 : Nat, i_fld h x0 12 29 = some (.ref v2) ∧ (∃ (n3 : Nat) (f4 : Nat → Int32), i_arI h 0 v2 = some (n3, f4) ∧ ¬ ((x2 - (1 : Int32)) < 0 ∨ n3 ≤ (x2 - (1 : Int32)).toNatClampNeg) ∧ i_P i_MT i_AT L xs 253 90 [some (.ref x0), some (.int x1), some (.int x2), some (.int x3), some (.int x4), some (.int x5), some (.int x6), some (.int s0)] [.int (f4 (x2 - (1 : Int32)).toNatClampNeg), .int x2, .ref v1] h 0 0 Q)))))) : i_P i_MT i_AT L xs 253 65 [some (.ref x0), some (.int x1), some (.int x2), some (.int x3), some (.int x4), some (.int x5), some (.int x6), x7] [.int s0] h 0 0 Q := by
  have hk := i_k253
  refine g_s1 (pc2 := 67) (lo2 := [some (.ref x0), some (.int x1), some (.int x2), some (.int x3), some (.int x4), some (.int x5), some (.int x6), some (.int s0)]) hk rfl rfl rfl rfl rfl ?_
  refine g_s1 (pc2 := 68) hk rfl rfl rfl rfl rfl ?_
  obtain ⟨v1, ev1, H⟩ := H
  refine g_step (pc2 := 71) hk rfl rfl rfl (s_get ev1) ?_
  refine g_s1 (pc2 := 72) hk rfl rfl rfl rfl rfl ?_
  refine g_s1 (pc2 := 74) hk rfl rfl rfl rfl rfl ?_
  refine g_if_eq hk rfl (fun hc => ?_) (fun hc => ?_)
  · have H := H.1 hc
    refine g_s1 (pc2 := 90) hk rfl rfl rfl rfl rfl ?_
    exact H
  · have H := H.2 hc
    refine g_s1 (pc2 := 78) hk rfl rfl rfl rfl rfl ?_
    obtain ⟨v2, ev2, H⟩ := H
    refine g_step (pc2 := 81) hk rfl rfl rfl (s_get ev2) ?_
    refine g_s1 (pc2 := 82) hk rfl rfl rfl rfl rfl ?_
    refine g_s1 (pc2 := 83) (st2 := [.int (1 : Int32), .int x2, .ref v2, .int x2, .ref v1]) hk rfl rfl rfl rfl rfl ?_
    refine g_s1 (pc2 := 84) hk rfl rfl rfl rfl rfl ?_
    obtain ⟨n3, f4, ef4, hi, H⟩ := H
    refine g_step (pc2 := 85) hk rfl rfl rfl (s_aget (L := L) (xs := xs) ef4 hi) ?_
    refine g_s1 (pc2 := 90) hk rfl rfl rfl rfl rfl ?_
    exact H
theorem b253_90 {x0 : Nat} {x1 : Int32} {x2 : Int32} {x3 : Int32} {x4 : Int32} {x5 : Int32} {x6 : Int32} {x7 : Int32} {s0 : Nat} {s1 : Int32} {s2 : Int32} {h : iH} {Q : Option Value → iH → Prop} (H : (∃ (n1 : Nat) (f2 : Nat → Int32), i_arI h 0 s0 = some (n1, f2) ∧ ¬ (s1 < 0 ∨ n1 ≤ s1.toNatClampNeg) ∧ i_P i_MT i_AT L xs 253 91 [some (.ref x0), some (.int x1), some (.int x2), some (.int x3), some (.int x4), some (.int x5), some (.int x6), some (.int x7)] [] (i_siI h s0 s1.toNatClampNeg s2) 0 0 Q)) : i_P i_MT i_AT L xs 253 90 [some (.ref x0), some (.int x1), some (.int x2), some (.int x3), some (.int x4), some (.int x5), some (.int x6), some (.int x7)] [.int s2, .int s1, .ref s0] h 0 0 Q := by
  have hk := i_k253
  obtain ⟨n1, f2, ef2, hi, H⟩ := H
  refine g_step (pc2 := 91) hk rfl rfl rfl (s_aput ef2 hi) ?_
  exact H
theorem b253_91 {x0 : Nat} {x1 : Int32} {x2 : Int32} {x3 : Int32} {x4 : Int32} {x5 : Int32} {x6 : Int32} {x7 : Int32} {h : iH} {Q : Option Value → iH → Prop} (H : (∃ v1 : Nat, i_fld h x0 12 31 = some (.ref v1) ∧ ((x7 = 0 → i_P i_MT i_AT L xs 253 107 [some (.ref x0), some (.int x1), some (.int x2), some (.int x3), some (.int x4), some (.int x5), some (.int x6), some (.int x7)] [.int x4, .int x2, .ref v1] h 0 0 Q) ∧ (¬ (x7 = 0) → i_P i_MT i_AT L xs 253 107 [some (.ref x0), some (.int x1), some (.int x2), some (.int x3), some (.int x4), some (.int x5), some (.int x6), some (.int x7)] [.int (0 : Int32), .int x2, .ref v1] h 0 0 Q)))) : i_P i_MT i_AT L xs 253 91 [some (.ref x0), some (.int x1), some (.int x2), some (.int x3), some (.int x4), some (.int x5), some (.int x6), some (.int x7)] [] h 0 0 Q := by
  have hk := i_k253
  refine g_s1 (pc2 := 92) hk rfl rfl rfl rfl rfl ?_
  obtain ⟨v1, ev1, H⟩ := H
  refine g_step (pc2 := 95) hk rfl rfl rfl (s_get ev1) ?_
  refine g_s1 (pc2 := 96) hk rfl rfl rfl rfl rfl ?_
  refine g_s1 (pc2 := 98) hk rfl rfl rfl rfl rfl ?_
  refine g_if_eq hk rfl (fun hc => ?_) (fun hc => ?_)
  · have H := H.1 hc
    refine g_s1 (pc2 := 107) hk rfl rfl rfl rfl rfl ?_
    exact H
  · have H := H.2 hc
    refine g_s1 (pc2 := 102) (st2 := [.int (0 : Int32), .int x2, .ref v1]) hk rfl rfl rfl rfl rfl ?_
    refine g_s1 (pc2 := 107) hk rfl rfl rfl rfl rfl ?_
    exact H
theorem b253_107 {x0 : Nat} {x1 : Int32} {x2 : Int32} {x3 : Int32} {x4 : Int32} {x5 : Int32} {x6 : Int32} {x7 : Int32} {s0 : Nat} {s1 : Int32} {s2 : Int32} {h : iH} {Q : Option Value → iH → Prop} (H : (∃ (n1 : Nat) (f2 : Nat → Int32), i_arI h 0 s0 = some (n1, f2) ∧ ¬ (s1 < 0 ∨ n1 ≤ s1.toNatClampNeg) ∧ i_P i_MT i_AT L xs 253 108 [some (.ref x0), some (.int x1), some (.int x2), some (.int x3), some (.int x4), some (.int x5), some (.int x6), some (.int x7)] [] (i_siI h s0 s1.toNatClampNeg s2) 0 0 Q)) : i_P i_MT i_AT L xs 253 107 [some (.ref x0), some (.int x1), some (.int x2), some (.int x3), some (.int x4), some (.int x5), some (.int x6), some (.int x7)] [.int s2, .int s1, .ref s0] h 0 0 Q := by
  have hk := i_k253
  obtain ⟨n1, f2, ef2, hi, H⟩ := H
  refine g_step (pc2 := 108) hk rfl rfl rfl (s_aput ef2 hi) ?_
  exact H
theorem b253_108 {x0 : Nat} {x1 : Int32} {x2 : Int32} {x3 : Int32} {x4 : Int32} {x5 : Int32} {x6 : Int32} {x7 : Int32} {h : iH} {Q : Option Value → iH → Prop} (H : (∃ v1 : Nat, i_fld h x0 12 30 = some (.ref v1) ∧ ((¬ x7 = 0 → i_P i_MT i_AT L xs 253 129 [some (.ref x0), some (.int x1), some (.int x2), some (.int x3), some (.int x4), some (.int x5), some (.int x6), some (.int x7)] [.int x2, .ref v1] h 0 0 Q) ∧ (¬ (¬ x7 = 0) → ((x4 = 0 → i_P i_MT i_AT L xs 253 129 [some (.ref x0), some (.int x1), some (.int x2), some (.int x3), some (.int x4), some (.int x5), some (.int x6), some (.int x7)] [.int x2, .ref v1] h 0 0 Q) ∧ (¬ (x4 = 0) → ((¬ x4 = (4 : Int32) → i_P i_MT i_AT L xs 253 142 [some (.ref x0), some (.int x1), some (.int x2), some (.int x3), some (.int x4), some (.int x5), some (.int x6), some (.int x7)] [.int x5, .int x2, .ref v1] h 0 0 Q) ∧ (¬ (¬ x4 = (4 : Int32)) → i_P i_MT i_AT L xs 253 129 [some (.ref x0), some (.int x1), some (.int x2), some (.int x3), some (.int x4), some (.int x5), some (.int x6), some (.int x7)] [.int x2, .ref v1] h 0 0 Q)))))))) : i_P i_MT i_AT L xs 253 108 [some (.ref x0), some (.int x1), some (.int x2), some (.int x3), some (.int x4), some (.int x5), some (.int x6), some (.int x7)] [] h 0 0 Q := by
  have hk := i_k253
  refine g_s1 (pc2 := 109) hk rfl rfl rfl rfl rfl ?_
  obtain ⟨v1, ev1, H⟩ := H
  refine g_step (pc2 := 112) hk rfl rfl rfl (s_get ev1) ?_
  refine g_s1 (pc2 := 113) hk rfl rfl rfl rfl rfl ?_
  refine g_s1 (pc2 := 115) hk rfl rfl rfl rfl rfl ?_
  refine g_if_ne hk rfl (fun hc => ?_) (fun hc => ?_)
  · have H := H.1 hc
    exact H
  · have H := H.2 hc
    refine g_s1 (pc2 := 120) hk rfl rfl rfl rfl rfl ?_
    refine g_if_eq hk rfl (fun hc => ?_) (fun hc => ?_)
    · have H := H.1 hc
      exact H
    · have H := H.2 hc
      refine g_s1 (pc2 := 125) hk rfl rfl rfl rfl rfl ?_
      refine g_s1 (pc2 := 126) (st2 := [.int (4 : Int32), .int x4, .int x2, .ref v1]) hk rfl rfl rfl rfl rfl ?_
      refine g_icmp_ne hk rfl (fun hc => ?_) (fun hc => ?_)
      · have H := H.1 hc
        refine g_s1 (pc2 := 142) hk rfl rfl rfl rfl rfl ?_
        exact H
      · have H := H.2 hc
        exact H
theorem b253_129 {x0 : Nat} {x1 : Int32} {x2 : Int32} {x3 : Int32} {x4 : Int32} {x5 : Int32} {x6 : Int32} {x7 : Int32} {s0 : Nat} {s1 : Int32} {h : iH} {Q : Option Value → iH → Prop} (H : (∃ v1 : Nat, i_fld h x0 12 30 = some (.ref v1) ∧ (∃ (n2 : Nat) (f3 : Nat → Int32), i_arI h 0 v1 = some (n2, f3) ∧ ¬ ((x2 - (1 : Int32)) < 0 ∨ n2 ≤ (x2 - (1 : Int32)).toNatClampNeg) ∧ i_P i_MT i_AT L xs 253 142 [some (.ref x0), some (.int x1), some (.int x2), some (.int x3), some (.int x4), some (.int x5), some (.int x6), some (.int x7)] [.int (f3 (x2 - (1 : Int32)).toNatClampNeg), .int s1, .ref s0] h 0 0 Q))) : i_P i_MT i_AT L xs 253 129 [some (.ref x0), some (.int x1), some (.int x2), some (.int x3), some (.int x4), some (.int x5), some (.int x6), some (.int x7)] [.int s1, .ref s0] h 0 0 Q := by
  have hk := i_k253
  refine g_s1 (pc2 := 130) hk rfl rfl rfl rfl rfl ?_
  obtain ⟨v1, ev1, H⟩ := H
  refine g_step (pc2 := 133) hk rfl rfl rfl (s_get ev1) ?_
  refine g_s1 (pc2 := 134) hk rfl rfl rfl rfl rfl ?_
  refine g_s1 (pc2 := 135) (st2 := [.int (1 : Int32), .int x2, .ref v1, .int s1, .ref s0]) hk rfl rfl rfl rfl rfl ?_
  refine g_s1 (pc2 := 136) hk rfl rfl rfl rfl rfl ?_
  obtain ⟨n2, f3, ef3, hi, H⟩ := H
  refine g_step (pc2 := 137) hk rfl rfl rfl (s_aget (L := L) (xs := xs) ef3 hi) ?_
  refine g_s1 (pc2 := 142) hk rfl rfl rfl rfl rfl ?_
  exact H
theorem b253_142 {x0 : Nat} {x1 : Int32} {x2 : Int32} {x3 : Int32} {x4 : Int32} {x5 : Int32} {x6 : Int32} {x7 : Int32} {s0 : Nat} {s1 : Int32} {s2 : Int32} {h : iH} {Q : Option Value → iH → Prop} (H : (∃ (n1 : Nat) (f2 : Nat → Int32), i_arI h 0 s0 = some (n1, f2) ∧ ¬ (s1 < 0 ∨ n1 ≤ s1.toNatClampNeg) ∧ i_P i_MT i_AT L xs 253 143 [some (.ref x0), some (.int x1), some (.int x2), some (.int x3), some (.int x4), some (.int x5), some (.int x6), some (.int x7)] [] (i_siI h s0 s1.toNatClampNeg s2) 0 0 Q)) : i_P i_MT i_AT L xs 253 142 [some (.ref x0), some (.int x1), some (.int x2), some (.int x3), some (.int x4), some (.int x5), some (.int x6), some (.int x7)] [.int s2, .int s1, .ref s0] h 0 0 Q := by
  have hk := i_k253
  obtain ⟨n1, f2, ef2, hi, H⟩ := H
  refine g_step (pc2 := 143) hk rfl rfl rfl (s_aput ef2 hi) ?_
  exact H
theorem b253_143 {x0 : Nat} {x1 : Int32} {x2 : Int32} {x3 : Int32} {x4 : Int32} {x5 : Int32} {x6 : Int32} {x7 : Int32} {h : iH} {Q : Option Value → iH → Prop} (H : Q none h) : i_P i_MT i_AT L xs 253 143 [some (.ref x0), some (.int x1), some (.int x2), some (.int x3), some (.int x4), some (.int x5), some (.int x6), some (.int x7)] [] h 0 0 Q := by
  have hk := i_k253
  exact g_return hk rfl (by decide) (by decide) rfl H
/-! StillTownModel.isPerson(I)Z -/
theorem e254 {x0 : Nat} {x1 : Int32} {h : iH} {Q : Option Value → iH → Prop} (H : i_P i_MT i_AT L xs 254 0 [some (.ref x0), some (.int x1)] [] h 0 0 Q) : i_C i_MT i_AT L xs 254 [.ref x0, .int x1] h Q := ⟨i_m254, i_k254.1, Nat.le_of_ble_eq_true rfl, H⟩
theorem b254_0 {x0 : Nat} {x1 : Int32} {h : iH} {Q : Option Value → iH → Prop} (H : ((x1 < 0 → i_P i_MT i_AT L xs 254 18 [some (.ref x0), some (.int x1)] [] h 0 0 Q) ∧ (¬ (x1 < 0) → (∃ v1 : Nat, i_fld h x0 12 0 = some (.ref v1) ∧ (∃ (n2 : Nat) (f3 : Nat → Int32), i_arI h 0 v1 = some (n2, f3) ∧ ¬ ((5 : Int32) < 0 ∨ n2 ≤ (5 : Int32).toNatClampNeg) ∧ (((f3 (5 : Int32).toNatClampNeg) ≤ x1 → i_P i_MT i_AT L xs 254 18 [some (.ref x0), some (.int x1)] [] h 0 0 Q) ∧ (¬ ((f3 (5 : Int32).toNatClampNeg) ≤ x1) → i_P i_MT i_AT L xs 254 19 [some (.ref x0), some (.int x1)] [.int (1 : Int32)] h 0 0 Q))))))) : i_P i_MT i_AT L xs 254 0 [some (.ref x0), some (.int x1)] [] h 0 0 Q := by
  have hk := i_k254
  refine g_s1 (pc2 := 1) hk rfl rfl rfl rfl rfl ?_
  refine g_if_lt hk rfl (fun hc => ?_) (fun hc => ?_)
  · have H := H.1 hc
    exact H
  · have H := H.2 hc
    refine g_s1 (pc2 := 5) hk rfl rfl rfl rfl rfl ?_
    refine g_s1 (pc2 := 6) hk rfl rfl rfl rfl rfl ?_
    obtain ⟨v1, ev1, H⟩ := H
    refine g_step (pc2 := 9) hk rfl rfl rfl (s_get ev1) ?_
    refine g_s1 (pc2 := 10) (st2 := [.int (5 : Int32), .ref v1, .int x1]) hk rfl rfl rfl rfl rfl ?_
    obtain ⟨n2, f3, ef3, hi, H⟩ := H
    refine g_step (pc2 := 11) hk rfl rfl rfl (s_aget (L := L) (xs := xs) ef3 hi) ?_
    refine g_icmp_ge hk rfl (fun hc => ?_) (fun hc => ?_)
    · have H := H.1 hc
      exact H
    · have H := H.2 hc
      refine g_s1 (pc2 := 15) (st2 := [.int (1 : Int32)]) hk rfl rfl rfl rfl rfl ?_
      refine g_s1 (pc2 := 19) hk rfl rfl rfl rfl rfl ?_
      exact H
theorem b254_18 {x0 : Nat} {x1 : Int32} {h : iH} {Q : Option Value → iH → Prop} (H : i_P i_MT i_AT L xs 254 19 [some (.ref x0), some (.int x1)] [.int (0 : Int32)] h 0 0 Q) : i_P i_MT i_AT L xs 254 18 [some (.ref x0), some (.int x1)] [] h 0 0 Q := by
  have hk := i_k254
  refine g_s1 (pc2 := 19) (st2 := [.int (0 : Int32)]) hk rfl rfl rfl rfl rfl ?_
  exact H
theorem b254_19 {x0 : Nat} {x1 : Int32} {s0 : Int32} {h : iH} {Q : Option Value → iH → Prop} (H : (i_ret (some .boolean) s0 = true ∧ Q (some (.int s0)) h)) : i_P i_MT i_AT L xs 254 19 [some (.ref x0), some (.int x1)] [.int s0] h 0 0 Q := by
  have hk := i_k254
  exact g_ireturn hk rfl (by decide) (by decide) H.1 H.2
/-! StillTownModel.isMinute(I)Z -/
theorem e255 {x0 : Int32} {h : iH} {Q : Option Value → iH → Prop} (H : i_P i_MT i_AT L xs 255 0 [some (.int x0)] [] h 0 0 Q) : i_C i_MT i_AT L xs 255 [.int x0] h Q := ⟨i_m255, i_k255.1, Nat.le_of_ble_eq_true rfl, H⟩
theorem b255_0 {x0 : Int32} {h : iH} {Q : Option Value → iH → Prop} (H : ((x0 < 0 → i_P i_MT i_AT L xs 255 14 [some (.int x0)] [] h 0 0 Q) ∧ (¬ (x0 < 0) → (((60 : Int32) < x0 → i_P i_MT i_AT L xs 255 14 [some (.int x0)] [] h 0 0 Q) ∧ (¬ ((60 : Int32) < x0) → i_P i_MT i_AT L xs 255 15 [some (.int x0)] [.int (1 : Int32)] h 0 0 Q))))) : i_P i_MT i_AT L xs 255 0 [some (.int x0)] [] h 0 0 Q := by
  have hk := i_k255
  refine g_s1 (pc2 := 1) hk rfl rfl rfl rfl rfl ?_
  refine g_if_lt hk rfl (fun hc => ?_) (fun hc => ?_)
  · have H := H.1 hc
    exact H
  · have H := H.2 hc
    refine g_s1 (pc2 := 5) hk rfl rfl rfl rfl rfl ?_
    refine g_s1 (pc2 := 7) (st2 := [.int (60 : Int32), .int x0]) hk rfl rfl rfl rfl rfl ?_
    refine g_icmp_gt hk rfl (fun hc => ?_) (fun hc => ?_)
    · have H := H.1 hc
      exact H
    · have H := H.2 hc
      refine g_s1 (pc2 := 11) (st2 := [.int (1 : Int32)]) hk rfl rfl rfl rfl rfl ?_
      refine g_s1 (pc2 := 15) hk rfl rfl rfl rfl rfl ?_
      exact H
theorem b255_14 {x0 : Int32} {h : iH} {Q : Option Value → iH → Prop} (H : i_P i_MT i_AT L xs 255 15 [some (.int x0)] [.int (0 : Int32)] h 0 0 Q) : i_P i_MT i_AT L xs 255 14 [some (.int x0)] [] h 0 0 Q := by
  have hk := i_k255
  refine g_s1 (pc2 := 15) (st2 := [.int (0 : Int32)]) hk rfl rfl rfl rfl rfl ?_
  exact H
theorem b255_15 {x0 : Int32} {s0 : Int32} {h : iH} {Q : Option Value → iH → Prop} (H : (i_ret (some .boolean) s0 = true ∧ Q (some (.int s0)) h)) : i_P i_MT i_AT L xs 255 15 [some (.int x0)] [.int s0] h 0 0 Q := by
  have hk := i_k255
  exact g_ireturn hk rfl (by decide) (by decide) H.1 H.2
/-! StillTownModel.ofPerson(II)I -/
theorem e256 {x0 : Nat} {x1 : Int32} {x2 : Int32} {h : iH} {Q : Option Value → iH → Prop} (H : i_P i_MT i_AT L xs 256 0 [some (.ref x0), some (.int x1), some (.int x2)] [] h 0 0 Q) : i_C i_MT i_AT L xs 256 [.ref x0, .int x1, .int x2] h Q := ⟨i_m256, i_k256.1, Nat.le_of_ble_eq_true rfl, H⟩
theorem b256_0 {x0 : Nat} {x1 : Int32} {x2 : Int32} {h : iH} {Q : Option Value → iH → Prop} (H : (∃ v1 : Nat, i_fld h x0 12 0 = some (.ref v1) ∧ (∃ (n2 : Nat) (f3 : Nat → Int32), i_arI h 0 v1 = some (n2, f3) ∧ ¬ ((((154 : Int32) + ((5 : Int32) * x1)) + x2) < 0 ∨ n2 ≤ (((154 : Int32) + ((5 : Int32) * x1)) + x2).toNatClampNeg) ∧ Q (some (.int (f3 (((154 : Int32) + ((5 : Int32) * x1)) + x2).toNatClampNeg))) h))) : i_P i_MT i_AT L xs 256 0 [some (.ref x0), some (.int x1), some (.int x2)] [] h 0 0 Q := by
  have hk := i_k256
  refine g_s1 (pc2 := 1) hk rfl rfl rfl rfl rfl ?_
  obtain ⟨v1, ev1, H⟩ := H
  refine g_step (pc2 := 4) hk rfl rfl rfl (s_get ev1) ?_
  refine g_s1 (pc2 := 7) (st2 := [.int (154 : Int32), .ref v1]) hk rfl rfl rfl rfl rfl ?_
  refine g_s1 (pc2 := 8) (st2 := [.int (5 : Int32), .int (154 : Int32), .ref v1]) hk rfl rfl rfl rfl rfl ?_
  refine g_s1 (pc2 := 9) hk rfl rfl rfl rfl rfl ?_
  refine g_s1 (pc2 := 10) hk rfl rfl rfl rfl rfl ?_
  refine g_s1 (pc2 := 11) hk rfl rfl rfl rfl rfl ?_
  refine g_s1 (pc2 := 12) hk rfl rfl rfl rfl rfl ?_
  refine g_s1 (pc2 := 13) hk rfl rfl rfl rfl rfl ?_
  obtain ⟨n2, f3, ef3, hi, H⟩ := H
  refine g_step (pc2 := 14) hk rfl rfl rfl (s_aget (L := L) (xs := xs) ef3 hi) ?_
  exact g_ireturn hk rfl (by decide) (by decide) rfl H
/-! StillTownModel.told(I)I -/
theorem e257 {x0 : Nat} {x1 : Int32} {h : iH} {Q : Option Value → iH → Prop} (H : i_P i_MT i_AT L xs 257 0 [some (.ref x0), some (.int x1)] [] h 0 0 Q) : i_C i_MT i_AT L xs 257 [.ref x0, .int x1] h Q := ⟨i_m257, i_k257.1, Nat.le_of_ble_eq_true rfl, H⟩
theorem b257_0 {x0 : Nat} {x1 : Int32} {h : iH} {Q : Option Value → iH → Prop} (H : ((x1 < 0 → i_P i_MT i_AT L xs 257 10 [some (.ref x0), some (.int x1)] [] h 0 0 Q) ∧ (¬ (x1 < 0) → ((x1 ≤ (9 : Int32) → (∃ v1 : Nat, i_fld h x0 12 0 = some (.ref v1) ∧ (∃ (n2 : Nat) (f3 : Nat → Int32), i_arI h 0 v1 = some (n2, f3) ∧ ¬ (x1 < 0 ∨ n2 ≤ x1.toNatClampNeg) ∧ (i_obj? h x0 12 ∧ i_C i_MT i_AT L xs 202 [.ref x0, .int (f3 x1.toNatClampNeg)] h (fun v h4 => ∃ r5 : Int32, v = some (.int r5) ∧ i_P i_MT i_AT L xs 257 28 [some (.ref x0), some (.int x1)] [.int r5] h4 0 0 Q))))) ∧ (¬ (x1 ≤ (9 : Int32)) → i_P i_MT i_AT L xs 257 10 [some (.ref x0), some (.int x1)] [] h 0 0 Q))))) : i_P i_MT i_AT L xs 257 0 [some (.ref x0), some (.int x1)] [] h 0 0 Q := by
  have hk := i_k257
  refine g_s1 (pc2 := 1) hk rfl rfl rfl rfl rfl ?_
  refine g_if_lt hk rfl (fun hc => ?_) (fun hc => ?_)
  · have H := H.1 hc
    exact H
  · have H := H.2 hc
    refine g_s1 (pc2 := 5) hk rfl rfl rfl rfl rfl ?_
    refine g_s1 (pc2 := 7) (st2 := [.int (9 : Int32), .int x1]) hk rfl rfl rfl rfl rfl ?_
    refine g_icmp_le hk rfl (fun hc => ?_) (fun hc => ?_)
    · have H := H.1 hc
      refine g_s1 (pc2 := 19) hk rfl rfl rfl rfl rfl ?_
      refine g_s1 (pc2 := 20) hk rfl rfl rfl rfl rfl ?_
      obtain ⟨v1, ev1, H⟩ := H
      refine g_step (pc2 := 23) hk rfl rfl rfl (s_get ev1) ?_
      refine g_s1 (pc2 := 24) hk rfl rfl rfl rfl rfl ?_
      obtain ⟨n2, f3, ef3, hi, H⟩ := H
      refine g_step (pc2 := 25) hk rfl rfl rfl (s_aget (L := L) (xs := xs) ef3 hi) ?_
      obtain ⟨ho, H⟩ := H
      refine g_call hk rfl rfl i_k202.1 ⟨rfl, rfl⟩ rfl (i_rcv_v ho rfl (by decide)) rfl ?_
      exact H.mono (fun v h2 q => by obtain ⟨r, rfl, q⟩ := q; exact q)
    · have H := H.2 hc
      exact H
theorem b257_10 {x0 : Nat} {x1 : Int32} {h : iH} {Q : Option Value → iH → Prop} (H : (i_obj? h x0 12 ∧ i_C i_MT i_AT L xs 201 [.ref x0, .int (1 : Int32)] h (fun v h1 => ∃ r2 : Int32, v = some (.int r2) ∧ i_P i_MT i_AT L xs 257 15 [some (.ref x0), some (.int x1)] [.int r2] h1 0 0 Q))) : i_P i_MT i_AT L xs 257 10 [some (.ref x0), some (.int x1)] [] h 0 0 Q := by
  have hk := i_k257
  refine g_s1 (pc2 := 11) hk rfl rfl rfl rfl rfl ?_
  refine g_s1 (pc2 := 12) (st2 := [.int (1 : Int32), .ref x0]) hk rfl rfl rfl rfl rfl ?_
  obtain ⟨ho, H⟩ := H
  refine g_call hk rfl rfl i_k201.1 ⟨rfl, rfl⟩ rfl (i_rcv_v ho rfl (by decide)) rfl ?_
  exact H.mono (fun v h2 q => by obtain ⟨r, rfl, q⟩ := q; exact q)
theorem b257_15 {x0 : Nat} {x1 : Int32} {s0 : Int32} {h : iH} {Q : Option Value → iH → Prop} (H : i_P i_MT i_AT L xs 257 28 [some (.ref x0), some (.int x1)] [.int s0] h 0 0 Q) : i_P i_MT i_AT L xs 257 15 [some (.ref x0), some (.int x1)] [.int s0] h 0 0 Q := by
  have hk := i_k257
  refine g_s1 (pc2 := 28) hk rfl rfl rfl rfl rfl ?_
  exact H
theorem b257_28 {x0 : Nat} {x1 : Int32} {s0 : Int32} {h : iH} {Q : Option Value → iH → Prop} (H : Q (some (.int s0)) h) : i_P i_MT i_AT L xs 257 28 [some (.ref x0), some (.int x1)] [.int s0] h 0 0 Q := by
  have hk := i_k257
  exact g_ireturn hk rfl (by decide) (by decide) rfl H
/-! StillTownModel.wall(I)I -/
theorem e258 {x0 : Nat} {x1 : Int32} {h : iH} {Q : Option Value → iH → Prop} (H : i_P i_MT i_AT L xs 258 0 [some (.ref x0), some (.int x1)] [] h 0 0 Q) : i_C i_MT i_AT L xs 258 [.ref x0, .int x1] h Q := ⟨i_m258, i_k258.1, Nat.le_of_ble_eq_true rfl, H⟩
theorem b258_0 {x0 : Nat} {x1 : Int32} {h : iH} {Q : Option Value → iH → Prop} (H : (i_obj? h x0 12 ∧ i_C i_MT i_AT L xs 249 [.ref x0, .long (x1.toInt64)] h (fun v h1 => ∃ r2 : Int32, v = some (.int r2) ∧ i_P i_MT i_AT L xs 258 6 [some (.ref x0), some (.int x1)] [.int r2] h1 0 0 Q))) : i_P i_MT i_AT L xs 258 0 [some (.ref x0), some (.int x1)] [] h 0 0 Q := by
  have hk := i_k258
  refine g_s1 (pc2 := 1) hk rfl rfl rfl rfl rfl ?_
  refine g_s1 (pc2 := 2) hk rfl rfl rfl rfl rfl ?_
  refine g_s1 (pc2 := 3) hk rfl rfl rfl rfl rfl ?_
  obtain ⟨ho, H⟩ := H
  refine g_call hk rfl rfl i_k249.1 ⟨rfl, rfl⟩ rfl (i_rcv_v ho rfl (by decide)) rfl ?_
  exact H.mono (fun v h2 q => by obtain ⟨r, rfl, q⟩ := q; exact q)
theorem b258_6 {x0 : Nat} {x1 : Int32} {s0 : Int32} {h : iH} {Q : Option Value → iH → Prop} (H : ((s0 = 0 → (i_obj? h x0 12 ∧ i_C i_MT i_AT L xs 201 [.ref x0, .int (1 : Int32)] h (fun v h1 => ∃ r2 : Int32, v = some (.int r2) ∧ i_P i_MT i_AT L xs 258 30 [some (.ref x0), some (.int x1)] [.int r2] h1 0 0 Q))) ∧ (¬ (s0 = 0) → (∃ v3 : Nat, i_fld h x0 12 0 = some (.ref v3) ∧ (∃ (n4 : Nat) (f5 : Nat → Int32), i_arI h 0 v3 = some (n4, f5) ∧ ¬ (((10 : Int32) + x1) < 0 ∨ n4 ≤ ((10 : Int32) + x1).toNatClampNeg) ∧ (i_obj? h x0 12 ∧ i_C i_MT i_AT L xs 202 [.ref x0, .int (f5 ((10 : Int32) + x1).toNatClampNeg)] h (fun v h6 => ∃ r7 : Int32, v = some (.int r7) ∧ i_P i_MT i_AT L xs 258 22 [some (.ref x0), some (.int x1)] [.int r7] h6 0 0 Q))))))) : i_P i_MT i_AT L xs 258 6 [some (.ref x0), some (.int x1)] [.int s0] h 0 0 Q := by
  have hk := i_k258
  refine g_if_eq hk rfl (fun hc => ?_) (fun hc => ?_)
  · have H := H.1 hc
    refine g_s1 (pc2 := 26) hk rfl rfl rfl rfl rfl ?_
    refine g_s1 (pc2 := 27) (st2 := [.int (1 : Int32), .ref x0]) hk rfl rfl rfl rfl rfl ?_
    obtain ⟨ho, H⟩ := H
    refine g_call hk rfl rfl i_k201.1 ⟨rfl, rfl⟩ rfl (i_rcv_v ho rfl (by decide)) rfl ?_
    exact H.mono (fun v h2 q => by obtain ⟨r, rfl, q⟩ := q; exact q)
  · have H := H.2 hc
    refine g_s1 (pc2 := 10) hk rfl rfl rfl rfl rfl ?_
    refine g_s1 (pc2 := 11) hk rfl rfl rfl rfl rfl ?_
    obtain ⟨v3, ev3, H⟩ := H
    refine g_step (pc2 := 14) hk rfl rfl rfl (s_get ev3) ?_
    refine g_s1 (pc2 := 16) (st2 := [.int (10 : Int32), .ref v3, .ref x0]) hk rfl rfl rfl rfl rfl ?_
    refine g_s1 (pc2 := 17) hk rfl rfl rfl rfl rfl ?_
    refine g_s1 (pc2 := 18) hk rfl rfl rfl rfl rfl ?_
    obtain ⟨n4, f5, ef5, hi, H⟩ := H
    refine g_step (pc2 := 19) hk rfl rfl rfl (s_aget (L := L) (xs := xs) ef5 hi) ?_
    obtain ⟨ho, H⟩ := H
    refine g_call hk rfl rfl i_k202.1 ⟨rfl, rfl⟩ rfl (i_rcv_v ho rfl (by decide)) rfl ?_
    exact H.mono (fun v h2 q => by obtain ⟨r, rfl, q⟩ := q; exact q)
theorem b258_22 {x0 : Nat} {x1 : Int32} {s0 : Int32} {h : iH} {Q : Option Value → iH → Prop} (H : i_P i_MT i_AT L xs 258 30 [some (.ref x0), some (.int x1)] [.int s0] h 0 0 Q) : i_P i_MT i_AT L xs 258 22 [some (.ref x0), some (.int x1)] [.int s0] h 0 0 Q := by
  have hk := i_k258
  refine g_s1 (pc2 := 30) hk rfl rfl rfl rfl rfl ?_
  exact H
theorem b258_30 {x0 : Nat} {x1 : Int32} {s0 : Int32} {h : iH} {Q : Option Value → iH → Prop} (H : Q (some (.int s0)) h) : i_P i_MT i_AT L xs 258 30 [some (.ref x0), some (.int x1)] [.int s0] h 0 0 Q := by
  have hk := i_k258
  exact g_ireturn hk rfl (by decide) (by decide) rfl H
/-! StillTownModel.swaysOf(I)I -/
theorem e259 {x0 : Nat} {x1 : Int32} {h : iH} {Q : Option Value → iH → Prop} (H : i_P i_MT i_AT L xs 259 0 [some (.ref x0), some (.int x1)] [] h 0 0 Q) : i_C i_MT i_AT L xs 259 [.ref x0, .int x1] h Q := ⟨i_m259, i_k259.1, Nat.le_of_ble_eq_true rfl, H⟩
theorem b259_0 {x0 : Nat} {x1 : Int32} {h : iH} {Q : Option Value → iH → Prop} (H : (∃ v1 : Nat, i_fld h x0 12 0 = some (.ref v1) ∧ (∃ (n2 : Nat) (f3 : Nat → Int32), i_arI h 0 v1 = some (n2, f3) ∧ ¬ (((58 : Int32) + x1) < 0 ∨ n2 ≤ ((58 : Int32) + x1).toNatClampNeg) ∧ (i_C i_MT i_AT L xs 336 [.int (0 : Int32), .int (f3 ((58 : Int32) + x1).toNatClampNeg)] h (fun v h4 => ∃ r5 : Int32, v = some (.int r5) ∧ i_P i_MT i_AT L xs 259 13 [some (.ref x0), some (.int x1)] [.int r5] h4 0 0 Q))))) : i_P i_MT i_AT L xs 259 0 [some (.ref x0), some (.int x1)] [] h 0 0 Q := by
  have hk := i_k259
  refine g_s1 (pc2 := 1) (st2 := [.int (0 : Int32)]) hk rfl rfl rfl rfl rfl ?_
  refine g_s1 (pc2 := 2) hk rfl rfl rfl rfl rfl ?_
  obtain ⟨v1, ev1, H⟩ := H
  refine g_step (pc2 := 5) hk rfl rfl rfl (s_get ev1) ?_
  refine g_s1 (pc2 := 7) (st2 := [.int (58 : Int32), .ref v1, .int (0 : Int32)]) hk rfl rfl rfl rfl rfl ?_
  refine g_s1 (pc2 := 8) hk rfl rfl rfl rfl rfl ?_
  refine g_s1 (pc2 := 9) hk rfl rfl rfl rfl rfl ?_
  obtain ⟨n2, f3, ef3, hi, H⟩ := H
  refine g_step (pc2 := 10) hk rfl rfl rfl (s_aget (L := L) (xs := xs) ef3 hi) ?_
  refine g_call hk rfl rfl i_k336.1 ⟨rfl, rfl⟩ rfl (i_rcv_0 rfl) rfl ?_
  exact H.mono (fun v h2 q => by obtain ⟨r, rfl, q⟩ := q; exact q)
theorem b259_13 {x0 : Nat} {x1 : Int32} {s0 : Int32} {h : iH} {Q : Option Value → iH → Prop} (H : Q (some (.int s0)) h) : i_P i_MT i_AT L xs 259 13 [some (.ref x0), some (.int x1)] [.int s0] h 0 0 Q := by
  have hk := i_k259
  exact g_ireturn hk rfl (by decide) (by decide) rfl H
/-! StillTownModel.sways(I)I -/
theorem e260 {x0 : Nat} {x1 : Int32} {h : iH} {Q : Option Value → iH → Prop} (H : i_P i_MT i_AT L xs 260 0 [some (.ref x0), some (.int x1)] [] h 0 0 Q) : i_C i_MT i_AT L xs 260 [.ref x0, .int x1] h Q := ⟨i_m260, i_k260.1, Nat.le_of_ble_eq_true rfl, H⟩
theorem b260_0 {x0 : Nat} {x1 : Int32} {h : iH} {Q : Option Value → iH → Prop} (H : (i_obj? h x0 12 ∧ i_C i_MT i_AT L xs 249 [.ref x0, .long (x1.toInt64)] h (fun v h1 => ∃ r2 : Int32, v = some (.int r2) ∧ i_P i_MT i_AT L xs 260 6 [some (.ref x0), some (.int x1)] [.int r2] h1 0 0 Q))) : i_P i_MT i_AT L xs 260 0 [some (.ref x0), some (.int x1)] [] h 0 0 Q := by
  have hk := i_k260
  refine g_s1 (pc2 := 1) hk rfl rfl rfl rfl rfl ?_
  refine g_s1 (pc2 := 2) hk rfl rfl rfl rfl rfl ?_
  refine g_s1 (pc2 := 3) hk rfl rfl rfl rfl rfl ?_
  obtain ⟨ho, H⟩ := H
  refine g_call hk rfl rfl i_k249.1 ⟨rfl, rfl⟩ rfl (i_rcv_v ho rfl (by decide)) rfl ?_
  exact H.mono (fun v h2 q => by obtain ⟨r, rfl, q⟩ := q; exact q)
theorem b260_6 {x0 : Nat} {x1 : Int32} {s0 : Int32} {h : iH} {Q : Option Value → iH → Prop} (H : ((s0 = 0 → (i_obj? h x0 12 ∧ i_C i_MT i_AT L xs 201 [.ref x0, .int (1 : Int32)] h (fun v h1 => ∃ r2 : Int32, v = some (.int r2) ∧ i_P i_MT i_AT L xs 260 26 [some (.ref x0), some (.int x1)] [.int r2] h1 0 0 Q))) ∧ (¬ (s0 = 0) → (i_obj? h x0 12 ∧ i_C i_MT i_AT L xs 259 [.ref x0, .int x1] h (fun v h3 => ∃ r4 : Int32, v = some (.int r4) ∧ i_P i_MT i_AT L xs 260 15 [some (.ref x0), some (.int x1)] [.int r4, .ref x0] h3 0 0 Q))))) : i_P i_MT i_AT L xs 260 6 [some (.ref x0), some (.int x1)] [.int s0] h 0 0 Q := by
  have hk := i_k260
  refine g_if_eq hk rfl (fun hc => ?_) (fun hc => ?_)
  · have H := H.1 hc
    refine g_s1 (pc2 := 22) hk rfl rfl rfl rfl rfl ?_
    refine g_s1 (pc2 := 23) (st2 := [.int (1 : Int32), .ref x0]) hk rfl rfl rfl rfl rfl ?_
    obtain ⟨ho, H⟩ := H
    refine g_call hk rfl rfl i_k201.1 ⟨rfl, rfl⟩ rfl (i_rcv_v ho rfl (by decide)) rfl ?_
    exact H.mono (fun v h2 q => by obtain ⟨r, rfl, q⟩ := q; exact q)
  · have H := H.2 hc
    refine g_s1 (pc2 := 10) hk rfl rfl rfl rfl rfl ?_
    refine g_s1 (pc2 := 11) hk rfl rfl rfl rfl rfl ?_
    refine g_s1 (pc2 := 12) hk rfl rfl rfl rfl rfl ?_
    obtain ⟨ho, H⟩ := H
    refine g_call hk rfl rfl i_k259.1 ⟨rfl, rfl⟩ rfl (i_rcv_v ho rfl (by decide)) rfl ?_
    exact H.mono (fun v h2 q => by obtain ⟨r, rfl, q⟩ := q; exact q)
theorem b260_15 {x0 : Nat} {x1 : Int32} {s0 : Nat} {s1 : Int32} {h : iH} {Q : Option Value → iH → Prop} (H : (i_obj? h s0 12 ∧ i_C i_MT i_AT L xs 202 [.ref s0, .int s1] h (fun v h1 => ∃ r2 : Int32, v = some (.int r2) ∧ i_P i_MT i_AT L xs 260 18 [some (.ref x0), some (.int x1)] [.int r2] h1 0 0 Q))) : i_P i_MT i_AT L xs 260 15 [some (.ref x0), some (.int x1)] [.int s1, .ref s0] h 0 0 Q := by
  have hk := i_k260
  obtain ⟨ho, H⟩ := H
  refine g_call hk rfl rfl i_k202.1 ⟨rfl, rfl⟩ rfl (i_rcv_v ho rfl (by decide)) rfl ?_
  exact H.mono (fun v h2 q => by obtain ⟨r, rfl, q⟩ := q; exact q)
theorem b260_18 {x0 : Nat} {x1 : Int32} {s0 : Int32} {h : iH} {Q : Option Value → iH → Prop} (H : i_P i_MT i_AT L xs 260 26 [some (.ref x0), some (.int x1)] [.int s0] h 0 0 Q) : i_P i_MT i_AT L xs 260 18 [some (.ref x0), some (.int x1)] [.int s0] h 0 0 Q := by
  have hk := i_k260
  refine g_s1 (pc2 := 26) hk rfl rfl rfl rfl rfl ?_
  exact H
theorem b260_26 {x0 : Nat} {x1 : Int32} {s0 : Int32} {h : iH} {Q : Option Value → iH → Prop} (H : Q (some (.int s0)) h) : i_P i_MT i_AT L xs 260 26 [some (.ref x0), some (.int x1)] [.int s0] h 0 0 Q := by
  have hk := i_k260
  exact g_ireturn hk rfl (by decide) (by decide) rfl H
/-! StillTownModel.cart(II)I -/
theorem e261 {x0 : Nat} {x1 : Int32} {x2 : Int32} {h : iH} {Q : Option Value → iH → Prop} (H : i_P i_MT i_AT L xs 261 0 [some (.ref x0), some (.int x1), some (.int x2)] [] h 0 0 Q) : i_C i_MT i_AT L xs 261 [.ref x0, .int x1, .int x2] h Q := ⟨i_m261, i_k261.1, Nat.le_of_ble_eq_true rfl, H⟩
theorem b261_0 {x0 : Nat} {x1 : Int32} {x2 : Int32} {h : iH} {Q : Option Value → iH → Prop} (H : ((x1 < 0 → i_P i_MT i_AT L xs 261 39 [some (.ref x0), some (.int x1), some (.int x2)] [] h 0 0 Q) ∧ (¬ (x1 < 0) → (∃ v1 : Nat, i_fld h x0 12 0 = some (.ref v1) ∧ (∃ (n2 : Nat) (f3 : Nat → Int32), i_arI h 0 v1 = some (n2, f3) ∧ ¬ ((3 : Int32) < 0 ∨ n2 ≤ (3 : Int32).toNatClampNeg) ∧ (((f3 (3 : Int32).toNatClampNeg) ≤ x1 → i_P i_MT i_AT L xs 261 39 [some (.ref x0), some (.int x1), some (.int x2)] [] h 0 0 Q) ∧ (¬ ((f3 (3 : Int32).toNatClampNeg) ≤ x1) → (i_C i_MT i_AT L xs 255 [.int x2] h (fun v h4 => ∃ r5 : Int32, v = some (.int r5) ∧ i_P i_MT i_AT L xs 261 18 [some (.ref x0), some (.int x1), some (.int x2)] [.int r5] h4 0 0 Q))))))))) : i_P i_MT i_AT L xs 261 0 [some (.ref x0), some (.int x1), some (.int x2)] [] h 0 0 Q := by
  have hk := i_k261
  refine g_s1 (pc2 := 1) hk rfl rfl rfl rfl rfl ?_
  refine g_if_lt hk rfl (fun hc => ?_) (fun hc => ?_)
  · have H := H.1 hc
    exact H
  · have H := H.2 hc
    refine g_s1 (pc2 := 5) hk rfl rfl rfl rfl rfl ?_
    refine g_s1 (pc2 := 6) hk rfl rfl rfl rfl rfl ?_
    obtain ⟨v1, ev1, H⟩ := H
    refine g_step (pc2 := 9) hk rfl rfl rfl (s_get ev1) ?_
    refine g_s1 (pc2 := 10) (st2 := [.int (3 : Int32), .ref v1, .int x1]) hk rfl rfl rfl rfl rfl ?_
    obtain ⟨n2, f3, ef3, hi, H⟩ := H
    refine g_step (pc2 := 11) hk rfl rfl rfl (s_aget (L := L) (xs := xs) ef3 hi) ?_
    refine g_icmp_ge hk rfl (fun hc => ?_) (fun hc => ?_)
    · have H := H.1 hc
      exact H
    · have H := H.2 hc
      refine g_s1 (pc2 := 15) hk rfl rfl rfl rfl rfl ?_
      refine g_call hk rfl rfl i_k255.1 ⟨rfl, rfl⟩ rfl (i_rcv_0 rfl) rfl ?_
      exact H.mono (fun v h2 q => by obtain ⟨r, rfl, q⟩ := q; exact q)
theorem b261_18 {x0 : Nat} {x1 : Int32} {x2 : Int32} {s0 : Int32} {h : iH} {Q : Option Value → iH → Prop} (H : ((s0 = 0 → i_P i_MT i_AT L xs 261 39 [some (.ref x0), some (.int x1), some (.int x2)] [] h 0 0 Q) ∧ (¬ (s0 = 0) → (∃ v1 : Nat, i_fld h x0 12 32 = some (.ref v1) ∧ (∃ (n2 : Nat) (f3 : Nat → Int32), i_arI h 0 v1 = some (n2, f3) ∧ ¬ ((((61 : Int32) * x1) + x2) < 0 ∨ n2 ≤ (((61 : Int32) * x1) + x2).toNatClampNeg) ∧ (i_obj? h x0 12 ∧ i_C i_MT i_AT L xs 202 [.ref x0, .int (f3 (((61 : Int32) * x1) + x2).toNatClampNeg)] h (fun v h4 => ∃ r5 : Int32, v = some (.int r5) ∧ i_P i_MT i_AT L xs 261 36 [some (.ref x0), some (.int x1), some (.int x2)] [.int r5] h4 0 0 Q))))))) : i_P i_MT i_AT L xs 261 18 [some (.ref x0), some (.int x1), some (.int x2)] [.int s0] h 0 0 Q := by
  have hk := i_k261
  refine g_if_eq hk rfl (fun hc => ?_) (fun hc => ?_)
  · have H := H.1 hc
    exact H
  · have H := H.2 hc
    refine g_s1 (pc2 := 22) hk rfl rfl rfl rfl rfl ?_
    refine g_s1 (pc2 := 23) hk rfl rfl rfl rfl rfl ?_
    obtain ⟨v1, ev1, H⟩ := H
    refine g_step (pc2 := 26) hk rfl rfl rfl (s_get ev1) ?_
    refine g_s1 (pc2 := 28) (st2 := [.int (61 : Int32), .ref v1, .ref x0]) hk rfl rfl rfl rfl rfl ?_
    refine g_s1 (pc2 := 29) hk rfl rfl rfl rfl rfl ?_
    refine g_s1 (pc2 := 30) hk rfl rfl rfl rfl rfl ?_
    refine g_s1 (pc2 := 31) hk rfl rfl rfl rfl rfl ?_
    refine g_s1 (pc2 := 32) hk rfl rfl rfl rfl rfl ?_
    obtain ⟨n2, f3, ef3, hi, H⟩ := H
    refine g_step (pc2 := 33) hk rfl rfl rfl (s_aget (L := L) (xs := xs) ef3 hi) ?_
    obtain ⟨ho, H⟩ := H
    refine g_call hk rfl rfl i_k202.1 ⟨rfl, rfl⟩ rfl (i_rcv_v ho rfl (by decide)) rfl ?_
    exact H.mono (fun v h2 q => by obtain ⟨r, rfl, q⟩ := q; exact q)
theorem b261_36 {x0 : Nat} {x1 : Int32} {x2 : Int32} {s0 : Int32} {h : iH} {Q : Option Value → iH → Prop} (H : i_P i_MT i_AT L xs 261 44 [some (.ref x0), some (.int x1), some (.int x2)] [.int s0] h 0 0 Q) : i_P i_MT i_AT L xs 261 36 [some (.ref x0), some (.int x1), some (.int x2)] [.int s0] h 0 0 Q := by
  have hk := i_k261
  refine g_s1 (pc2 := 44) hk rfl rfl rfl rfl rfl ?_
  exact H
theorem b261_39 {x0 : Nat} {x1 : Int32} {x2 : Int32} {h : iH} {Q : Option Value → iH → Prop} (H : (i_obj? h x0 12 ∧ i_C i_MT i_AT L xs 201 [.ref x0, .int (1 : Int32)] h (fun v h1 => ∃ r2 : Int32, v = some (.int r2) ∧ i_P i_MT i_AT L xs 261 44 [some (.ref x0), some (.int x1), some (.int x2)] [.int r2] h1 0 0 Q))) : i_P i_MT i_AT L xs 261 39 [some (.ref x0), some (.int x1), some (.int x2)] [] h 0 0 Q := by
  have hk := i_k261
  refine g_s1 (pc2 := 40) hk rfl rfl rfl rfl rfl ?_
  refine g_s1 (pc2 := 41) (st2 := [.int (1 : Int32), .ref x0]) hk rfl rfl rfl rfl rfl ?_
  obtain ⟨ho, H⟩ := H
  refine g_call hk rfl rfl i_k201.1 ⟨rfl, rfl⟩ rfl (i_rcv_v ho rfl (by decide)) rfl ?_
  exact H.mono (fun v h2 q => by obtain ⟨r, rfl, q⟩ := q; exact q)
theorem b261_44 {x0 : Nat} {x1 : Int32} {x2 : Int32} {s0 : Int32} {h : iH} {Q : Option Value → iH → Prop} (H : Q (some (.int s0)) h) : i_P i_MT i_AT L xs 261 44 [some (.ref x0), some (.int x1), some (.int x2)] [.int s0] h 0 0 Q := by
  have hk := i_k261
  exact g_ireturn hk rfl (by decide) (by decide) rfl H
/-! StillTownModel.lamp(I)I -/
theorem e262 {x0 : Nat} {x1 : Int32} {h : iH} {Q : Option Value → iH → Prop} (H : i_P i_MT i_AT L xs 262 0 [some (.ref x0), some (.int x1)] [] h 0 0 Q) : i_C i_MT i_AT L xs 262 [.ref x0, .int x1] h Q := ⟨i_m262, i_k262.1, Nat.le_of_ble_eq_true rfl, H⟩
theorem b262_0 {x0 : Nat} {x1 : Int32} {h : iH} {Q : Option Value → iH → Prop} (H : ((x1 < 0 → i_P i_MT i_AT L xs 262 30 [some (.ref x0), some (.int x1)] [] h 0 0 Q) ∧ (¬ (x1 < 0) → (∃ v1 : Nat, i_fld h x0 12 0 = some (.ref v1) ∧ (∃ (n2 : Nat) (f3 : Nat → Int32), i_arI h 0 v1 = some (n2, f3) ∧ ¬ ((4 : Int32) < 0 ∨ n2 ≤ (4 : Int32).toNatClampNeg) ∧ (((f3 (4 : Int32).toNatClampNeg) ≤ x1 → i_P i_MT i_AT L xs 262 30 [some (.ref x0), some (.int x1)] [] h 0 0 Q) ∧ (¬ ((f3 (4 : Int32).toNatClampNeg) ≤ x1) → (∃ v4 : Nat, i_fld h x0 12 0 = some (.ref v4) ∧ (∃ (n5 : Nat) (f6 : Nat → Int32), i_arI h 0 v4 = some (n5, f6) ∧ ¬ (((106 : Int32) + x1) < 0 ∨ n5 ≤ ((106 : Int32) + x1).toNatClampNeg) ∧ (i_obj? h x0 12 ∧ i_C i_MT i_AT L xs 202 [.ref x0, .int (f6 ((106 : Int32) + x1).toNatClampNeg)] h (fun v h7 => ∃ r8 : Int32, v = some (.int r8) ∧ i_P i_MT i_AT L xs 262 27 [some (.ref x0), some (.int x1)] [.int r8] h7 0 0 Q))))))))))) : i_P i_MT i_AT L xs 262 0 [some (.ref x0), some (.int x1)] [] h 0 0 Q := by
  have hk := i_k262
  refine g_s1 (pc2 := 1) hk rfl rfl rfl rfl rfl ?_
  refine g_if_lt hk rfl (fun hc => ?_) (fun hc => ?_)
  · have H := H.1 hc
    exact H
  · have H := H.2 hc
    refine g_s1 (pc2 := 5) hk rfl rfl rfl rfl rfl ?_
    refine g_s1 (pc2 := 6) hk rfl rfl rfl rfl rfl ?_
    obtain ⟨v1, ev1, H⟩ := H
    refine g_step (pc2 := 9) hk rfl rfl rfl (s_get ev1) ?_
    refine g_s1 (pc2 := 10) (st2 := [.int (4 : Int32), .ref v1, .int x1]) hk rfl rfl rfl rfl rfl ?_
    obtain ⟨n2, f3, ef3, hi, H⟩ := H
    refine g_step (pc2 := 11) hk rfl rfl rfl (s_aget (L := L) (xs := xs) ef3 hi) ?_
    refine g_icmp_ge hk rfl (fun hc => ?_) (fun hc => ?_)
    · have H := H.1 hc
      exact H
    · have H := H.2 hc
      refine g_s1 (pc2 := 15) hk rfl rfl rfl rfl rfl ?_
      refine g_s1 (pc2 := 16) hk rfl rfl rfl rfl rfl ?_
      obtain ⟨v4, ev4, H⟩ := H
      refine g_step (pc2 := 19) hk rfl rfl rfl (s_get ev4) ?_
      refine g_s1 (pc2 := 21) (st2 := [.int (106 : Int32), .ref v4, .ref x0]) hk rfl rfl rfl rfl rfl ?_
      refine g_s1 (pc2 := 22) hk rfl rfl rfl rfl rfl ?_
      refine g_s1 (pc2 := 23) hk rfl rfl rfl rfl rfl ?_
      obtain ⟨n5, f6, ef6, hi, H⟩ := H
      refine g_step (pc2 := 24) hk rfl rfl rfl (s_aget (L := L) (xs := xs) ef6 hi) ?_
      obtain ⟨ho, H⟩ := H
      refine g_call hk rfl rfl i_k202.1 ⟨rfl, rfl⟩ rfl (i_rcv_v ho rfl (by decide)) rfl ?_
      exact H.mono (fun v h2 q => by obtain ⟨r, rfl, q⟩ := q; exact q)
theorem b262_27 {x0 : Nat} {x1 : Int32} {s0 : Int32} {h : iH} {Q : Option Value → iH → Prop} (H : i_P i_MT i_AT L xs 262 35 [some (.ref x0), some (.int x1)] [.int s0] h 0 0 Q) : i_P i_MT i_AT L xs 262 27 [some (.ref x0), some (.int x1)] [.int s0] h 0 0 Q := by
  have hk := i_k262
  refine g_s1 (pc2 := 35) hk rfl rfl rfl rfl rfl ?_
  exact H
theorem b262_30 {x0 : Nat} {x1 : Int32} {h : iH} {Q : Option Value → iH → Prop} (H : (i_obj? h x0 12 ∧ i_C i_MT i_AT L xs 201 [.ref x0, .int (1 : Int32)] h (fun v h1 => ∃ r2 : Int32, v = some (.int r2) ∧ i_P i_MT i_AT L xs 262 35 [some (.ref x0), some (.int x1)] [.int r2] h1 0 0 Q))) : i_P i_MT i_AT L xs 262 30 [some (.ref x0), some (.int x1)] [] h 0 0 Q := by
  have hk := i_k262
  refine g_s1 (pc2 := 31) hk rfl rfl rfl rfl rfl ?_
  refine g_s1 (pc2 := 32) (st2 := [.int (1 : Int32), .ref x0]) hk rfl rfl rfl rfl rfl ?_
  obtain ⟨ho, H⟩ := H
  refine g_call hk rfl rfl i_k201.1 ⟨rfl, rfl⟩ rfl (i_rcv_v ho rfl (by decide)) rfl ?_
  exact H.mono (fun v h2 q => by obtain ⟨r, rfl, q⟩ := q; exact q)
theorem b262_35 {x0 : Nat} {x1 : Int32} {s0 : Int32} {h : iH} {Q : Option Value → iH → Prop} (H : Q (some (.int s0)) h) : i_P i_MT i_AT L xs 262 35 [some (.ref x0), some (.int x1)] [.int s0] h 0 0 Q := by
  have hk := i_k262
  exact g_ireturn hk rfl (by decide) (by decide) rfl H
/-! StillTownModel.person(II)I -/
theorem e263 {x0 : Nat} {x1 : Int32} {x2 : Int32} {h : iH} {Q : Option Value → iH → Prop} (H : i_P i_MT i_AT L xs 263 0 [some (.ref x0), some (.int x1), some (.int x2)] [] h 0 0 Q) : i_C i_MT i_AT L xs 263 [.ref x0, .int x1, .int x2] h Q := ⟨i_m263, i_k263.1, Nat.le_of_ble_eq_true rfl, H⟩
theorem b263_0 {x0 : Nat} {x1 : Int32} {x2 : Int32} {h : iH} {Q : Option Value → iH → Prop} (H : (i_obj? h x0 12 ∧ i_C i_MT i_AT L xs 254 [.ref x0, .int x1] h (fun v h1 => ∃ r2 : Int32, v = some (.int r2) ∧ i_P i_MT i_AT L xs 263 5 [some (.ref x0), some (.int x1), some (.int x2)] [.int r2] h1 0 0 Q))) : i_P i_MT i_AT L xs 263 0 [some (.ref x0), some (.int x1), some (.int x2)] [] h 0 0 Q := by
  have hk := i_k263
  refine g_s1 (pc2 := 1) hk rfl rfl rfl rfl rfl ?_
  refine g_s1 (pc2 := 2) hk rfl rfl rfl rfl rfl ?_
  obtain ⟨ho, H⟩ := H
  refine g_call hk rfl rfl i_k254.1 ⟨rfl, rfl⟩ rfl (i_rcv_v ho rfl (by decide)) rfl ?_
  exact H.mono (fun v h2 q => by obtain ⟨r, rfl, q⟩ := q; exact q)
theorem b263_5 {x0 : Nat} {x1 : Int32} {x2 : Int32} {s0 : Int32} {h : iH} {Q : Option Value → iH → Prop} (H : ((s0 = 0 → i_P i_MT i_AT L xs 263 32 [some (.ref x0), some (.int x1), some (.int x2)] [] h 0 0 Q) ∧ (¬ (s0 = 0) → ((x2 < 0 → i_P i_MT i_AT L xs 263 32 [some (.ref x0), some (.int x1), some (.int x2)] [] h 0 0 Q) ∧ (¬ (x2 < 0) → (((2 : Int32) < x2 → i_P i_MT i_AT L xs 263 32 [some (.ref x0), some (.int x1), some (.int x2)] [] h 0 0 Q) ∧ (¬ ((2 : Int32) < x2) → (i_obj? h x0 12 ∧ i_C i_MT i_AT L xs 256 [.ref x0, .int x1, .int ((2 : Int32) + x2)] h (fun v h1 => ∃ r2 : Int32, v = some (.int r2) ∧ i_P i_MT i_AT L xs 263 26 [some (.ref x0), some (.int x1), some (.int x2)] [.int r2, .ref x0] h1 0 0 Q))))))))) : i_P i_MT i_AT L xs 263 5 [some (.ref x0), some (.int x1), some (.int x2)] [.int s0] h 0 0 Q := by
  have hk := i_k263
  refine g_if_eq hk rfl (fun hc => ?_) (fun hc => ?_)
  · have H := H.1 hc
    exact H
  · have H := H.2 hc
    refine g_s1 (pc2 := 9) hk rfl rfl rfl rfl rfl ?_
    refine g_if_lt hk rfl (fun hc => ?_) (fun hc => ?_)
    · have H := H.1 hc
      exact H
    · have H := H.2 hc
      refine g_s1 (pc2 := 13) hk rfl rfl rfl rfl rfl ?_
      refine g_s1 (pc2 := 14) (st2 := [.int (2 : Int32), .int x2]) hk rfl rfl rfl rfl rfl ?_
      refine g_icmp_gt hk rfl (fun hc => ?_) (fun hc => ?_)
      · have H := H.1 hc
        exact H
      · have H := H.2 hc
        refine g_s1 (pc2 := 18) hk rfl rfl rfl rfl rfl ?_
        refine g_s1 (pc2 := 19) hk rfl rfl rfl rfl rfl ?_
        refine g_s1 (pc2 := 20) hk rfl rfl rfl rfl rfl ?_
        refine g_s1 (pc2 := 21) (st2 := [.int (2 : Int32), .int x1, .ref x0, .ref x0]) hk rfl rfl rfl rfl rfl ?_
        refine g_s1 (pc2 := 22) hk rfl rfl rfl rfl rfl ?_
        refine g_s1 (pc2 := 23) hk rfl rfl rfl rfl rfl ?_
        obtain ⟨ho, H⟩ := H
        refine g_call hk rfl rfl i_k256.1 ⟨rfl, rfl⟩ rfl (i_rcv_v ho rfl (by decide)) rfl ?_
        exact H.mono (fun v h2 q => by obtain ⟨r, rfl, q⟩ := q; exact q)
theorem b263_26 {x0 : Nat} {x1 : Int32} {x2 : Int32} {s0 : Nat} {s1 : Int32} {h : iH} {Q : Option Value → iH → Prop} (H : (i_obj? h s0 12 ∧ i_C i_MT i_AT L xs 202 [.ref s0, .int s1] h (fun v h1 => ∃ r2 : Int32, v = some (.int r2) ∧ i_P i_MT i_AT L xs 263 29 [some (.ref x0), some (.int x1), some (.int x2)] [.int r2] h1 0 0 Q))) : i_P i_MT i_AT L xs 263 26 [some (.ref x0), some (.int x1), some (.int x2)] [.int s1, .ref s0] h 0 0 Q := by
  have hk := i_k263
  obtain ⟨ho, H⟩ := H
  refine g_call hk rfl rfl i_k202.1 ⟨rfl, rfl⟩ rfl (i_rcv_v ho rfl (by decide)) rfl ?_
  exact H.mono (fun v h2 q => by obtain ⟨r, rfl, q⟩ := q; exact q)
theorem b263_29 {x0 : Nat} {x1 : Int32} {x2 : Int32} {s0 : Int32} {h : iH} {Q : Option Value → iH → Prop} (H : i_P i_MT i_AT L xs 263 37 [some (.ref x0), some (.int x1), some (.int x2)] [.int s0] h 0 0 Q) : i_P i_MT i_AT L xs 263 29 [some (.ref x0), some (.int x1), some (.int x2)] [.int s0] h 0 0 Q := by
  have hk := i_k263
  refine g_s1 (pc2 := 37) hk rfl rfl rfl rfl rfl ?_
  exact H
theorem b263_32 {x0 : Nat} {x1 : Int32} {x2 : Int32} {h : iH} {Q : Option Value → iH → Prop} (H : (i_obj? h x0 12 ∧ i_C i_MT i_AT L xs 201 [.ref x0, .int (1 : Int32)] h (fun v h1 => ∃ r2 : Int32, v = some (.int r2) ∧ i_P i_MT i_AT L xs 263 37 [some (.ref x0), some (.int x1), some (.int x2)] [.int r2] h1 0 0 Q))) : i_P i_MT i_AT L xs 263 32 [some (.ref x0), some (.int x1), some (.int x2)] [] h 0 0 Q := by
  have hk := i_k263
  refine g_s1 (pc2 := 33) hk rfl rfl rfl rfl rfl ?_
  refine g_s1 (pc2 := 34) (st2 := [.int (1 : Int32), .ref x0]) hk rfl rfl rfl rfl rfl ?_
  obtain ⟨ho, H⟩ := H
  refine g_call hk rfl rfl i_k201.1 ⟨rfl, rfl⟩ rfl (i_rcv_v ho rfl (by decide)) rfl ?_
  exact H.mono (fun v h2 q => by obtain ⟨r, rfl, q⟩ := q; exact q)
theorem b263_37 {x0 : Nat} {x1 : Int32} {x2 : Int32} {s0 : Int32} {h : iH} {Q : Option Value → iH → Prop} (H : Q (some (.int s0)) h) : i_P i_MT i_AT L xs 263 37 [some (.ref x0), some (.int x1), some (.int x2)] [.int s0] h 0 0 Q := by
  have hk := i_k263
  exact g_ireturn hk rfl (by decide) (by decide) rfl H
/-! StillTownModel.at(II)I -/
theorem e264 {x0 : Nat} {x1 : Int32} {x2 : Int32} {h : iH} {Q : Option Value → iH → Prop} (H : i_P i_MT i_AT L xs 264 0 [some (.ref x0), some (.int x1), some (.int x2)] [] h 0 0 Q) : i_C i_MT i_AT L xs 264 [.ref x0, .int x1, .int x2] h Q := ⟨i_m264, i_k264.1, Nat.le_of_ble_eq_true rfl, H⟩
theorem b264_0 {x0 : Nat} {x1 : Int32} {x2 : Int32} {h : iH} {Q : Option Value → iH → Prop} (H : (i_obj? h x0 12 ∧ i_C i_MT i_AT L xs 254 [.ref x0, .int x1] h (fun v h1 => ∃ r2 : Int32, v = some (.int r2) ∧ i_P i_MT i_AT L xs 264 5 [some (.ref x0), some (.int x1), some (.int x2)] [.int r2] h1 0 0 Q))) : i_P i_MT i_AT L xs 264 0 [some (.ref x0), some (.int x1), some (.int x2)] [] h 0 0 Q := by
  have hk := i_k264
  refine g_s1 (pc2 := 1) hk rfl rfl rfl rfl rfl ?_
  refine g_s1 (pc2 := 2) hk rfl rfl rfl rfl rfl ?_
  obtain ⟨ho, H⟩ := H
  refine g_call hk rfl rfl i_k254.1 ⟨rfl, rfl⟩ rfl (i_rcv_v ho rfl (by decide)) rfl ?_
  exact H.mono (fun v h2 q => by obtain ⟨r, rfl, q⟩ := q; exact q)
theorem b264_5 {x0 : Nat} {x1 : Int32} {x2 : Int32} {s0 : Int32} {h : iH} {Q : Option Value → iH → Prop} (H : ((s0 = 0 → i_P i_MT i_AT L xs 264 33 [some (.ref x0), some (.int x1), some (.int x2)] [] h 0 0 Q) ∧ (¬ (s0 = 0) → (i_C i_MT i_AT L xs 255 [.int x2] h (fun v h1 => ∃ r2 : Int32, v = some (.int r2) ∧ i_P i_MT i_AT L xs 264 12 [some (.ref x0), some (.int x1), some (.int x2)] [.int r2] h1 0 0 Q))))) : i_P i_MT i_AT L xs 264 5 [some (.ref x0), some (.int x1), some (.int x2)] [.int s0] h 0 0 Q := by
  have hk := i_k264
  refine g_if_eq hk rfl (fun hc => ?_) (fun hc => ?_)
  · have H := H.1 hc
    exact H
  · have H := H.2 hc
    refine g_s1 (pc2 := 9) hk rfl rfl rfl rfl rfl ?_
    refine g_call hk rfl rfl i_k255.1 ⟨rfl, rfl⟩ rfl (i_rcv_0 rfl) rfl ?_
    exact H.mono (fun v h2 q => by obtain ⟨r, rfl, q⟩ := q; exact q)
theorem b264_12 {x0 : Nat} {x1 : Int32} {x2 : Int32} {s0 : Int32} {h : iH} {Q : Option Value → iH → Prop} (H : ((s0 = 0 → i_P i_MT i_AT L xs 264 33 [some (.ref x0), some (.int x1), some (.int x2)] [] h 0 0 Q) ∧ (¬ (s0 = 0) → (∃ v1 : Nat, i_fld h x0 12 29 = some (.ref v1) ∧ (∃ (n2 : Nat) (f3 : Nat → Int32), i_arI h 0 v1 = some (n2, f3) ∧ ¬ ((((61 : Int32) * x1) + x2) < 0 ∨ n2 ≤ (((61 : Int32) * x1) + x2).toNatClampNeg) ∧ (i_obj? h x0 12 ∧ i_C i_MT i_AT L xs 202 [.ref x0, .int (f3 (((61 : Int32) * x1) + x2).toNatClampNeg)] h (fun v h4 => ∃ r5 : Int32, v = some (.int r5) ∧ i_P i_MT i_AT L xs 264 30 [some (.ref x0), some (.int x1), some (.int x2)] [.int r5] h4 0 0 Q))))))) : i_P i_MT i_AT L xs 264 12 [some (.ref x0), some (.int x1), some (.int x2)] [.int s0] h 0 0 Q := by
  have hk := i_k264
  refine g_if_eq hk rfl (fun hc => ?_) (fun hc => ?_)
  · have H := H.1 hc
    exact H
  · have H := H.2 hc
    refine g_s1 (pc2 := 16) hk rfl rfl rfl rfl rfl ?_
    refine g_s1 (pc2 := 17) hk rfl rfl rfl rfl rfl ?_
    obtain ⟨v1, ev1, H⟩ := H
    refine g_step (pc2 := 20) hk rfl rfl rfl (s_get ev1) ?_
    refine g_s1 (pc2 := 22) (st2 := [.int (61 : Int32), .ref v1, .ref x0]) hk rfl rfl rfl rfl rfl ?_
    refine g_s1 (pc2 := 23) hk rfl rfl rfl rfl rfl ?_
    refine g_s1 (pc2 := 24) hk rfl rfl rfl rfl rfl ?_
    refine g_s1 (pc2 := 25) hk rfl rfl rfl rfl rfl ?_
    refine g_s1 (pc2 := 26) hk rfl rfl rfl rfl rfl ?_
    obtain ⟨n2, f3, ef3, hi, H⟩ := H
    refine g_step (pc2 := 27) hk rfl rfl rfl (s_aget (L := L) (xs := xs) ef3 hi) ?_
    obtain ⟨ho, H⟩ := H
    refine g_call hk rfl rfl i_k202.1 ⟨rfl, rfl⟩ rfl (i_rcv_v ho rfl (by decide)) rfl ?_
    exact H.mono (fun v h2 q => by obtain ⟨r, rfl, q⟩ := q; exact q)
theorem b264_30 {x0 : Nat} {x1 : Int32} {x2 : Int32} {s0 : Int32} {h : iH} {Q : Option Value → iH → Prop} (H : i_P i_MT i_AT L xs 264 38 [some (.ref x0), some (.int x1), some (.int x2)] [.int s0] h 0 0 Q) : i_P i_MT i_AT L xs 264 30 [some (.ref x0), some (.int x1), some (.int x2)] [.int s0] h 0 0 Q := by
  have hk := i_k264
  refine g_s1 (pc2 := 38) hk rfl rfl rfl rfl rfl ?_
  exact H
theorem b264_33 {x0 : Nat} {x1 : Int32} {x2 : Int32} {h : iH} {Q : Option Value → iH → Prop} (H : (i_obj? h x0 12 ∧ i_C i_MT i_AT L xs 201 [.ref x0, .int (1 : Int32)] h (fun v h1 => ∃ r2 : Int32, v = some (.int r2) ∧ i_P i_MT i_AT L xs 264 38 [some (.ref x0), some (.int x1), some (.int x2)] [.int r2] h1 0 0 Q))) : i_P i_MT i_AT L xs 264 33 [some (.ref x0), some (.int x1), some (.int x2)] [] h 0 0 Q := by
  have hk := i_k264
  refine g_s1 (pc2 := 34) hk rfl rfl rfl rfl rfl ?_
  refine g_s1 (pc2 := 35) (st2 := [.int (1 : Int32), .ref x0]) hk rfl rfl rfl rfl rfl ?_
  obtain ⟨ho, H⟩ := H
  refine g_call hk rfl rfl i_k201.1 ⟨rfl, rfl⟩ rfl (i_rcv_v ho rfl (by decide)) rfl ?_
  exact H.mono (fun v h2 q => by obtain ⟨r, rfl, q⟩ := q; exact q)
theorem b264_38 {x0 : Nat} {x1 : Int32} {x2 : Int32} {s0 : Int32} {h : iH} {Q : Option Value → iH → Prop} (H : Q (some (.int s0)) h) : i_P i_MT i_AT L xs 264 38 [some (.ref x0), some (.int x1), some (.int x2)] [.int s0] h 0 0 Q := by
  have hk := i_k264
  exact g_ireturn hk rfl (by decide) (by decide) rfl H
/-! StillTownModel.looks(II)I -/
theorem e265 {x0 : Nat} {x1 : Int32} {x2 : Int32} {h : iH} {Q : Option Value → iH → Prop} (H : i_P i_MT i_AT L xs 265 0 [some (.ref x0), some (.int x1), some (.int x2)] [] h 0 0 Q) : i_C i_MT i_AT L xs 265 [.ref x0, .int x1, .int x2] h Q := ⟨i_m265, i_k265.1, Nat.le_of_ble_eq_true rfl, H⟩
theorem b265_0 {x0 : Nat} {x1 : Int32} {x2 : Int32} {h : iH} {Q : Option Value → iH → Prop} (H : (i_obj? h x0 12 ∧ i_C i_MT i_AT L xs 254 [.ref x0, .int x1] h (fun v h1 => ∃ r2 : Int32, v = some (.int r2) ∧ i_P i_MT i_AT L xs 265 5 [some (.ref x0), some (.int x1), some (.int x2)] [.int r2] h1 0 0 Q))) : i_P i_MT i_AT L xs 265 0 [some (.ref x0), some (.int x1), some (.int x2)] [] h 0 0 Q := by
  have hk := i_k265
  refine g_s1 (pc2 := 1) hk rfl rfl rfl rfl rfl ?_
  refine g_s1 (pc2 := 2) hk rfl rfl rfl rfl rfl ?_
  obtain ⟨ho, H⟩ := H
  refine g_call hk rfl rfl i_k254.1 ⟨rfl, rfl⟩ rfl (i_rcv_v ho rfl (by decide)) rfl ?_
  exact H.mono (fun v h2 q => by obtain ⟨r, rfl, q⟩ := q; exact q)
theorem b265_5 {x0 : Nat} {x1 : Int32} {x2 : Int32} {s0 : Int32} {h : iH} {Q : Option Value → iH → Prop} (H : ((s0 = 0 → i_P i_MT i_AT L xs 265 33 [some (.ref x0), some (.int x1), some (.int x2)] [] h 0 0 Q) ∧ (¬ (s0 = 0) → (i_C i_MT i_AT L xs 255 [.int x2] h (fun v h1 => ∃ r2 : Int32, v = some (.int r2) ∧ i_P i_MT i_AT L xs 265 12 [some (.ref x0), some (.int x1), some (.int x2)] [.int r2] h1 0 0 Q))))) : i_P i_MT i_AT L xs 265 5 [some (.ref x0), some (.int x1), some (.int x2)] [.int s0] h 0 0 Q := by
  have hk := i_k265
  refine g_if_eq hk rfl (fun hc => ?_) (fun hc => ?_)
  · have H := H.1 hc
    exact H
  · have H := H.2 hc
    refine g_s1 (pc2 := 9) hk rfl rfl rfl rfl rfl ?_
    refine g_call hk rfl rfl i_k255.1 ⟨rfl, rfl⟩ rfl (i_rcv_0 rfl) rfl ?_
    exact H.mono (fun v h2 q => by obtain ⟨r, rfl, q⟩ := q; exact q)
theorem b265_12 {x0 : Nat} {x1 : Int32} {x2 : Int32} {s0 : Int32} {h : iH} {Q : Option Value → iH → Prop} (H : ((s0 = 0 → i_P i_MT i_AT L xs 265 33 [some (.ref x0), some (.int x1), some (.int x2)] [] h 0 0 Q) ∧ (¬ (s0 = 0) → (∃ v1 : Nat, i_fld h x0 12 30 = some (.ref v1) ∧ (∃ (n2 : Nat) (f3 : Nat → Int32), i_arI h 0 v1 = some (n2, f3) ∧ ¬ ((((61 : Int32) * x1) + x2) < 0 ∨ n2 ≤ (((61 : Int32) * x1) + x2).toNatClampNeg) ∧ (i_obj? h x0 12 ∧ i_C i_MT i_AT L xs 202 [.ref x0, .int (f3 (((61 : Int32) * x1) + x2).toNatClampNeg)] h (fun v h4 => ∃ r5 : Int32, v = some (.int r5) ∧ i_P i_MT i_AT L xs 265 30 [some (.ref x0), some (.int x1), some (.int x2)] [.int r5] h4 0 0 Q))))))) : i_P i_MT i_AT L xs 265 12 [some (.ref x0), some (.int x1), some (.int x2)] [.int s0] h 0 0 Q := by
  have hk := i_k265
  refine g_if_eq hk rfl (fun hc => ?_) (fun hc => ?_)
  · have H := H.1 hc
    exact H
  · have H := H.2 hc
    refine g_s1 (pc2 := 16) hk rfl rfl rfl rfl rfl ?_
    refine g_s1 (pc2 := 17) hk rfl rfl rfl rfl rfl ?_
    obtain ⟨v1, ev1, H⟩ := H
    refine g_step (pc2 := 20) hk rfl rfl rfl (s_get ev1) ?_
    refine g_s1 (pc2 := 22) (st2 := [.int (61 : Int32), .ref v1, .ref x0]) hk rfl rfl rfl rfl rfl ?_
    refine g_s1 (pc2 := 23) hk rfl rfl rfl rfl rfl ?_
    refine g_s1 (pc2 := 24) hk rfl rfl rfl rfl rfl ?_
    refine g_s1 (pc2 := 25) hk rfl rfl rfl rfl rfl ?_
    refine g_s1 (pc2 := 26) hk rfl rfl rfl rfl rfl ?_
    obtain ⟨n2, f3, ef3, hi, H⟩ := H
    refine g_step (pc2 := 27) hk rfl rfl rfl (s_aget (L := L) (xs := xs) ef3 hi) ?_
    obtain ⟨ho, H⟩ := H
    refine g_call hk rfl rfl i_k202.1 ⟨rfl, rfl⟩ rfl (i_rcv_v ho rfl (by decide)) rfl ?_
    exact H.mono (fun v h2 q => by obtain ⟨r, rfl, q⟩ := q; exact q)
theorem b265_30 {x0 : Nat} {x1 : Int32} {x2 : Int32} {s0 : Int32} {h : iH} {Q : Option Value → iH → Prop} (H : i_P i_MT i_AT L xs 265 38 [some (.ref x0), some (.int x1), some (.int x2)] [.int s0] h 0 0 Q) : i_P i_MT i_AT L xs 265 30 [some (.ref x0), some (.int x1), some (.int x2)] [.int s0] h 0 0 Q := by
  have hk := i_k265
  refine g_s1 (pc2 := 38) hk rfl rfl rfl rfl rfl ?_
  exact H
theorem b265_33 {x0 : Nat} {x1 : Int32} {x2 : Int32} {h : iH} {Q : Option Value → iH → Prop} (H : (i_obj? h x0 12 ∧ i_C i_MT i_AT L xs 201 [.ref x0, .int (1 : Int32)] h (fun v h1 => ∃ r2 : Int32, v = some (.int r2) ∧ i_P i_MT i_AT L xs 265 38 [some (.ref x0), some (.int x1), some (.int x2)] [.int r2] h1 0 0 Q))) : i_P i_MT i_AT L xs 265 33 [some (.ref x0), some (.int x1), some (.int x2)] [] h 0 0 Q := by
  have hk := i_k265
  refine g_s1 (pc2 := 34) hk rfl rfl rfl rfl rfl ?_
  refine g_s1 (pc2 := 35) (st2 := [.int (1 : Int32), .ref x0]) hk rfl rfl rfl rfl rfl ?_
  obtain ⟨ho, H⟩ := H
  refine g_call hk rfl rfl i_k201.1 ⟨rfl, rfl⟩ rfl (i_rcv_v ho rfl (by decide)) rfl ?_
  exact H.mono (fun v h2 q => by obtain ⟨r, rfl, q⟩ := q; exact q)
theorem b265_38 {x0 : Nat} {x1 : Int32} {x2 : Int32} {s0 : Int32} {h : iH} {Q : Option Value → iH → Prop} (H : Q (some (.int s0)) h) : i_P i_MT i_AT L xs 265 38 [some (.ref x0), some (.int x1), some (.int x2)] [.int s0] h 0 0 Q := by
  have hk := i_k265
  exact g_ireturn hk rfl (by decide) (by decide) rfl H
/-! StillTownModel.did(II)I -/
theorem e266 {x0 : Nat} {x1 : Int32} {x2 : Int32} {h : iH} {Q : Option Value → iH → Prop} (H : i_P i_MT i_AT L xs 266 0 [some (.ref x0), some (.int x1), some (.int x2)] [] h 0 0 Q) : i_C i_MT i_AT L xs 266 [.ref x0, .int x1, .int x2] h Q := ⟨i_m266, i_k266.1, Nat.le_of_ble_eq_true rfl, H⟩
theorem b266_0 {x0 : Nat} {x1 : Int32} {x2 : Int32} {h : iH} {Q : Option Value → iH → Prop} (H : (i_obj? h x0 12 ∧ i_C i_MT i_AT L xs 254 [.ref x0, .int x1] h (fun v h1 => ∃ r2 : Int32, v = some (.int r2) ∧ i_P i_MT i_AT L xs 266 5 [some (.ref x0), some (.int x1), some (.int x2)] [.int r2] h1 0 0 Q))) : i_P i_MT i_AT L xs 266 0 [some (.ref x0), some (.int x1), some (.int x2)] [] h 0 0 Q := by
  have hk := i_k266
  refine g_s1 (pc2 := 1) hk rfl rfl rfl rfl rfl ?_
  refine g_s1 (pc2 := 2) hk rfl rfl rfl rfl rfl ?_
  obtain ⟨ho, H⟩ := H
  refine g_call hk rfl rfl i_k254.1 ⟨rfl, rfl⟩ rfl (i_rcv_v ho rfl (by decide)) rfl ?_
  exact H.mono (fun v h2 q => by obtain ⟨r, rfl, q⟩ := q; exact q)
theorem b266_5 {x0 : Nat} {x1 : Int32} {x2 : Int32} {s0 : Int32} {h : iH} {Q : Option Value → iH → Prop} (H : ((s0 = 0 → i_P i_MT i_AT L xs 266 37 [some (.ref x0), some (.int x1), some (.int x2)] [] h 0 0 Q) ∧ (¬ (s0 = 0) → (i_C i_MT i_AT L xs 255 [.int x2] h (fun v h1 => ∃ r2 : Int32, v = some (.int r2) ∧ i_P i_MT i_AT L xs 266 12 [some (.ref x0), some (.int x1), some (.int x2)] [.int r2] h1 0 0 Q))))) : i_P i_MT i_AT L xs 266 5 [some (.ref x0), some (.int x1), some (.int x2)] [.int s0] h 0 0 Q := by
  have hk := i_k266
  refine g_if_eq hk rfl (fun hc => ?_) (fun hc => ?_)
  · have H := H.1 hc
    exact H
  · have H := H.2 hc
    refine g_s1 (pc2 := 9) hk rfl rfl rfl rfl rfl ?_
    refine g_call hk rfl rfl i_k255.1 ⟨rfl, rfl⟩ rfl (i_rcv_0 rfl) rfl ?_
    exact H.mono (fun v h2 q => by obtain ⟨r, rfl, q⟩ := q; exact q)
theorem b266_12 {x0 : Nat} {x1 : Int32} {x2 : Int32} {s0 : Int32} {h : iH} {Q : Option Value → iH → Prop} (H : ((s0 = 0 → i_P i_MT i_AT L xs 266 37 [some (.ref x0), some (.int x1), some (.int x2)] [] h 0 0 Q) ∧ (¬ (s0 = 0) → ((x2 ≤ 0 → i_P i_MT i_AT L xs 266 37 [some (.ref x0), some (.int x1), some (.int x2)] [] h 0 0 Q) ∧ (¬ (x2 ≤ 0) → (∃ v1 : Nat, i_fld h x0 12 31 = some (.ref v1) ∧ (∃ (n2 : Nat) (f3 : Nat → Int32), i_arI h 0 v1 = some (n2, f3) ∧ ¬ ((((61 : Int32) * x1) + x2) < 0 ∨ n2 ≤ (((61 : Int32) * x1) + x2).toNatClampNeg) ∧ (i_obj? h x0 12 ∧ i_C i_MT i_AT L xs 202 [.ref x0, .int (f3 (((61 : Int32) * x1) + x2).toNatClampNeg)] h (fun v h4 => ∃ r5 : Int32, v = some (.int r5) ∧ i_P i_MT i_AT L xs 266 34 [some (.ref x0), some (.int x1), some (.int x2)] [.int r5] h4 0 0 Q))))))))) : i_P i_MT i_AT L xs 266 12 [some (.ref x0), some (.int x1), some (.int x2)] [.int s0] h 0 0 Q := by
  have hk := i_k266
  refine g_if_eq hk rfl (fun hc => ?_) (fun hc => ?_)
  · have H := H.1 hc
    exact H
  · have H := H.2 hc
    refine g_s1 (pc2 := 16) hk rfl rfl rfl rfl rfl ?_
    refine g_if_le hk rfl (fun hc => ?_) (fun hc => ?_)
    · have H := H.1 hc
      exact H
    · have H := H.2 hc
      refine g_s1 (pc2 := 20) hk rfl rfl rfl rfl rfl ?_
      refine g_s1 (pc2 := 21) hk rfl rfl rfl rfl rfl ?_
      obtain ⟨v1, ev1, H⟩ := H
      refine g_step (pc2 := 24) hk rfl rfl rfl (s_get ev1) ?_
      refine g_s1 (pc2 := 26) (st2 := [.int (61 : Int32), .ref v1, .ref x0]) hk rfl rfl rfl rfl rfl ?_
      refine g_s1 (pc2 := 27) hk rfl rfl rfl rfl rfl ?_
      refine g_s1 (pc2 := 28) hk rfl rfl rfl rfl rfl ?_
      refine g_s1 (pc2 := 29) hk rfl rfl rfl rfl rfl ?_
      refine g_s1 (pc2 := 30) hk rfl rfl rfl rfl rfl ?_
      obtain ⟨n2, f3, ef3, hi, H⟩ := H
      refine g_step (pc2 := 31) hk rfl rfl rfl (s_aget (L := L) (xs := xs) ef3 hi) ?_
      obtain ⟨ho, H⟩ := H
      refine g_call hk rfl rfl i_k202.1 ⟨rfl, rfl⟩ rfl (i_rcv_v ho rfl (by decide)) rfl ?_
      exact H.mono (fun v h2 q => by obtain ⟨r, rfl, q⟩ := q; exact q)
theorem b266_34 {x0 : Nat} {x1 : Int32} {x2 : Int32} {s0 : Int32} {h : iH} {Q : Option Value → iH → Prop} (H : i_P i_MT i_AT L xs 266 42 [some (.ref x0), some (.int x1), some (.int x2)] [.int s0] h 0 0 Q) : i_P i_MT i_AT L xs 266 34 [some (.ref x0), some (.int x1), some (.int x2)] [.int s0] h 0 0 Q := by
  have hk := i_k266
  refine g_s1 (pc2 := 42) hk rfl rfl rfl rfl rfl ?_
  exact H
theorem b266_37 {x0 : Nat} {x1 : Int32} {x2 : Int32} {h : iH} {Q : Option Value → iH → Prop} (H : (i_obj? h x0 12 ∧ i_C i_MT i_AT L xs 201 [.ref x0, .int (1 : Int32)] h (fun v h1 => ∃ r2 : Int32, v = some (.int r2) ∧ i_P i_MT i_AT L xs 266 42 [some (.ref x0), some (.int x1), some (.int x2)] [.int r2] h1 0 0 Q))) : i_P i_MT i_AT L xs 266 37 [some (.ref x0), some (.int x1), some (.int x2)] [] h 0 0 Q := by
  have hk := i_k266
  refine g_s1 (pc2 := 38) hk rfl rfl rfl rfl rfl ?_
  refine g_s1 (pc2 := 39) (st2 := [.int (1 : Int32), .ref x0]) hk rfl rfl rfl rfl rfl ?_
  obtain ⟨ho, H⟩ := H
  refine g_call hk rfl rfl i_k201.1 ⟨rfl, rfl⟩ rfl (i_rcv_v ho rfl (by decide)) rfl ?_
  exact H.mono (fun v h2 q => by obtain ⟨r, rfl, q⟩ := q; exact q)
theorem b266_42 {x0 : Nat} {x1 : Int32} {x2 : Int32} {s0 : Int32} {h : iH} {Q : Option Value → iH → Prop} (H : Q (some (.int s0)) h) : i_P i_MT i_AT L xs 266 42 [some (.ref x0), some (.int x1), some (.int x2)] [.int s0] h 0 0 Q := by
  have hk := i_k266
  exact g_ireturn hk rfl (by decide) (by decide) rfl H
/-! StillTownModel.nearest(II)I -/
theorem e267 {x0 : Int32} {x1 : Int32} {h : iH} {Q : Option Value → iH → Prop} (H : i_P i_MT i_AT L xs 267 0 [some (.int x0), some (.int x1), none] [] h 0 0 Q) : i_C i_MT i_AT L xs 267 [.int x0, .int x1] h Q := ⟨i_m267, i_k267.1, Nat.le_of_ble_eq_true rfl, H⟩
theorem b267_0 {x0 : Int32} {x1 : Int32} {x2 : Option Value} {h : iH} {Q : Option Value → iH → Prop} (H : (((((2 : Int32) * x0) + x1) < 0 → (¬ ((2 : Int32) * x1) = 0 ∧ i_P i_MT i_AT L xs 267 30 [some (.int x0), some (.int x1), some (.int (((2 : Int32) * x0) + x1))] [.int (-(((((2 : Int32) * x1) - (1 : Int32)) - (((2 : Int32) * x0) + x1)) / ((2 : Int32) * x1)))] h 0 0 Q)) ∧ (¬ ((((2 : Int32) * x0) + x1) < 0) → (¬ ((2 : Int32) * x1) = 0 ∧ i_P i_MT i_AT L xs 267 30 [some (.int x0), some (.int x1), some (.int (((2 : Int32) * x0) + x1))] [.int ((((2 : Int32) * x0) + x1) / ((2 : Int32) * x1))] h 0 0 Q)))) : i_P i_MT i_AT L xs 267 0 [some (.int x0), some (.int x1), x2] [] h 0 0 Q := by
  have hk := i_k267
  refine g_s1 (pc2 := 1) (st2 := [.int (2 : Int32)]) hk rfl rfl rfl rfl rfl ?_
  refine g_s1 (pc2 := 2) hk rfl rfl rfl rfl rfl ?_
  refine g_s1 (pc2 := 3) hk rfl rfl rfl rfl rfl ?_
  refine g_s1 (pc2 := 4) hk rfl rfl rfl rfl rfl ?_
  refine g_s1 (pc2 := 5) hk rfl rfl rfl rfl rfl ?_
  refine g_s1 (pc2 := 6) (lo2 := [some (.int x0), some (.int x1), some (.int (((2 : Int32) * x0) + x1))]) hk rfl rfl rfl rfl rfl ?_
  refine g_s1 (pc2 := 7) hk rfl rfl rfl rfl rfl ?_
  refine g_if_lt hk rfl (fun hc => ?_) (fun hc => ?_)
  · have H := H.1 hc
    refine g_s1 (pc2 := 19) (st2 := [.int (2 : Int32)]) hk rfl rfl rfl rfl rfl ?_
    refine g_s1 (pc2 := 20) hk rfl rfl rfl rfl rfl ?_
    refine g_s1 (pc2 := 21) hk rfl rfl rfl rfl rfl ?_
    refine g_s1 (pc2 := 22) (st2 := [.int (1 : Int32), .int ((2 : Int32) * x1)]) hk rfl rfl rfl rfl rfl ?_
    refine g_s1 (pc2 := 23) hk rfl rfl rfl rfl rfl ?_
    refine g_s1 (pc2 := 24) hk rfl rfl rfl rfl rfl ?_
    refine g_s1 (pc2 := 25) hk rfl rfl rfl rfl rfl ?_
    refine g_s1 (pc2 := 26) (st2 := [.int (2 : Int32), .int ((((2 : Int32) * x1) - (1 : Int32)) - (((2 : Int32) * x0) + x1))]) hk rfl rfl rfl rfl rfl ?_
    refine g_s1 (pc2 := 27) hk rfl rfl rfl rfl rfl ?_
    refine g_s1 (pc2 := 28) hk rfl rfl rfl rfl rfl ?_
    obtain ⟨hz, H⟩ := H
    refine g_s1 (pc2 := 29) hk rfl rfl rfl rfl (s_if hz) ?_
    refine g_s1 (pc2 := 30) hk rfl rfl rfl rfl rfl ?_
    exact H
  · have H := H.2 hc
    refine g_s1 (pc2 := 11) hk rfl rfl rfl rfl rfl ?_
    refine g_s1 (pc2 := 12) (st2 := [.int (2 : Int32), .int (((2 : Int32) * x0) + x1)]) hk rfl rfl rfl rfl rfl ?_
    refine g_s1 (pc2 := 13) hk rfl rfl rfl rfl rfl ?_
    refine g_s1 (pc2 := 14) hk rfl rfl rfl rfl rfl ?_
    obtain ⟨hz, H⟩ := H
    refine g_s1 (pc2 := 15) hk rfl rfl rfl rfl (s_if hz) ?_
    refine g_s1 (pc2 := 30) hk rfl rfl rfl rfl rfl ?_
    exact H
theorem b267_30 {x0 : Int32} {x1 : Int32} {x2 : Int32} {s0 : Int32} {h : iH} {Q : Option Value → iH → Prop} (H : Q (some (.int s0)) h) : i_P i_MT i_AT L xs 267 30 [some (.int x0), some (.int x1), some (.int x2)] [.int s0] h 0 0 Q := by
  have hk := i_k267
  exact g_ireturn hk rfl (by decide) (by decide) rfl H
/-! StillTownModel.far(II)I -/
theorem e268 {x0 : Nat} {x1 : Int32} {x2 : Int32} {h : iH} {Q : Option Value → iH → Prop} (H : i_P i_MT i_AT L xs 268 0 [some (.ref x0), some (.int x1), some (.int x2)] [] h 0 0 Q) : i_C i_MT i_AT L xs 268 [.ref x0, .int x1, .int x2] h Q := ⟨i_m268, i_k268.1, Nat.le_of_ble_eq_true rfl, H⟩
theorem b268_0 {x0 : Nat} {x1 : Int32} {x2 : Int32} {h : iH} {Q : Option Value → iH → Prop} (H : (∃ v1 : Nat, i_fld h x0 12 0 = some (.ref v1) ∧ (∃ (n2 : Nat) (f3 : Nat → Int32), i_arI h 0 v1 = some (n2, f3) ∧ ¬ ((0 : Int32) < 0 ∨ n2 ≤ (0 : Int32).toNatClampNeg) ∧ (¬ (f3 (0 : Int32).toNatClampNeg) = 0 ∧ (∃ v4 : Nat, i_fld h x0 12 0 = some (.ref v4) ∧ (∃ (n5 : Nat) (f6 : Nat → Int32), i_arI h 0 v4 = some (n5, f6) ∧ ¬ ((0 : Int32) < 0 ∨ n5 ≤ (0 : Int32).toNatClampNeg) ∧ (¬ (f6 (0 : Int32).toNatClampNeg) = 0 ∧ (i_C i_MT i_AT L xs 335 [.int ((x1 - x1 / (f3 (0 : Int32).toNatClampNeg) * (f3 (0 : Int32).toNatClampNeg)) - (x2 - x2 / (f6 (0 : Int32).toNatClampNeg) * (f6 (0 : Int32).toNatClampNeg)))] h (fun v h7 => ∃ r8 : Int32, v = some (.int r8) ∧ i_P i_MT i_AT L xs 268 20 [some (.ref x0), some (.int x1), some (.int x2)] [.int r8] h7 0 0 Q))))))))) : i_P i_MT i_AT L xs 268 0 [some (.ref x0), some (.int x1), some (.int x2)] [] h 0 0 Q := by
  have hk := i_k268
  refine g_s1 (pc2 := 1) hk rfl rfl rfl rfl rfl ?_
  refine g_s1 (pc2 := 2) hk rfl rfl rfl rfl rfl ?_
  obtain ⟨v1, ev1, H⟩ := H
  refine g_step (pc2 := 5) hk rfl rfl rfl (s_get ev1) ?_
  refine g_s1 (pc2 := 6) (st2 := [.int (0 : Int32), .ref v1, .int x1]) hk rfl rfl rfl rfl rfl ?_
  obtain ⟨n2, f3, ef3, hi, H⟩ := H
  refine g_step (pc2 := 7) hk rfl rfl rfl (s_aget (L := L) (xs := xs) ef3 hi) ?_
  obtain ⟨hz, H⟩ := H
  refine g_s1 (pc2 := 8) hk rfl rfl rfl rfl (s_if hz) ?_
  refine g_s1 (pc2 := 9) hk rfl rfl rfl rfl rfl ?_
  refine g_s1 (pc2 := 10) hk rfl rfl rfl rfl rfl ?_
  obtain ⟨v4, ev4, H⟩ := H
  refine g_step (pc2 := 13) hk rfl rfl rfl (s_get ev4) ?_
  refine g_s1 (pc2 := 14) (st2 := [.int (0 : Int32), .ref v4, .int x2, .int (x1 - x1 / (f3 (0 : Int32).toNatClampNeg) * (f3 (0 : Int32).toNatClampNeg))]) hk rfl rfl rfl rfl rfl ?_
  obtain ⟨n5, f6, ef6, hi, H⟩ := H
  refine g_step (pc2 := 15) hk rfl rfl rfl (s_aget (L := L) (xs := xs) ef6 hi) ?_
  obtain ⟨hz, H⟩ := H
  refine g_s1 (pc2 := 16) hk rfl rfl rfl rfl (s_if hz) ?_
  refine g_s1 (pc2 := 17) hk rfl rfl rfl rfl rfl ?_
  refine g_call hk rfl rfl i_k335.1 ⟨rfl, rfl⟩ rfl (i_rcv_0 rfl) rfl ?_
  exact H.mono (fun v h2 q => by obtain ⟨r, rfl, q⟩ := q; exact q)
theorem b268_20 {x0 : Nat} {x1 : Int32} {x2 : Int32} {s0 : Int32} {h : iH} {Q : Option Value → iH → Prop} (H : (∃ v1 : Nat, i_fld h x0 12 0 = some (.ref v1) ∧ (∃ (n2 : Nat) (f3 : Nat → Int32), i_arI h 0 v1 = some (n2, f3) ∧ ¬ ((0 : Int32) < 0 ∨ n2 ≤ (0 : Int32).toNatClampNeg) ∧ (¬ (f3 (0 : Int32).toNatClampNeg) = 0 ∧ (∃ v4 : Nat, i_fld h x0 12 0 = some (.ref v4) ∧ (∃ (n5 : Nat) (f6 : Nat → Int32), i_arI h 0 v4 = some (n5, f6) ∧ ¬ ((0 : Int32) < 0 ∨ n5 ≤ (0 : Int32).toNatClampNeg) ∧ (¬ (f6 (0 : Int32).toNatClampNeg) = 0 ∧ (i_C i_MT i_AT L xs 335 [.int ((x1 / (f3 (0 : Int32).toNatClampNeg)) - (x2 / (f6 (0 : Int32).toNatClampNeg)))] h (fun v h7 => ∃ r8 : Int32, v = some (.int r8) ∧ i_P i_MT i_AT L xs 268 40 [some (.ref x0), some (.int x1), some (.int x2)] [.int r8, .int s0] h7 0 0 Q))))))))) : i_P i_MT i_AT L xs 268 20 [some (.ref x0), some (.int x1), some (.int x2)] [.int s0] h 0 0 Q := by
  have hk := i_k268
  refine g_s1 (pc2 := 21) hk rfl rfl rfl rfl rfl ?_
  refine g_s1 (pc2 := 22) hk rfl rfl rfl rfl rfl ?_
  obtain ⟨v1, ev1, H⟩ := H
  refine g_step (pc2 := 25) hk rfl rfl rfl (s_get ev1) ?_
  refine g_s1 (pc2 := 26) (st2 := [.int (0 : Int32), .ref v1, .int x1, .int s0]) hk rfl rfl rfl rfl rfl ?_
  obtain ⟨n2, f3, ef3, hi, H⟩ := H
  refine g_step (pc2 := 27) hk rfl rfl rfl (s_aget (L := L) (xs := xs) ef3 hi) ?_
  obtain ⟨hz, H⟩ := H
  refine g_s1 (pc2 := 28) hk rfl rfl rfl rfl (s_if hz) ?_
  refine g_s1 (pc2 := 29) hk rfl rfl rfl rfl rfl ?_
  refine g_s1 (pc2 := 30) hk rfl rfl rfl rfl rfl ?_
  obtain ⟨v4, ev4, H⟩ := H
  refine g_step (pc2 := 33) hk rfl rfl rfl (s_get ev4) ?_
  refine g_s1 (pc2 := 34) (st2 := [.int (0 : Int32), .ref v4, .int x2, .int (x1 / (f3 (0 : Int32).toNatClampNeg)), .int s0]) hk rfl rfl rfl rfl rfl ?_
  obtain ⟨n5, f6, ef6, hi, H⟩ := H
  refine g_step (pc2 := 35) hk rfl rfl rfl (s_aget (L := L) (xs := xs) ef6 hi) ?_
  obtain ⟨hz, H⟩ := H
  refine g_s1 (pc2 := 36) hk rfl rfl rfl rfl (s_if hz) ?_
  refine g_s1 (pc2 := 37) hk rfl rfl rfl rfl rfl ?_
  refine g_call hk rfl rfl i_k335.1 ⟨rfl, rfl⟩ rfl (i_rcv_0 rfl) rfl ?_
  exact H.mono (fun v h2 q => by obtain ⟨r, rfl, q⟩ := q; exact q)
theorem b268_40 {x0 : Nat} {x1 : Int32} {x2 : Int32} {s0 : Int32} {s1 : Int32} {h : iH} {Q : Option Value → iH → Prop} (H : (i_C i_MT i_AT L xs 336 [.int s0, .int s1] h (fun v h1 => ∃ r2 : Int32, v = some (.int r2) ∧ i_P i_MT i_AT L xs 268 43 [some (.ref x0), some (.int x1), some (.int x2)] [.int r2] h1 0 0 Q))) : i_P i_MT i_AT L xs 268 40 [some (.ref x0), some (.int x1), some (.int x2)] [.int s1, .int s0] h 0 0 Q := by
  have hk := i_k268
  refine g_call hk rfl rfl i_k336.1 ⟨rfl, rfl⟩ rfl (i_rcv_0 rfl) rfl ?_
  exact H.mono (fun v h2 q => by obtain ⟨r, rfl, q⟩ := q; exact q)
theorem b268_43 {x0 : Nat} {x1 : Int32} {x2 : Int32} {s0 : Int32} {h : iH} {Q : Option Value → iH → Prop} (H : Q (some (.int s0)) h) : i_P i_MT i_AT L xs 268 43 [some (.ref x0), some (.int x1), some (.int x2)] [.int s0] h 0 0 Q := by
  have hk := i_k268
  exact g_ireturn hk rfl (by decide) (by decide) rfl H
/-! StillTownModel.isFree(III)Z -/
theorem e269 {x0 : Nat} {x1 : Int32} {x2 : Int32} {x3 : Int32} {h : iH} {Q : Option Value → iH → Prop} (H : i_P i_MT i_AT L xs 269 0 [some (.ref x0), some (.int x1), some (.int x2), some (.int x3), none, none, none, none, none, none, none] [] h 0 0 Q) : i_C i_MT i_AT L xs 269 [.ref x0, .int x1, .int x2, .int x3] h Q := ⟨i_m269, i_k269.1, Nat.le_of_ble_eq_true rfl, H⟩
theorem b269_0 {x0 : Nat} {x1 : Int32} {x2 : Int32} {x3 : Int32} {x4 : Option Value} {x5 : Option Value} {x6 : Option Value} {x7 : Option Value} {x8 : Option Value} {x9 : Option Value} {x10 : Option Value} {h : iH} {Q : Option Value → iH → Prop} (H : (∃ v1 : Nat, i_fld h x0 12 0 = some (.ref v1) ∧ (∃ (n2 : Nat) (f3 : Nat → Int32), i_arI h 0 v1 = some (n2, f3) ∧ ¬ ((0 : Int32) < 0 ∨ n2 ≤ (0 : Int32).toNatClampNeg) ∧ (i_obj? h x0 12 ∧ i_C i_MT i_AT L xs 268 [.ref x0, .int x1, .int x2] h (fun v h4 => ∃ r5 : Int32, v = some (.int r5) ∧ i_P i_MT i_AT L xs 269 14 [some (.ref x0), some (.int x1), some (.int x2), some (.int x3), some (.int (f3 (0 : Int32).toNatClampNeg)), x5, x6, x7, x8, x9, x10] [.int r5] h4 0 0 Q))))) : i_P i_MT i_AT L xs 269 0 [some (.ref x0), some (.int x1), some (.int x2), some (.int x3), x4, x5, x6, x7, x8, x9, x10] [] h 0 0 Q := by
  have hk := i_k269
  refine g_s1 (pc2 := 1) hk rfl rfl rfl rfl rfl ?_
  obtain ⟨v1, ev1, H⟩ := H
  refine g_step (pc2 := 4) hk rfl rfl rfl (s_get ev1) ?_
  refine g_s1 (pc2 := 5) (st2 := [.int (0 : Int32), .ref v1]) hk rfl rfl rfl rfl rfl ?_
  obtain ⟨n2, f3, ef3, hi, H⟩ := H
  refine g_step (pc2 := 6) hk rfl rfl rfl (s_aget (L := L) (xs := xs) ef3 hi) ?_
  refine g_s1 (pc2 := 8) (lo2 := [some (.ref x0), some (.int x1), some (.int x2), some (.int x3), some (.int (f3 (0 : Int32).toNatClampNeg)), x5, x6, x7, x8, x9, x10]) hk rfl rfl rfl rfl rfl ?_
  refine g_s1 (pc2 := 9) hk rfl rfl rfl rfl rfl ?_
  refine g_s1 (pc2 := 10) hk rfl rfl rfl rfl rfl ?_
  refine g_s1 (pc2 := 11) hk rfl rfl rfl rfl rfl ?_
  obtain ⟨ho, H⟩ := H
  refine g_call hk rfl rfl i_k268.1 ⟨rfl, rfl⟩ rfl (i_rcv_v ho rfl (by decide)) rfl ?_
  exact H.mono (fun v h2 q => by obtain ⟨r, rfl, q⟩ := q; exact q)
theorem b269_14 {x0 : Nat} {x1 : Int32} {x2 : Int32} {x3 : Int32} {x4 : Int32} {x5 : Option Value} {x6 : Option Value} {x7 : Option Value} {x8 : Option Value} {x9 : Option Value} {x10 : Option Value} {s0 : Int32} {h : iH} {Q : Option Value → iH → Prop} (H : (¬ x4 = 0 ∧ (¬ x4 = 0 ∧ (¬ x4 = 0 ∧ (¬ x4 = 0 ∧ i_P i_MT i_AT L xs 269 41 [some (.ref x0), some (.int x1), some (.int x2), some (.int x3), some (.int x4), some (.int s0), some (.int ((x2 - x2 / x4 * x4) - (x1 - x1 / x4 * x4))), some (.int ((x2 / x4) - (x1 / x4))), some (.int (1 : Int32)), x9, x10] [] h 0 0 Q))))) : i_P i_MT i_AT L xs 269 14 [some (.ref x0), some (.int x1), some (.int x2), some (.int x3), some (.int x4), x5, x6, x7, x8, x9, x10] [.int s0] h 0 0 Q := by
  have hk := i_k269
  refine g_s1 (pc2 := 16) (lo2 := [some (.ref x0), some (.int x1), some (.int x2), some (.int x3), some (.int x4), some (.int s0), x6, x7, x8, x9, x10]) hk rfl rfl rfl rfl rfl ?_
  refine g_s1 (pc2 := 17) hk rfl rfl rfl rfl rfl ?_
  refine g_s1 (pc2 := 19) hk rfl rfl rfl rfl rfl ?_
  obtain ⟨hz, H⟩ := H
  refine g_s1 (pc2 := 20) hk rfl rfl rfl rfl (s_if hz) ?_
  refine g_s1 (pc2 := 21) hk rfl rfl rfl rfl rfl ?_
  refine g_s1 (pc2 := 23) hk rfl rfl rfl rfl rfl ?_
  obtain ⟨hz, H⟩ := H
  refine g_s1 (pc2 := 24) hk rfl rfl rfl rfl (s_if hz) ?_
  refine g_s1 (pc2 := 25) hk rfl rfl rfl rfl rfl ?_
  refine g_s1 (pc2 := 27) (lo2 := [some (.ref x0), some (.int x1), some (.int x2), some (.int x3), some (.int x4), some (.int s0), some (.int ((x2 - x2 / x4 * x4) - (x1 - x1 / x4 * x4))), x7, x8, x9, x10]) hk rfl rfl rfl rfl rfl ?_
  refine g_s1 (pc2 := 28) hk rfl rfl rfl rfl rfl ?_
  refine g_s1 (pc2 := 30) hk rfl rfl rfl rfl rfl ?_
  obtain ⟨hz, H⟩ := H
  refine g_s1 (pc2 := 31) hk rfl rfl rfl rfl (s_if hz) ?_
  refine g_s1 (pc2 := 32) hk rfl rfl rfl rfl rfl ?_
  refine g_s1 (pc2 := 34) hk rfl rfl rfl rfl rfl ?_
  obtain ⟨hz, H⟩ := H
  refine g_s1 (pc2 := 35) hk rfl rfl rfl rfl (s_if hz) ?_
  refine g_s1 (pc2 := 36) hk rfl rfl rfl rfl rfl ?_
  refine g_s1 (pc2 := 38) (lo2 := [some (.ref x0), some (.int x1), some (.int x2), some (.int x3), some (.int x4), some (.int s0), some (.int ((x2 - x2 / x4 * x4) - (x1 - x1 / x4 * x4))), some (.int ((x2 / x4) - (x1 / x4))), x8, x9, x10]) hk rfl rfl rfl rfl rfl ?_
  refine g_s1 (pc2 := 39) (st2 := [.int (1 : Int32)]) hk rfl rfl rfl rfl rfl ?_
  refine g_s1 (pc2 := 41) (lo2 := [some (.ref x0), some (.int x1), some (.int x2), some (.int x3), some (.int x4), some (.int s0), some (.int ((x2 - x2 / x4 * x4) - (x1 - x1 / x4 * x4))), some (.int ((x2 / x4) - (x1 / x4))), some (.int (1 : Int32)), x9, x10]) hk rfl rfl rfl rfl rfl ?_
  exact H
theorem b269_41 {x0 : Nat} {x1 : Int32} {x2 : Int32} {x3 : Int32} {x4 : Int32} {x5 : Int32} {x6 : Int32} {x7 : Int32} {x8 : Int32} {x9 : Option Value} {x10 : Option Value} {h : iH} {Q : Option Value → iH → Prop} (H : ((x5 ≤ x8 → Q (some (.int 1)) h) ∧ (¬ (x5 ≤ x8) → (i_C i_MT i_AT L xs 267 [.int (x8 * x6), .int x5] h (fun v h1 => ∃ r2 : Int32, v = some (.int r2) ∧ i_P i_MT i_AT L xs 269 59 [some (.ref x0), some (.int x1), some (.int x2), some (.int x3), some (.int x4), some (.int x5), some (.int x6), some (.int x7), some (.int x8), x9, x10] [.int r2, .int x1] h1 0 0 Q))))) : i_P i_MT i_AT L xs 269 41 [some (.ref x0), some (.int x1), some (.int x2), some (.int x3), some (.int x4), some (.int x5), some (.int x6), some (.int x7), some (.int x8), x9, x10] [] h 0 0 Q := by
  have hk := i_k269
  refine g_s1 (pc2 := 43) hk rfl rfl rfl rfl rfl ?_
  refine g_s1 (pc2 := 45) hk rfl rfl rfl rfl rfl ?_
  refine g_icmp_ge hk rfl (fun hc => ?_) (fun hc => ?_)
  · have H := H.1 hc
    refine g_s1 (pc2 := 143) (st2 := [.int (1 : Int32)]) hk rfl rfl rfl rfl rfl ?_
    exact g_ireturn hk rfl (by decide) (by decide) rfl H
  · have H := H.2 hc
    refine g_s1 (pc2 := 49) hk rfl rfl rfl rfl rfl ?_
    refine g_s1 (pc2 := 51) hk rfl rfl rfl rfl rfl ?_
    refine g_s1 (pc2 := 53) hk rfl rfl rfl rfl rfl ?_
    refine g_s1 (pc2 := 54) hk rfl rfl rfl rfl rfl ?_
    refine g_s1 (pc2 := 56) hk rfl rfl rfl rfl rfl ?_
    refine g_call hk rfl rfl i_k267.1 ⟨rfl, rfl⟩ rfl (i_rcv_0 rfl) rfl ?_
    exact H.mono (fun v h2 q => by obtain ⟨r, rfl, q⟩ := q; exact q)
theorem b269_59 {x0 : Nat} {x1 : Int32} {x2 : Int32} {x3 : Int32} {x4 : Int32} {x5 : Int32} {x6 : Int32} {x7 : Int32} {x8 : Int32} {x9 : Option Value} {x10 : Option Value} {s0 : Int32} {s1 : Int32} {h : iH} {Q : Option Value → iH → Prop} (H : (i_C i_MT i_AT L xs 267 [.int (x8 * x7), .int x5] h (fun v h1 => ∃ r2 : Int32, v = some (.int r2) ∧ i_P i_MT i_AT L xs 269 72 [some (.ref x0), some (.int x1), some (.int x2), some (.int x3), some (.int x4), some (.int x5), some (.int x6), some (.int x7), some (.int x8), x9, x10] [.int r2, .int x4, .int (s0 + s1)] h1 0 0 Q))) : i_P i_MT i_AT L xs 269 59 [some (.ref x0), some (.int x1), some (.int x2), some (.int x3), some (.int x4), some (.int x5), some (.int x6), some (.int x7), some (.int x8), x9, x10] [.int s1, .int s0] h 0 0 Q := by
  have hk := i_k269
  refine g_s1 (pc2 := 60) hk rfl rfl rfl rfl rfl ?_
  refine g_s1 (pc2 := 62) hk rfl rfl rfl rfl rfl ?_
  refine g_s1 (pc2 := 64) hk rfl rfl rfl rfl rfl ?_
  refine g_s1 (pc2 := 66) hk rfl rfl rfl rfl rfl ?_
  refine g_s1 (pc2 := 67) hk rfl rfl rfl rfl rfl ?_
  refine g_s1 (pc2 := 69) hk rfl rfl rfl rfl rfl ?_
  refine g_call hk rfl rfl i_k267.1 ⟨rfl, rfl⟩ rfl (i_rcv_0 rfl) rfl ?_
  exact H.mono (fun v h2 q => by obtain ⟨r, rfl, q⟩ := q; exact q)
theorem b269_72 {x0 : Nat} {x1 : Int32} {x2 : Int32} {x3 : Int32} {x4 : Int32} {x5 : Int32} {x6 : Int32} {x7 : Int32} {x8 : Int32} {x9 : Option Value} {x10 : Option Value} {s0 : Int32} {s1 : Int32} {s2 : Int32} {h : iH} {Q : Option Value → iH → Prop} (H : (∃ v1 : Nat, i_fld h x0 12 0 = some (.ref v1) ∧ (∃ (n2 : Nat) (f3 : Nat → Int32), i_arI h 0 v1 = some (n2, f3) ∧ ¬ (((10 : Int32) + (s0 + (s1 * s2))) < 0 ∨ n2 ≤ ((10 : Int32) + (s0 + (s1 * s2))).toNatClampNeg) ∧ ((¬ (f3 ((10 : Int32) + (s0 + (s1 * s2))).toNatClampNeg) = (1 : Int32) → i_P i_MT i_AT L xs 269 95 [some (.ref x0), some (.int x1), some (.int x2), some (.int x3), some (.int x4), some (.int x5), some (.int x6), some (.int x7), some (.int x8), some (.int (s0 + (s1 * s2))), some (.int (0 : Int32))] [] h 0 0 Q) ∧ (¬ (¬ (f3 ((10 : Int32) + (s0 + (s1 * s2))).toNatClampNeg) = (1 : Int32)) → Q (some (.int 0)) h))))) : i_P i_MT i_AT L xs 269 72 [some (.ref x0), some (.int x1), some (.int x2), some (.int x3), some (.int x4), some (.int x5), some (.int x6), some (.int x7), some (.int x8), x9, x10] [.int s2, .int s1, .int s0] h 0 0 Q := by
  have hk := i_k269
  refine g_s1 (pc2 := 73) hk rfl rfl rfl rfl rfl ?_
  refine g_s1 (pc2 := 74) hk rfl rfl rfl rfl rfl ?_
  refine g_s1 (pc2 := 76) (lo2 := [some (.ref x0), some (.int x1), some (.int x2), some (.int x3), some (.int x4), some (.int x5), some (.int x6), some (.int x7), some (.int x8), some (.int (s0 + (s1 * s2))), x10]) hk rfl rfl rfl rfl rfl ?_
  refine g_s1 (pc2 := 77) hk rfl rfl rfl rfl rfl ?_
  obtain ⟨v1, ev1, H⟩ := H
  refine g_step (pc2 := 80) hk rfl rfl rfl (s_get ev1) ?_
  refine g_s1 (pc2 := 82) (st2 := [.int (10 : Int32), .ref v1]) hk rfl rfl rfl rfl rfl ?_
  refine g_s1 (pc2 := 84) hk rfl rfl rfl rfl rfl ?_
  refine g_s1 (pc2 := 85) hk rfl rfl rfl rfl rfl ?_
  obtain ⟨n2, f3, ef3, hi, H⟩ := H
  refine g_step (pc2 := 86) hk rfl rfl rfl (s_aget (L := L) (xs := xs) ef3 hi) ?_
  refine g_s1 (pc2 := 87) (st2 := [.int (1 : Int32), .int (f3 ((10 : Int32) + (s0 + (s1 * s2))).toNatClampNeg)]) hk rfl rfl rfl rfl rfl ?_
  refine g_icmp_ne hk rfl (fun hc => ?_) (fun hc => ?_)
  · have H := H.1 hc
    refine g_s1 (pc2 := 93) (st2 := [.int (0 : Int32)]) hk rfl rfl rfl rfl rfl ?_
    refine g_s1 (pc2 := 95) (lo2 := [some (.ref x0), some (.int x1), some (.int x2), some (.int x3), some (.int x4), some (.int x5), some (.int x6), some (.int x7), some (.int x8), some (.int (s0 + (s1 * s2))), some (.int (0 : Int32))]) hk rfl rfl rfl rfl rfl ?_
    exact H
  · have H := H.2 hc
    refine g_s1 (pc2 := 91) (st2 := [.int (0 : Int32)]) hk rfl rfl rfl rfl rfl ?_
    exact g_ireturn hk rfl (by decide) (by decide) rfl H
theorem b269_95 {x0 : Nat} {x1 : Int32} {x2 : Int32} {x3 : Int32} {x4 : Int32} {x5 : Int32} {x6 : Int32} {x7 : Int32} {x8 : Int32} {x9 : Int32} {x10 : Int32} {h : iH} {Q : Option Value → iH → Prop} (H : (∃ v1 : Nat, i_fld h x0 12 0 = some (.ref v1) ∧ (∃ (n2 : Nat) (f3 : Nat → Int32), i_arI h 0 v1 = some (n2, f3) ∧ ¬ ((3 : Int32) < 0 ∨ n2 ≤ (3 : Int32).toNatClampNeg) ∧ (((f3 (3 : Int32).toNatClampNeg) ≤ x10 → i_P i_MT i_AT L xs 269 136 [some (.ref x0), some (.int x1), some (.int x2), some (.int x3), some (.int x4), some (.int x5), some (.int x6), some (.int x7), some (.int x8), some (.int x9), some (.int x10)] [] h 0 0 Q) ∧ (¬ ((f3 (3 : Int32).toNatClampNeg) ≤ x10) → ((x3 = (-1 : Int32) → i_P i_MT i_AT L xs 269 136 [some (.ref x0), some (.int x1), some (.int x2), some (.int x3), some (.int x4), some (.int x5), some (.int x6), some (.int x7), some (.int x8), some (.int x9), some (.int x10)] [] h 0 0 Q) ∧ (¬ (x3 = (-1 : Int32)) → (∃ v4 : Nat, i_fld h x0 12 32 = some (.ref v4) ∧ (∃ (n5 : Nat) (f6 : Nat → Int32), i_arI h 0 v4 = some (n5, f6) ∧ ¬ ((((61 : Int32) * x10) + x3) < 0 ∨ n5 ≤ (((61 : Int32) * x10) + x3).toNatClampNeg) ∧ ((¬ (f6 (((61 : Int32) * x10) + x3).toNatClampNeg) = x9 → i_P i_MT i_AT L xs 269 95 [some (.ref x0), some (.int x1), some (.int x2), some (.int x3), some (.int x4), some (.int x5), some (.int x6), some (.int x7), some (.int x8), some (.int x9), some (.int (x10 + 1))] [] h 0 0 Q) ∧ (¬ (¬ (f6 (((61 : Int32) * x10) + x3).toNatClampNeg) = x9) → Q (some (.int 0)) h))))))))))) : i_P i_MT i_AT L xs 269 95 [some (.ref x0), some (.int x1), some (.int x2), some (.int x3), some (.int x4), some (.int x5), some (.int x6), some (.int x7), some (.int x8), some (.int x9), some (.int x10)] [] h 0 0 Q := by
  have hk := i_k269
  refine g_s1 (pc2 := 97) hk rfl rfl rfl rfl rfl ?_
  refine g_s1 (pc2 := 98) hk rfl rfl rfl rfl rfl ?_
  obtain ⟨v1, ev1, H⟩ := H
  refine g_step (pc2 := 101) hk rfl rfl rfl (s_get ev1) ?_
  refine g_s1 (pc2 := 102) (st2 := [.int (3 : Int32), .ref v1, .int x10]) hk rfl rfl rfl rfl rfl ?_
  obtain ⟨n2, f3, ef3, hi, H⟩ := H
  refine g_step (pc2 := 103) hk rfl rfl rfl (s_aget (L := L) (xs := xs) ef3 hi) ?_
  refine g_icmp_ge hk rfl (fun hc => ?_) (fun hc => ?_)
  · have H := H.1 hc
    exact H
  · have H := H.2 hc
    refine g_s1 (pc2 := 107) hk rfl rfl rfl rfl rfl ?_
    refine g_s1 (pc2 := 108) (st2 := [.int (-1 : Int32), .int x3]) hk rfl rfl rfl rfl rfl ?_
    refine g_icmp_eq hk rfl (fun hc => ?_) (fun hc => ?_)
    · have H := H.1 hc
      exact H
    · have H := H.2 hc
      refine g_s1 (pc2 := 112) hk rfl rfl rfl rfl rfl ?_
      obtain ⟨v4, ev4, H⟩ := H
      refine g_step (pc2 := 115) hk rfl rfl rfl (s_get ev4) ?_
      refine g_s1 (pc2 := 117) (st2 := [.int (61 : Int32), .ref v4]) hk rfl rfl rfl rfl rfl ?_
      refine g_s1 (pc2 := 119) hk rfl rfl rfl rfl rfl ?_
      refine g_s1 (pc2 := 120) hk rfl rfl rfl rfl rfl ?_
      refine g_s1 (pc2 := 121) hk rfl rfl rfl rfl rfl ?_
      refine g_s1 (pc2 := 122) hk rfl rfl rfl rfl rfl ?_
      obtain ⟨n5, f6, ef6, hi, H⟩ := H
      refine g_step (pc2 := 123) hk rfl rfl rfl (s_aget (L := L) (xs := xs) ef6 hi) ?_
      refine g_s1 (pc2 := 125) hk rfl rfl rfl rfl rfl ?_
      refine g_icmp_ne hk rfl (fun hc => ?_) (fun hc => ?_)
      · have H := H.1 hc
        refine g_s1 (pc2 := 133) (lo2 := [some (.ref x0), some (.int x1), some (.int x2), some (.int x3), some (.int x4), some (.int x5), some (.int x6), some (.int x7), some (.int x8), some (.int x9), some (.int (x10 + 1))]) hk rfl rfl rfl rfl rfl ?_
        refine g_s1 (pc2 := 95) hk rfl rfl rfl rfl rfl ?_
        exact H
      · have H := H.2 hc
        refine g_s1 (pc2 := 129) (st2 := [.int (0 : Int32)]) hk rfl rfl rfl rfl rfl ?_
        exact g_ireturn hk rfl (by decide) (by decide) rfl H
theorem b269_136 {x0 : Nat} {x1 : Int32} {x2 : Int32} {x3 : Int32} {x4 : Int32} {x5 : Int32} {x6 : Int32} {x7 : Int32} {x8 : Int32} {x9 : Int32} {x10 : Int32} {h : iH} {Q : Option Value → iH → Prop} (H : i_P i_MT i_AT L xs 269 41 [some (.ref x0), some (.int x1), some (.int x2), some (.int x3), some (.int x4), some (.int x5), some (.int x6), some (.int x7), some (.int (x8 + 1)), some (.int x9), some (.int x10)] [] h 0 0 Q) : i_P i_MT i_AT L xs 269 136 [some (.ref x0), some (.int x1), some (.int x2), some (.int x3), some (.int x4), some (.int x5), some (.int x6), some (.int x7), some (.int x8), some (.int x9), some (.int x10)] [] h 0 0 Q := by
  have hk := i_k269
  refine g_s1 (pc2 := 139) (lo2 := [some (.ref x0), some (.int x1), some (.int x2), some (.int x3), some (.int x4), some (.int x5), some (.int x6), some (.int x7), some (.int (x8 + 1)), some (.int x9), some (.int x10)]) hk rfl rfl rfl rfl rfl ?_
  refine g_s1 (pc2 := 41) hk rfl rfl rfl rfl rfl ?_
  exact H
/-! StillTownModel.isRound(IIII)Z -/
theorem e270 {x0 : Nat} {x1 : Int32} {x2 : Int32} {x3 : Int32} {x4 : Int32} {h : iH} {Q : Option Value → iH → Prop} (H : i_P i_MT i_AT L xs 270 0 [some (.ref x0), some (.int x1), some (.int x2), some (.int x3), some (.int x4)] [] h 0 0 Q) : i_C i_MT i_AT L xs 270 [.ref x0, .int x1, .int x2, .int x3, .int x4] h Q := ⟨i_m270, i_k270.1, Nat.le_of_ble_eq_true rfl, H⟩
theorem b270_0 {x0 : Nat} {x1 : Int32} {x2 : Int32} {x3 : Int32} {x4 : Int32} {h : iH} {Q : Option Value → iH → Prop} (H : ((x1 = x2 → i_P i_MT i_AT L xs 270 30 [some (.ref x0), some (.int x1), some (.int x2), some (.int x3), some (.int x4)] [] h 0 0 Q) ∧ (¬ (x1 = x2) → (i_obj? h x0 12 ∧ i_C i_MT i_AT L xs 268 [.ref x0, .int x1, .int x2] h (fun v h1 => ∃ r2 : Int32, v = some (.int r2) ∧ i_P i_MT i_AT L xs 270 11 [some (.ref x0), some (.int x1), some (.int x2), some (.int x3), some (.int x4)] [.int r2] h1 0 0 Q))))) : i_P i_MT i_AT L xs 270 0 [some (.ref x0), some (.int x1), some (.int x2), some (.int x3), some (.int x4)] [] h 0 0 Q := by
  have hk := i_k270
  refine g_s1 (pc2 := 1) hk rfl rfl rfl rfl rfl ?_
  refine g_s1 (pc2 := 2) hk rfl rfl rfl rfl rfl ?_
  refine g_icmp_eq hk rfl (fun hc => ?_) (fun hc => ?_)
  · have H := H.1 hc
    exact H
  · have H := H.2 hc
    refine g_s1 (pc2 := 6) hk rfl rfl rfl rfl rfl ?_
    refine g_s1 (pc2 := 7) hk rfl rfl rfl rfl rfl ?_
    refine g_s1 (pc2 := 8) hk rfl rfl rfl rfl rfl ?_
    obtain ⟨ho, H⟩ := H
    refine g_call hk rfl rfl i_k268.1 ⟨rfl, rfl⟩ rfl (i_rcv_v ho rfl (by decide)) rfl ?_
    exact H.mono (fun v h2 q => by obtain ⟨r, rfl, q⟩ := q; exact q)
theorem b270_11 {x0 : Nat} {x1 : Int32} {x2 : Int32} {x3 : Int32} {x4 : Int32} {s0 : Int32} {h : iH} {Q : Option Value → iH → Prop} (H : ((x3 < s0 → i_P i_MT i_AT L xs 270 30 [some (.ref x0), some (.int x1), some (.int x2), some (.int x3), some (.int x4)] [] h 0 0 Q) ∧ (¬ (x3 < s0) → (i_obj? h x0 12 ∧ i_C i_MT i_AT L xs 269 [.ref x0, .int x1, .int x2, .int x4] h (fun v h1 => ∃ r2 : Int32, v = some (.int r2) ∧ i_P i_MT i_AT L xs 270 23 [some (.ref x0), some (.int x1), some (.int x2), some (.int x3), some (.int x4)] [.int r2] h1 0 0 Q))))) : i_P i_MT i_AT L xs 270 11 [some (.ref x0), some (.int x1), some (.int x2), some (.int x3), some (.int x4)] [.int s0] h 0 0 Q := by
  have hk := i_k270
  refine g_s1 (pc2 := 12) hk rfl rfl rfl rfl rfl ?_
  refine g_icmp_gt hk rfl (fun hc => ?_) (fun hc => ?_)
  · have H := H.1 hc
    exact H
  · have H := H.2 hc
    refine g_s1 (pc2 := 16) hk rfl rfl rfl rfl rfl ?_
    refine g_s1 (pc2 := 17) hk rfl rfl rfl rfl rfl ?_
    refine g_s1 (pc2 := 18) hk rfl rfl rfl rfl rfl ?_
    refine g_s1 (pc2 := 20) hk rfl rfl rfl rfl rfl ?_
    obtain ⟨ho, H⟩ := H
    refine g_call hk rfl rfl i_k269.1 ⟨rfl, rfl⟩ rfl (i_rcv_v ho rfl (by decide)) rfl ?_
    exact H.mono (fun v h2 q => by obtain ⟨r, rfl, q⟩ := q; exact q)
theorem b270_23 {x0 : Nat} {x1 : Int32} {x2 : Int32} {x3 : Int32} {x4 : Int32} {s0 : Int32} {h : iH} {Q : Option Value → iH → Prop} (H : ((s0 = 0 → i_P i_MT i_AT L xs 270 30 [some (.ref x0), some (.int x1), some (.int x2), some (.int x3), some (.int x4)] [] h 0 0 Q) ∧ (¬ (s0 = 0) → i_P i_MT i_AT L xs 270 31 [some (.ref x0), some (.int x1), some (.int x2), some (.int x3), some (.int x4)] [.int (1 : Int32)] h 0 0 Q))) : i_P i_MT i_AT L xs 270 23 [some (.ref x0), some (.int x1), some (.int x2), some (.int x3), some (.int x4)] [.int s0] h 0 0 Q := by
  have hk := i_k270
  refine g_if_eq hk rfl (fun hc => ?_) (fun hc => ?_)
  · have H := H.1 hc
    exact H
  · have H := H.2 hc
    refine g_s1 (pc2 := 27) (st2 := [.int (1 : Int32)]) hk rfl rfl rfl rfl rfl ?_
    refine g_s1 (pc2 := 31) hk rfl rfl rfl rfl rfl ?_
    exact H
theorem b270_30 {x0 : Nat} {x1 : Int32} {x2 : Int32} {x3 : Int32} {x4 : Int32} {h : iH} {Q : Option Value → iH → Prop} (H : i_P i_MT i_AT L xs 270 31 [some (.ref x0), some (.int x1), some (.int x2), some (.int x3), some (.int x4)] [.int (0 : Int32)] h 0 0 Q) : i_P i_MT i_AT L xs 270 30 [some (.ref x0), some (.int x1), some (.int x2), some (.int x3), some (.int x4)] [] h 0 0 Q := by
  have hk := i_k270
  refine g_s1 (pc2 := 31) (st2 := [.int (0 : Int32)]) hk rfl rfl rfl rfl rfl ?_
  exact H
theorem b270_31 {x0 : Nat} {x1 : Int32} {x2 : Int32} {x3 : Int32} {x4 : Int32} {s0 : Int32} {h : iH} {Q : Option Value → iH → Prop} (H : (i_ret (some .boolean) s0 = true ∧ Q (some (.int s0)) h)) : i_P i_MT i_AT L xs 270 31 [some (.ref x0), some (.int x1), some (.int x2), some (.int x3), some (.int x4)] [.int s0] h 0 0 Q := by
  have hk := i_k270
  exact g_ireturn hk rfl (by decide) (by decide) H.1 H.2
/-! StillTownModel.isSeen(IIIII)Z -/
theorem e271 {x0 : Nat} {x1 : Int32} {x2 : Int32} {x3 : Int32} {x4 : Int32} {x5 : Int32} {h : iH} {Q : Option Value → iH → Prop} (H : i_P i_MT i_AT L xs 271 0 [some (.ref x0), some (.int x1), some (.int x2), some (.int x3), some (.int x4), some (.int x5), none, none, none, none] [] h 0 0 Q) : i_C i_MT i_AT L xs 271 [.ref x0, .int x1, .int x2, .int x3, .int x4, .int x5] h Q := ⟨i_m271, i_k271.1, Nat.le_of_ble_eq_true rfl, H⟩
theorem b271_0 {x0 : Nat} {x1 : Int32} {x2 : Int32} {x3 : Int32} {x4 : Int32} {x5 : Int32} {x6 : Option Value} {x7 : Option Value} {x8 : Option Value} {x9 : Option Value} {h : iH} {Q : Option Value → iH → Prop} (H : (∃ v1 : Nat, i_fld h x0 12 0 = some (.ref v1) ∧ (∃ (n2 : Nat) (f3 : Nat → Int32), i_arI h 0 v1 = some (n2, f3) ∧ ¬ ((0 : Int32) < 0 ∨ n2 ≤ (0 : Int32).toNatClampNeg) ∧ (¬ (f3 (0 : Int32).toNatClampNeg) = 0 ∧ (∃ v4 : Nat, i_fld h x0 12 0 = some (.ref v4) ∧ (∃ (n5 : Nat) (f6 : Nat → Int32), i_arI h 0 v4 = some (n5, f6) ∧ ¬ ((0 : Int32) < 0 ∨ n5 ≤ (0 : Int32).toNatClampNeg) ∧ (¬ (f6 (0 : Int32).toNatClampNeg) = 0 ∧ (∃ v7 : Nat, i_fld h x0 12 0 = some (.ref v7) ∧ (∃ (n8 : Nat) (f9 : Nat → Int32), i_arI h 0 v7 = some (n8, f9) ∧ ¬ ((0 : Int32) < 0 ∨ n8 ≤ (0 : Int32).toNatClampNeg) ∧ (¬ (f9 (0 : Int32).toNatClampNeg) = 0 ∧ (∃ v10 : Nat, i_fld h x0 12 0 = some (.ref v10) ∧ (∃ (n11 : Nat) (f12 : Nat → Int32), i_arI h 0 v10 = some (n11, f12) ∧ ¬ ((0 : Int32) < 0 ∨ n11 ≤ (0 : Int32).toNatClampNeg) ∧ (¬ (f12 (0 : Int32).toNatClampNeg) = 0 ∧ (∃ v13 : Nat, i_fld h x0 12 2 = some (.ref v13) ∧ (∃ (n14 : Nat) (f15 : Nat → Int32), i_arI h 0 v13 = some (n14, f15) ∧ ¬ (x2 < 0 ∨ n14 ≤ x2.toNatClampNeg) ∧ (∃ v16 : Nat, i_fld h x0 12 3 = some (.ref v16) ∧ (∃ (n17 : Nat) (f18 : Nat → Int32), i_arI h 0 v16 = some (n17, f18) ∧ ¬ (x2 < 0 ∨ n17 ≤ x2.toNatClampNeg) ∧ (∃ v19 : Nat, i_fld h x0 12 3 = some (.ref v19) ∧ (∃ (n20 : Nat) (f21 : Nat → Int32), i_arI h 0 v19 = some (n20, f21) ∧ ¬ (x2 < 0 ∨ n20 ≤ x2.toNatClampNeg) ∧ (∃ v22 : Nat, i_fld h x0 12 2 = some (.ref v22) ∧ (∃ (n23 : Nat) (f24 : Nat → Int32), i_arI h 0 v22 = some (n23, f24) ∧ ¬ (x2 < 0 ∨ n23 ≤ x2.toNatClampNeg) ∧ (i_C i_MT i_AT L xs 335 [.int ((((x4 - x4 / (f3 (0 : Int32).toNatClampNeg) * (f3 (0 : Int32).toNatClampNeg)) - (x1 - x1 / (f6 (0 : Int32).toNatClampNeg) * (f6 (0 : Int32).toNatClampNeg))) * (f21 x2.toNatClampNeg)) - (((x4 / (f9 (0 : Int32).toNatClampNeg)) - (x1 / (f12 (0 : Int32).toNatClampNeg))) * (f24 x2.toNatClampNeg)))] h (fun v h25 => ∃ r26 : Int32, v = some (.int r26) ∧ i_P i_MT i_AT L xs 271 83 [some (.ref x0), some (.int x1), some (.int x2), some (.int x3), some (.int x4), some (.int x5), some (.int ((x4 - x4 / (f3 (0 : Int32).toNatClampNeg) * (f3 (0 : Int32).toNatClampNeg)) - (x1 - x1 / (f6 (0 : Int32).toNatClampNeg) * (f6 (0 : Int32).toNatClampNeg)))), some (.int ((x4 / (f9 (0 : Int32).toNatClampNeg)) - (x1 / (f12 (0 : Int32).toNatClampNeg)))), some (.int ((((x4 - x4 / (f3 (0 : Int32).toNatClampNeg) * (f3 (0 : Int32).toNatClampNeg)) - (x1 - x1 / (f6 (0 : Int32).toNatClampNeg) * (f6 (0 : Int32).toNatClampNeg))) * (f15 x2.toNatClampNeg)) + (((x4 / (f9 (0 : Int32).toNatClampNeg)) - (x1 / (f12 (0 : Int32).toNatClampNeg))) * (f18 x2.toNatClampNeg)))), x9] [.int r26] h25 0 0 Q))))))))))))))))))))))) : i_P i_MT i_AT L xs 271 0 [some (.ref x0), some (.int x1), some (.int x2), some (.int x3), some (.int x4), some (.int x5), x6, x7, x8, x9] [] h 0 0 Q := by
  have hk := i_k271
  refine g_s1 (pc2 := 2) hk rfl rfl rfl rfl rfl ?_
  refine g_s1 (pc2 := 3) hk rfl rfl rfl rfl rfl ?_
  obtain ⟨v1, ev1, H⟩ := H
  refine g_step (pc2 := 6) hk rfl rfl rfl (s_get ev1) ?_
  refine g_s1 (pc2 := 7) (st2 := [.int (0 : Int32), .ref v1, .int x4]) hk rfl rfl rfl rfl rfl ?_
  obtain ⟨n2, f3, ef3, hi, H⟩ := H
  refine g_step (pc2 := 8) hk rfl rfl rfl (s_aget (L := L) (xs := xs) ef3 hi) ?_
  obtain ⟨hz, H⟩ := H
  refine g_s1 (pc2 := 9) hk rfl rfl rfl rfl (s_if hz) ?_
  refine g_s1 (pc2 := 10) hk rfl rfl rfl rfl rfl ?_
  refine g_s1 (pc2 := 11) hk rfl rfl rfl rfl rfl ?_
  obtain ⟨v4, ev4, H⟩ := H
  refine g_step (pc2 := 14) hk rfl rfl rfl (s_get ev4) ?_
  refine g_s1 (pc2 := 15) (st2 := [.int (0 : Int32), .ref v4, .int x1, .int (x4 - x4 / (f3 (0 : Int32).toNatClampNeg) * (f3 (0 : Int32).toNatClampNeg))]) hk rfl rfl rfl rfl rfl ?_
  obtain ⟨n5, f6, ef6, hi, H⟩ := H
  refine g_step (pc2 := 16) hk rfl rfl rfl (s_aget (L := L) (xs := xs) ef6 hi) ?_
  obtain ⟨hz, H⟩ := H
  refine g_s1 (pc2 := 17) hk rfl rfl rfl rfl (s_if hz) ?_
  refine g_s1 (pc2 := 18) hk rfl rfl rfl rfl rfl ?_
  refine g_s1 (pc2 := 20) (lo2 := [some (.ref x0), some (.int x1), some (.int x2), some (.int x3), some (.int x4), some (.int x5), some (.int ((x4 - x4 / (f3 (0 : Int32).toNatClampNeg) * (f3 (0 : Int32).toNatClampNeg)) - (x1 - x1 / (f6 (0 : Int32).toNatClampNeg) * (f6 (0 : Int32).toNatClampNeg)))), x7, x8, x9]) hk rfl rfl rfl rfl rfl ?_
  refine g_s1 (pc2 := 22) hk rfl rfl rfl rfl rfl ?_
  refine g_s1 (pc2 := 23) hk rfl rfl rfl rfl rfl ?_
  obtain ⟨v7, ev7, H⟩ := H
  refine g_step (pc2 := 26) hk rfl rfl rfl (s_get ev7) ?_
  refine g_s1 (pc2 := 27) (st2 := [.int (0 : Int32), .ref v7, .int x4]) hk rfl rfl rfl rfl rfl ?_
  obtain ⟨n8, f9, ef9, hi, H⟩ := H
  refine g_step (pc2 := 28) hk rfl rfl rfl (s_aget (L := L) (xs := xs) ef9 hi) ?_
  obtain ⟨hz, H⟩ := H
  refine g_s1 (pc2 := 29) hk rfl rfl rfl rfl (s_if hz) ?_
  refine g_s1 (pc2 := 30) hk rfl rfl rfl rfl rfl ?_
  refine g_s1 (pc2 := 31) hk rfl rfl rfl rfl rfl ?_
  obtain ⟨v10, ev10, H⟩ := H
  refine g_step (pc2 := 34) hk rfl rfl rfl (s_get ev10) ?_
  refine g_s1 (pc2 := 35) (st2 := [.int (0 : Int32), .ref v10, .int x1, .int (x4 / (f9 (0 : Int32).toNatClampNeg))]) hk rfl rfl rfl rfl rfl ?_
  obtain ⟨n11, f12, ef12, hi, H⟩ := H
  refine g_step (pc2 := 36) hk rfl rfl rfl (s_aget (L := L) (xs := xs) ef12 hi) ?_
  obtain ⟨hz, H⟩ := H
  refine g_s1 (pc2 := 37) hk rfl rfl rfl rfl (s_if hz) ?_
  refine g_s1 (pc2 := 38) hk rfl rfl rfl rfl rfl ?_
  refine g_s1 (pc2 := 40) (lo2 := [some (.ref x0), some (.int x1), some (.int x2), some (.int x3), some (.int x4), some (.int x5), some (.int ((x4 - x4 / (f3 (0 : Int32).toNatClampNeg) * (f3 (0 : Int32).toNatClampNeg)) - (x1 - x1 / (f6 (0 : Int32).toNatClampNeg) * (f6 (0 : Int32).toNatClampNeg)))), some (.int ((x4 / (f9 (0 : Int32).toNatClampNeg)) - (x1 / (f12 (0 : Int32).toNatClampNeg)))), x8, x9]) hk rfl rfl rfl rfl rfl ?_
  refine g_s1 (pc2 := 42) hk rfl rfl rfl rfl rfl ?_
  refine g_s1 (pc2 := 43) hk rfl rfl rfl rfl rfl ?_
  obtain ⟨v13, ev13, H⟩ := H
  refine g_step (pc2 := 46) hk rfl rfl rfl (s_get ev13) ?_
  refine g_s1 (pc2 := 47) hk rfl rfl rfl rfl rfl ?_
  obtain ⟨n14, f15, ef15, hi, H⟩ := H
  refine g_step (pc2 := 48) hk rfl rfl rfl (s_aget (L := L) (xs := xs) ef15 hi) ?_
  refine g_s1 (pc2 := 49) hk rfl rfl rfl rfl rfl ?_
  refine g_s1 (pc2 := 51) hk rfl rfl rfl rfl rfl ?_
  refine g_s1 (pc2 := 52) hk rfl rfl rfl rfl rfl ?_
  obtain ⟨v16, ev16, H⟩ := H
  refine g_step (pc2 := 55) hk rfl rfl rfl (s_get ev16) ?_
  refine g_s1 (pc2 := 56) hk rfl rfl rfl rfl rfl ?_
  obtain ⟨n17, f18, ef18, hi, H⟩ := H
  refine g_step (pc2 := 57) hk rfl rfl rfl (s_aget (L := L) (xs := xs) ef18 hi) ?_
  refine g_s1 (pc2 := 58) hk rfl rfl rfl rfl rfl ?_
  refine g_s1 (pc2 := 59) hk rfl rfl rfl rfl rfl ?_
  refine g_s1 (pc2 := 61) (lo2 := [some (.ref x0), some (.int x1), some (.int x2), some (.int x3), some (.int x4), some (.int x5), some (.int ((x4 - x4 / (f3 (0 : Int32).toNatClampNeg) * (f3 (0 : Int32).toNatClampNeg)) - (x1 - x1 / (f6 (0 : Int32).toNatClampNeg) * (f6 (0 : Int32).toNatClampNeg)))), some (.int ((x4 / (f9 (0 : Int32).toNatClampNeg)) - (x1 / (f12 (0 : Int32).toNatClampNeg)))), some (.int ((((x4 - x4 / (f3 (0 : Int32).toNatClampNeg) * (f3 (0 : Int32).toNatClampNeg)) - (x1 - x1 / (f6 (0 : Int32).toNatClampNeg) * (f6 (0 : Int32).toNatClampNeg))) * (f15 x2.toNatClampNeg)) + (((x4 / (f9 (0 : Int32).toNatClampNeg)) - (x1 / (f12 (0 : Int32).toNatClampNeg))) * (f18 x2.toNatClampNeg)))), x9]) hk rfl rfl rfl rfl rfl ?_
  refine g_s1 (pc2 := 63) hk rfl rfl rfl rfl rfl ?_
  refine g_s1 (pc2 := 64) hk rfl rfl rfl rfl rfl ?_
  obtain ⟨v19, ev19, H⟩ := H
  refine g_step (pc2 := 67) hk rfl rfl rfl (s_get ev19) ?_
  refine g_s1 (pc2 := 68) hk rfl rfl rfl rfl rfl ?_
  obtain ⟨n20, f21, ef21, hi, H⟩ := H
  refine g_step (pc2 := 69) hk rfl rfl rfl (s_aget (L := L) (xs := xs) ef21 hi) ?_
  refine g_s1 (pc2 := 70) hk rfl rfl rfl rfl rfl ?_
  refine g_s1 (pc2 := 72) hk rfl rfl rfl rfl rfl ?_
  refine g_s1 (pc2 := 73) hk rfl rfl rfl rfl rfl ?_
  obtain ⟨v22, ev22, H⟩ := H
  refine g_step (pc2 := 76) hk rfl rfl rfl (s_get ev22) ?_
  refine g_s1 (pc2 := 77) hk rfl rfl rfl rfl rfl ?_
  obtain ⟨n23, f24, ef24, hi, H⟩ := H
  refine g_step (pc2 := 78) hk rfl rfl rfl (s_aget (L := L) (xs := xs) ef24 hi) ?_
  refine g_s1 (pc2 := 79) hk rfl rfl rfl rfl rfl ?_
  refine g_s1 (pc2 := 80) hk rfl rfl rfl rfl rfl ?_
  refine g_call hk rfl rfl i_k335.1 ⟨rfl, rfl⟩ rfl (i_rcv_0 rfl) rfl ?_
  exact H.mono (fun v h2 q => by obtain ⟨r, rfl, q⟩ := q; exact q)
theorem b271_83 {x0 : Nat} {x1 : Int32} {x2 : Int32} {x3 : Int32} {x4 : Int32} {x5 : Int32} {x6 : Int32} {x7 : Int32} {x8 : Int32} {x9 : Option Value} {s0 : Int32} {h : iH} {Q : Option Value → iH → Prop} (H : ((x8 ≤ 0 → i_P i_MT i_AT L xs 271 114 [some (.ref x0), some (.int x1), some (.int x2), some (.int x3), some (.int x4), some (.int x5), some (.int x6), some (.int x7), some (.int x8), some (.int s0)] [] h 0 0 Q) ∧ (¬ (x8 ≤ 0) → ((x8 < s0 → i_P i_MT i_AT L xs 271 114 [some (.ref x0), some (.int x1), some (.int x2), some (.int x3), some (.int x4), some (.int x5), some (.int x6), some (.int x7), some (.int x8), some (.int s0)] [] h 0 0 Q) ∧ (¬ (x8 < s0) → (i_obj? h x0 12 ∧ i_C i_MT i_AT L xs 270 [.ref x0, .int x1, .int x4, .int x3, .int x5] h (fun v h1 => ∃ r2 : Int32, v = some (.int r2) ∧ i_P i_MT i_AT L xs 271 107 [some (.ref x0), some (.int x1), some (.int x2), some (.int x3), some (.int x4), some (.int x5), some (.int x6), some (.int x7), some (.int x8), some (.int s0)] [.int r2] h1 0 0 Q))))))) : i_P i_MT i_AT L xs 271 83 [some (.ref x0), some (.int x1), some (.int x2), some (.int x3), some (.int x4), some (.int x5), some (.int x6), some (.int x7), some (.int x8), x9] [.int s0] h 0 0 Q := by
  have hk := i_k271
  refine g_s1 (pc2 := 85) (lo2 := [some (.ref x0), some (.int x1), some (.int x2), some (.int x3), some (.int x4), some (.int x5), some (.int x6), some (.int x7), some (.int x8), some (.int s0)]) hk rfl rfl rfl rfl rfl ?_
  refine g_s1 (pc2 := 87) hk rfl rfl rfl rfl rfl ?_
  refine g_if_le hk rfl (fun hc => ?_) (fun hc => ?_)
  · have H := H.1 hc
    exact H
  · have H := H.2 hc
    refine g_s1 (pc2 := 92) hk rfl rfl rfl rfl rfl ?_
    refine g_s1 (pc2 := 94) hk rfl rfl rfl rfl rfl ?_
    refine g_icmp_gt hk rfl (fun hc => ?_) (fun hc => ?_)
    · have H := H.1 hc
      exact H
    · have H := H.2 hc
      refine g_s1 (pc2 := 98) hk rfl rfl rfl rfl rfl ?_
      refine g_s1 (pc2 := 99) hk rfl rfl rfl rfl rfl ?_
      refine g_s1 (pc2 := 101) hk rfl rfl rfl rfl rfl ?_
      refine g_s1 (pc2 := 102) hk rfl rfl rfl rfl rfl ?_
      refine g_s1 (pc2 := 104) hk rfl rfl rfl rfl rfl ?_
      obtain ⟨ho, H⟩ := H
      refine g_call hk rfl rfl i_k270.1 ⟨rfl, rfl⟩ rfl (i_rcv_v ho rfl (by decide)) rfl ?_
      exact H.mono (fun v h2 q => by obtain ⟨r, rfl, q⟩ := q; exact q)
theorem b271_107 {x0 : Nat} {x1 : Int32} {x2 : Int32} {x3 : Int32} {x4 : Int32} {x5 : Int32} {x6 : Int32} {x7 : Int32} {x8 : Int32} {x9 : Int32} {s0 : Int32} {h : iH} {Q : Option Value → iH → Prop} (H : ((s0 = 0 → i_P i_MT i_AT L xs 271 114 [some (.ref x0), some (.int x1), some (.int x2), some (.int x3), some (.int x4), some (.int x5), some (.int x6), some (.int x7), some (.int x8), some (.int x9)] [] h 0 0 Q) ∧ (¬ (s0 = 0) → i_P i_MT i_AT L xs 271 115 [some (.ref x0), some (.int x1), some (.int x2), some (.int x3), some (.int x4), some (.int x5), some (.int x6), some (.int x7), some (.int x8), some (.int x9)] [.int (1 : Int32)] h 0 0 Q))) : i_P i_MT i_AT L xs 271 107 [some (.ref x0), some (.int x1), some (.int x2), some (.int x3), some (.int x4), some (.int x5), some (.int x6), some (.int x7), some (.int x8), some (.int x9)] [.int s0] h 0 0 Q := by
  have hk := i_k271
  refine g_if_eq hk rfl (fun hc => ?_) (fun hc => ?_)
  · have H := H.1 hc
    exact H
  · have H := H.2 hc
    refine g_s1 (pc2 := 111) (st2 := [.int (1 : Int32)]) hk rfl rfl rfl rfl rfl ?_
    refine g_s1 (pc2 := 115) hk rfl rfl rfl rfl rfl ?_
    exact H
theorem b271_114 {x0 : Nat} {x1 : Int32} {x2 : Int32} {x3 : Int32} {x4 : Int32} {x5 : Int32} {x6 : Int32} {x7 : Int32} {x8 : Int32} {x9 : Int32} {h : iH} {Q : Option Value → iH → Prop} (H : i_P i_MT i_AT L xs 271 115 [some (.ref x0), some (.int x1), some (.int x2), some (.int x3), some (.int x4), some (.int x5), some (.int x6), some (.int x7), some (.int x8), some (.int x9)] [.int (0 : Int32)] h 0 0 Q) : i_P i_MT i_AT L xs 271 114 [some (.ref x0), some (.int x1), some (.int x2), some (.int x3), some (.int x4), some (.int x5), some (.int x6), some (.int x7), some (.int x8), some (.int x9)] [] h 0 0 Q := by
  have hk := i_k271
  refine g_s1 (pc2 := 115) (st2 := [.int (0 : Int32)]) hk rfl rfl rfl rfl rfl ?_
  exact H
theorem b271_115 {x0 : Nat} {x1 : Int32} {x2 : Int32} {x3 : Int32} {x4 : Int32} {x5 : Int32} {x6 : Int32} {x7 : Int32} {x8 : Int32} {x9 : Int32} {s0 : Int32} {h : iH} {Q : Option Value → iH → Prop} (H : (i_ret (some .boolean) s0 = true ∧ Q (some (.int s0)) h)) : i_P i_MT i_AT L xs 271 115 [some (.ref x0), some (.int x1), some (.int x2), some (.int x3), some (.int x4), some (.int x5), some (.int x6), some (.int x7), some (.int x8), some (.int x9)] [.int s0] h 0 0 Q := by
  have hk := i_k271
  exact g_ireturn hk rfl (by decide) (by decide) H.1 H.2
end
